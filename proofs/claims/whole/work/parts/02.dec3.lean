theorem dX10_load_15 : decode cX10_load 15 = .ok (.iload_n 2, 1) := by decide +kernel
theorem dX10_load_16 : decode cX10_load 16 = .ok (.iconst 1, 1) := by decide +kernel
theorem dX10_load_17 : decode cX10_load 17 = .ok (.sipush 20000, 3) := by decide +kernel
theorem dX10_load_20 : decode cX10_load 20 = .ok (.invokestatic 71, 3) := by decide +kernel
theorem dX10_load_23 : decode cX10_load 23 = .ok (.ifCond .eq 13, 3) := by decide +kernel
theorem dX10_load_26 : decode cX10_load 26 = .ok (.iload_n 3, 1) := by decide +kernel
theorem dX10_load_27 : decode cX10_load 27 = .ok (.iconst 0, 1) := by decide +kernel
theorem dX10_load_28 : decode cX10_load 28 = .ok (.bipush 9, 2) := by decide +kernel
theorem dX10_load_30 : decode cX10_load 30 = .ok (.invokestatic 71, 3) := by decide +kernel
theorem dX10_load_33 : decode cX10_load 33 = .ok (.ifCond .ne 6, 3) := by decide +kernel
theorem dX10_load_36 : decode cX10_load 36 = .ok (.bipush (-2), 2) := by decide +kernel
theorem dX10_load_38 : decode cX10_load 38 = .ok (.ireturn, 1) := by decide +kernel
theorem dX10_load_39 : decode cX10_load 39 = .ok (.aload_n 0, 1) := by decide +kernel
theorem dX10_load_40 : decode cX10_load 40 = .ok (.getfield 7, 3) := by decide +kernel
theorem dX10_load_43 : decode cX10_load 43 = .ok (.sipush 11345, 3) := by decide +kernel
theorem dX10_load_46 : decode cX10_load 46 = .ok (.iaload, 1) := by decide +kernel
theorem dX10_load_47 : decode cX10_load 47 = .ok (.istore 4, 2) := by decide +kernel
theorem dX10_load_49 : decode cX10_load 49 = .ok (.iload 4, 2) := by decide +kernel
theorem dX10_load_51 : decode cX10_load 51 = .ok (.sipush 500, 3) := by decide +kernel
theorem dX10_load_54 : decode cX10_load 54 = .ok (.if_icmp .ne 6, 3) := by decide +kernel
theorem dX10_load_57 : decode cX10_load 57 = .ok (.bipush (-4), 2) := by decide +kernel
theorem dX10_load_59 : decode cX10_load 59 = .ok (.ireturn, 1) := by decide +kernel
theorem dX10_load_60 : decode cX10_load 60 = .ok (.aload_n 0, 1) := by decide +kernel
theorem dX10_load_61 : decode cX10_load 61 = .ok (.dup, 1) := by decide +kernel
theorem dX10_load_62 : decode cX10_load 62 = .ok (.getfield 154, 3) := by decide +kernel
theorem dX10_load_65 : decode cX10_load 65 = .ok (.iconst 1, 1) := by decide +kernel
theorem dX10_load_66 : decode cX10_load 66 = .ok (.iadd, 1) := by decide +kernel
theorem dX10_load_67 : decode cX10_load 67 = .ok (.putfield 154, 3) := by decide +kernel
theorem dX10_load_70 : decode cX10_load 70 = .ok (.aload_n 0, 1) := by decide +kernel
theorem dX10_load_71 : decode cX10_load 71 = .ok (.sipush 8844, 3) := by decide +kernel
theorem dX10_load_74 : decode cX10_load 74 = .ok (.iconst 5, 1) := by decide +kernel
theorem dX10_load_75 : decode cX10_load 75 = .ok (.iload 4, 2) := by decide +kernel
theorem dX10_load_77 : decode cX10_load 77 = .ok (.imul, 1) := by decide +kernel
theorem dX10_load_78 : decode cX10_load 78 = .ok (.iadd, 1) := by decide +kernel
theorem dX10_load_79 : decode cX10_load 79 = .ok (.iload_n 1, 1) := by decide +kernel
theorem dX10_load_80 : decode cX10_load 80 = .ok (.invokevirtual 67, 3) := by decide +kernel
theorem dX10_load_83 : decode cX10_load 83 = .ok (.aload_n 0, 1) := by decide +kernel
theorem dX10_load_84 : decode cX10_load 84 = .ok (.sipush 8844, 3) := by decide +kernel
theorem dX10_load_87 : decode cX10_load 87 = .ok (.iconst 5, 1) := by decide +kernel
theorem dX10_load_88 : decode cX10_load 88 = .ok (.iload 4, 2) := by decide +kernel
theorem dX10_load_90 : decode cX10_load 90 = .ok (.imul, 1) := by decide +kernel
theorem dX10_load_91 : decode cX10_load 91 = .ok (.iadd, 1) := by decide +kernel
theorem dX10_load_92 : decode cX10_load 92 = .ok (.iconst 1, 1) := by decide +kernel
theorem dX10_load_93 : decode cX10_load 93 = .ok (.iadd, 1) := by decide +kernel
theorem dX10_load_94 : decode cX10_load 94 = .ok (.iload_n 2, 1) := by decide +kernel
theorem dX10_load_95 : decode cX10_load 95 = .ok (.invokevirtual 67, 3) := by decide +kernel
theorem dX10_load_98 : decode cX10_load 98 = .ok (.aload_n 0, 1) := by decide +kernel
theorem dX10_load_99 : decode cX10_load 99 = .ok (.sipush 8844, 3) := by decide +kernel
theorem dX10_load_102 : decode cX10_load 102 = .ok (.iconst 5, 1) := by decide +kernel
theorem dX10_load_103 : decode cX10_load 103 = .ok (.iload 4, 2) := by decide +kernel
theorem dX10_load_105 : decode cX10_load 105 = .ok (.imul, 1) := by decide +kernel
theorem dX10_load_106 : decode cX10_load 106 = .ok (.iadd, 1) := by decide +kernel
theorem dX10_load_107 : decode cX10_load 107 = .ok (.iconst 2, 1) := by decide +kernel
theorem dX10_load_108 : decode cX10_load 108 = .ok (.iadd, 1) := by decide +kernel
theorem dX10_load_109 : decode cX10_load 109 = .ok (.iload_n 3, 1) := by decide +kernel
theorem dX10_load_110 : decode cX10_load 110 = .ok (.invokevirtual 67, 3) := by decide +kernel
theorem dX10_load_113 : decode cX10_load 113 = .ok (.aload_n 0, 1) := by decide +kernel
theorem dX10_load_114 : decode cX10_load 114 = .ok (.sipush 8844, 3) := by decide +kernel
theorem dX10_load_117 : decode cX10_load 117 = .ok (.iconst 5, 1) := by decide +kernel
theorem dX10_load_118 : decode cX10_load 118 = .ok (.iload 4, 2) := by decide +kernel
theorem dX10_load_120 : decode cX10_load 120 = .ok (.imul, 1) := by decide +kernel
theorem dX10_load_121 : decode cX10_load 121 = .ok (.iadd, 1) := by decide +kernel
theorem dX10_load_122 : decode cX10_load 122 = .ok (.iconst 3, 1) := by decide +kernel
theorem dX10_load_123 : decode cX10_load 123 = .ok (.iadd, 1) := by decide +kernel
theorem dX10_load_124 : decode cX10_load 124 = .ok (.iconst (-1), 1) := by decide +kernel
theorem dX10_load_125 : decode cX10_load 125 = .ok (.invokevirtual 67, 3) := by decide +kernel
theorem dX10_load_128 : decode cX10_load 128 = .ok (.aload_n 0, 1) := by decide +kernel
theorem dX10_load_129 : decode cX10_load 129 = .ok (.sipush 8844, 3) := by decide +kernel
theorem dX10_load_132 : decode cX10_load 132 = .ok (.iconst 5, 1) := by decide +kernel
theorem dX10_load_133 : decode cX10_load 133 = .ok (.iload 4, 2) := by decide +kernel
theorem dX10_load_135 : decode cX10_load 135 = .ok (.imul, 1) := by decide +kernel
theorem dX10_load_136 : decode cX10_load 136 = .ok (.iadd, 1) := by decide +kernel
theorem dX10_load_137 : decode cX10_load 137 = .ok (.iconst 4, 1) := by decide +kernel
theorem dX10_load_138 : decode cX10_load 138 = .ok (.iadd, 1) := by decide +kernel
theorem dX10_load_139 : decode cX10_load 139 = .ok (.aload_n 0, 1) := by decide +kernel
theorem dX10_load_140 : decode cX10_load 140 = .ok (.getfield 154, 3) := by decide +kernel
theorem dX10_load_143 : decode cX10_load 143 = .ok (.invokevirtual 67, 3) := by decide +kernel
theorem dX10_load_146 : decode cX10_load 146 = .ok (.aload_n 0, 1) := by decide +kernel
theorem dX10_load_147 : decode cX10_load 147 = .ok (.sipush 11345, 3) := by decide +kernel
theorem dX10_load_150 : decode cX10_load 150 = .ok (.iload 4, 2) := by decide +kernel
theorem dX10_load_152 : decode cX10_load 152 = .ok (.iconst 1, 1) := by decide +kernel
theorem dX10_load_153 : decode cX10_load 153 = .ok (.iadd, 1) := by decide +kernel
theorem dX10_load_154 : decode cX10_load 154 = .ok (.invokevirtual 67, 3) := by decide +kernel
theorem dX10_load_157 : decode cX10_load 157 = .ok (.iload 4, 2) := by decide +kernel
theorem dX10_load_159 : decode cX10_load 159 = .ok (.ireturn, 1) := by decide +kernel
theorem dX10_mix_0 : decode cX10_mix 0 = .ok (.aload_n 0, 1) := by decide +kernel
theorem dX10_mix_1 : decode cX10_mix 1 = .ok (.iconst 0, 1) := by decide +kernel
theorem dX10_mix_2 : decode cX10_mix 2 = .ok (.putfield 53, 3) := by decide +kernel
theorem dX10_mix_5 : decode cX10_mix 5 = .ok (.iload_n 1, 1) := by decide +kernel
theorem dX10_mix_6 : decode cX10_mix 6 = .ok (.iconst 0, 1) := by decide +kernel
theorem dX10_mix_7 : decode cX10_mix 7 = .ok (.bipush 9, 2) := by decide +kernel
theorem dX10_mix_9 : decode cX10_mix 9 = .ok (.invokestatic 71, 3) := by decide +kernel
theorem dX10_mix_12 : decode cX10_mix 12 = .ok (.ifCond .eq 18, 3) := by decide +kernel
theorem dX10_mix_15 : decode cX10_mix 15 = .ok (.iload_n 2, 1) := by decide +kernel
theorem dX10_mix_16 : decode cX10_mix 16 = .ok (.iconst 0, 1) := by decide +kernel
theorem dX10_mix_17 : decode cX10_mix 17 = .ok (.bipush 9, 2) := by decide +kernel
theorem dX10_mix_19 : decode cX10_mix 19 = .ok (.invokestatic 71, 3) := by decide +kernel
theorem dX10_mix_22 : decode cX10_mix 22 = .ok (.ifCond .eq 8, 3) := by decide +kernel
theorem dX10_mix_25 : decode cX10_mix 25 = .ok (.iload_n 1, 1) := by decide +kernel
theorem dX10_mix_26 : decode cX10_mix 26 = .ok (.iload_n 2, 1) := by decide +kernel
theorem dX10_mix_27 : decode cX10_mix 27 = .ok (.if_icmp .ne 6, 3) := by decide +kernel
theorem dX10_mix_30 : decode cX10_mix 30 = .ok (.bipush (-2), 2) := by decide +kernel
theorem dX10_mix_32 : decode cX10_mix 32 = .ok (.ireturn, 1) := by decide +kernel
theorem dX10_mix_33 : decode cX10_mix 33 = .ok (.iconst 1, 1) := by decide +kernel
theorem dX10_mix_34 : decode cX10_mix 34 = .ok (.aload_n 0, 1) := by decide +kernel
theorem dX10_mix_35 : decode cX10_mix 35 = .ok (.getfield 7, 3) := by decide +kernel
theorem dX10_mix_38 : decode cX10_mix 38 = .ok (.sipush 8744, 3) := by decide +kernel
theorem dX10_mix_41 : decode cX10_mix 41 = .ok (.bipush 10, 2) := by decide +kernel
theorem dX10_mix_43 : decode cX10_mix 43 = .ok (.iload_n 1, 1) := by decide +kernel
theorem dX10_mix_44 : decode cX10_mix 44 = .ok (.imul, 1) := by decide +kernel
theorem dX10_mix_45 : decode cX10_mix 45 = .ok (.iadd, 1) := by decide +kernel
theorem dX10_mix_46 : decode cX10_mix 46 = .ok (.iload_n 2, 1) := by decide +kernel
theorem dX10_mix_47 : decode cX10_mix 47 = .ok (.iadd, 1) := by decide +kernel
theorem dX10_mix_48 : decode cX10_mix 48 = .ok (.iaload, 1) := by decide +kernel
theorem dX10_mix_49 : decode cX10_mix 49 = .ok (.isub, 1) := by decide +kernel
theorem dX10_mix_50 : decode cX10_mix 50 = .ok (.istore 4, 2) := by decide +kernel
theorem dX10_mix_52 : decode cX10_mix 52 = .ok (.aload_n 0, 1) := by decide +kernel
theorem dX10_mix_53 : decode cX10_mix 53 = .ok (.sipush 8744, 3) := by decide +kernel
theorem dX10_mix_56 : decode cX10_mix 56 = .ok (.bipush 10, 2) := by decide +kernel
theorem dX10_mix_58 : decode cX10_mix 58 = .ok (.iload_n 1, 1) := by decide +kernel
theorem dX10_mix_59 : decode cX10_mix 59 = .ok (.imul, 1) := by decide +kernel
theorem dX10_mix_60 : decode cX10_mix 60 = .ok (.iadd, 1) := by decide +kernel
theorem dX10_mix_61 : decode cX10_mix 61 = .ok (.iload_n 2, 1) := by decide +kernel
theorem dX10_mix_62 : decode cX10_mix 62 = .ok (.iadd, 1) := by decide +kernel
theorem dX10_mix_63 : decode cX10_mix 63 = .ok (.iload_n 3, 1) := by decide +kernel
theorem dX10_mix_64 : decode cX10_mix 64 = .ok (.ifCond .eq 7, 3) := by decide +kernel
theorem dX10_mix_67 : decode cX10_mix 67 = .ok (.iconst 0, 1) := by decide +kernel
theorem dX10_mix_68 : decode cX10_mix 68 = .ok (.goto 4, 3) := by decide +kernel
theorem dX10_mix_71 : decode cX10_mix 71 = .ok (.iconst 1, 1) := by decide +kernel
theorem dX10_mix_72 : decode cX10_mix 72 = .ok (.invokevirtual 67, 3) := by decide +kernel
theorem dX10_mix_75 : decode cX10_mix 75 = .ok (.aload_n 0, 1) := by decide +kernel
theorem dX10_mix_76 : decode cX10_mix 76 = .ok (.sipush 8744, 3) := by decide +kernel
theorem dX10_mix_79 : decode cX10_mix 79 = .ok (.bipush 10, 2) := by decide +kernel
theorem dX10_mix_81 : decode cX10_mix 81 = .ok (.iload_n 2, 1) := by decide +kernel
theorem dX10_mix_82 : decode cX10_mix 82 = .ok (.imul, 1) := by decide +kernel
theorem dX10_mix_83 : decode cX10_mix 83 = .ok (.iadd, 1) := by decide +kernel
theorem dX10_mix_84 : decode cX10_mix 84 = .ok (.iload_n 1, 1) := by decide +kernel
theorem dX10_mix_85 : decode cX10_mix 85 = .ok (.iadd, 1) := by decide +kernel
theorem dX10_mix_86 : decode cX10_mix 86 = .ok (.iload_n 3, 1) := by decide +kernel
theorem dX10_mix_87 : decode cX10_mix 87 = .ok (.ifCond .eq 7, 3) := by decide +kernel
theorem dX10_mix_90 : decode cX10_mix 90 = .ok (.iconst 0, 1) := by decide +kernel
theorem dX10_mix_91 : decode cX10_mix 91 = .ok (.goto 4, 3) := by decide +kernel
theorem dX10_mix_94 : decode cX10_mix 94 = .ok (.iconst 1, 1) := by decide +kernel
theorem dX10_mix_95 : decode cX10_mix 95 = .ok (.invokevirtual 67, 3) := by decide +kernel
theorem dX10_mix_98 : decode cX10_mix 98 = .ok (.iload 4, 2) := by decide +kernel
theorem dX10_mix_100 : decode cX10_mix 100 = .ok (.ireturn, 1) := by decide +kernel
theorem dX10_put_0 : decode cX10_put 0 = .ok (.aload_n 0, 1) := by decide +kernel
theorem dX10_put_1 : decode cX10_put 1 = .ok (.iconst 0, 1) := by decide +kernel
theorem dX10_put_2 : decode cX10_put 2 = .ok (.putfield 53, 3) := by decide +kernel
theorem dX10_put_5 : decode cX10_put 5 = .ok (.iload_n 1, 1) := by decide +kernel
theorem dX10_put_6 : decode cX10_put 6 = .ok (.invokestatic 106, 3) := by decide +kernel
theorem dX10_put_9 : decode cX10_put 9 = .ok (.ifCond .eq 11, 3) := by decide +kernel
theorem dX10_put_12 : decode cX10_put 12 = .ok (.aload_n 0, 1) := by decide +kernel
theorem dX10_put_13 : decode cX10_put 13 = .ok (.iload_n 2, 1) := by decide +kernel
theorem dX10_put_14 : decode cX10_put 14 = .ok (.invokevirtual 157, 3) := by decide +kernel
theorem dX10_put_17 : decode cX10_put 17 = .ok (.ifCond .ne 5, 3) := by decide +kernel
theorem dX10_put_20 : decode cX10_put 20 = .ok (.iconst (-1), 1) := by decide +kernel
theorem dX10_put_21 : decode cX10_put 21 = .ok (.ireturn, 1) := by decide +kernel
theorem dX10_put_22 : decode cX10_put 22 = .ok (.aload_n 0, 1) := by decide +kernel
theorem dX10_put_23 : decode cX10_put 23 = .ok (.iload_n 1, 1) := by decide +kernel
theorem dX10_put_24 : decode cX10_put 24 = .ok (.invokevirtual 110, 3) := by decide +kernel
theorem dX10_put_27 : decode cX10_put 27 = .ok (.ifCond .ne 9, 3) := by decide +kernel
theorem dX10_put_30 : decode cX10_put 30 = .ok (.aload_n 0, 1) := by decide +kernel
theorem dX10_put_31 : decode cX10_put 31 = .ok (.iconst 1, 1) := by decide +kernel
theorem dX10_put_32 : decode cX10_put 32 = .ok (.invokevirtual 117, 3) := by decide +kernel
theorem dX10_put_35 : decode cX10_put 35 = .ok (.ireturn, 1) := by decide +kernel
theorem dX10_put_36 : decode cX10_put 36 = .ok (.aload_n 0, 1) := by decide +kernel
theorem dX10_put_37 : decode cX10_put 37 = .ok (.iload_n 1, 1) := by decide +kernel
theorem dX10_put_38 : decode cX10_put 38 = .ok (.invokevirtual 145, 3) := by decide +kernel
theorem dX10_put_41 : decode cX10_put 41 = .ok (.aload_n 0, 1) := by decide +kernel
theorem dX10_put_42 : decode cX10_put 42 = .ok (.getfield 7, 3) := by decide +kernel
theorem dX10_put_45 : decode cX10_put 45 = .ok (.sipush 8844, 3) := by decide +kernel
theorem dX10_put_48 : decode cX10_put 48 = .ok (.iconst 5, 1) := by decide +kernel
theorem dX10_put_49 : decode cX10_put 49 = .ok (.iload_n 2, 1) := by decide +kernel
theorem dX10_put_50 : decode cX10_put 50 = .ok (.imul, 1) := by decide +kernel
theorem dX10_put_51 : decode cX10_put 51 = .ok (.iadd, 1) := by decide +kernel
theorem dX10_put_52 : decode cX10_put 52 = .ok (.iconst 3, 1) := by decide +kernel
theorem dX10_put_53 : decode cX10_put 53 = .ok (.iadd, 1) := by decide +kernel
theorem dX10_put_54 : decode cX10_put 54 = .ok (.iaload, 1) := by decide +kernel
theorem dX10_put_55 : decode cX10_put 55 = .ok (.iconst (-1), 1) := by decide +kernel
theorem dX10_put_56 : decode cX10_put 56 = .ok (.if_icmp .eq 9, 3) := by decide +kernel
theorem dX10_put_59 : decode cX10_put 59 = .ok (.aload_n 0, 1) := by decide +kernel
theorem dX10_put_60 : decode cX10_put 60 = .ok (.iconst 2, 1) := by decide +kernel
theorem dX10_put_61 : decode cX10_put 61 = .ok (.invokevirtual 117, 3) := by decide +kernel
theorem dX10_put_64 : decode cX10_put 64 = .ok (.ireturn, 1) := by decide +kernel
theorem dX10_put_65 : decode cX10_put 65 = .ok (.aload_n 0, 1) := by decide +kernel
theorem dX10_put_66 : decode cX10_put 66 = .ok (.iload_n 1, 1) := by decide +kernel
theorem dX10_put_67 : decode cX10_put 67 = .ok (.bipush 26, 2) := by decide +kernel
theorem dX10_put_69 : decode cX10_put 69 = .ok (.invokevirtual 75, 3) := by decide +kernel
theorem dX10_put_72 : decode cX10_put 72 = .ok (.iconst 1, 1) := by decide +kernel
theorem dX10_put_73 : decode cX10_put 73 = .ok (.if_icmp .eq 14, 3) := by decide +kernel
theorem dX10_put_76 : decode cX10_put 76 = .ok (.aload_n 0, 1) := by decide +kernel
theorem dX10_put_77 : decode cX10_put 77 = .ok (.iload_n 1, 1) := by decide +kernel
theorem dX10_put_78 : decode cX10_put 78 = .ok (.bipush 101, 2) := by decide +kernel
theorem dX10_put_80 : decode cX10_put 80 = .ok (.invokevirtual 75, 3) := by decide +kernel
theorem dX10_put_83 : decode cX10_put 83 = .ok (.iconst 1, 1) := by decide +kernel
theorem dX10_put_84 : decode cX10_put 84 = .ok (.if_icmp .ne 10, 3) := by decide +kernel
theorem dX10_put_87 : decode cX10_put 87 = .ok (.aload_n 0, 1) := by decide +kernel
theorem dX10_put_88 : decode cX10_put 88 = .ok (.bipush 7, 2) := by decide +kernel
theorem dX10_put_90 : decode cX10_put 90 = .ok (.invokevirtual 117, 3) := by decide +kernel
theorem dX10_put_93 : decode cX10_put 93 = .ok (.ireturn, 1) := by decide +kernel
theorem dX10_put_94 : decode cX10_put 94 = .ok (.aload_n 0, 1) := by decide +kernel
theorem dX10_put_95 : decode cX10_put 95 = .ok (.iload_n 1, 1) := by decide +kernel
theorem dX10_put_96 : decode cX10_put 96 = .ok (.invokevirtual 79, 3) := by decide +kernel
theorem dX10_put_99 : decode cX10_put 99 = .ok (.iconst 4, 1) := by decide +kernel
theorem dX10_put_100 : decode cX10_put 100 = .ok (.if_icmp .ne 20, 3) := by decide +kernel
theorem dX10_put_103 : decode cX10_put 103 = .ok (.aload_n 0, 1) := by decide +kernel
theorem dX10_put_104 : decode cX10_put 104 = .ok (.iload_n 1, 1) := by decide +kernel
theorem dX10_put_105 : decode cX10_put 105 = .ok (.bipush 7, 2) := by decide +kernel
theorem dX10_put_107 : decode cX10_put 107 = .ok (.invokevirtual 75, 3) := by decide +kernel
theorem dX10_put_110 : decode cX10_put 110 = .ok (.ifCond .ne 10, 3) := by decide +kernel
theorem dX10_put_113 : decode cX10_put 113 = .ok (.aload_n 0, 1) := by decide +kernel
theorem dX10_put_114 : decode cX10_put 114 = .ok (.bipush 6, 2) := by decide +kernel
theorem dX10_put_116 : decode cX10_put 116 = .ok (.invokevirtual 117, 3) := by decide +kernel
theorem dX10_put_119 : decode cX10_put 119 = .ok (.ireturn, 1) := by decide +kernel
theorem dX10_put_120 : decode cX10_put 120 = .ok (.aload_n 0, 1) := by decide +kernel
theorem dX10_put_121 : decode cX10_put 121 = .ok (.getfield 7, 3) := by decide +kernel
theorem dX10_put_124 : decode cX10_put 124 = .ok (.sipush 8844, 3) := by decide +kernel
theorem dX10_put_127 : decode cX10_put 127 = .ok (.iconst 5, 1) := by decide +kernel
theorem dX10_put_128 : decode cX10_put 128 = .ok (.iload_n 2, 1) := by decide +kernel
theorem dX10_put_129 : decode cX10_put 129 = .ok (.imul, 1) := by decide +kernel
theorem dX10_put_130 : decode cX10_put 130 = .ok (.iadd, 1) := by decide +kernel
theorem dX10_put_131 : decode cX10_put 131 = .ok (.iconst 1, 1) := by decide +kernel
theorem dX10_put_132 : decode cX10_put 132 = .ok (.iadd, 1) := by decide +kernel
theorem dX10_put_133 : decode cX10_put 133 = .ok (.iaload, 1) := by decide +kernel
theorem dX10_put_134 : decode cX10_put 134 = .ok (.istore_n 3, 1) := by decide +kernel
theorem dX10_put_135 : decode cX10_put 135 = .ok (.aload_n 0, 1) := by decide +kernel
theorem dX10_put_136 : decode cX10_put 136 = .ok (.getfield 7, 3) := by decide +kernel
theorem dX10_put_139 : decode cX10_put 139 = .ok (.sipush 8844, 3) := by decide +kernel
theorem dX10_put_142 : decode cX10_put 142 = .ok (.iconst 5, 1) := by decide +kernel
theorem dX10_put_143 : decode cX10_put 143 = .ok (.iload_n 2, 1) := by decide +kernel
theorem dX10_put_144 : decode cX10_put 144 = .ok (.imul, 1) := by decide +kernel
theorem dX10_put_145 : decode cX10_put 145 = .ok (.iadd, 1) := by decide +kernel
theorem dX10_put_146 : decode cX10_put 146 = .ok (.iconst 2, 1) := by decide +kernel
theorem dX10_put_147 : decode cX10_put 147 = .ok (.iadd, 1) := by decide +kernel
theorem dX10_put_148 : decode cX10_put 148 = .ok (.iaload, 1) := by decide +kernel
theorem dX10_put_149 : decode cX10_put 149 = .ok (.istore 4, 2) := by decide +kernel
theorem dX10_put_151 : decode cX10_put 151 = .ok (.iconst 1, 1) := by decide +kernel
theorem dX10_put_152 : decode cX10_put 152 = .ok (.istore 5, 2) := by decide +kernel
theorem dX10_put_154 : decode cX10_put 154 = .ok (.iconst 0, 1) := by decide +kernel
theorem dX10_put_155 : decode cX10_put 155 = .ok (.istore 6, 2) := by decide +kernel
theorem dX10_put_157 : decode cX10_put 157 = .ok (.iload 6, 2) := by decide +kernel
theorem dX10_put_159 : decode cX10_put 159 = .ok (.aload_n 0, 1) := by decide +kernel
theorem dX10_put_160 : decode cX10_put 160 = .ok (.getfield 7, 3) := by decide +kernel
theorem dX10_put_163 : decode cX10_put 163 = .ok (.sipush 11345, 3) := by decide +kernel
theorem dX10_put_166 : decode cX10_put 166 = .ok (.iaload, 1) := by decide +kernel
theorem dX10_put_167 : decode cX10_put 167 = .ok (.if_icmp .ge 89, 3) := by decide +kernel
theorem dX10_put_170 : decode cX10_put 170 = .ok (.aload_n 0, 1) := by decide +kernel
theorem dX10_put_171 : decode cX10_put 171 = .ok (.getfield 7, 3) := by decide +kernel
theorem dX10_put_174 : decode cX10_put 174 = .ok (.sipush 8844, 3) := by decide +kernel
theorem dX10_put_177 : decode cX10_put 177 = .ok (.iconst 5, 1) := by decide +kernel
theorem dX10_put_178 : decode cX10_put 178 = .ok (.iload 6, 2) := by decide +kernel
theorem dX10_put_180 : decode cX10_put 180 = .ok (.imul, 1) := by decide +kernel
theorem dX10_put_181 : decode cX10_put 181 = .ok (.iadd, 1) := by decide +kernel
theorem dX10_put_182 : decode cX10_put 182 = .ok (.iconst 3, 1) := by decide +kernel
theorem dX10_put_183 : decode cX10_put 183 = .ok (.iadd, 1) := by decide +kernel
theorem dX10_put_184 : decode cX10_put 184 = .ok (.iaload, 1) := by decide +kernel
theorem dX10_put_185 : decode cX10_put 185 = .ok (.iload_n 1, 1) := by decide +kernel
theorem dX10_put_186 : decode cX10_put 186 = .ok (.if_icmp .ne 64, 3) := by decide +kernel
theorem dX10_put_189 : decode cX10_put 189 = .ok (.iload_n 3, 1) := by decide +kernel
theorem dX10_put_190 : decode cX10_put 190 = .ok (.aload_n 0, 1) := by decide +kernel
theorem dX10_put_191 : decode cX10_put 191 = .ok (.getfield 7, 3) := by decide +kernel
theorem dX10_put_194 : decode cX10_put 194 = .ok (.sipush 8844, 3) := by decide +kernel
theorem dX10_put_197 : decode cX10_put 197 = .ok (.iconst 5, 1) := by decide +kernel
theorem dX10_put_198 : decode cX10_put 198 = .ok (.iload 6, 2) := by decide +kernel
theorem dX10_put_200 : decode cX10_put 200 = .ok (.imul, 1) := by decide +kernel
theorem dX10_put_201 : decode cX10_put 201 = .ok (.iadd, 1) := by decide +kernel
theorem dX10_put_202 : decode cX10_put 202 = .ok (.iconst 1, 1) := by decide +kernel
theorem dX10_put_203 : decode cX10_put 203 = .ok (.iadd, 1) := by decide +kernel
theorem dX10_put_204 : decode cX10_put 204 = .ok (.iaload, 1) := by decide +kernel
theorem dX10_put_205 : decode cX10_put 205 = .ok (.iadd, 1) := by decide +kernel
theorem dX10_put_206 : decode cX10_put 206 = .ok (.istore_n 3, 1) := by decide +kernel
theorem dX10_put_207 : decode cX10_put 207 = .ok (.iload 5, 2) := by decide +kernel
theorem dX10_put_209 : decode cX10_put 209 = .ok (.aload_n 0, 1) := by decide +kernel
theorem dX10_put_210 : decode cX10_put 210 = .ok (.getfield 7, 3) := by decide +kernel
theorem dX10_put_213 : decode cX10_put 213 = .ok (.sipush 8744, 3) := by decide +kernel
theorem dX10_put_216 : decode cX10_put 216 = .ok (.bipush 10, 2) := by decide +kernel
theorem dX10_put_218 : decode cX10_put 218 = .ok (.iload 4, 2) := by decide +kernel
theorem dX10_put_220 : decode cX10_put 220 = .ok (.imul, 1) := by decide +kernel
theorem dX10_put_221 : decode cX10_put 221 = .ok (.iadd, 1) := by decide +kernel
theorem dX10_put_222 : decode cX10_put 222 = .ok (.aload_n 0, 1) := by decide +kernel
theorem dX10_put_223 : decode cX10_put 223 = .ok (.getfield 7, 3) := by decide +kernel
theorem dX10_put_226 : decode cX10_put 226 = .ok (.sipush 8844, 3) := by decide +kernel
theorem dX10_put_229 : decode cX10_put 229 = .ok (.iconst 5, 1) := by decide +kernel
theorem dX10_put_230 : decode cX10_put 230 = .ok (.iload 6, 2) := by decide +kernel
theorem dX10_put_232 : decode cX10_put 232 = .ok (.imul, 1) := by decide +kernel
theorem dX10_put_233 : decode cX10_put 233 = .ok (.iadd, 1) := by decide +kernel
theorem dX10_put_234 : decode cX10_put 234 = .ok (.iconst 2, 1) := by decide +kernel
theorem dX10_put_235 : decode cX10_put 235 = .ok (.iadd, 1) := by decide +kernel
theorem dX10_put_236 : decode cX10_put 236 = .ok (.iaload, 1) := by decide +kernel
theorem dX10_put_237 : decode cX10_put 237 = .ok (.iadd, 1) := by decide +kernel
theorem dX10_put_238 : decode cX10_put 238 = .ok (.iaload, 1) := by decide +kernel
theorem dX10_put_239 : decode cX10_put 239 = .ok (.ifCond .ne 7, 3) := by decide +kernel
theorem dX10_put_242 : decode cX10_put 242 = .ok (.iconst 1, 1) := by decide +kernel
theorem dX10_put_243 : decode cX10_put 243 = .ok (.goto 4, 3) := by decide +kernel
theorem dX10_put_246 : decode cX10_put 246 = .ok (.iconst 0, 1) := by decide +kernel
theorem dX10_put_247 : decode cX10_put 247 = .ok (.iand, 1) := by decide +kernel
theorem dX10_put_248 : decode cX10_put 248 = .ok (.istore 5, 2) := by decide +kernel
theorem dX10_put_250 : decode cX10_put 250 = .ok (.iinc 6 1, 3) := by decide +kernel
theorem dX10_put_253 : decode cX10_put 253 = .ok (.goto (-96), 3) := by decide +kernel
theorem dX10_put_256 : decode cX10_put 256 = .ok (.iload_n 3, 1) := by decide +kernel
theorem dX10_put_257 : decode cX10_put 257 = .ok (.aload_n 0, 1) := by decide +kernel
theorem dX10_put_258 : decode cX10_put 258 = .ok (.iload_n 1, 1) := by decide +kernel
theorem dX10_put_259 : decode cX10_put 259 = .ok (.invokevirtual 126, 3) := by decide +kernel
theorem dX10_put_262 : decode cX10_put 262 = .ok (.if_icmp .le 10, 3) := by decide +kernel
theorem dX10_put_265 : decode cX10_put 265 = .ok (.aload_n 0, 1) := by decide +kernel
theorem dX10_put_266 : decode cX10_put 266 = .ok (.bipush 11, 2) := by decide +kernel
theorem dX10_put_268 : decode cX10_put 268 = .ok (.invokevirtual 117, 3) := by decide +kernel
theorem dX10_put_271 : decode cX10_put 271 = .ok (.ireturn, 1) := by decide +kernel
theorem dX10_put_272 : decode cX10_put 272 = .ok (.iload 5, 2) := by decide +kernel
theorem dX10_put_274 : decode cX10_put 274 = .ok (.ifCond .ne 10, 3) := by decide +kernel
theorem dX10_put_277 : decode cX10_put 277 = .ok (.aload_n 0, 1) := by decide +kernel
theorem dX10_put_278 : decode cX10_put 278 = .ok (.bipush 10, 2) := by decide +kernel
theorem dX10_put_280 : decode cX10_put 280 = .ok (.invokevirtual 117, 3) := by decide +kernel
theorem dX10_put_283 : decode cX10_put 283 = .ok (.ireturn, 1) := by decide +kernel
theorem dX10_put_284 : decode cX10_put 284 = .ok (.aload_n 0, 1) := by decide +kernel
theorem dX10_put_285 : decode cX10_put 285 = .ok (.iload_n 1, 1) := by decide +kernel
theorem dX10_put_286 : decode cX10_put 286 = .ok (.invokevirtual 120, 3) := by decide +kernel
theorem dX10_put_289 : decode cX10_put 289 = .ok (.istore 6, 2) := by decide +kernel
theorem dX10_put_291 : decode cX10_put 291 = .ok (.iload 6, 2) := by decide +kernel
theorem dX10_put_293 : decode cX10_put 293 = .ok (.bipush 8, 2) := by decide +kernel
theorem dX10_put_295 : decode cX10_put 295 = .ok (.if_icmp .ne 6, 3) := by decide +kernel
theorem dX10_put_298 : decode cX10_put 298 = .ok (.bipush (-4), 2) := by decide +kernel
theorem dX10_put_300 : decode cX10_put 300 = .ok (.ireturn, 1) := by decide +kernel
theorem dX10_put_301 : decode cX10_put 301 = .ok (.aload_n 0, 1) := by decide +kernel
theorem dX10_put_302 : decode cX10_put 302 = .ok (.sipush 8844, 3) := by decide +kernel
theorem dX10_put_305 : decode cX10_put 305 = .ok (.iconst 5, 1) := by decide +kernel
theorem dX10_put_306 : decode cX10_put 306 = .ok (.iload_n 2, 1) := by decide +kernel
theorem dX10_put_307 : decode cX10_put 307 = .ok (.imul, 1) := by decide +kernel
theorem dX10_put_308 : decode cX10_put 308 = .ok (.iadd, 1) := by decide +kernel
theorem dX10_put_309 : decode cX10_put 309 = .ok (.iconst 3, 1) := by decide +kernel
theorem dX10_put_310 : decode cX10_put 310 = .ok (.iadd, 1) := by decide +kernel
theorem dX10_put_311 : decode cX10_put 311 = .ok (.iload_n 1, 1) := by decide +kernel
theorem dX10_put_312 : decode cX10_put 312 = .ok (.invokevirtual 67, 3) := by decide +kernel
theorem dX10_put_315 : decode cX10_put 315 = .ok (.iload 6, 2) := by decide +kernel
theorem dX10_put_317 : decode cX10_put 317 = .ok (.iconst 1, 1) := by decide +kernel
theorem dX10_put_318 : decode cX10_put 318 = .ok (.iadd, 1) := by decide +kernel
theorem dX10_put_319 : decode cX10_put 319 = .ok (.ireturn, 1) := by decide +kernel
theorem dX10_fetch_0 : decode cX10_fetch 0 = .ok (.aload_n 0, 1) := by decide +kernel
theorem dX10_fetch_1 : decode cX10_fetch 1 = .ok (.iconst 0, 1) := by decide +kernel
theorem dX10_fetch_2 : decode cX10_fetch 2 = .ok (.putfield 53, 3) := by decide +kernel
theorem dX10_fetch_5 : decode cX10_fetch 5 = .ok (.aload_n 0, 1) := by decide +kernel
theorem dX10_fetch_6 : decode cX10_fetch 6 = .ok (.iload_n 1, 1) := by decide +kernel
theorem dX10_fetch_7 : decode cX10_fetch 7 = .ok (.invokevirtual 157, 3) := by decide +kernel
theorem dX10_fetch_10 : decode cX10_fetch 10 = .ok (.ifCond .ne 5, 3) := by decide +kernel
theorem dX10_fetch_13 : decode cX10_fetch 13 = .ok (.iconst (-1), 1) := by decide +kernel
theorem dX10_fetch_14 : decode cX10_fetch 14 = .ok (.ireturn, 1) := by decide +kernel
theorem dX10_fetch_15 : decode cX10_fetch 15 = .ok (.aload_n 0, 1) := by decide +kernel
theorem dX10_fetch_16 : decode cX10_fetch 16 = .ok (.getfield 7, 3) := by decide +kernel
theorem dX10_fetch_19 : decode cX10_fetch 19 = .ok (.sipush 8844, 3) := by decide +kernel
theorem dX10_fetch_22 : decode cX10_fetch 22 = .ok (.iconst 5, 1) := by decide +kernel
theorem dX10_fetch_23 : decode cX10_fetch 23 = .ok (.iload_n 1, 1) := by decide +kernel
theorem dX10_fetch_24 : decode cX10_fetch 24 = .ok (.imul, 1) := by decide +kernel
theorem dX10_fetch_25 : decode cX10_fetch 25 = .ok (.iadd, 1) := by decide +kernel
theorem dX10_fetch_26 : decode cX10_fetch 26 = .ok (.iconst 3, 1) := by decide +kernel
theorem dX10_fetch_27 : decode cX10_fetch 27 = .ok (.iadd, 1) := by decide +kernel
theorem dX10_fetch_28 : decode cX10_fetch 28 = .ok (.iaload, 1) := by decide +kernel
theorem dX10_fetch_29 : decode cX10_fetch 29 = .ok (.istore_n 2, 1) := by decide +kernel
theorem dX10_fetch_30 : decode cX10_fetch 30 = .ok (.iload_n 2, 1) := by decide +kernel
theorem dX10_fetch_31 : decode cX10_fetch 31 = .ok (.ifCond .ge 9, 3) := by decide +kernel
theorem dX10_fetch_34 : decode cX10_fetch 34 = .ok (.aload_n 0, 1) := by decide +kernel
theorem dX10_fetch_35 : decode cX10_fetch 35 = .ok (.iconst 2, 1) := by decide +kernel
theorem dX10_fetch_36 : decode cX10_fetch 36 = .ok (.invokevirtual 117, 3) := by decide +kernel
theorem dX10_fetch_39 : decode cX10_fetch 39 = .ok (.ireturn, 1) := by decide +kernel
theorem dX10_fetch_40 : decode cX10_fetch 40 = .ok (.aload_n 0, 1) := by decide +kernel
theorem dX10_fetch_41 : decode cX10_fetch 41 = .ok (.iload_n 2, 1) := by decide +kernel
theorem dX10_fetch_42 : decode cX10_fetch 42 = .ok (.invokevirtual 145, 3) := by decide +kernel
theorem dX10_fetch_45 : decode cX10_fetch 45 = .ok (.aload_n 0, 1) := by decide +kernel
theorem dX10_fetch_46 : decode cX10_fetch 46 = .ok (.iload_n 2, 1) := by decide +kernel
theorem dX10_fetch_47 : decode cX10_fetch 47 = .ok (.bipush 26, 2) := by decide +kernel
theorem dX10_fetch_49 : decode cX10_fetch 49 = .ok (.invokevirtual 75, 3) := by decide +kernel
theorem dX10_fetch_52 : decode cX10_fetch 52 = .ok (.iconst 1, 1) := by decide +kernel
theorem dX10_fetch_53 : decode cX10_fetch 53 = .ok (.if_icmp .ne 10, 3) := by decide +kernel
theorem dX10_fetch_56 : decode cX10_fetch 56 = .ok (.aload_n 0, 1) := by decide +kernel
theorem dX10_fetch_57 : decode cX10_fetch 57 = .ok (.bipush 7, 2) := by decide +kernel
theorem dX10_fetch_59 : decode cX10_fetch 59 = .ok (.invokevirtual 117, 3) := by decide +kernel
theorem dX10_fetch_62 : decode cX10_fetch 62 = .ok (.ireturn, 1) := by decide +kernel
theorem dX10_fetch_63 : decode cX10_fetch 63 = .ok (.aload_n 0, 1) := by decide +kernel
theorem dX10_fetch_64 : decode cX10_fetch 64 = .ok (.sipush 8844, 3) := by decide +kernel
theorem dX10_fetch_67 : decode cX10_fetch 67 = .ok (.iconst 5, 1) := by decide +kernel
theorem dX10_fetch_68 : decode cX10_fetch 68 = .ok (.iload_n 1, 1) := by decide +kernel
theorem dX10_fetch_69 : decode cX10_fetch 69 = .ok (.imul, 1) := by decide +kernel
theorem dX10_fetch_70 : decode cX10_fetch 70 = .ok (.iadd, 1) := by decide +kernel
theorem dX10_fetch_71 : decode cX10_fetch 71 = .ok (.iconst 3, 1) := by decide +kernel
theorem dX10_fetch_72 : decode cX10_fetch 72 = .ok (.iadd, 1) := by decide +kernel
theorem dX10_fetch_73 : decode cX10_fetch 73 = .ok (.bipush (-2), 2) := by decide +kernel
theorem dX10_fetch_75 : decode cX10_fetch 75 = .ok (.invokevirtual 67, 3) := by decide +kernel
theorem dX10_fetch_78 : decode cX10_fetch 78 = .ok (.iload_n 2, 1) := by decide +kernel
theorem dX10_fetch_79 : decode cX10_fetch 79 = .ok (.ireturn, 1) := by decide +kernel
theorem dX10_about_0 : decode cX10_about 0 = .ok (.aload_n 0, 1) := by decide +kernel
theorem dX10_about_1 : decode cX10_about 1 = .ok (.iconst 0, 1) := by decide +kernel
theorem dX10_about_2 : decode cX10_about 2 = .ok (.putfield 53, 3) := by decide +kernel
theorem dX10_about_5 : decode cX10_about 5 = .ok (.aload_n 0, 1) := by decide +kernel
theorem dX10_about_6 : decode cX10_about 6 = .ok (.iload_n 1, 1) := by decide +kernel
theorem dX10_about_7 : decode cX10_about 7 = .ok (.invokevirtual 157, 3) := by decide +kernel
theorem dX10_about_10 : decode cX10_about 10 = .ok (.ifCond .ne 7, 3) := by decide +kernel
theorem dX10_about_13 : decode cX10_about 13 = .ok (.iconst (-1), 1) := by decide +kernel
theorem dX10_about_14 : decode cX10_about 14 = .ok (.goto 31, 3) := by decide +kernel
theorem dX10_about_17 : decode cX10_about 17 = .ok (.iload_n 2, 1) := by decide +kernel
theorem dX10_about_18 : decode cX10_about 18 = .ok (.iconst 0, 1) := by decide +kernel
theorem dX10_about_19 : decode cX10_about 19 = .ok (.iconst 4, 1) := by decide +kernel
theorem dX10_about_20 : decode cX10_about 20 = .ok (.invokestatic 71, 3) := by decide +kernel
theorem dX10_about_23 : decode cX10_about 23 = .ok (.ifCond .ne 8, 3) := by decide +kernel
theorem dX10_about_26 : decode cX10_about 26 = .ok (.bipush (-2), 2) := by decide +kernel
theorem dX10_about_28 : decode cX10_about 28 = .ok (.goto 17, 3) := by decide +kernel
theorem dX10_about_31 : decode cX10_about 31 = .ok (.aload_n 0, 1) := by decide +kernel
theorem dX10_about_32 : decode cX10_about 32 = .ok (.getfield 7, 3) := by decide +kernel
theorem dX10_about_35 : decode cX10_about 35 = .ok (.sipush 8844, 3) := by decide +kernel
theorem dX10_about_38 : decode cX10_about 38 = .ok (.iconst 5, 1) := by decide +kernel
theorem dX10_about_39 : decode cX10_about 39 = .ok (.iload_n 1, 1) := by decide +kernel
theorem dX10_about_40 : decode cX10_about 40 = .ok (.imul, 1) := by decide +kernel
theorem dX10_about_41 : decode cX10_about 41 = .ok (.iadd, 1) := by decide +kernel
theorem dX10_about_42 : decode cX10_about 42 = .ok (.iload_n 2, 1) := by decide +kernel
theorem dX10_about_43 : decode cX10_about 43 = .ok (.iadd, 1) := by decide +kernel
theorem dX10_about_44 : decode cX10_about 44 = .ok (.iaload, 1) := by decide +kernel
theorem dX10_about_45 : decode cX10_about 45 = .ok (.ireturn, 1) := by decide +kernel
theorem dX10_shareOf_0 : decode cX10_shareOf 0 = .ok (.lconst 0, 1) := by decide +kernel
theorem dX10_shareOf_1 : decode cX10_shareOf 1 = .ok (.lstore 4, 2) := by decide +kernel
theorem dX10_shareOf_3 : decode cX10_shareOf 3 = .ok (.iconst 0, 1) := by decide +kernel
theorem dX10_shareOf_4 : decode cX10_shareOf 4 = .ok (.istore 6, 2) := by decide +kernel
theorem dX10_shareOf_6 : decode cX10_shareOf 6 = .ok (.iload 6, 2) := by decide +kernel
theorem dX10_shareOf_8 : decode cX10_shareOf 8 = .ok (.iload_n 2, 1) := by decide +kernel
theorem dX10_shareOf_9 : decode cX10_shareOf 9 = .ok (.if_icmp .ge 22, 3) := by decide +kernel
theorem dX10_shareOf_12 : decode cX10_shareOf 12 = .ok (.lload 4, 2) := by decide +kernel
theorem dX10_shareOf_14 : decode cX10_shareOf 14 = .ok (.aload_n 0, 1) := by decide +kernel
theorem dX10_shareOf_15 : decode cX10_shareOf 15 = .ok (.getfield 44, 3) := by decide +kernel
theorem dX10_shareOf_18 : decode cX10_shareOf 18 = .ok (.iload 6, 2) := by decide +kernel
theorem dX10_shareOf_20 : decode cX10_shareOf 20 = .ok (.iaload, 1) := by decide +kernel
theorem dX10_shareOf_21 : decode cX10_shareOf 21 = .ok (.i2l, 1) := by decide +kernel
theorem dX10_shareOf_22 : decode cX10_shareOf 22 = .ok (.ladd, 1) := by decide +kernel
theorem dX10_shareOf_23 : decode cX10_shareOf 23 = .ok (.lstore 4, 2) := by decide +kernel
theorem dX10_shareOf_25 : decode cX10_shareOf 25 = .ok (.iinc 6 1, 3) := by decide +kernel
theorem dX10_shareOf_28 : decode cX10_shareOf 28 = .ok (.goto (-22), 3) := by decide +kernel
theorem dX10_shareOf_31 : decode cX10_shareOf 31 = .ok (.iload_n 1, 1) := by decide +kernel
theorem dX10_shareOf_32 : decode cX10_shareOf 32 = .ok (.i2l, 1) := by decide +kernel
theorem dX10_shareOf_33 : decode cX10_shareOf 33 = .ok (.lstore 6, 2) := by decide +kernel
theorem dX10_shareOf_35 : decode cX10_shareOf 35 = .ok (.iload_n 1, 1) := by decide +kernel
theorem dX10_shareOf_36 : decode cX10_shareOf 36 = .ok (.i2l, 1) := by decide +kernel
theorem dX10_shareOf_37 : decode cX10_shareOf 37 = .ok (.aload_n 0, 1) := by decide +kernel
theorem dX10_shareOf_38 : decode cX10_shareOf 38 = .ok (.getfield 44, 3) := by decide +kernel
theorem dX10_shareOf_41 : decode cX10_shareOf 41 = .ok (.iload_n 3, 1) := by decide +kernel
theorem dX10_shareOf_42 : decode cX10_shareOf 42 = .ok (.iaload, 1) := by decide +kernel
theorem dX10_shareOf_43 : decode cX10_shareOf 43 = .ok (.i2l, 1) := by decide +kernel
theorem dX10_shareOf_44 : decode cX10_shareOf 44 = .ok (.lmul, 1) := by decide +kernel
theorem dX10_shareOf_45 : decode cX10_shareOf 45 = .ok (.lload 4, 2) := by decide +kernel
theorem dX10_shareOf_47 : decode cX10_shareOf 47 = .ok (.lrem, 1) := by decide +kernel
theorem dX10_shareOf_48 : decode cX10_shareOf 48 = .ok (.lstore 8, 2) := by decide +kernel
theorem dX10_shareOf_50 : decode cX10_shareOf 50 = .ok (.iconst 0, 1) := by decide +kernel
theorem dX10_shareOf_51 : decode cX10_shareOf 51 = .ok (.istore 10, 2) := by decide +kernel
theorem dX10_shareOf_53 : decode cX10_shareOf 53 = .ok (.iconst 0, 1) := by decide +kernel
theorem dX10_shareOf_54 : decode cX10_shareOf 54 = .ok (.istore 11, 2) := by decide +kernel
theorem dX10_shareOf_56 : decode cX10_shareOf 56 = .ok (.iload 11, 2) := by decide +kernel
theorem dX10_shareOf_58 : decode cX10_shareOf 58 = .ok (.iload_n 2, 1) := by decide +kernel
theorem dX10_shareOf_59 : decode cX10_shareOf 59 = .ok (.if_icmp .ge 76, 3) := by decide +kernel
theorem dX10_shareOf_62 : decode cX10_shareOf 62 = .ok (.lload 6, 2) := by decide +kernel
theorem dX10_shareOf_64 : decode cX10_shareOf 64 = .ok (.iload_n 1, 1) := by decide +kernel
theorem dX10_shareOf_65 : decode cX10_shareOf 65 = .ok (.i2l, 1) := by decide +kernel
theorem dX10_shareOf_66 : decode cX10_shareOf 66 = .ok (.aload_n 0, 1) := by decide +kernel
theorem dX10_shareOf_67 : decode cX10_shareOf 67 = .ok (.getfield 44, 3) := by decide +kernel
theorem dX10_shareOf_70 : decode cX10_shareOf 70 = .ok (.iload 11, 2) := by decide +kernel
theorem dX10_shareOf_72 : decode cX10_shareOf 72 = .ok (.iaload, 1) := by decide +kernel
theorem dX10_shareOf_73 : decode cX10_shareOf 73 = .ok (.i2l, 1) := by decide +kernel
theorem dX10_shareOf_74 : decode cX10_shareOf 74 = .ok (.lmul, 1) := by decide +kernel
theorem dX10_shareOf_75 : decode cX10_shareOf 75 = .ok (.lload 4, 2) := by decide +kernel
theorem dX10_shareOf_77 : decode cX10_shareOf 77 = .ok (.ldiv, 1) := by decide +kernel
theorem dX10_shareOf_78 : decode cX10_shareOf 78 = .ok (.lsub, 1) := by decide +kernel
theorem dX10_shareOf_79 : decode cX10_shareOf 79 = .ok (.lstore 6, 2) := by decide +kernel
theorem dX10_shareOf_81 : decode cX10_shareOf 81 = .ok (.iload_n 1, 1) := by decide +kernel
theorem dX10_shareOf_82 : decode cX10_shareOf 82 = .ok (.i2l, 1) := by decide +kernel
theorem dX10_shareOf_83 : decode cX10_shareOf 83 = .ok (.aload_n 0, 1) := by decide +kernel
theorem dX10_shareOf_84 : decode cX10_shareOf 84 = .ok (.getfield 44, 3) := by decide +kernel
theorem dX10_shareOf_87 : decode cX10_shareOf 87 = .ok (.iload 11, 2) := by decide +kernel
theorem dX10_shareOf_89 : decode cX10_shareOf 89 = .ok (.iaload, 1) := by decide +kernel
theorem dX10_shareOf_90 : decode cX10_shareOf 90 = .ok (.i2l, 1) := by decide +kernel
theorem dX10_shareOf_91 : decode cX10_shareOf 91 = .ok (.lmul, 1) := by decide +kernel
theorem dX10_shareOf_92 : decode cX10_shareOf 92 = .ok (.lload 4, 2) := by decide +kernel
theorem dX10_shareOf_94 : decode cX10_shareOf 94 = .ok (.lrem, 1) := by decide +kernel
theorem dX10_shareOf_95 : decode cX10_shareOf 95 = .ok (.lstore 12, 2) := by decide +kernel
theorem dX10_shareOf_97 : decode cX10_shareOf 97 = .ok (.iload 10, 2) := by decide +kernel
theorem dX10_shareOf_99 : decode cX10_shareOf 99 = .ok (.lload 12, 2) := by decide +kernel
theorem dX10_shareOf_101 : decode cX10_shareOf 101 = .ok (.lload 8, 2) := by decide +kernel
theorem dX10_shareOf_103 : decode cX10_shareOf 103 = .ok (.lcmp, 1) := by decide +kernel
theorem dX10_shareOf_104 : decode cX10_shareOf 104 = .ok (.ifCond .gt 17, 3) := by decide +kernel
theorem dX10_shareOf_107 : decode cX10_shareOf 107 = .ok (.lload 12, 2) := by decide +kernel
theorem dX10_shareOf_109 : decode cX10_shareOf 109 = .ok (.lload 8, 2) := by decide +kernel
theorem dX10_shareOf_111 : decode cX10_shareOf 111 = .ok (.lcmp, 1) := by decide +kernel
theorem dX10_shareOf_112 : decode cX10_shareOf 112 = .ok (.ifCond .ne 13, 3) := by decide +kernel
theorem dX10_shareOf_115 : decode cX10_shareOf 115 = .ok (.iload 11, 2) := by decide +kernel
theorem dX10_shareOf_117 : decode cX10_shareOf 117 = .ok (.iload_n 3, 1) := by decide +kernel
theorem dX10_shareOf_118 : decode cX10_shareOf 118 = .ok (.if_icmp .ge 7, 3) := by decide +kernel
theorem dX10_shareOf_121 : decode cX10_shareOf 121 = .ok (.iconst 1, 1) := by decide +kernel
theorem dX10_shareOf_122 : decode cX10_shareOf 122 = .ok (.goto 4, 3) := by decide +kernel
theorem dX10_shareOf_125 : decode cX10_shareOf 125 = .ok (.iconst 0, 1) := by decide +kernel
theorem dX10_shareOf_126 : decode cX10_shareOf 126 = .ok (.iadd, 1) := by decide +kernel
theorem dX10_shareOf_127 : decode cX10_shareOf 127 = .ok (.istore 10, 2) := by decide +kernel
theorem dX10_shareOf_129 : decode cX10_shareOf 129 = .ok (.iinc 11 1, 3) := by decide +kernel
theorem dX10_shareOf_132 : decode cX10_shareOf 132 = .ok (.goto (-76), 3) := by decide +kernel
theorem dX10_shareOf_135 : decode cX10_shareOf 135 = .ok (.iload_n 1, 1) := by decide +kernel
theorem dX10_shareOf_136 : decode cX10_shareOf 136 = .ok (.i2l, 1) := by decide +kernel
theorem dX10_shareOf_137 : decode cX10_shareOf 137 = .ok (.aload_n 0, 1) := by decide +kernel
theorem dX10_shareOf_138 : decode cX10_shareOf 138 = .ok (.getfield 44, 3) := by decide +kernel
theorem dX10_shareOf_141 : decode cX10_shareOf 141 = .ok (.iload_n 3, 1) := by decide +kernel
theorem dX10_shareOf_142 : decode cX10_shareOf 142 = .ok (.iaload, 1) := by decide +kernel
theorem dX10_shareOf_143 : decode cX10_shareOf 143 = .ok (.i2l, 1) := by decide +kernel
theorem dX10_shareOf_144 : decode cX10_shareOf 144 = .ok (.lmul, 1) := by decide +kernel
theorem dX10_shareOf_145 : decode cX10_shareOf 145 = .ok (.lload 4, 2) := by decide +kernel
theorem dX10_shareOf_147 : decode cX10_shareOf 147 = .ok (.ldiv, 1) := by decide +kernel
theorem dX10_shareOf_148 : decode cX10_shareOf 148 = .ok (.l2i, 1) := by decide +kernel
theorem dX10_shareOf_149 : decode cX10_shareOf 149 = .ok (.iload 10, 2) := by decide +kernel
theorem dX10_shareOf_151 : decode cX10_shareOf 151 = .ok (.i2l, 1) := by decide +kernel
theorem dX10_shareOf_152 : decode cX10_shareOf 152 = .ok (.lload 6, 2) := by decide +kernel
theorem dX10_shareOf_154 : decode cX10_shareOf 154 = .ok (.lcmp, 1) := by decide +kernel
theorem dX10_shareOf_155 : decode cX10_shareOf 155 = .ok (.ifCond .ge 7, 3) := by decide +kernel
theorem dX10_shareOf_158 : decode cX10_shareOf 158 = .ok (.iconst 1, 1) := by decide +kernel
theorem dX10_shareOf_159 : decode cX10_shareOf 159 = .ok (.goto 4, 3) := by decide +kernel
theorem dX10_shareOf_162 : decode cX10_shareOf 162 = .ok (.iconst 0, 1) := by decide +kernel
theorem dX10_shareOf_163 : decode cX10_shareOf 163 = .ok (.iadd, 1) := by decide +kernel
theorem dX10_shareOf_164 : decode cX10_shareOf 164 = .ok (.ireturn, 1) := by decide +kernel
theorem dX10_share_0 : decode cX10_share 0 = .ok (.aload_n 0, 1) := by decide +kernel
theorem dX10_share_1 : decode cX10_share 1 = .ok (.iconst 0, 1) := by decide +kernel
theorem dX10_share_2 : decode cX10_share 2 = .ok (.putfield 53, 3) := by decide +kernel
theorem dX10_share_5 : decode cX10_share 5 = .ok (.aload_n 0, 1) := by decide +kernel
theorem dX10_share_6 : decode cX10_share 6 = .ok (.iload_n 1, 1) := by decide +kernel
theorem dX10_share_7 : decode cX10_share 7 = .ok (.invokevirtual 157, 3) := by decide +kernel
theorem dX10_share_10 : decode cX10_share 10 = .ok (.ifCond .ne 5, 3) := by decide +kernel
theorem dX10_share_13 : decode cX10_share 13 = .ok (.iconst (-1), 1) := by decide +kernel
theorem dX10_share_14 : decode cX10_share 14 = .ok (.ireturn, 1) := by decide +kernel
theorem dX10_share_15 : decode cX10_share 15 = .ok (.aload_n 0, 1) := by decide +kernel
theorem dX10_share_16 : decode cX10_share 16 = .ok (.getfield 7, 3) := by decide +kernel
theorem dX10_share_19 : decode cX10_share 19 = .ok (.sipush 8844, 3) := by decide +kernel
theorem dX10_share_22 : decode cX10_share 22 = .ok (.iconst 5, 1) := by decide +kernel
theorem dX10_share_23 : decode cX10_share 23 = .ok (.iload_n 1, 1) := by decide +kernel
theorem dX10_share_24 : decode cX10_share 24 = .ok (.imul, 1) := by decide +kernel
theorem dX10_share_25 : decode cX10_share 25 = .ok (.iadd, 1) := by decide +kernel
theorem dX10_share_26 : decode cX10_share 26 = .ok (.iconst 3, 1) := by decide +kernel
theorem dX10_share_27 : decode cX10_share 27 = .ok (.iadd, 1) := by decide +kernel
theorem dX10_share_28 : decode cX10_share 28 = .ok (.iaload, 1) := by decide +kernel
theorem dX10_share_29 : decode cX10_share 29 = .ok (.istore_n 3, 1) := by decide +kernel
theorem dX10_share_30 : decode cX10_share 30 = .ok (.iload_n 3, 1) := by decide +kernel
theorem dX10_share_31 : decode cX10_share 31 = .ok (.ifCond .ge 9, 3) := by decide +kernel
theorem dX10_share_34 : decode cX10_share 34 = .ok (.aload_n 0, 1) := by decide +kernel
theorem dX10_share_35 : decode cX10_share 35 = .ok (.iconst 2, 1) := by decide +kernel
theorem dX10_share_36 : decode cX10_share 36 = .ok (.invokevirtual 117, 3) := by decide +kernel
theorem dX10_share_39 : decode cX10_share 39 = .ok (.ireturn, 1) := by decide +kernel
theorem dX10_share_40 : decode cX10_share 40 = .ok (.aload_n 0, 1) := by decide +kernel
theorem dX10_share_41 : decode cX10_share 41 = .ok (.iload_n 3, 1) := by decide +kernel
theorem dX10_share_42 : decode cX10_share 42 = .ok (.invokevirtual 79, 3) := by decide +kernel
theorem dX10_share_45 : decode cX10_share 45 = .ok (.iconst 4, 1) := by decide +kernel
theorem dX10_share_46 : decode cX10_share 46 = .ok (.if_icmp .eq 9, 3) := by decide +kernel
theorem dX10_share_49 : decode cX10_share 49 = .ok (.aload_n 0, 1) := by decide +kernel
theorem dX10_share_50 : decode cX10_share 50 = .ok (.iconst 5, 1) := by decide +kernel
theorem dX10_share_51 : decode cX10_share 51 = .ok (.invokevirtual 117, 3) := by decide +kernel
theorem dX10_share_54 : decode cX10_share 54 = .ok (.ireturn, 1) := by decide +kernel
theorem dX10_share_55 : decode cX10_share 55 = .ok (.aload_n 0, 1) := by decide +kernel
theorem dX10_share_56 : decode cX10_share 56 = .ok (.iload_n 3, 1) := by decide +kernel
theorem dX10_share_57 : decode cX10_share 57 = .ok (.bipush 7, 2) := by decide +kernel
theorem dX10_share_59 : decode cX10_share 59 = .ok (.invokevirtual 75, 3) := by decide +kernel
theorem dX10_share_62 : decode cX10_share 62 = .ok (.istore 4, 2) := by decide +kernel
theorem dX10_share_64 : decode cX10_share 64 = .ok (.iload_n 2, 1) := by decide +kernel
theorem dX10_share_65 : decode cX10_share 65 = .ok (.iconst 0, 1) := by decide +kernel
theorem dX10_share_66 : decode cX10_share 66 = .ok (.iload 4, 2) := by decide +kernel
theorem dX10_share_68 : decode cX10_share 68 = .ok (.iconst 1, 1) := by decide +kernel
theorem dX10_share_69 : decode cX10_share 69 = .ok (.isub, 1) := by decide +kernel
theorem dX10_share_70 : decode cX10_share 70 = .ok (.invokestatic 71, 3) := by decide +kernel
theorem dX10_share_73 : decode cX10_share 73 = .ok (.ifCond .ne 9, 3) := by decide +kernel
theorem dX10_share_76 : decode cX10_share 76 = .ok (.aload_n 0, 1) := by decide +kernel
theorem dX10_share_77 : decode cX10_share 77 = .ok (.iconst 4, 1) := by decide +kernel
theorem dX10_share_78 : decode cX10_share 78 = .ok (.invokevirtual 117, 3) := by decide +kernel
theorem dX10_share_81 : decode cX10_share 81 = .ok (.ireturn, 1) := by decide +kernel
theorem dX10_share_82 : decode cX10_share 82 = .ok (.iconst 0, 1) := by decide +kernel
theorem dX10_share_83 : decode cX10_share 83 = .ok (.istore 5, 2) := by decide +kernel
theorem dX10_share_85 : decode cX10_share 85 = .ok (.iload 5, 2) := by decide +kernel
theorem dX10_share_87 : decode cX10_share 87 = .ok (.iload 4, 2) := by decide +kernel
theorem dX10_share_89 : decode cX10_share 89 = .ok (.if_icmp .ge 26, 3) := by decide +kernel
theorem dX10_share_92 : decode cX10_share 92 = .ok (.aload_n 0, 1) := by decide +kernel
theorem dX10_share_93 : decode cX10_share 93 = .ok (.getfield 44, 3) := by decide +kernel
theorem dX10_share_96 : decode cX10_share 96 = .ok (.iload 5, 2) := by decide +kernel
theorem dX10_share_98 : decode cX10_share 98 = .ok (.aload_n 0, 1) := by decide +kernel
theorem dX10_share_99 : decode cX10_share 99 = .ok (.iload_n 3, 1) := by decide +kernel
theorem dX10_share_100 : decode cX10_share 100 = .ok (.bipush 8, 2) := by decide +kernel
theorem dX10_share_102 : decode cX10_share 102 = .ok (.iload 5, 2) := by decide +kernel
theorem dX10_share_104 : decode cX10_share 104 = .ok (.iadd, 1) := by decide +kernel
theorem dX10_share_105 : decode cX10_share 105 = .ok (.invokevirtual 75, 3) := by decide +kernel
theorem dX10_share_108 : decode cX10_share 108 = .ok (.iastore, 1) := by decide +kernel
theorem dX10_share_109 : decode cX10_share 109 = .ok (.iinc 5 1, 3) := by decide +kernel
theorem dX10_share_112 : decode cX10_share 112 = .ok (.goto (-27), 3) := by decide +kernel
theorem dX10_share_115 : decode cX10_share 115 = .ok (.aload_n 0, 1) := by decide +kernel
theorem dX10_share_116 : decode cX10_share 116 = .ok (.aload_n 0, 1) := by decide +kernel
theorem dX10_share_117 : decode cX10_share 117 = .ok (.getfield 7, 3) := by decide +kernel
theorem dX10_share_120 : decode cX10_share 120 = .ok (.sipush 8844, 3) := by decide +kernel
theorem dX10_share_123 : decode cX10_share 123 = .ok (.iconst 5, 1) := by decide +kernel
theorem dX10_share_124 : decode cX10_share 124 = .ok (.iload_n 1, 1) := by decide +kernel
theorem dX10_share_125 : decode cX10_share 125 = .ok (.imul, 1) := by decide +kernel
theorem dX10_share_126 : decode cX10_share 126 = .ok (.iadd, 1) := by decide +kernel
theorem dX10_share_127 : decode cX10_share 127 = .ok (.iconst 1, 1) := by decide +kernel
theorem dX10_share_128 : decode cX10_share 128 = .ok (.iadd, 1) := by decide +kernel
theorem dX10_share_129 : decode cX10_share 129 = .ok (.iaload, 1) := by decide +kernel
theorem dX10_share_130 : decode cX10_share 130 = .ok (.iload 4, 2) := by decide +kernel
theorem dX10_share_132 : decode cX10_share 132 = .ok (.iload_n 2, 1) := by decide +kernel
theorem dX10_share_133 : decode cX10_share 133 = .ok (.invokevirtual 160, 3) := by decide +kernel
theorem dX10_share_136 : decode cX10_share 136 = .ok (.ireturn, 1) := by decide +kernel
theorem dX10_ask_0 : decode cX10_ask 0 = .ok (.iconst 0, 1) := by decide +kernel
theorem dX10_ask_1 : decode cX10_ask 1 = .ok (.istore_n 3, 1) := by decide +kernel
theorem dX10_ask_2 : decode cX10_ask 2 = .ok (.iload_n 3, 1) := by decide +kernel
theorem dX10_ask_3 : decode cX10_ask 3 = .ok (.iconst 3, 1) := by decide +kernel
theorem dX10_ask_4 : decode cX10_ask 4 = .ok (.if_icmp .ge 22, 3) := by decide +kernel
theorem dX10_ask_7 : decode cX10_ask 7 = .ok (.aload_n 0, 1) := by decide +kernel
theorem dX10_ask_8 : decode cX10_ask 8 = .ok (.getfield 47, 3) := by decide +kernel
theorem dX10_ask_11 : decode cX10_ask 11 = .ok (.iload_n 3, 1) := by decide +kernel
theorem dX10_ask_12 : decode cX10_ask 12 = .ok (.aload_n 0, 1) := by decide +kernel
theorem dX10_ask_13 : decode cX10_ask 13 = .ok (.iload_n 1, 1) := by decide +kernel
theorem dX10_ask_14 : decode cX10_ask 14 = .ok (.iload_n 3, 1) := by decide +kernel
theorem dX10_ask_15 : decode cX10_ask 15 = .ok (.iload_n 2, 1) := by decide +kernel
theorem dX10_ask_16 : decode cX10_ask 16 = .ok (.invokevirtual 98, 3) := by decide +kernel
theorem dX10_ask_19 : decode cX10_ask 19 = .ok (.iastore, 1) := by decide +kernel
theorem dX10_ask_20 : decode cX10_ask 20 = .ok (.iinc 3 1, 3) := by decide +kernel
theorem dX10_ask_23 : decode cX10_ask 23 = .ok (.goto (-21), 3) := by decide +kernel
theorem dX10_ask_26 : decode cX10_ask 26 = .ok (.return_, 1) := by decide +kernel
theorem dX10_ends_0 : decode cX10_ends 0 = .ok (.aload_n 0, 1) := by decide +kernel
theorem dX10_ends_1 : decode cX10_ends 1 = .ok (.sipush 11349, 3) := by decide +kernel
theorem dX10_ends_4 : decode cX10_ends 4 = .ok (.aload_n 0, 1) := by decide +kernel
theorem dX10_ends_5 : decode cX10_ends 5 = .ok (.getfield 7, 3) := by decide +kernel
theorem dX10_ends_8 : decode cX10_ends 8 = .ok (.sipush 11349, 3) := by decide +kernel
theorem dX10_ends_11 : decode cX10_ends 11 = .ok (.iaload, 1) := by decide +kernel
theorem dX10_ends_12 : decode cX10_ends 12 = .ok (.aload_n 0, 1) := by decide +kernel
theorem dX10_ends_13 : decode cX10_ends 13 = .ok (.iload_n 1, 1) := by decide +kernel
theorem dX10_ends_14 : decode cX10_ends 14 = .ok (.iconst 5, 1) := by decide +kernel
theorem dX10_ends_15 : decode cX10_ends 15 = .ok (.invokevirtual 75, 3) := by decide +kernel
theorem dX10_ends_18 : decode cX10_ends 18 = .ok (.iadd, 1) := by decide +kernel
theorem dX10_ends_19 : decode cX10_ends 19 = .ok (.invokevirtual 67, 3) := by decide +kernel
theorem dX10_ends_22 : decode cX10_ends 22 = .ok (.aload_n 0, 1) := by decide +kernel
theorem dX10_ends_23 : decode cX10_ends 23 = .ok (.iload_n 1, 1) := by decide +kernel
theorem dX10_ends_24 : decode cX10_ends 24 = .ok (.iconst 5, 1) := by decide +kernel
theorem dX10_ends_25 : decode cX10_ends 25 = .ok (.iconst 0, 1) := by decide +kernel
theorem dX10_ends_26 : decode cX10_ends 26 = .ok (.invokevirtual 113, 3) := by decide +kernel
theorem dX10_ends_29 : decode cX10_ends 29 = .ok (.aload_n 0, 1) := by decide +kernel
theorem dX10_ends_30 : decode cX10_ends 30 = .ok (.iload_n 1, 1) := by decide +kernel
theorem dX10_ends_31 : decode cX10_ends 31 = .ok (.iconst 3, 1) := by decide +kernel
theorem dX10_ends_32 : decode cX10_ends 32 = .ok (.iconst 1, 1) := by decide +kernel
theorem dX10_ends_33 : decode cX10_ends 33 = .ok (.invokevirtual 113, 3) := by decide +kernel
theorem dX10_ends_36 : decode cX10_ends 36 = .ok (.aload_n 0, 1) := by decide +kernel
theorem dX10_ends_37 : decode cX10_ends 37 = .ok (.iload_n 1, 1) := by decide +kernel
theorem dX10_ends_38 : decode cX10_ends 38 = .ok (.iconst 4, 1) := by decide +kernel
theorem dX10_ends_39 : decode cX10_ends 39 = .ok (.iconst 1, 1) := by decide +kernel
theorem dX10_ends_40 : decode cX10_ends 40 = .ok (.invokevirtual 113, 3) := by decide +kernel
theorem dX10_ends_43 : decode cX10_ends 43 = .ok (.aload_n 0, 1) := by decide +kernel
theorem dX10_ends_44 : decode cX10_ends 44 = .ok (.iload_n 1, 1) := by decide +kernel
theorem dX10_ends_45 : decode cX10_ends 45 = .ok (.bipush 6, 2) := by decide +kernel
theorem dX10_ends_47 : decode cX10_ends 47 = .ok (.iconst 0, 1) := by decide +kernel
theorem dX10_ends_48 : decode cX10_ends 48 = .ok (.invokevirtual 113, 3) := by decide +kernel
theorem dX10_ends_51 : decode cX10_ends 51 = .ok (.aload_n 0, 1) := by decide +kernel
theorem dX10_ends_52 : decode cX10_ends 52 = .ok (.iload_n 1, 1) := by decide +kernel
theorem dX10_ends_53 : decode cX10_ends 53 = .ok (.bipush 26, 2) := by decide +kernel
theorem dX10_ends_55 : decode cX10_ends 55 = .ok (.iconst 0, 1) := by decide +kernel
theorem dX10_ends_56 : decode cX10_ends 56 = .ok (.invokevirtual 113, 3) := by decide +kernel
theorem dX10_ends_59 : decode cX10_ends 59 = .ok (.aload_n 0, 1) := by decide +kernel
theorem dX10_ends_60 : decode cX10_ends 60 = .ok (.iload_n 1, 1) := by decide +kernel
theorem dX10_ends_61 : decode cX10_ends 61 = .ok (.bipush 30, 2) := by decide +kernel
theorem dX10_ends_63 : decode cX10_ends 63 = .ok (.iconst 0, 1) := by decide +kernel
theorem dX10_ends_64 : decode cX10_ends 64 = .ok (.invokevirtual 113, 3) := by decide +kernel
theorem dX10_ends_67 : decode cX10_ends 67 = .ok (.return_, 1) := by decide +kernel
theorem dX10_leftOf_0 : decode cX10_leftOf 0 = .ok (.iconst 0, 1) := by decide +kernel
theorem dX10_leftOf_1 : decode cX10_leftOf 1 = .ok (.istore_n 2, 1) := by decide +kernel
theorem dX10_leftOf_2 : decode cX10_leftOf 2 = .ok (.aload_n 0, 1) := by decide +kernel
theorem dX10_leftOf_3 : decode cX10_leftOf 3 = .ok (.iload_n 1, 1) := by decide +kernel
theorem dX10_leftOf_4 : decode cX10_leftOf 4 = .ok (.bipush 26, 2) := by decide +kernel
theorem dX10_leftOf_6 : decode cX10_leftOf 6 = .ok (.invokevirtual 75, 3) := by decide +kernel
theorem dX10_leftOf_9 : decode cX10_leftOf 9 = .ok (.iconst 1, 1) := by decide +kernel
theorem dX10_leftOf_10 : decode cX10_leftOf 10 = .ok (.if_icmp .ne 50, 3) := by decide +kernel
theorem dX10_leftOf_13 : decode cX10_leftOf 13 = .ok (.aload_n 0, 1) := by decide +kernel
theorem dX10_leftOf_14 : decode cX10_leftOf 14 = .ok (.iload_n 1, 1) := by decide +kernel
theorem dX10_leftOf_15 : decode cX10_leftOf 15 = .ok (.bipush 29, 2) := by decide +kernel
theorem dX10_leftOf_17 : decode cX10_leftOf 17 = .ok (.invokevirtual 75, 3) := by decide +kernel
theorem dX10_leftOf_20 : decode cX10_leftOf 20 = .ok (.istore_n 2, 1) := by decide +kernel
theorem dX10_leftOf_21 : decode cX10_leftOf 21 = .ok (.aload_n 0, 1) := by decide +kernel
theorem dX10_leftOf_22 : decode cX10_leftOf 22 = .ok (.iload_n 1, 1) := by decide +kernel
theorem dX10_leftOf_23 : decode cX10_leftOf 23 = .ok (.bipush 28, 2) := by decide +kernel
theorem dX10_leftOf_25 : decode cX10_leftOf 25 = .ok (.invokevirtual 75, 3) := by decide +kernel
theorem dX10_leftOf_28 : decode cX10_leftOf 28 = .ok (.iconst 1, 1) := by decide +kernel
theorem dX10_leftOf_29 : decode cX10_leftOf 29 = .ok (.iadd, 1) := by decide +kernel
theorem dX10_leftOf_30 : decode cX10_leftOf 30 = .ok (.istore_n 3, 1) := by decide +kernel
theorem dX10_leftOf_31 : decode cX10_leftOf 31 = .ok (.iload_n 3, 1) := by decide +kernel
theorem dX10_leftOf_32 : decode cX10_leftOf 32 = .ok (.aload_n 0, 1) := by decide +kernel
theorem dX10_leftOf_33 : decode cX10_leftOf 33 = .ok (.iload_n 1, 1) := by decide +kernel
theorem dX10_leftOf_34 : decode cX10_leftOf 34 = .ok (.bipush 27, 2) := by decide +kernel
theorem dX10_leftOf_36 : decode cX10_leftOf 36 = .ok (.invokevirtual 75, 3) := by decide +kernel
theorem dX10_leftOf_39 : decode cX10_leftOf 39 = .ok (.if_icmp .ge 21, 3) := by decide +kernel
theorem dX10_leftOf_42 : decode cX10_leftOf 42 = .ok (.iload_n 2, 1) := by decide +kernel
theorem dX10_leftOf_43 : decode cX10_leftOf 43 = .ok (.aload_n 0, 1) := by decide +kernel
theorem dX10_leftOf_44 : decode cX10_leftOf 44 = .ok (.iload_n 1, 1) := by decide +kernel
theorem dX10_leftOf_45 : decode cX10_leftOf 45 = .ok (.bipush 71, 2) := by decide +kernel
theorem dX10_leftOf_47 : decode cX10_leftOf 47 = .ok (.iload_n 3, 1) := by decide +kernel
theorem dX10_leftOf_48 : decode cX10_leftOf 48 = .ok (.iadd, 1) := by decide +kernel
theorem dX10_leftOf_49 : decode cX10_leftOf 49 = .ok (.invokevirtual 75, 3) := by decide +kernel
theorem dX10_leftOf_52 : decode cX10_leftOf 52 = .ok (.iadd, 1) := by decide +kernel
theorem dX10_leftOf_53 : decode cX10_leftOf 53 = .ok (.istore_n 2, 1) := by decide +kernel
theorem dX10_leftOf_54 : decode cX10_leftOf 54 = .ok (.iinc 3 1, 3) := by decide +kernel
theorem dX10_leftOf_57 : decode cX10_leftOf 57 = .ok (.goto (-26), 3) := by decide +kernel
theorem dX10_leftOf_60 : decode cX10_leftOf 60 = .ok (.iload_n 2, 1) := by decide +kernel
theorem dX10_leftOf_61 : decode cX10_leftOf 61 = .ok (.ireturn, 1) := by decide +kernel
theorem dX10_against_0 : decode cX10_against 0 = .ok (.sipush 6240, 3) := by decide +kernel
theorem dX10_against_3 : decode cX10_against 3 = .ok (.bipush 62, 2) := by decide +kernel
theorem dX10_against_5 : decode cX10_against 5 = .ok (.iload_n 2, 1) := by decide +kernel
theorem dX10_against_6 : decode cX10_against 6 = .ok (.imul, 1) := by decide +kernel
theorem dX10_against_7 : decode cX10_against 7 = .ok (.iadd, 1) := by decide +kernel
theorem dX10_against_8 : decode cX10_against 8 = .ok (.istore_n 3, 1) := by decide +kernel
theorem dX10_against_9 : decode cX10_against 9 = .ok (.aload_n 0, 1) := by decide +kernel
theorem dX10_against_10 : decode cX10_against 10 = .ok (.iload_n 1, 1) := by decide +kernel
theorem dX10_against_11 : decode cX10_against 11 = .ok (.bipush 26, 2) := by decide +kernel
theorem dX10_against_13 : decode cX10_against 13 = .ok (.invokevirtual 75, 3) := by decide +kernel
theorem dX10_against_16 : decode cX10_against 16 = .ok (.iconst 1, 1) := by decide +kernel
theorem dX10_against_17 : decode cX10_against 17 = .ok (.if_icmp .eq 14, 3) := by decide +kernel
theorem dX10_against_20 : decode cX10_against 20 = .ok (.aload_n 0, 1) := by decide +kernel
theorem dX10_against_21 : decode cX10_against 21 = .ok (.iload_n 1, 1) := by decide +kernel
theorem dX10_against_22 : decode cX10_against 22 = .ok (.bipush 101, 2) := by decide +kernel
theorem dX10_against_24 : decode cX10_against 24 = .ok (.invokevirtual 75, 3) := by decide +kernel
theorem dX10_against_27 : decode cX10_against 27 = .ok (.iconst 1, 1) := by decide +kernel
theorem dX10_against_28 : decode cX10_against 28 = .ok (.if_icmp .ne 6, 3) := by decide +kernel
theorem dX10_against_31 : decode cX10_against 31 = .ok (.bipush 7, 2) := by decide +kernel
theorem dX10_against_33 : decode cX10_against 33 = .ok (.ireturn, 1) := by decide +kernel
theorem dX10_against_34 : decode cX10_against 34 = .ok (.aload_n 0, 1) := by decide +kernel
theorem dX10_against_35 : decode cX10_against 35 = .ok (.getfield 7, 3) := by decide +kernel
theorem dX10_against_38 : decode cX10_against 38 = .ok (.iload_n 3, 1) := by decide +kernel
theorem dX10_against_39 : decode cX10_against 39 = .ok (.iaload, 1) := by decide +kernel
theorem dX10_against_40 : decode cX10_against 40 = .ok (.ifCond .ne 5, 3) := by decide +kernel
theorem dX10_against_43 : decode cX10_against 43 = .ok (.iconst 3, 1) := by decide +kernel
theorem dX10_against_44 : decode cX10_against 44 = .ok (.ireturn, 1) := by decide +kernel
theorem dX10_against_45 : decode cX10_against 45 = .ok (.aload_n 0, 1) := by decide +kernel
theorem dX10_against_46 : decode cX10_against 46 = .ok (.iload_n 1, 1) := by decide +kernel
theorem dX10_against_47 : decode cX10_against 47 = .ok (.invokevirtual 120, 3) := by decide +kernel
theorem dX10_against_50 : decode cX10_against 50 = .ok (.ifCond .ne 5, 3) := by decide +kernel
theorem dX10_against_53 : decode cX10_against 53 = .ok (.iconst 2, 1) := by decide +kernel
theorem dX10_against_54 : decode cX10_against 54 = .ok (.ireturn, 1) := by decide +kernel
theorem dX10_against_55 : decode cX10_against 55 = .ok (.aload_n 0, 1) := by decide +kernel
theorem dX10_against_56 : decode cX10_against 56 = .ok (.iload_n 1, 1) := by decide +kernel
theorem dX10_against_57 : decode cX10_against 57 = .ok (.bipush 6, 2) := by decide +kernel
theorem dX10_against_59 : decode cX10_against 59 = .ok (.invokevirtual 75, 3) := by decide +kernel
theorem dX10_against_62 : decode cX10_against 62 = .ok (.ifCond .ne 6, 3) := by decide +kernel
theorem dX10_against_65 : decode cX10_against 65 = .ok (.bipush 8, 2) := by decide +kernel
theorem dX10_against_67 : decode cX10_against 67 = .ok (.ireturn, 1) := by decide +kernel
theorem dX10_against_68 : decode cX10_against 68 = .ok (.iconst 0, 1) := by decide +kernel
theorem dX10_against_69 : decode cX10_against 69 = .ok (.istore 4, 2) := by decide +kernel
theorem dX10_against_71 : decode cX10_against 71 = .ok (.iload 4, 2) := by decide +kernel
theorem dX10_against_73 : decode cX10_against 73 = .ok (.aload_n 0, 1) := by decide +kernel
theorem dX10_against_74 : decode cX10_against 74 = .ok (.getfield 7, 3) := by decide +kernel
theorem dX10_against_77 : decode cX10_against 77 = .ok (.iload_n 3, 1) := by decide +kernel
theorem dX10_against_78 : decode cX10_against 78 = .ok (.iconst 1, 1) := by decide +kernel
theorem dX10_against_79 : decode cX10_against 79 = .ok (.iadd, 1) := by decide +kernel
theorem dX10_against_80 : decode cX10_against 80 = .ok (.iaload, 1) := by decide +kernel
theorem dX10_against_81 : decode cX10_against 81 = .ok (.if_icmp .ge 98, 3) := by decide +kernel
theorem dX10_against_84 : decode cX10_against 84 = .ok (.aload_n 0, 1) := by decide +kernel
theorem dX10_against_85 : decode cX10_against 85 = .ok (.getfield 7, 3) := by decide +kernel
theorem dX10_against_88 : decode cX10_against 88 = .ok (.iload_n 3, 1) := by decide +kernel
theorem dX10_against_89 : decode cX10_against 89 = .ok (.iconst 2, 1) := by decide +kernel
theorem dX10_against_90 : decode cX10_against 90 = .ok (.iadd, 1) := by decide +kernel
theorem dX10_against_91 : decode cX10_against 91 = .ok (.iload 4, 2) := by decide +kernel
theorem dX10_against_93 : decode cX10_against 93 = .ok (.iadd, 1) := by decide +kernel
theorem dX10_against_94 : decode cX10_against 94 = .ok (.iaload, 1) := by decide +kernel
theorem dX10_against_95 : decode cX10_against 95 = .ok (.istore 5, 2) := by decide +kernel
theorem dX10_against_97 : decode cX10_against 97 = .ok (.aload_n 0, 1) := by decide +kernel
theorem dX10_against_98 : decode cX10_against 98 = .ok (.iload_n 1, 1) := by decide +kernel
theorem dX10_against_99 : decode cX10_against 99 = .ok (.invokevirtual 79, 3) := by decide +kernel
theorem dX10_against_102 : decode cX10_against 102 = .ok (.iload 5, 2) := by decide +kernel
theorem dX10_against_104 : decode cX10_against 104 = .ok (.invokestatic 163, 3) := by decide +kernel
theorem dX10_against_107 : decode cX10_against 107 = .ok (.ifCond .ne 5, 3) := by decide +kernel
theorem dX10_against_110 : decode cX10_against 110 = .ok (.iconst 5, 1) := by decide +kernel
theorem dX10_against_111 : decode cX10_against 111 = .ok (.ireturn, 1) := by decide +kernel
theorem dX10_against_112 : decode cX10_against 112 = .ok (.aload_n 0, 1) := by decide +kernel
theorem dX10_against_113 : decode cX10_against 113 = .ok (.iload_n 1, 1) := by decide +kernel
theorem dX10_against_114 : decode cX10_against 114 = .ok (.iload 5, 2) := by decide +kernel
theorem dX10_against_116 : decode cX10_against 116 = .ok (.invokevirtual 166, 3) := by decide +kernel
theorem dX10_against_119 : decode cX10_against 119 = .ok (.aload_n 0, 1) := by decide +kernel
theorem dX10_against_120 : decode cX10_against 120 = .ok (.getfield 47, 3) := by decide +kernel
theorem dX10_against_123 : decode cX10_against 123 = .ok (.iconst 0, 1) := by decide +kernel
theorem dX10_against_124 : decode cX10_against 124 = .ok (.iaload, 1) := by decide +kernel
theorem dX10_against_125 : decode cX10_against 125 = .ok (.aload_n 0, 1) := by decide +kernel
theorem dX10_against_126 : decode cX10_against 126 = .ok (.getfield 7, 3) := by decide +kernel
theorem dX10_against_129 : decode cX10_against 129 = .ok (.sipush 11353, 3) := by decide +kernel
theorem dX10_against_132 : decode cX10_against 132 = .ok (.iaload, 1) := by decide +kernel
theorem dX10_against_133 : decode cX10_against 133 = .ok (.if_icmp .gt 37, 3) := by decide +kernel
theorem dX10_against_136 : decode cX10_against 136 = .ok (.aload_n 0, 1) := by decide +kernel
theorem dX10_against_137 : decode cX10_against 137 = .ok (.getfield 47, 3) := by decide +kernel
theorem dX10_against_140 : decode cX10_against 140 = .ok (.iconst 1, 1) := by decide +kernel
theorem dX10_against_141 : decode cX10_against 141 = .ok (.iaload, 1) := by decide +kernel
theorem dX10_against_142 : decode cX10_against 142 = .ok (.aload_n 0, 1) := by decide +kernel
theorem dX10_against_143 : decode cX10_against 143 = .ok (.getfield 7, 3) := by decide +kernel
theorem dX10_against_146 : decode cX10_against 146 = .ok (.sipush 11354, 3) := by decide +kernel
theorem dX10_against_149 : decode cX10_against 149 = .ok (.iaload, 1) := by decide +kernel
theorem dX10_against_150 : decode cX10_against 150 = .ok (.if_icmp .gt 20, 3) := by decide +kernel
theorem dX10_against_153 : decode cX10_against 153 = .ok (.aload_n 0, 1) := by decide +kernel
theorem dX10_against_154 : decode cX10_against 154 = .ok (.getfield 47, 3) := by decide +kernel
theorem dX10_against_157 : decode cX10_against 157 = .ok (.iconst 2, 1) := by decide +kernel
theorem dX10_against_158 : decode cX10_against 158 = .ok (.iaload, 1) := by decide +kernel
theorem dX10_against_159 : decode cX10_against 159 = .ok (.aload_n 0, 1) := by decide +kernel
theorem dX10_against_160 : decode cX10_against 160 = .ok (.getfield 7, 3) := by decide +kernel
theorem dX10_against_163 : decode cX10_against 163 = .ok (.sipush 11355, 3) := by decide +kernel
theorem dX10_against_166 : decode cX10_against 166 = .ok (.iaload, 1) := by decide +kernel
theorem dX10_against_167 : decode cX10_against 167 = .ok (.if_icmp .le 6, 3) := by decide +kernel
theorem dX10_against_170 : decode cX10_against 170 = .ok (.bipush 12, 2) := by decide +kernel
theorem dX10_against_172 : decode cX10_against 172 = .ok (.ireturn, 1) := by decide +kernel
theorem dX10_against_173 : decode cX10_against 173 = .ok (.iinc 4 1, 3) := by decide +kernel
theorem dX10_against_176 : decode cX10_against 176 = .ok (.goto (-105), 3) := by decide +kernel
theorem dX10_against_179 : decode cX10_against 179 = .ok (.iconst 0, 1) := by decide +kernel
theorem dX10_against_180 : decode cX10_against 180 = .ok (.ireturn, 1) := by decide +kernel
theorem dX10_start_0 : decode cX10_start 0 = .ok (.aload_n 0, 1) := by decide +kernel
theorem dX10_start_1 : decode cX10_start 1 = .ok (.iconst 0, 1) := by decide +kernel
theorem dX10_start_2 : decode cX10_start 2 = .ok (.putfield 53, 3) := by decide +kernel
theorem dX10_start_5 : decode cX10_start 5 = .ok (.iload_n 1, 1) := by decide +kernel
theorem dX10_start_6 : decode cX10_start 6 = .ok (.invokestatic 106, 3) := by decide +kernel
theorem dX10_start_9 : decode cX10_start 9 = .ok (.ifCond .eq 10, 3) := by decide +kernel
theorem dX10_start_12 : decode cX10_start 12 = .ok (.iload_n 2, 1) := by decide +kernel
theorem dX10_start_13 : decode cX10_start 13 = .ok (.invokestatic 132, 3) := by decide +kernel
theorem dX10_start_16 : decode cX10_start 16 = .ok (.ifCond .ne 5, 3) := by decide +kernel
theorem dX10_start_19 : decode cX10_start 19 = .ok (.iconst (-1), 1) := by decide +kernel
theorem dX10_start_20 : decode cX10_start 20 = .ok (.ireturn, 1) := by decide +kernel
theorem dX10_start_21 : decode cX10_start 21 = .ok (.aload_n 0, 1) := by decide +kernel
theorem dX10_start_22 : decode cX10_start 22 = .ok (.iload_n 1, 1) := by decide +kernel
theorem dX10_start_23 : decode cX10_start 23 = .ok (.invokevirtual 110, 3) := by decide +kernel
theorem dX10_start_26 : decode cX10_start 26 = .ok (.ifCond .ne 9, 3) := by decide +kernel
theorem dX10_start_29 : decode cX10_start 29 = .ok (.aload_n 0, 1) := by decide +kernel
theorem dX10_start_30 : decode cX10_start 30 = .ok (.iconst 1, 1) := by decide +kernel
theorem dX10_start_31 : decode cX10_start 31 = .ok (.invokevirtual 117, 3) := by decide +kernel
theorem dX10_start_34 : decode cX10_start 34 = .ok (.ireturn, 1) := by decide +kernel
theorem dX10_start_35 : decode cX10_start 35 = .ok (.aload_n 0, 1) := by decide +kernel
theorem dX10_start_36 : decode cX10_start 36 = .ok (.iload_n 1, 1) := by decide +kernel
theorem dX10_start_37 : decode cX10_start 37 = .ok (.invokevirtual 145, 3) := by decide +kernel
theorem dX10_start_40 : decode cX10_start 40 = .ok (.aload_n 0, 1) := by decide +kernel
theorem dX10_start_41 : decode cX10_start 41 = .ok (.iload_n 1, 1) := by decide +kernel
theorem dX10_start_42 : decode cX10_start 42 = .ok (.iload_n 2, 1) := by decide +kernel
theorem dX10_start_43 : decode cX10_start 43 = .ok (.invokevirtual 169, 3) := by decide +kernel
theorem dX10_start_46 : decode cX10_start 46 = .ok (.istore_n 3, 1) := by decide +kernel
theorem dX10_start_47 : decode cX10_start 47 = .ok (.iload_n 3, 1) := by decide +kernel
theorem dX10_start_48 : decode cX10_start 48 = .ok (.ifCond .le 9, 3) := by decide +kernel
theorem dX10_start_51 : decode cX10_start 51 = .ok (.aload_n 0, 1) := by decide +kernel
theorem dX10_start_52 : decode cX10_start 52 = .ok (.iload_n 3, 1) := by decide +kernel
theorem dX10_start_53 : decode cX10_start 53 = .ok (.invokevirtual 117, 3) := by decide +kernel
theorem dX10_start_56 : decode cX10_start 56 = .ok (.ireturn, 1) := by decide +kernel
theorem dX10_start_57 : decode cX10_start 57 = .ok (.sipush 6240, 3) := by decide +kernel
theorem dX10_start_60 : decode cX10_start 60 = .ok (.bipush 62, 2) := by decide +kernel
theorem dX10_start_62 : decode cX10_start 62 = .ok (.iload_n 2, 1) := by decide +kernel
theorem dX10_start_63 : decode cX10_start 63 = .ok (.imul, 1) := by decide +kernel
theorem dX10_start_64 : decode cX10_start 64 = .ok (.iadd, 1) := by decide +kernel
theorem dX10_start_65 : decode cX10_start 65 = .ok (.istore 4, 2) := by decide +kernel
theorem dX10_start_67 : decode cX10_start 67 = .ok (.aload_n 0, 1) := by decide +kernel
theorem dX10_start_68 : decode cX10_start 68 = .ok (.getfield 7, 3) := by decide +kernel
theorem dX10_start_71 : decode cX10_start 71 = .ok (.iload 4, 2) := by decide +kernel
theorem dX10_start_73 : decode cX10_start 73 = .ok (.iconst 1, 1) := by decide +kernel
theorem dX10_start_74 : decode cX10_start 74 = .ok (.iadd, 1) := by decide +kernel
theorem dX10_start_75 : decode cX10_start 75 = .ok (.iaload, 1) := by decide +kernel
theorem dX10_start_76 : decode cX10_start 76 = .ok (.istore 5, 2) := by decide +kernel
theorem dX10_start_78 : decode cX10_start 78 = .ok (.aload_n 0, 1) := by decide +kernel
theorem dX10_start_79 : decode cX10_start 79 = .ok (.sipush 11356, 3) := by decide +kernel
theorem dX10_start_82 : decode cX10_start 82 = .ok (.iconst 1, 1) := by decide +kernel
theorem dX10_start_83 : decode cX10_start 83 = .ok (.invokevirtual 67, 3) := by decide +kernel
theorem dX10_start_86 : decode cX10_start 86 = .ok (.aload_n 0, 1) := by decide +kernel
theorem dX10_start_87 : decode cX10_start 87 = .ok (.iload_n 1, 1) := by decide +kernel
theorem dX10_start_88 : decode cX10_start 88 = .ok (.bipush 38, 2) := by decide +kernel
theorem dX10_start_90 : decode cX10_start 90 = .ok (.aload_n 0, 1) := by decide +kernel
theorem dX10_start_91 : decode cX10_start 91 = .ok (.iload_n 1, 1) := by decide +kernel
theorem dX10_start_92 : decode cX10_start 92 = .ok (.bipush 38, 2) := by decide +kernel
theorem dX10_start_94 : decode cX10_start 94 = .ok (.invokevirtual 75, 3) := by decide +kernel
theorem dX10_start_97 : decode cX10_start 97 = .ok (.iconst 1, 1) := by decide +kernel
theorem dX10_start_98 : decode cX10_start 98 = .ok (.iadd, 1) := by decide +kernel
theorem dX10_start_99 : decode cX10_start 99 = .ok (.invokevirtual 113, 3) := by decide +kernel
theorem dX10_start_102 : decode cX10_start 102 = .ok (.iload 5, 2) := by decide +kernel
theorem dX10_start_104 : decode cX10_start 104 = .ok (.ifCond .ne 10, 3) := by decide +kernel
theorem dX10_start_107 : decode cX10_start 107 = .ok (.aload_n 0, 1) := by decide +kernel
theorem dX10_start_108 : decode cX10_start 108 = .ok (.iload_n 1, 1) := by decide +kernel
theorem dX10_start_109 : decode cX10_start 109 = .ok (.invokevirtual 172, 3) := by decide +kernel
theorem dX10_start_112 : decode cX10_start 112 = .ok (.iconst 1, 1) := by decide +kernel
theorem dX10_start_113 : decode cX10_start 113 = .ok (.ireturn, 1) := by decide +kernel
theorem dX10_start_114 : decode cX10_start 114 = .ok (.iconst 0, 1) := by decide +kernel
theorem dX10_start_115 : decode cX10_start 115 = .ok (.istore 6, 2) := by decide +kernel
theorem dX10_start_117 : decode cX10_start 117 = .ok (.iload 6, 2) := by decide +kernel
theorem dX10_start_119 : decode cX10_start 119 = .ok (.iload 5, 2) := by decide +kernel
theorem dX10_start_121 : decode cX10_start 121 = .ok (.if_icmp .ge 54, 3) := by decide +kernel
theorem dX10_start_124 : decode cX10_start 124 = .ok (.aload_n 0, 1) := by decide +kernel
theorem dX10_start_125 : decode cX10_start 125 = .ok (.iload_n 1, 1) := by decide +kernel
theorem dX10_start_126 : decode cX10_start 126 = .ok (.bipush 41, 2) := by decide +kernel
theorem dX10_start_128 : decode cX10_start 128 = .ok (.iload 6, 2) := by decide +kernel
theorem dX10_start_130 : decode cX10_start 130 = .ok (.iadd, 1) := by decide +kernel
theorem dX10_start_131 : decode cX10_start 131 = .ok (.aload_n 0, 1) := by decide +kernel
theorem dX10_start_132 : decode cX10_start 132 = .ok (.getfield 7, 3) := by decide +kernel
theorem dX10_start_135 : decode cX10_start 135 = .ok (.iload 4, 2) := by decide +kernel
theorem dX10_start_137 : decode cX10_start 137 = .ok (.iconst 2, 1) := by decide +kernel
theorem dX10_start_138 : decode cX10_start 138 = .ok (.iadd, 1) := by decide +kernel
theorem dX10_start_139 : decode cX10_start 139 = .ok (.iload 6, 2) := by decide +kernel
theorem dX10_start_141 : decode cX10_start 141 = .ok (.iadd, 1) := by decide +kernel
theorem dX10_start_142 : decode cX10_start 142 = .ok (.iaload, 1) := by decide +kernel
theorem dX10_start_143 : decode cX10_start 143 = .ok (.invokevirtual 113, 3) := by decide +kernel
theorem dX10_start_146 : decode cX10_start 146 = .ok (.aload_n 0, 1) := by decide +kernel
theorem dX10_start_147 : decode cX10_start 147 = .ok (.iload_n 1, 1) := by decide +kernel
theorem dX10_start_148 : decode cX10_start 148 = .ok (.bipush 71, 2) := by decide +kernel
theorem dX10_start_150 : decode cX10_start 150 = .ok (.iload 6, 2) := by decide +kernel
theorem dX10_start_152 : decode cX10_start 152 = .ok (.iadd, 1) := by decide +kernel
theorem dX10_start_153 : decode cX10_start 153 = .ok (.aload_n 0, 1) := by decide +kernel
theorem dX10_start_154 : decode cX10_start 154 = .ok (.getfield 7, 3) := by decide +kernel
theorem dX10_start_157 : decode cX10_start 157 = .ok (.iload 4, 2) := by decide +kernel
theorem dX10_start_159 : decode cX10_start 159 = .ok (.bipush 32, 2) := by decide +kernel
theorem dX10_start_161 : decode cX10_start 161 = .ok (.iadd, 1) := by decide +kernel
theorem dX10_start_162 : decode cX10_start 162 = .ok (.iload 6, 2) := by decide +kernel
theorem dX10_start_164 : decode cX10_start 164 = .ok (.iadd, 1) := by decide +kernel
theorem dX10_start_165 : decode cX10_start 165 = .ok (.iaload, 1) := by decide +kernel
theorem dX10_start_166 : decode cX10_start 166 = .ok (.invokevirtual 113, 3) := by decide +kernel
theorem dX10_start_169 : decode cX10_start 169 = .ok (.iinc 6 1, 3) := by decide +kernel
theorem dX10_start_172 : decode cX10_start 172 = .ok (.goto (-55), 3) := by decide +kernel
theorem dX10_start_175 : decode cX10_start 175 = .ok (.aload_n 0, 1) := by decide +kernel
theorem dX10_start_176 : decode cX10_start 176 = .ok (.iload_n 1, 1) := by decide +kernel
theorem dX10_start_177 : decode cX10_start 177 = .ok (.bipush 27, 2) := by decide +kernel
theorem dX10_start_179 : decode cX10_start 179 = .ok (.iload 5, 2) := by decide +kernel
theorem dX10_start_181 : decode cX10_start 181 = .ok (.invokevirtual 113, 3) := by decide +kernel
theorem dX10_start_184 : decode cX10_start 184 = .ok (.aload_n 0, 1) := by decide +kernel
theorem dX10_start_185 : decode cX10_start 185 = .ok (.iload_n 1, 1) := by decide +kernel
theorem dX10_start_186 : decode cX10_start 186 = .ok (.bipush 28, 2) := by decide +kernel
theorem dX10_start_188 : decode cX10_start 188 = .ok (.iconst 0, 1) := by decide +kernel
theorem dX10_start_189 : decode cX10_start 189 = .ok (.invokevirtual 113, 3) := by decide +kernel
theorem dX10_start_192 : decode cX10_start 192 = .ok (.aload_n 0, 1) := by decide +kernel
theorem dX10_start_193 : decode cX10_start 193 = .ok (.iload_n 1, 1) := by decide +kernel
theorem dX10_start_194 : decode cX10_start 194 = .ok (.bipush 29, 2) := by decide +kernel
theorem dX10_start_196 : decode cX10_start 196 = .ok (.aload_n 0, 1) := by decide +kernel
theorem dX10_start_197 : decode cX10_start 197 = .ok (.getfield 7, 3) := by decide +kernel
theorem dX10_start_200 : decode cX10_start 200 = .ok (.iload 4, 2) := by decide +kernel
theorem dX10_start_202 : decode cX10_start 202 = .ok (.bipush 32, 2) := by decide +kernel
theorem dX10_start_204 : decode cX10_start 204 = .ok (.iadd, 1) := by decide +kernel
theorem dX10_start_205 : decode cX10_start 205 = .ok (.iaload, 1) := by decide +kernel
theorem dX10_start_206 : decode cX10_start 206 = .ok (.invokevirtual 113, 3) := by decide +kernel
theorem dX10_start_209 : decode cX10_start 209 = .ok (.aload_n 0, 1) := by decide +kernel
theorem dX10_start_210 : decode cX10_start 210 = .ok (.iload_n 1, 1) := by decide +kernel
theorem dX10_start_211 : decode cX10_start 211 = .ok (.bipush 30, 2) := by decide +kernel
theorem dX10_start_213 : decode cX10_start 213 = .ok (.iconst 0, 1) := by decide +kernel
theorem dX10_start_214 : decode cX10_start 214 = .ok (.invokevirtual 113, 3) := by decide +kernel
theorem dX10_start_217 : decode cX10_start 217 = .ok (.aload_n 0, 1) := by decide +kernel
theorem dX10_start_218 : decode cX10_start 218 = .ok (.iload_n 1, 1) := by decide +kernel
theorem dX10_start_219 : decode cX10_start 219 = .ok (.bipush 26, 2) := by decide +kernel
theorem dX10_start_221 : decode cX10_start 221 = .ok (.iconst 1, 1) := by decide +kernel
theorem dX10_start_222 : decode cX10_start 222 = .ok (.invokevirtual 113, 3) := by decide +kernel
theorem dX10_start_225 : decode cX10_start 225 = .ok (.aload_n 0, 1) := by decide +kernel
theorem dX10_start_226 : decode cX10_start 226 = .ok (.iload_n 1, 1) := by decide +kernel
theorem dX10_start_227 : decode cX10_start 227 = .ok (.iconst 3, 1) := by decide +kernel
theorem dX10_start_228 : decode cX10_start 228 = .ok (.iconst 0, 1) := by decide +kernel
theorem dX10_start_229 : decode cX10_start 229 = .ok (.invokevirtual 113, 3) := by decide +kernel
theorem dX10_start_232 : decode cX10_start 232 = .ok (.aload_n 0, 1) := by decide +kernel
theorem dX10_start_233 : decode cX10_start 233 = .ok (.iload_n 1, 1) := by decide +kernel
theorem dX10_start_234 : decode cX10_start 234 = .ok (.iconst 4, 1) := by decide +kernel
theorem dX10_start_235 : decode cX10_start 235 = .ok (.iconst 2, 1) := by decide +kernel
theorem dX10_start_236 : decode cX10_start 236 = .ok (.invokevirtual 113, 3) := by decide +kernel
theorem dX10_start_239 : decode cX10_start 239 = .ok (.iconst 1, 1) := by decide +kernel
theorem dX10_start_240 : decode cX10_start 240 = .ok (.ireturn, 1) := by decide +kernel
theorem dX10_breakDown_0 : decode cX10_breakDown 0 = .ok (.aload_n 0, 1) := by decide +kernel
theorem dX10_breakDown_1 : decode cX10_breakDown 1 = .ok (.iload_n 1, 1) := by decide +kernel
theorem dX10_breakDown_2 : decode cX10_breakDown 2 = .ok (.invokevirtual 145, 3) := by decide +kernel
theorem dX10_breakDown_5 : decode cX10_breakDown 5 = .ok (.aload_n 0, 1) := by decide +kernel
theorem dX10_breakDown_6 : decode cX10_breakDown 6 = .ok (.iload_n 1, 1) := by decide +kernel
theorem dX10_breakDown_7 : decode cX10_breakDown 7 = .ok (.bipush 26, 2) := by decide +kernel
theorem dX10_breakDown_9 : decode cX10_breakDown 9 = .ok (.invokevirtual 75, 3) := by decide +kernel
theorem dX10_breakDown_12 : decode cX10_breakDown 12 = .ok (.iconst 1, 1) := by decide +kernel
theorem dX10_breakDown_13 : decode cX10_breakDown 13 = .ok (.if_icmp .ne 24, 3) := by decide +kernel
theorem dX10_breakDown_16 : decode cX10_breakDown 16 = .ok (.aload_n 0, 1) := by decide +kernel
theorem dX10_breakDown_17 : decode cX10_breakDown 17 = .ok (.iload_n 1, 1) := by decide +kernel
theorem dX10_breakDown_18 : decode cX10_breakDown 18 = .ok (.invokevirtual 172, 3) := by decide +kernel
theorem dX10_breakDown_21 : decode cX10_breakDown 21 = .ok (.aload_n 0, 1) := by decide +kernel
theorem dX10_breakDown_22 : decode cX10_breakDown 22 = .ok (.iload_n 1, 1) := by decide +kernel
theorem dX10_breakDown_23 : decode cX10_breakDown 23 = .ok (.bipush 39, 2) := by decide +kernel
theorem dX10_breakDown_25 : decode cX10_breakDown 25 = .ok (.aload_n 0, 1) := by decide +kernel
theorem dX10_breakDown_26 : decode cX10_breakDown 26 = .ok (.iload_n 1, 1) := by decide +kernel
theorem dX10_breakDown_27 : decode cX10_breakDown 27 = .ok (.bipush 39, 2) := by decide +kernel
theorem dX10_breakDown_29 : decode cX10_breakDown 29 = .ok (.invokevirtual 75, 3) := by decide +kernel
theorem dX10_breakDown_32 : decode cX10_breakDown 32 = .ok (.iconst 1, 1) := by decide +kernel
theorem dX10_breakDown_33 : decode cX10_breakDown 33 = .ok (.iadd, 1) := by decide +kernel
theorem dX10_breakDown_34 : decode cX10_breakDown 34 = .ok (.invokevirtual 113, 3) := by decide +kernel
theorem dX10_breakDown_37 : decode cX10_breakDown 37 = .ok (.aload_n 0, 1) := by decide +kernel
theorem dX10_breakDown_38 : decode cX10_breakDown 38 = .ok (.iload_n 1, 1) := by decide +kernel
theorem dX10_breakDown_39 : decode cX10_breakDown 39 = .ok (.bipush 31, 2) := by decide +kernel
theorem dX10_breakDown_41 : decode cX10_breakDown 41 = .ok (.iconst 0, 1) := by decide +kernel
theorem dX10_breakDown_42 : decode cX10_breakDown 42 = .ok (.invokevirtual 113, 3) := by decide +kernel
theorem dX10_breakDown_45 : decode cX10_breakDown 45 = .ok (.aload_n 0, 1) := by decide +kernel
theorem dX10_breakDown_46 : decode cX10_breakDown 46 = .ok (.iload_n 1, 1) := by decide +kernel
theorem dX10_breakDown_47 : decode cX10_breakDown 47 = .ok (.bipush 101, 2) := by decide +kernel
theorem dX10_breakDown_49 : decode cX10_breakDown 49 = .ok (.iconst 1, 1) := by decide +kernel
theorem dX10_breakDown_50 : decode cX10_breakDown 50 = .ok (.invokevirtual 113, 3) := by decide +kernel
theorem dX10_breakDown_53 : decode cX10_breakDown 53 = .ok (.aload_n 0, 1) := by decide +kernel
theorem dX10_breakDown_54 : decode cX10_breakDown 54 = .ok (.iload_n 1, 1) := by decide +kernel
theorem dX10_breakDown_55 : decode cX10_breakDown 55 = .ok (.iconst 4, 1) := by decide +kernel
theorem dX10_breakDown_56 : decode cX10_breakDown 56 = .ok (.iconst 4, 1) := by decide +kernel
theorem dX10_breakDown_57 : decode cX10_breakDown 57 = .ok (.invokevirtual 113, 3) := by decide +kernel
theorem dX10_breakDown_60 : decode cX10_breakDown 60 = .ok (.return_, 1) := by decide +kernel
theorem dX10_goes_0 : decode cX10_goes 0 = .ok (.aload_n 0, 1) := by decide +kernel
theorem dX10_goes_1 : decode cX10_goes 1 = .ok (.iload_n 1, 1) := by decide +kernel
theorem dX10_goes_2 : decode cX10_goes 2 = .ok (.bipush 32, 2) := by decide +kernel
theorem dX10_goes_4 : decode cX10_goes 4 = .ok (.aload_n 0, 1) := by decide +kernel
theorem dX10_goes_5 : decode cX10_goes 5 = .ok (.iload_n 1, 1) := by decide +kernel
theorem dX10_goes_6 : decode cX10_goes 6 = .ok (.bipush 32, 2) := by decide +kernel
theorem dX10_goes_8 : decode cX10_goes 8 = .ok (.invokevirtual 75, 3) := by decide +kernel
theorem dX10_goes_11 : decode cX10_goes 11 = .ok (.iconst 1, 1) := by decide +kernel
theorem dX10_goes_12 : decode cX10_goes 12 = .ok (.iadd, 1) := by decide +kernel
theorem dX10_goes_13 : decode cX10_goes 13 = .ok (.invokevirtual 113, 3) := by decide +kernel
theorem dX10_goes_16 : decode cX10_goes 16 = .ok (.iconst 0, 1) := by decide +kernel
theorem dX10_goes_17 : decode cX10_goes 17 = .ok (.istore_n 3, 1) := by decide +kernel
theorem dX10_goes_18 : decode cX10_goes 18 = .ok (.iload_n 3, 1) := by decide +kernel
theorem dX10_goes_19 : decode cX10_goes 19 = .ok (.iconst 3, 1) := by decide +kernel
theorem dX10_goes_20 : decode cX10_goes 20 = .ok (.if_icmp .ge 60, 3) := by decide +kernel
theorem dX10_goes_23 : decode cX10_goes 23 = .ok (.aload_n 0, 1) := by decide +kernel
theorem dX10_goes_24 : decode cX10_goes 24 = .ok (.sipush 11350, 3) := by decide +kernel
theorem dX10_goes_27 : decode cX10_goes 27 = .ok (.iload_n 3, 1) := by decide +kernel
theorem dX10_goes_28 : decode cX10_goes 28 = .ok (.iadd, 1) := by decide +kernel
theorem dX10_goes_29 : decode cX10_goes 29 = .ok (.aload_n 0, 1) := by decide +kernel
theorem dX10_goes_30 : decode cX10_goes 30 = .ok (.getfield 7, 3) := by decide +kernel
theorem dX10_goes_33 : decode cX10_goes 33 = .ok (.sipush 11350, 3) := by decide +kernel
theorem dX10_goes_36 : decode cX10_goes 36 = .ok (.iload_n 3, 1) := by decide +kernel
theorem dX10_goes_37 : decode cX10_goes 37 = .ok (.iadd, 1) := by decide +kernel
theorem dX10_goes_38 : decode cX10_goes 38 = .ok (.iaload, 1) := by decide +kernel
theorem dX10_goes_39 : decode cX10_goes 39 = .ok (.aload_n 0, 1) := by decide +kernel
theorem dX10_goes_40 : decode cX10_goes 40 = .ok (.getfield 47, 3) := by decide +kernel
theorem dX10_goes_43 : decode cX10_goes 43 = .ok (.iload_n 3, 1) := by decide +kernel
theorem dX10_goes_44 : decode cX10_goes 44 = .ok (.iaload, 1) := by decide +kernel
theorem dX10_goes_45 : decode cX10_goes 45 = .ok (.iadd, 1) := by decide +kernel
theorem dX10_goes_46 : decode cX10_goes 46 = .ok (.invokevirtual 67, 3) := by decide +kernel
theorem dX10_goes_49 : decode cX10_goes 49 = .ok (.aload_n 0, 1) := by decide +kernel
theorem dX10_goes_50 : decode cX10_goes 50 = .ok (.iload_n 1, 1) := by decide +kernel
theorem dX10_goes_51 : decode cX10_goes 51 = .ok (.bipush 34, 2) := by decide +kernel
theorem dX10_goes_53 : decode cX10_goes 53 = .ok (.iload_n 3, 1) := by decide +kernel
theorem dX10_goes_54 : decode cX10_goes 54 = .ok (.iadd, 1) := by decide +kernel
theorem dX10_goes_55 : decode cX10_goes 55 = .ok (.aload_n 0, 1) := by decide +kernel
theorem dX10_goes_56 : decode cX10_goes 56 = .ok (.iload_n 1, 1) := by decide +kernel
theorem dX10_goes_57 : decode cX10_goes 57 = .ok (.bipush 34, 2) := by decide +kernel
theorem dX10_goes_59 : decode cX10_goes 59 = .ok (.iload_n 3, 1) := by decide +kernel
theorem dX10_goes_60 : decode cX10_goes 60 = .ok (.iadd, 1) := by decide +kernel
theorem dX10_goes_61 : decode cX10_goes 61 = .ok (.invokevirtual 75, 3) := by decide +kernel
theorem dX10_goes_64 : decode cX10_goes 64 = .ok (.aload_n 0, 1) := by decide +kernel
theorem dX10_goes_65 : decode cX10_goes 65 = .ok (.getfield 47, 3) := by decide +kernel
theorem dX10_goes_68 : decode cX10_goes 68 = .ok (.iload_n 3, 1) := by decide +kernel
theorem dX10_goes_69 : decode cX10_goes 69 = .ok (.iaload, 1) := by decide +kernel
theorem dX10_goes_70 : decode cX10_goes 70 = .ok (.iadd, 1) := by decide +kernel
theorem dX10_goes_71 : decode cX10_goes 71 = .ok (.invokevirtual 113, 3) := by decide +kernel
theorem dX10_goes_74 : decode cX10_goes 74 = .ok (.iinc 3 1, 3) := by decide +kernel
theorem dX10_goes_77 : decode cX10_goes 77 = .ok (.goto (-59), 3) := by decide +kernel
theorem dX10_goes_80 : decode cX10_goes 80 = .ok (.aload_n 0, 1) := by decide +kernel
theorem dX10_goes_81 : decode cX10_goes 81 = .ok (.iload_n 1, 1) := by decide +kernel
theorem dX10_goes_82 : decode cX10_goes 82 = .ok (.iconst 5, 1) := by decide +kernel
theorem dX10_goes_83 : decode cX10_goes 83 = .ok (.aload_n 0, 1) := by decide +kernel
theorem dX10_goes_84 : decode cX10_goes 84 = .ok (.iload_n 1, 1) := by decide +kernel
theorem dX10_goes_85 : decode cX10_goes 85 = .ok (.iconst 5, 1) := by decide +kernel
theorem dX10_goes_86 : decode cX10_goes 86 = .ok (.invokevirtual 75, 3) := by decide +kernel
theorem dX10_goes_89 : decode cX10_goes 89 = .ok (.aload_n 0, 1) := by decide +kernel
theorem dX10_goes_90 : decode cX10_goes 90 = .ok (.getfield 47, 3) := by decide +kernel
theorem dX10_goes_93 : decode cX10_goes 93 = .ok (.iconst 0, 1) := by decide +kernel
theorem dX10_goes_94 : decode cX10_goes 94 = .ok (.iaload, 1) := by decide +kernel
theorem dX10_goes_95 : decode cX10_goes 95 = .ok (.iadd, 1) := by decide +kernel
theorem dX10_goes_96 : decode cX10_goes 96 = .ok (.invokevirtual 113, 3) := by decide +kernel
theorem dX10_goes_99 : decode cX10_goes 99 = .ok (.iload_n 2, 1) := by decide +kernel
theorem dX10_goes_100 : decode cX10_goes 100 = .ok (.iconst 3, 1) := by decide +kernel
theorem dX10_goes_101 : decode cX10_goes 101 = .ok (.if_icmp .ne 32, 3) := by decide +kernel
theorem dX10_goes_104 : decode cX10_goes 104 = .ok (.aload_n 0, 1) := by decide +kernel
theorem dX10_goes_105 : decode cX10_goes 105 = .ok (.sipush 11349, 3) := by decide +kernel
theorem dX10_goes_108 : decode cX10_goes 108 = .ok (.aload_n 0, 1) := by decide +kernel
theorem dX10_goes_109 : decode cX10_goes 109 = .ok (.getfield 7, 3) := by decide +kernel
theorem dX10_goes_112 : decode cX10_goes 112 = .ok (.sipush 11349, 3) := by decide +kernel
theorem dX10_goes_115 : decode cX10_goes 115 = .ok (.iaload, 1) := by decide +kernel
theorem dX10_goes_116 : decode cX10_goes 116 = .ok (.aload_n 0, 1) := by decide +kernel
theorem dX10_goes_117 : decode cX10_goes 117 = .ok (.iload_n 1, 1) := by decide +kernel
theorem dX10_goes_118 : decode cX10_goes 118 = .ok (.iconst 5, 1) := by decide +kernel
theorem dX10_goes_119 : decode cX10_goes 119 = .ok (.invokevirtual 75, 3) := by decide +kernel
theorem dX10_goes_122 : decode cX10_goes 122 = .ok (.iadd, 1) := by decide +kernel
theorem dX10_goes_123 : decode cX10_goes 123 = .ok (.invokevirtual 67, 3) := by decide +kernel
theorem dX10_goes_126 : decode cX10_goes 126 = .ok (.aload_n 0, 1) := by decide +kernel
theorem dX10_goes_127 : decode cX10_goes 127 = .ok (.iload_n 1, 1) := by decide +kernel
theorem dX10_goes_128 : decode cX10_goes 128 = .ok (.iconst 5, 1) := by decide +kernel
theorem dX10_goes_129 : decode cX10_goes 129 = .ok (.iconst 0, 1) := by decide +kernel
theorem dX10_goes_130 : decode cX10_goes 130 = .ok (.invokevirtual 113, 3) := by decide +kernel
theorem dX10_goes_133 : decode cX10_goes 133 = .ok (.iload_n 2, 1) := by decide +kernel
theorem dX10_goes_134 : decode cX10_goes 134 = .ok (.iconst 1, 1) := by decide +kernel
theorem dX10_goes_135 : decode cX10_goes 135 = .ok (.if_icmp .ne 24, 3) := by decide +kernel
theorem dX10_goes_138 : decode cX10_goes 138 = .ok (.aload_n 0, 1) := by decide +kernel
theorem dX10_goes_139 : decode cX10_goes 139 = .ok (.iload_n 1, 1) := by decide +kernel
theorem dX10_goes_140 : decode cX10_goes 140 = .ok (.bipush 37, 2) := by decide +kernel
theorem dX10_goes_142 : decode cX10_goes 142 = .ok (.aload_n 0, 1) := by decide +kernel
theorem dX10_goes_143 : decode cX10_goes 143 = .ok (.iload_n 1, 1) := by decide +kernel
theorem dX10_goes_144 : decode cX10_goes 144 = .ok (.bipush 37, 2) := by decide +kernel
theorem dX10_goes_146 : decode cX10_goes 146 = .ok (.invokevirtual 75, 3) := by decide +kernel
theorem dX10_goes_149 : decode cX10_goes 149 = .ok (.aload_n 0, 1) := by decide +kernel
theorem dX10_goes_150 : decode cX10_goes 150 = .ok (.iload_n 1, 1) := by decide +kernel
theorem dX10_goes_151 : decode cX10_goes 151 = .ok (.iconst 1, 1) := by decide +kernel
theorem dX10_goes_152 : decode cX10_goes 152 = .ok (.invokevirtual 129, 3) := by decide +kernel
theorem dX10_goes_155 : decode cX10_goes 155 = .ok (.iadd, 1) := by decide +kernel
theorem dX10_goes_156 : decode cX10_goes 156 = .ok (.invokevirtual 113, 3) := by decide +kernel
theorem dX10_goes_159 : decode cX10_goes 159 = .ok (.aload_n 0, 1) := by decide +kernel
theorem dX10_goes_160 : decode cX10_goes 160 = .ok (.iload_n 1, 1) := by decide +kernel
theorem dX10_goes_161 : decode cX10_goes 161 = .ok (.bipush 30, 2) := by decide +kernel
theorem dX10_goes_163 : decode cX10_goes 163 = .ok (.iconst 0, 1) := by decide +kernel
theorem dX10_goes_164 : decode cX10_goes 164 = .ok (.invokevirtual 113, 3) := by decide +kernel
theorem dX10_goes_167 : decode cX10_goes 167 = .ok (.aload_n 0, 1) := by decide +kernel
theorem dX10_goes_168 : decode cX10_goes 168 = .ok (.iload_n 1, 1) := by decide +kernel
theorem dX10_goes_169 : decode cX10_goes 169 = .ok (.iconst 4, 1) := by decide +kernel
theorem dX10_goes_170 : decode cX10_goes 170 = .ok (.iconst 2, 1) := by decide +kernel
theorem dX10_goes_171 : decode cX10_goes 171 = .ok (.invokevirtual 113, 3) := by decide +kernel
theorem dX10_goes_174 : decode cX10_goes 174 = .ok (.aload_n 0, 1) := by decide +kernel
theorem dX10_goes_175 : decode cX10_goes 175 = .ok (.iload_n 1, 1) := by decide +kernel
theorem dX10_goes_176 : decode cX10_goes 176 = .ok (.bipush 29, 2) := by decide +kernel
theorem dX10_goes_178 : decode cX10_goes 178 = .ok (.aload_n 0, 1) := by decide +kernel
theorem dX10_goes_179 : decode cX10_goes 179 = .ok (.iload_n 1, 1) := by decide +kernel
theorem dX10_goes_180 : decode cX10_goes 180 = .ok (.bipush 29, 2) := by decide +kernel
theorem dX10_goes_182 : decode cX10_goes 182 = .ok (.invokevirtual 75, 3) := by decide +kernel
theorem dX10_goes_185 : decode cX10_goes 185 = .ok (.iconst 1, 1) := by decide +kernel
theorem dX10_goes_186 : decode cX10_goes 186 = .ok (.isub, 1) := by decide +kernel
theorem dX10_goes_187 : decode cX10_goes 187 = .ok (.invokevirtual 113, 3) := by decide +kernel
theorem dX10_goes_190 : decode cX10_goes 190 = .ok (.aload_n 0, 1) := by decide +kernel
theorem dX10_goes_191 : decode cX10_goes 191 = .ok (.iload_n 1, 1) := by decide +kernel
theorem dX10_goes_192 : decode cX10_goes 192 = .ok (.bipush 29, 2) := by decide +kernel
theorem dX10_goes_194 : decode cX10_goes 194 = .ok (.invokevirtual 75, 3) := by decide +kernel
theorem dX10_goes_197 : decode cX10_goes 197 = .ok (.ifCond .ne 66, 3) := by decide +kernel
theorem dX10_goes_200 : decode cX10_goes 200 = .ok (.aload_n 0, 1) := by decide +kernel
theorem dX10_goes_201 : decode cX10_goes 201 = .ok (.iload_n 1, 1) := by decide +kernel
theorem dX10_goes_202 : decode cX10_goes 202 = .ok (.bipush 28, 2) := by decide +kernel
theorem dX10_goes_204 : decode cX10_goes 204 = .ok (.aload_n 0, 1) := by decide +kernel
theorem dX10_goes_205 : decode cX10_goes 205 = .ok (.iload_n 1, 1) := by decide +kernel
theorem dX10_goes_206 : decode cX10_goes 206 = .ok (.bipush 28, 2) := by decide +kernel
theorem dX10_goes_208 : decode cX10_goes 208 = .ok (.invokevirtual 75, 3) := by decide +kernel
theorem dX10_goes_211 : decode cX10_goes 211 = .ok (.iconst 1, 1) := by decide +kernel
theorem dX10_goes_212 : decode cX10_goes 212 = .ok (.iadd, 1) := by decide +kernel
theorem dX10_goes_213 : decode cX10_goes 213 = .ok (.invokevirtual 113, 3) := by decide +kernel
theorem dX10_goes_216 : decode cX10_goes 216 = .ok (.aload_n 0, 1) := by decide +kernel
theorem dX10_goes_217 : decode cX10_goes 217 = .ok (.iload_n 1, 1) := by decide +kernel
theorem dX10_goes_218 : decode cX10_goes 218 = .ok (.bipush 28, 2) := by decide +kernel
theorem dX10_goes_220 : decode cX10_goes 220 = .ok (.invokevirtual 75, 3) := by decide +kernel
theorem dX10_goes_223 : decode cX10_goes 223 = .ok (.aload_n 0, 1) := by decide +kernel
theorem dX10_goes_224 : decode cX10_goes 224 = .ok (.iload_n 1, 1) := by decide +kernel
theorem dX10_goes_225 : decode cX10_goes 225 = .ok (.bipush 27, 2) := by decide +kernel
theorem dX10_goes_227 : decode cX10_goes 227 = .ok (.invokevirtual 75, 3) := by decide +kernel
theorem dX10_goes_230 : decode cX10_goes 230 = .ok (.if_icmp .ne 11, 3) := by decide +kernel
theorem dX10_goes_233 : decode cX10_goes 233 = .ok (.aload_n 0, 1) := by decide +kernel
theorem dX10_goes_234 : decode cX10_goes 234 = .ok (.iload_n 1, 1) := by decide +kernel
theorem dX10_goes_235 : decode cX10_goes 235 = .ok (.invokevirtual 172, 3) := by decide +kernel
theorem dX10_goes_238 : decode cX10_goes 238 = .ok (.goto 25, 3) := by decide +kernel
theorem dX10_goes_241 : decode cX10_goes 241 = .ok (.aload_n 0, 1) := by decide +kernel
theorem dX10_goes_242 : decode cX10_goes 242 = .ok (.iload_n 1, 1) := by decide +kernel
theorem dX10_goes_243 : decode cX10_goes 243 = .ok (.bipush 29, 2) := by decide +kernel
theorem dX10_goes_245 : decode cX10_goes 245 = .ok (.aload_n 0, 1) := by decide +kernel
theorem dX10_goes_246 : decode cX10_goes 246 = .ok (.iload_n 1, 1) := by decide +kernel
theorem dX10_goes_247 : decode cX10_goes 247 = .ok (.bipush 71, 2) := by decide +kernel
theorem dX10_goes_249 : decode cX10_goes 249 = .ok (.aload_n 0, 1) := by decide +kernel
theorem dX10_goes_250 : decode cX10_goes 250 = .ok (.iload_n 1, 1) := by decide +kernel
theorem dX10_goes_251 : decode cX10_goes 251 = .ok (.bipush 28, 2) := by decide +kernel
theorem dX10_goes_253 : decode cX10_goes 253 = .ok (.invokevirtual 75, 3) := by decide +kernel
theorem dX10_goes_256 : decode cX10_goes 256 = .ok (.iadd, 1) := by decide +kernel
theorem dX10_goes_257 : decode cX10_goes 257 = .ok (.invokevirtual 75, 3) := by decide +kernel
theorem dX10_goes_260 : decode cX10_goes 260 = .ok (.invokevirtual 113, 3) := by decide +kernel
theorem dX10_goes_263 : decode cX10_goes 263 = .ok (.return_, 1) := by decide +kernel
theorem dX10_goesOrWaits_0 : decode cX10_goesOrWaits 0 = .ok (.aload_n 0, 1) := by decide +kernel
theorem dX10_goesOrWaits_1 : decode cX10_goesOrWaits 1 = .ok (.iload_n 1, 1) := by decide +kernel
theorem dX10_goesOrWaits_2 : decode cX10_goesOrWaits 2 = .ok (.invokevirtual 145, 3) := by decide +kernel
theorem dX10_goesOrWaits_5 : decode cX10_goesOrWaits 5 = .ok (.aload_n 0, 1) := by decide +kernel
theorem dX10_goesOrWaits_6 : decode cX10_goesOrWaits 6 = .ok (.iload_n 1, 1) := by decide +kernel
theorem dX10_goesOrWaits_7 : decode cX10_goesOrWaits 7 = .ok (.bipush 41, 2) := by decide +kernel
theorem dX10_goesOrWaits_9 : decode cX10_goesOrWaits 9 = .ok (.aload_n 0, 1) := by decide +kernel
theorem dX10_goesOrWaits_10 : decode cX10_goesOrWaits 10 = .ok (.iload_n 1, 1) := by decide +kernel
theorem dX10_goesOrWaits_11 : decode cX10_goesOrWaits 11 = .ok (.bipush 28, 2) := by decide +kernel
theorem dX10_goesOrWaits_13 : decode cX10_goesOrWaits 13 = .ok (.invokevirtual 75, 3) := by decide +kernel
theorem dX10_goesOrWaits_16 : decode cX10_goesOrWaits 16 = .ok (.iadd, 1) := by decide +kernel
theorem dX10_goesOrWaits_17 : decode cX10_goesOrWaits 17 = .ok (.invokevirtual 75, 3) := by decide +kernel
theorem dX10_goesOrWaits_20 : decode cX10_goesOrWaits 20 = .ok (.istore_n 2, 1) := by decide +kernel
theorem dX10_goesOrWaits_21 : decode cX10_goesOrWaits 21 = .ok (.aload_n 0, 1) := by decide +kernel
theorem dX10_goesOrWaits_22 : decode cX10_goesOrWaits 22 = .ok (.iload_n 1, 1) := by decide +kernel
theorem dX10_goesOrWaits_23 : decode cX10_goesOrWaits 23 = .ok (.iload_n 2, 1) := by decide +kernel
theorem dX10_goesOrWaits_24 : decode cX10_goesOrWaits 24 = .ok (.invokevirtual 166, 3) := by decide +kernel
theorem dX10_goesOrWaits_27 : decode cX10_goesOrWaits 27 = .ok (.iconst 1, 1) := by decide +kernel
theorem dX10_goesOrWaits_28 : decode cX10_goesOrWaits 28 = .ok (.istore_n 3, 1) := by decide +kernel
theorem dX10_goesOrWaits_29 : decode cX10_goesOrWaits 29 = .ok (.iconst 0, 1) := by decide +kernel
theorem dX10_goesOrWaits_30 : decode cX10_goesOrWaits 30 = .ok (.istore 4, 2) := by decide +kernel
theorem dX10_goesOrWaits_32 : decode cX10_goesOrWaits 32 = .ok (.iload 4, 2) := by decide +kernel
theorem dX10_goesOrWaits_34 : decode cX10_goesOrWaits 34 = .ok (.iconst 3, 1) := by decide +kernel
theorem dX10_goesOrWaits_35 : decode cX10_goesOrWaits 35 = .ok (.if_icmp .ge 50, 3) := by decide +kernel
theorem dX10_goesOrWaits_38 : decode cX10_goesOrWaits 38 = .ok (.iload_n 3, 1) := by decide +kernel
theorem dX10_goesOrWaits_39 : decode cX10_goesOrWaits 39 = .ok (.aload_n 0, 1) := by decide +kernel
theorem dX10_goesOrWaits_40 : decode cX10_goesOrWaits 40 = .ok (.getfield 7, 3) := by decide +kernel
theorem dX10_goesOrWaits_43 : decode cX10_goesOrWaits 43 = .ok (.sipush 11350, 3) := by decide +kernel
theorem dX10_goesOrWaits_46 : decode cX10_goesOrWaits 46 = .ok (.iload 4, 2) := by decide +kernel
theorem dX10_goesOrWaits_48 : decode cX10_goesOrWaits 48 = .ok (.iadd, 1) := by decide +kernel
theorem dX10_goesOrWaits_49 : decode cX10_goesOrWaits 49 = .ok (.iaload, 1) := by decide +kernel
theorem dX10_goesOrWaits_50 : decode cX10_goesOrWaits 50 = .ok (.aload_n 0, 1) := by decide +kernel
theorem dX10_goesOrWaits_51 : decode cX10_goesOrWaits 51 = .ok (.getfield 47, 3) := by decide +kernel
theorem dX10_goesOrWaits_54 : decode cX10_goesOrWaits 54 = .ok (.iload 4, 2) := by decide +kernel
theorem dX10_goesOrWaits_56 : decode cX10_goesOrWaits 56 = .ok (.iaload, 1) := by decide +kernel
theorem dX10_goesOrWaits_57 : decode cX10_goesOrWaits 57 = .ok (.iadd, 1) := by decide +kernel
theorem dX10_goesOrWaits_58 : decode cX10_goesOrWaits 58 = .ok (.aload_n 0, 1) := by decide +kernel
theorem dX10_goesOrWaits_59 : decode cX10_goesOrWaits 59 = .ok (.getfield 7, 3) := by decide +kernel
theorem dX10_goesOrWaits_62 : decode cX10_goesOrWaits 62 = .ok (.sipush 11353, 3) := by decide +kernel
theorem dX10_goesOrWaits_65 : decode cX10_goesOrWaits 65 = .ok (.iload 4, 2) := by decide +kernel
theorem dX10_goesOrWaits_67 : decode cX10_goesOrWaits 67 = .ok (.iadd, 1) := by decide +kernel
theorem dX10_goesOrWaits_68 : decode cX10_goesOrWaits 68 = .ok (.iaload, 1) := by decide +kernel
theorem dX10_goesOrWaits_69 : decode cX10_goesOrWaits 69 = .ok (.if_icmp .gt 7, 3) := by decide +kernel
theorem dX10_goesOrWaits_72 : decode cX10_goesOrWaits 72 = .ok (.iconst 1, 1) := by decide +kernel
theorem dX10_goesOrWaits_73 : decode cX10_goesOrWaits 73 = .ok (.goto 4, 3) := by decide +kernel
theorem dX10_goesOrWaits_76 : decode cX10_goesOrWaits 76 = .ok (.iconst 0, 1) := by decide +kernel
theorem dX10_goesOrWaits_77 : decode cX10_goesOrWaits 77 = .ok (.iand, 1) := by decide +kernel
theorem dX10_goesOrWaits_78 : decode cX10_goesOrWaits 78 = .ok (.istore_n 3, 1) := by decide +kernel
theorem dX10_goesOrWaits_79 : decode cX10_goesOrWaits 79 = .ok (.iinc 4 1, 3) := by decide +kernel
theorem dX10_goesOrWaits_82 : decode cX10_goesOrWaits 82 = .ok (.goto (-50), 3) := by decide +kernel
theorem dX10_goesOrWaits_85 : decode cX10_goesOrWaits 85 = .ok (.iload_n 3, 1) := by decide +kernel
theorem dX10_goesOrWaits_86 : decode cX10_goesOrWaits 86 = .ok (.ifCond .eq 12, 3) := by decide +kernel
theorem dX10_goesOrWaits_89 : decode cX10_goesOrWaits 89 = .ok (.aload_n 0, 1) := by decide +kernel
theorem dX10_goesOrWaits_90 : decode cX10_goesOrWaits 90 = .ok (.iload_n 1, 1) := by decide +kernel
theorem dX10_goesOrWaits_91 : decode cX10_goesOrWaits 91 = .ok (.iload_n 2, 1) := by decide +kernel
theorem dX10_goesOrWaits_92 : decode cX10_goesOrWaits 92 = .ok (.invokevirtual 175, 3) := by decide +kernel
theorem dX10_goesOrWaits_95 : decode cX10_goesOrWaits 95 = .ok (.goto 42, 3) := by decide +kernel
theorem dX10_goesOrWaits_98 : decode cX10_goesOrWaits 98 = .ok (.aload_n 0, 1) := by decide +kernel
theorem dX10_goesOrWaits_99 : decode cX10_goesOrWaits 99 = .ok (.iload_n 1, 1) := by decide +kernel
theorem dX10_goesOrWaits_100 : decode cX10_goesOrWaits 100 = .ok (.bipush 33, 2) := by decide +kernel
theorem dX10_goesOrWaits_102 : decode cX10_goesOrWaits 102 = .ok (.aload_n 0, 1) := by decide +kernel
theorem dX10_goesOrWaits_103 : decode cX10_goesOrWaits 103 = .ok (.iload_n 1, 1) := by decide +kernel
theorem dX10_goesOrWaits_104 : decode cX10_goesOrWaits 104 = .ok (.bipush 33, 2) := by decide +kernel
theorem dX10_goesOrWaits_106 : decode cX10_goesOrWaits 106 = .ok (.invokevirtual 75, 3) := by decide +kernel
theorem dX10_goesOrWaits_109 : decode cX10_goesOrWaits 109 = .ok (.iconst 1, 1) := by decide +kernel
theorem dX10_goesOrWaits_110 : decode cX10_goesOrWaits 110 = .ok (.iadd, 1) := by decide +kernel
theorem dX10_goesOrWaits_111 : decode cX10_goesOrWaits 111 = .ok (.invokevirtual 113, 3) := by decide +kernel
theorem dX10_goesOrWaits_114 : decode cX10_goesOrWaits 114 = .ok (.aload_n 0, 1) := by decide +kernel
theorem dX10_goesOrWaits_115 : decode cX10_goesOrWaits 115 = .ok (.iload_n 1, 1) := by decide +kernel
theorem dX10_goesOrWaits_116 : decode cX10_goesOrWaits 116 = .ok (.bipush 30, 2) := by decide +kernel
theorem dX10_goesOrWaits_118 : decode cX10_goesOrWaits 118 = .ok (.aload_n 0, 1) := by decide +kernel
theorem dX10_goesOrWaits_119 : decode cX10_goesOrWaits 119 = .ok (.iload_n 1, 1) := by decide +kernel
theorem dX10_goesOrWaits_120 : decode cX10_goesOrWaits 120 = .ok (.bipush 30, 2) := by decide +kernel
theorem dX10_goesOrWaits_122 : decode cX10_goesOrWaits 122 = .ok (.invokevirtual 75, 3) := by decide +kernel
theorem dX10_goesOrWaits_125 : decode cX10_goesOrWaits 125 = .ok (.iconst 1, 1) := by decide +kernel
theorem dX10_goesOrWaits_126 : decode cX10_goesOrWaits 126 = .ok (.iadd, 1) := by decide +kernel
theorem dX10_goesOrWaits_127 : decode cX10_goesOrWaits 127 = .ok (.invokevirtual 113, 3) := by decide +kernel
theorem dX10_goesOrWaits_130 : decode cX10_goesOrWaits 130 = .ok (.aload_n 0, 1) := by decide +kernel
theorem dX10_goesOrWaits_131 : decode cX10_goesOrWaits 131 = .ok (.iload_n 1, 1) := by decide +kernel
theorem dX10_goesOrWaits_132 : decode cX10_goesOrWaits 132 = .ok (.iconst 4, 1) := by decide +kernel
theorem dX10_goesOrWaits_133 : decode cX10_goesOrWaits 133 = .ok (.iconst 3, 1) := by decide +kernel
theorem dX10_goesOrWaits_134 : decode cX10_goesOrWaits 134 = .ok (.invokevirtual 113, 3) := by decide +kernel
theorem dX10_goesOrWaits_137 : decode cX10_goesOrWaits 137 = .ok (.return_, 1) := by decide +kernel
theorem dX10_oneMinute_0 : decode cX10_oneMinute 0 = .ok (.aload_n 0, 1) := by decide +kernel
theorem dX10_oneMinute_1 : decode cX10_oneMinute 1 = .ok (.getfield 7, 3) := by decide +kernel
theorem dX10_oneMinute_4 : decode cX10_oneMinute 4 = .ok (.sipush 11344, 3) := by decide +kernel
theorem dX10_oneMinute_7 : decode cX10_oneMinute 7 = .ok (.iaload, 1) := by decide +kernel
theorem dX10_oneMinute_8 : decode cX10_oneMinute 8 = .ok (.ifCond .ne 18, 3) := by decide +kernel
theorem dX10_oneMinute_11 : decode cX10_oneMinute 11 = .ok (.aload_n 0, 1) := by decide +kernel
theorem dX10_oneMinute_12 : decode cX10_oneMinute 12 = .ok (.getfield 20, 3) := by decide +kernel
theorem dX10_oneMinute_15 : decode cX10_oneMinute 15 = .ok (.iconst 0, 1) := by decide +kernel
theorem dX10_oneMinute_16 : decode cX10_oneMinute 16 = .ok (.aload_n 0, 1) := by decide +kernel
theorem dX10_oneMinute_17 : decode cX10_oneMinute 17 = .ok (.getfield 57, 3) := by decide +kernel
theorem dX10_oneMinute_20 : decode cX10_oneMinute 20 = .ok (.iastore, 1) := by decide +kernel
theorem dX10_oneMinute_21 : decode cX10_oneMinute 21 = .ok (.aload_n 0, 1) := by decide +kernel
theorem dX10_oneMinute_22 : decode cX10_oneMinute 22 = .ok (.iconst 0, 1) := by decide +kernel
theorem dX10_oneMinute_23 : decode cX10_oneMinute 23 = .ok (.putfield 178, 3) := by decide +kernel
theorem dX10_oneMinute_26 : decode cX10_oneMinute 26 = .ok (.aload_n 0, 1) := by decide +kernel
theorem dX10_oneMinute_27 : decode cX10_oneMinute 27 = .ok (.sipush 11344, 3) := by decide +kernel
theorem dX10_oneMinute_30 : decode cX10_oneMinute 30 = .ok (.aload_n 0, 1) := by decide +kernel
theorem dX10_oneMinute_31 : decode cX10_oneMinute 31 = .ok (.getfield 7, 3) := by decide +kernel
theorem dX10_oneMinute_34 : decode cX10_oneMinute 34 = .ok (.sipush 11344, 3) := by decide +kernel
theorem dX10_oneMinute_37 : decode cX10_oneMinute 37 = .ok (.iaload, 1) := by decide +kernel
theorem dX10_oneMinute_38 : decode cX10_oneMinute 38 = .ok (.iconst 1, 1) := by decide +kernel
theorem dX10_oneMinute_39 : decode cX10_oneMinute 39 = .ok (.iadd, 1) := by decide +kernel
theorem dX10_oneMinute_40 : decode cX10_oneMinute 40 = .ok (.invokevirtual 67, 3) := by decide +kernel
theorem dX10_oneMinute_43 : decode cX10_oneMinute 43 = .ok (.iconst 0, 1) := by decide +kernel
theorem dX10_oneMinute_44 : decode cX10_oneMinute 44 = .ok (.istore_n 1, 1) := by decide +kernel
theorem dX10_oneMinute_45 : decode cX10_oneMinute 45 = .ok (.iload_n 1, 1) := by decide +kernel
theorem dX10_oneMinute_46 : decode cX10_oneMinute 46 = .ok (.bipush 60, 2) := by decide +kernel
theorem dX10_oneMinute_48 : decode cX10_oneMinute 48 = .ok (.if_icmp .ge 40, 3) := by decide +kernel
theorem dX10_oneMinute_51 : decode cX10_oneMinute 51 = .ok (.aload_n 0, 1) := by decide +kernel
theorem dX10_oneMinute_52 : decode cX10_oneMinute 52 = .ok (.iload_n 1, 1) := by decide +kernel
theorem dX10_oneMinute_53 : decode cX10_oneMinute 53 = .ok (.invokevirtual 110, 3) := by decide +kernel
theorem dX10_oneMinute_56 : decode cX10_oneMinute 56 = .ok (.ifCond .eq 26, 3) := by decide +kernel
theorem dX10_oneMinute_59 : decode cX10_oneMinute 59 = .ok (.aload_n 0, 1) := by decide +kernel
theorem dX10_oneMinute_60 : decode cX10_oneMinute 60 = .ok (.iload_n 1, 1) := by decide +kernel
theorem dX10_oneMinute_61 : decode cX10_oneMinute 61 = .ok (.bipush 31, 2) := by decide +kernel
theorem dX10_oneMinute_63 : decode cX10_oneMinute 63 = .ok (.invokevirtual 75, 3) := by decide +kernel
theorem dX10_oneMinute_66 : decode cX10_oneMinute 66 = .ok (.aload_n 0, 1) := by decide +kernel
theorem dX10_oneMinute_67 : decode cX10_oneMinute 67 = .ok (.getfield 7, 3) := by decide +kernel
theorem dX10_oneMinute_70 : decode cX10_oneMinute 70 = .ok (.sipush 11344, 3) := by decide +kernel
theorem dX10_oneMinute_73 : decode cX10_oneMinute 73 = .ok (.iaload, 1) := by decide +kernel
theorem dX10_oneMinute_74 : decode cX10_oneMinute 74 = .ok (.if_icmp .ne 8, 3) := by decide +kernel
theorem dX10_oneMinute_77 : decode cX10_oneMinute 77 = .ok (.aload_n 0, 1) := by decide +kernel
theorem dX10_oneMinute_78 : decode cX10_oneMinute 78 = .ok (.iload_n 1, 1) := by decide +kernel
theorem dX10_oneMinute_79 : decode cX10_oneMinute 79 = .ok (.invokevirtual 181, 3) := by decide +kernel
theorem dX10_oneMinute_82 : decode cX10_oneMinute 82 = .ok (.iinc 1 1, 3) := by decide +kernel
theorem dX10_oneMinute_85 : decode cX10_oneMinute 85 = .ok (.goto (-40), 3) := by decide +kernel
theorem dX10_oneMinute_88 : decode cX10_oneMinute 88 = .ok (.iconst 0, 1) := by decide +kernel
theorem dX10_oneMinute_89 : decode cX10_oneMinute 89 = .ok (.istore_n 1, 1) := by decide +kernel
theorem dX10_oneMinute_90 : decode cX10_oneMinute 90 = .ok (.iload_n 1, 1) := by decide +kernel
theorem dX10_oneMinute_91 : decode cX10_oneMinute 91 = .ok (.iconst 3, 1) := by decide +kernel
theorem dX10_oneMinute_92 : decode cX10_oneMinute 92 = .ok (.if_icmp .ge 19, 3) := by decide +kernel
theorem dX10_oneMinute_95 : decode cX10_oneMinute 95 = .ok (.aload_n 0, 1) := by decide +kernel
theorem dX10_oneMinute_96 : decode cX10_oneMinute 96 = .ok (.sipush 11350, 3) := by decide +kernel
theorem dX10_oneMinute_99 : decode cX10_oneMinute 99 = .ok (.iload_n 1, 1) := by decide +kernel
theorem dX10_oneMinute_100 : decode cX10_oneMinute 100 = .ok (.iadd, 1) := by decide +kernel
theorem dX10_oneMinute_101 : decode cX10_oneMinute 101 = .ok (.iconst 0, 1) := by decide +kernel
theorem dX10_oneMinute_102 : decode cX10_oneMinute 102 = .ok (.invokevirtual 67, 3) := by decide +kernel
theorem dX10_oneMinute_105 : decode cX10_oneMinute 105 = .ok (.iinc 1 1, 3) := by decide +kernel
theorem dX10_oneMinute_108 : decode cX10_oneMinute 108 = .ok (.goto (-18), 3) := by decide +kernel
theorem dX10_oneMinute_111 : decode cX10_oneMinute 111 = .ok (.iconst 0, 1) := by decide +kernel
theorem dX10_oneMinute_112 : decode cX10_oneMinute 112 = .ok (.istore_n 1, 1) := by decide +kernel
theorem dX10_oneMinute_113 : decode cX10_oneMinute 113 = .ok (.iconst 0, 1) := by decide +kernel
theorem dX10_oneMinute_114 : decode cX10_oneMinute 114 = .ok (.istore_n 2, 1) := by decide +kernel
theorem dX10_oneMinute_115 : decode cX10_oneMinute 115 = .ok (.iload_n 2, 1) := by decide +kernel
theorem dX10_oneMinute_116 : decode cX10_oneMinute 116 = .ok (.bipush 60, 2) := by decide +kernel
theorem dX10_oneMinute_118 : decode cX10_oneMinute 118 = .ok (.if_icmp .ge 67, 3) := by decide +kernel
theorem dX10_oneMinute_121 : decode cX10_oneMinute 121 = .ok (.aload_n 0, 1) := by decide +kernel
theorem dX10_oneMinute_122 : decode cX10_oneMinute 122 = .ok (.iload_n 2, 1) := by decide +kernel
theorem dX10_oneMinute_123 : decode cX10_oneMinute 123 = .ok (.invokevirtual 110, 3) := by decide +kernel
theorem dX10_oneMinute_126 : decode cX10_oneMinute 126 = .ok (.ifCond .eq 18, 3) := by decide +kernel
theorem dX10_oneMinute_129 : decode cX10_oneMinute 129 = .ok (.aload_n 0, 1) := by decide +kernel
theorem dX10_oneMinute_130 : decode cX10_oneMinute 130 = .ok (.iload_n 2, 1) := by decide +kernel
theorem dX10_oneMinute_131 : decode cX10_oneMinute 131 = .ok (.bipush 26, 2) := by decide +kernel
theorem dX10_oneMinute_133 : decode cX10_oneMinute 133 = .ok (.invokevirtual 75, 3) := by decide +kernel
theorem dX10_oneMinute_136 : decode cX10_oneMinute 136 = .ok (.iconst 1, 1) := by decide +kernel
theorem dX10_oneMinute_137 : decode cX10_oneMinute 137 = .ok (.if_icmp .ne 7, 3) := by decide +kernel
theorem dX10_oneMinute_140 : decode cX10_oneMinute 140 = .ok (.iconst 1, 1) := by decide +kernel
theorem dX10_oneMinute_141 : decode cX10_oneMinute 141 = .ok (.goto 4, 3) := by decide +kernel
theorem dX10_oneMinute_144 : decode cX10_oneMinute 144 = .ok (.iconst 0, 1) := by decide +kernel
theorem dX10_oneMinute_145 : decode cX10_oneMinute 145 = .ok (.istore_n 3, 1) := by decide +kernel
theorem dX10_oneMinute_146 : decode cX10_oneMinute 146 = .ok (.aload_n 0, 1) := by decide +kernel
theorem dX10_oneMinute_147 : decode cX10_oneMinute 147 = .ok (.getfield 50, 3) := by decide +kernel
theorem dX10_oneMinute_150 : decode cX10_oneMinute 150 = .ok (.iload_n 2, 1) := by decide +kernel
theorem dX10_oneMinute_151 : decode cX10_oneMinute 151 = .ok (.iload_n 3, 1) := by decide +kernel
theorem dX10_oneMinute_152 : decode cX10_oneMinute 152 = .ok (.ifCond .eq 13, 3) := by decide +kernel
theorem dX10_oneMinute_155 : decode cX10_oneMinute 155 = .ok (.aload_n 0, 1) := by decide +kernel
theorem dX10_oneMinute_156 : decode cX10_oneMinute 156 = .ok (.iload_n 2, 1) := by decide +kernel
theorem dX10_oneMinute_157 : decode cX10_oneMinute 157 = .ok (.bipush 30, 2) := by decide +kernel
theorem dX10_oneMinute_159 : decode cX10_oneMinute 159 = .ok (.invokevirtual 75, 3) := by decide +kernel
theorem dX10_oneMinute_162 : decode cX10_oneMinute 162 = .ok (.goto 4, 3) := by decide +kernel
theorem dX10_oneMinute_165 : decode cX10_oneMinute 165 = .ok (.iconst (-1), 1) := by decide +kernel
theorem dX10_oneMinute_166 : decode cX10_oneMinute 166 = .ok (.iastore, 1) := by decide +kernel
theorem dX10_oneMinute_167 : decode cX10_oneMinute 167 = .ok (.iload_n 1, 1) := by decide +kernel
theorem dX10_oneMinute_168 : decode cX10_oneMinute 168 = .ok (.iload_n 3, 1) := by decide +kernel
theorem dX10_oneMinute_169 : decode cX10_oneMinute 169 = .ok (.ifCond .eq 7, 3) := by decide +kernel
theorem dX10_oneMinute_172 : decode cX10_oneMinute 172 = .ok (.iconst 1, 1) := by decide +kernel
theorem dX10_oneMinute_173 : decode cX10_oneMinute 173 = .ok (.goto 4, 3) := by decide +kernel
theorem dX10_oneMinute_176 : decode cX10_oneMinute 176 = .ok (.iconst 0, 1) := by decide +kernel
theorem dX10_oneMinute_177 : decode cX10_oneMinute 177 = .ok (.iadd, 1) := by decide +kernel
theorem dX10_oneMinute_178 : decode cX10_oneMinute 178 = .ok (.istore_n 1, 1) := by decide +kernel
theorem dX10_oneMinute_179 : decode cX10_oneMinute 179 = .ok (.iinc 2 1, 3) := by decide +kernel
theorem dX10_oneMinute_182 : decode cX10_oneMinute 182 = .ok (.goto (-67), 3) := by decide +kernel
theorem dX10_oneMinute_185 : decode cX10_oneMinute 185 = .ok (.iconst 0, 1) := by decide +kernel
theorem dX10_oneMinute_186 : decode cX10_oneMinute 186 = .ok (.istore_n 2, 1) := by decide +kernel
theorem dX10_oneMinute_187 : decode cX10_oneMinute 187 = .ok (.iload_n 2, 1) := by decide +kernel
theorem dX10_oneMinute_188 : decode cX10_oneMinute 188 = .ok (.iload_n 1, 1) := by decide +kernel
theorem dX10_oneMinute_189 : decode cX10_oneMinute 189 = .ok (.if_icmp .ge 62, 3) := by decide +kernel
theorem dX10_oneMinute_192 : decode cX10_oneMinute 192 = .ok (.iconst 0, 1) := by decide +kernel
theorem dX10_oneMinute_193 : decode cX10_oneMinute 193 = .ok (.istore_n 3, 1) := by decide +kernel
theorem dX10_oneMinute_194 : decode cX10_oneMinute 194 = .ok (.iconst 1, 1) := by decide +kernel
theorem dX10_oneMinute_195 : decode cX10_oneMinute 195 = .ok (.istore 4, 2) := by decide +kernel
theorem dX10_oneMinute_197 : decode cX10_oneMinute 197 = .ok (.iload 4, 2) := by decide +kernel
theorem dX10_oneMinute_199 : decode cX10_oneMinute 199 = .ok (.bipush 60, 2) := by decide +kernel
theorem dX10_oneMinute_201 : decode cX10_oneMinute 201 = .ok (.if_icmp .ge 32, 3) := by decide +kernel
theorem dX10_oneMinute_204 : decode cX10_oneMinute 204 = .ok (.aload_n 0, 1) := by decide +kernel
theorem dX10_oneMinute_205 : decode cX10_oneMinute 205 = .ok (.getfield 50, 3) := by decide +kernel
theorem dX10_oneMinute_208 : decode cX10_oneMinute 208 = .ok (.iload 4, 2) := by decide +kernel
theorem dX10_oneMinute_210 : decode cX10_oneMinute 210 = .ok (.iaload, 1) := by decide +kernel
theorem dX10_oneMinute_211 : decode cX10_oneMinute 211 = .ok (.aload_n 0, 1) := by decide +kernel
theorem dX10_oneMinute_212 : decode cX10_oneMinute 212 = .ok (.getfield 50, 3) := by decide +kernel
theorem dX10_oneMinute_215 : decode cX10_oneMinute 215 = .ok (.iload_n 3, 1) := by decide +kernel
theorem dX10_oneMinute_216 : decode cX10_oneMinute 216 = .ok (.iaload, 1) := by decide +kernel
theorem dX10_oneMinute_217 : decode cX10_oneMinute 217 = .ok (.if_icmp .le 8, 3) := by decide +kernel
theorem dX10_oneMinute_220 : decode cX10_oneMinute 220 = .ok (.iload 4, 2) := by decide +kernel
theorem dX10_oneMinute_222 : decode cX10_oneMinute 222 = .ok (.goto 4, 3) := by decide +kernel
theorem dX10_oneMinute_225 : decode cX10_oneMinute 225 = .ok (.iload_n 3, 1) := by decide +kernel
theorem dX10_oneMinute_226 : decode cX10_oneMinute 226 = .ok (.istore_n 3, 1) := by decide +kernel
theorem dX10_oneMinute_227 : decode cX10_oneMinute 227 = .ok (.iinc 4 1, 3) := by decide +kernel
theorem dX10_oneMinute_230 : decode cX10_oneMinute 230 = .ok (.goto (-33), 3) := by decide +kernel
theorem dX10_oneMinute_233 : decode cX10_oneMinute 233 = .ok (.aload_n 0, 1) := by decide +kernel
theorem dX10_oneMinute_234 : decode cX10_oneMinute 234 = .ok (.getfield 50, 3) := by decide +kernel
theorem dX10_oneMinute_237 : decode cX10_oneMinute 237 = .ok (.iload_n 3, 1) := by decide +kernel
theorem dX10_oneMinute_238 : decode cX10_oneMinute 238 = .ok (.iconst (-1), 1) := by decide +kernel
theorem dX10_oneMinute_239 : decode cX10_oneMinute 239 = .ok (.iastore, 1) := by decide +kernel
theorem dX10_oneMinute_240 : decode cX10_oneMinute 240 = .ok (.aload_n 0, 1) := by decide +kernel
theorem dX10_oneMinute_241 : decode cX10_oneMinute 241 = .ok (.iload_n 3, 1) := by decide +kernel
theorem dX10_oneMinute_242 : decode cX10_oneMinute 242 = .ok (.invokevirtual 184, 3) := by decide +kernel
theorem dX10_oneMinute_245 : decode cX10_oneMinute 245 = .ok (.iinc 2 1, 3) := by decide +kernel
theorem dX10_oneMinute_248 : decode cX10_oneMinute 248 = .ok (.goto (-61), 3) := by decide +kernel
theorem dX10_oneMinute_251 : decode cX10_oneMinute 251 = .ok (.aload_n 0, 1) := by decide +kernel
theorem dX10_oneMinute_252 : decode cX10_oneMinute 252 = .ok (.getfield 20, 3) := by decide +kernel
theorem dX10_oneMinute_255 : decode cX10_oneMinute 255 = .ok (.aload_n 0, 1) := by decide +kernel
theorem dX10_oneMinute_256 : decode cX10_oneMinute 256 = .ok (.getfield 7, 3) := by decide +kernel
theorem dX10_oneMinute_259 : decode cX10_oneMinute 259 = .ok (.sipush 11344, 3) := by decide +kernel
theorem dX10_oneMinute_262 : decode cX10_oneMinute 262 = .ok (.iaload, 1) := by decide +kernel
theorem dX10_oneMinute_263 : decode cX10_oneMinute 263 = .ok (.sipush 301, 3) := by decide +kernel
theorem dX10_oneMinute_266 : decode cX10_oneMinute 266 = .ok (.irem, 1) := by decide +kernel
theorem dX10_oneMinute_267 : decode cX10_oneMinute 267 = .ok (.aload_n 0, 1) := by decide +kernel
theorem dX10_oneMinute_268 : decode cX10_oneMinute 268 = .ok (.getfield 57, 3) := by decide +kernel
theorem dX10_oneMinute_271 : decode cX10_oneMinute 271 = .ok (.iastore, 1) := by decide +kernel
theorem dX10_oneMinute_272 : decode cX10_oneMinute 272 = .ok (.aload_n 0, 1) := by decide +kernel
theorem dX10_oneMinute_273 : decode cX10_oneMinute 273 = .ok (.aload_n 0, 1) := by decide +kernel
theorem dX10_oneMinute_274 : decode cX10_oneMinute 274 = .ok (.getfield 7, 3) := by decide +kernel
theorem dX10_oneMinute_277 : decode cX10_oneMinute 277 = .ok (.sipush 11344, 3) := by decide +kernel
theorem dX10_oneMinute_280 : decode cX10_oneMinute 280 = .ok (.iaload, 1) := by decide +kernel
theorem dX10_oneMinute_281 : decode cX10_oneMinute 281 = .ok (.aload_n 0, 1) := by decide +kernel
theorem dX10_oneMinute_282 : decode cX10_oneMinute 282 = .ok (.getfield 178, 3) := by decide +kernel
theorem dX10_oneMinute_285 : decode cX10_oneMinute 285 = .ok (.isub, 1) := by decide +kernel
theorem dX10_oneMinute_286 : decode cX10_oneMinute 286 = .ok (.sipush 300, 3) := by decide +kernel
theorem dX10_oneMinute_289 : decode cX10_oneMinute 289 = .ok (.if_icmp .le 18, 3) := by decide +kernel
theorem dX10_oneMinute_292 : decode cX10_oneMinute 292 = .ok (.aload_n 0, 1) := by decide +kernel
theorem dX10_oneMinute_293 : decode cX10_oneMinute 293 = .ok (.getfield 7, 3) := by decide +kernel
theorem dX10_oneMinute_296 : decode cX10_oneMinute 296 = .ok (.sipush 11344, 3) := by decide +kernel
theorem dX10_oneMinute_299 : decode cX10_oneMinute 299 = .ok (.iaload, 1) := by decide +kernel
theorem dX10_oneMinute_300 : decode cX10_oneMinute 300 = .ok (.sipush 300, 3) := by decide +kernel
theorem dX10_oneMinute_303 : decode cX10_oneMinute 303 = .ok (.isub, 1) := by decide +kernel
theorem dX10_oneMinute_304 : decode cX10_oneMinute 304 = .ok (.goto 7, 3) := by decide +kernel
theorem dX10_oneMinute_307 : decode cX10_oneMinute 307 = .ok (.aload_n 0, 1) := by decide +kernel
theorem dX10_oneMinute_308 : decode cX10_oneMinute 308 = .ok (.getfield 178, 3) := by decide +kernel
theorem dX10_oneMinute_311 : decode cX10_oneMinute 311 = .ok (.putfield 178, 3) := by decide +kernel
theorem dX10_oneMinute_314 : decode cX10_oneMinute 314 = .ok (.return_, 1) := by decide +kernel
theorem dX10_minute_0 : decode cX10_minute 0 = .ok (.aload_n 0, 1) := by decide +kernel
theorem dX10_minute_1 : decode cX10_minute 1 = .ok (.iconst 0, 1) := by decide +kernel
theorem dX10_minute_2 : decode cX10_minute 2 = .ok (.putfield 53, 3) := by decide +kernel
theorem dX10_minute_5 : decode cX10_minute 5 = .ok (.iload_n 1, 1) := by decide +kernel
theorem dX10_minute_6 : decode cX10_minute 6 = .ok (.iconst 1, 1) := by decide +kernel
theorem dX10_minute_7 : decode cX10_minute 7 = .ok (.bipush 60, 2) := by decide +kernel
theorem dX10_minute_9 : decode cX10_minute 9 = .ok (.invokestatic 71, 3) := by decide +kernel
theorem dX10_minute_12 : decode cX10_minute 12 = .ok (.ifCond .ne 6, 3) := by decide +kernel
theorem dX10_minute_15 : decode cX10_minute 15 = .ok (.bipush (-2), 2) := by decide +kernel
theorem dX10_minute_17 : decode cX10_minute 17 = .ok (.ireturn, 1) := by decide +kernel
theorem dX10_minute_18 : decode cX10_minute 18 = .ok (.iconst 0, 1) := by decide +kernel
theorem dX10_minute_19 : decode cX10_minute 19 = .ok (.istore_n 2, 1) := by decide +kernel
theorem dX10_minute_20 : decode cX10_minute 20 = .ok (.iload_n 2, 1) := by decide +kernel
theorem dX10_minute_21 : decode cX10_minute 21 = .ok (.iload_n 1, 1) := by decide +kernel
theorem dX10_minute_22 : decode cX10_minute 22 = .ok (.if_icmp .ge 13, 3) := by decide +kernel
theorem dX10_minute_25 : decode cX10_minute 25 = .ok (.aload_n 0, 1) := by decide +kernel
theorem dX10_minute_26 : decode cX10_minute 26 = .ok (.invokevirtual 187, 3) := by decide +kernel
theorem dX10_minute_29 : decode cX10_minute 29 = .ok (.iinc 2 1, 3) := by decide +kernel
theorem dX10_minute_32 : decode cX10_minute 32 = .ok (.goto (-12), 3) := by decide +kernel
theorem dX10_minute_35 : decode cX10_minute 35 = .ok (.aload_n 0, 1) := by decide +kernel
theorem dX10_minute_36 : decode cX10_minute 36 = .ok (.getfield 7, 3) := by decide +kernel
theorem dX10_minute_39 : decode cX10_minute 39 = .ok (.sipush 11344, 3) := by decide +kernel
theorem dX10_minute_42 : decode cX10_minute 42 = .ok (.iaload, 1) := by decide +kernel
theorem dX10_minute_43 : decode cX10_minute 43 = .ok (.ireturn, 1) := by decide +kernel
theorem dX10_left_0 : decode cX10_left 0 = .ok (.aload_n 0, 1) := by decide +kernel
theorem dX10_left_1 : decode cX10_left 1 = .ok (.iconst 0, 1) := by decide +kernel
theorem dX10_left_2 : decode cX10_left 2 = .ok (.putfield 53, 3) := by decide +kernel
theorem dX10_left_5 : decode cX10_left 5 = .ok (.iload_n 1, 1) := by decide +kernel
theorem dX10_left_6 : decode cX10_left 6 = .ok (.invokestatic 106, 3) := by decide +kernel
theorem dX10_left_9 : decode cX10_left 9 = .ok (.ifCond .ne 5, 3) := by decide +kernel
theorem dX10_left_12 : decode cX10_left 12 = .ok (.iconst (-1), 1) := by decide +kernel
theorem dX10_left_13 : decode cX10_left 13 = .ok (.ireturn, 1) := by decide +kernel
theorem dX10_left_14 : decode cX10_left 14 = .ok (.aload_n 0, 1) := by decide +kernel
theorem dX10_left_15 : decode cX10_left 15 = .ok (.iload_n 1, 1) := by decide +kernel
theorem dX10_left_16 : decode cX10_left 16 = .ok (.invokevirtual 110, 3) := by decide +kernel
theorem dX10_left_19 : decode cX10_left 19 = .ok (.ifCond .eq 11, 3) := by decide +kernel
theorem dX10_left_22 : decode cX10_left 22 = .ok (.aload_n 0, 1) := by decide +kernel
theorem dX10_left_23 : decode cX10_left 23 = .ok (.iload_n 1, 1) := by decide +kernel
theorem dX10_left_24 : decode cX10_left 24 = .ok (.invokevirtual 190, 3) := by decide +kernel
theorem dX10_left_27 : decode cX10_left 27 = .ok (.goto 8, 3) := by decide +kernel
theorem dX10_left_30 : decode cX10_left 30 = .ok (.aload_n 0, 1) := by decide +kernel
theorem dX10_left_31 : decode cX10_left 31 = .ok (.iconst 1, 1) := by decide +kernel
theorem dX10_left_32 : decode cX10_left 32 = .ok (.invokevirtual 117, 3) := by decide +kernel
theorem dX10_left_35 : decode cX10_left 35 = .ok (.ireturn, 1) := by decide +kernel
theorem dX10_stop_0 : decode cX10_stop 0 = .ok (.aload_n 0, 1) := by decide +kernel
theorem dX10_stop_1 : decode cX10_stop 1 = .ok (.iconst 0, 1) := by decide +kernel
theorem dX10_stop_2 : decode cX10_stop 2 = .ok (.putfield 53, 3) := by decide +kernel
theorem dX10_stop_5 : decode cX10_stop 5 = .ok (.iload_n 1, 1) := by decide +kernel
theorem dX10_stop_6 : decode cX10_stop 6 = .ok (.invokestatic 106, 3) := by decide +kernel
theorem dX10_stop_9 : decode cX10_stop 9 = .ok (.ifCond .ne 5, 3) := by decide +kernel
theorem dX10_stop_12 : decode cX10_stop 12 = .ok (.iconst (-1), 1) := by decide +kernel
theorem dX10_stop_13 : decode cX10_stop 13 = .ok (.ireturn, 1) := by decide +kernel
theorem dX10_stop_14 : decode cX10_stop 14 = .ok (.aload_n 0, 1) := by decide +kernel
theorem dX10_stop_15 : decode cX10_stop 15 = .ok (.iload_n 1, 1) := by decide +kernel
theorem dX10_stop_16 : decode cX10_stop 16 = .ok (.invokevirtual 110, 3) := by decide +kernel
theorem dX10_stop_19 : decode cX10_stop 19 = .ok (.ifCond .ne 9, 3) := by decide +kernel
theorem dX10_stop_22 : decode cX10_stop 22 = .ok (.aload_n 0, 1) := by decide +kernel
theorem dX10_stop_23 : decode cX10_stop 23 = .ok (.iconst 1, 1) := by decide +kernel
theorem dX10_stop_24 : decode cX10_stop 24 = .ok (.invokevirtual 117, 3) := by decide +kernel
theorem dX10_stop_27 : decode cX10_stop 27 = .ok (.ireturn, 1) := by decide +kernel
theorem dX10_stop_28 : decode cX10_stop 28 = .ok (.aload_n 0, 1) := by decide +kernel
theorem dX10_stop_29 : decode cX10_stop 29 = .ok (.iload_n 1, 1) := by decide +kernel
theorem dX10_stop_30 : decode cX10_stop 30 = .ok (.invokevirtual 145, 3) := by decide +kernel
theorem dX10_stop_33 : decode cX10_stop 33 = .ok (.aload_n 0, 1) := by decide +kernel
theorem dX10_stop_34 : decode cX10_stop 34 = .ok (.iload_n 1, 1) := by decide +kernel
theorem dX10_stop_35 : decode cX10_stop 35 = .ok (.bipush 26, 2) := by decide +kernel
theorem dX10_stop_37 : decode cX10_stop 37 = .ok (.invokevirtual 75, 3) := by decide +kernel
theorem dX10_stop_40 : decode cX10_stop 40 = .ok (.ifCond .ne 6, 3) := by decide +kernel
theorem dX10_stop_43 : decode cX10_stop 43 = .ok (.bipush (-3), 2) := by decide +kernel
theorem dX10_stop_45 : decode cX10_stop 45 = .ok (.ireturn, 1) := by decide +kernel
theorem dX10_stop_46 : decode cX10_stop 46 = .ok (.aload_n 0, 1) := by decide +kernel
theorem dX10_stop_47 : decode cX10_stop 47 = .ok (.iload_n 1, 1) := by decide +kernel
theorem dX10_stop_48 : decode cX10_stop 48 = .ok (.invokevirtual 190, 3) := by decide +kernel
theorem dX10_stop_51 : decode cX10_stop 51 = .ok (.istore_n 2, 1) := by decide +kernel
theorem dX10_stop_52 : decode cX10_stop 52 = .ok (.aload_n 0, 1) := by decide +kernel
theorem dX10_stop_53 : decode cX10_stop 53 = .ok (.iload_n 1, 1) := by decide +kernel
theorem dX10_stop_54 : decode cX10_stop 54 = .ok (.invokevirtual 172, 3) := by decide +kernel
theorem dX10_stop_57 : decode cX10_stop 57 = .ok (.aload_n 0, 1) := by decide +kernel
theorem dX10_stop_58 : decode cX10_stop 58 = .ok (.iload_n 1, 1) := by decide +kernel
theorem dX10_stop_59 : decode cX10_stop 59 = .ok (.bipush 39, 2) := by decide +kernel
theorem dX10_stop_61 : decode cX10_stop 61 = .ok (.aload_n 0, 1) := by decide +kernel
theorem dX10_stop_62 : decode cX10_stop 62 = .ok (.iload_n 1, 1) := by decide +kernel
theorem dX10_stop_63 : decode cX10_stop 63 = .ok (.bipush 39, 2) := by decide +kernel
theorem dX10_stop_65 : decode cX10_stop 65 = .ok (.invokevirtual 75, 3) := by decide +kernel
theorem dX10_stop_68 : decode cX10_stop 68 = .ok (.iconst 1, 1) := by decide +kernel
theorem dX10_stop_69 : decode cX10_stop 69 = .ok (.iadd, 1) := by decide +kernel
theorem dX10_stop_70 : decode cX10_stop 70 = .ok (.invokevirtual 113, 3) := by decide +kernel
theorem dX10_stop_73 : decode cX10_stop 73 = .ok (.iload_n 2, 1) := by decide +kernel
theorem dX10_stop_74 : decode cX10_stop 74 = .ok (.ireturn, 1) := by decide +kernel
theorem dX10_breaks_0 : decode cX10_breaks 0 = .ok (.aload_n 0, 1) := by decide +kernel
theorem dX10_breaks_1 : decode cX10_breaks 1 = .ok (.iconst 0, 1) := by decide +kernel
theorem dX10_breaks_2 : decode cX10_breaks 2 = .ok (.putfield 53, 3) := by decide +kernel
theorem dX10_breaks_5 : decode cX10_breaks 5 = .ok (.iload_n 1, 1) := by decide +kernel
theorem dX10_breaks_6 : decode cX10_breaks 6 = .ok (.invokestatic 106, 3) := by decide +kernel
theorem dX10_breaks_9 : decode cX10_breaks 9 = .ok (.ifCond .ne 5, 3) := by decide +kernel
theorem dX10_breaks_12 : decode cX10_breaks 12 = .ok (.iconst (-1), 1) := by decide +kernel
theorem dX10_breaks_13 : decode cX10_breaks 13 = .ok (.ireturn, 1) := by decide +kernel
theorem dX10_breaks_14 : decode cX10_breaks 14 = .ok (.iload_n 2, 1) := by decide +kernel
theorem dX10_breaks_15 : decode cX10_breaks 15 = .ok (.iconst 0, 1) := by decide +kernel
theorem dX10_breaks_16 : decode cX10_breaks 16 = .ok (.sipush 1000, 3) := by decide +kernel
theorem dX10_breaks_19 : decode cX10_breaks 19 = .ok (.invokestatic 71, 3) := by decide +kernel
theorem dX10_breaks_22 : decode cX10_breaks 22 = .ok (.ifCond .ne 6, 3) := by decide +kernel
theorem dX10_breaks_25 : decode cX10_breaks 25 = .ok (.bipush (-2), 2) := by decide +kernel
theorem dX10_breaks_27 : decode cX10_breaks 27 = .ok (.ireturn, 1) := by decide +kernel
theorem dX10_breaks_28 : decode cX10_breaks 28 = .ok (.aload_n 0, 1) := by decide +kernel
theorem dX10_breaks_29 : decode cX10_breaks 29 = .ok (.iload_n 1, 1) := by decide +kernel
theorem dX10_breaks_30 : decode cX10_breaks 30 = .ok (.invokevirtual 110, 3) := by decide +kernel
theorem dX10_breaks_33 : decode cX10_breaks 33 = .ok (.ifCond .ne 9, 3) := by decide +kernel
theorem dX10_breaks_36 : decode cX10_breaks 36 = .ok (.aload_n 0, 1) := by decide +kernel
theorem dX10_breaks_37 : decode cX10_breaks 37 = .ok (.iconst 1, 1) := by decide +kernel
theorem dX10_breaks_38 : decode cX10_breaks 38 = .ok (.invokevirtual 117, 3) := by decide +kernel
theorem dX10_breaks_41 : decode cX10_breaks 41 = .ok (.ireturn, 1) := by decide +kernel
theorem dX10_breaks_42 : decode cX10_breaks 42 = .ok (.aload_n 0, 1) := by decide +kernel
theorem dX10_breaks_43 : decode cX10_breaks 43 = .ok (.iload_n 1, 1) := by decide +kernel
theorem dX10_breaks_44 : decode cX10_breaks 44 = .ok (.bipush 31, 2) := by decide +kernel
theorem dX10_breaks_46 : decode cX10_breaks 46 = .ok (.iload_n 2, 1) := by decide +kernel
theorem dX10_breaks_47 : decode cX10_breaks 47 = .ok (.ifCond .ne 7, 3) := by decide +kernel
theorem dX10_breaks_50 : decode cX10_breaks 50 = .ok (.iconst 0, 1) := by decide +kernel
theorem dX10_breaks_51 : decode cX10_breaks 51 = .ok (.goto 13, 3) := by decide +kernel
theorem dX10_breaks_54 : decode cX10_breaks 54 = .ok (.aload_n 0, 1) := by decide +kernel
theorem dX10_breaks_55 : decode cX10_breaks 55 = .ok (.getfield 7, 3) := by decide +kernel
theorem dX10_breaks_58 : decode cX10_breaks 58 = .ok (.sipush 11344, 3) := by decide +kernel
theorem dX10_breaks_61 : decode cX10_breaks 61 = .ok (.iaload, 1) := by decide +kernel
theorem dX10_breaks_62 : decode cX10_breaks 62 = .ok (.iload_n 2, 1) := by decide +kernel
theorem dX10_breaks_63 : decode cX10_breaks 63 = .ok (.iadd, 1) := by decide +kernel
theorem dX10_breaks_64 : decode cX10_breaks 64 = .ok (.invokevirtual 113, 3) := by decide +kernel
theorem dX10_breaks_67 : decode cX10_breaks 67 = .ok (.iconst 1, 1) := by decide +kernel
theorem dX10_breaks_68 : decode cX10_breaks 68 = .ok (.ireturn, 1) := by decide +kernel
theorem dX10_mend_0 : decode cX10_mend 0 = .ok (.aload_n 0, 1) := by decide +kernel
theorem dX10_mend_1 : decode cX10_mend 1 = .ok (.iconst 0, 1) := by decide +kernel
theorem dX10_mend_2 : decode cX10_mend 2 = .ok (.putfield 53, 3) := by decide +kernel
theorem dX10_mend_5 : decode cX10_mend 5 = .ok (.iload_n 1, 1) := by decide +kernel
theorem dX10_mend_6 : decode cX10_mend 6 = .ok (.invokestatic 106, 3) := by decide +kernel
theorem dX10_mend_9 : decode cX10_mend 9 = .ok (.ifCond .ne 5, 3) := by decide +kernel
theorem dX10_mend_12 : decode cX10_mend 12 = .ok (.iconst (-1), 1) := by decide +kernel
theorem dX10_mend_13 : decode cX10_mend 13 = .ok (.ireturn, 1) := by decide +kernel
theorem dX10_mend_14 : decode cX10_mend 14 = .ok (.aload_n 0, 1) := by decide +kernel
theorem dX10_mend_15 : decode cX10_mend 15 = .ok (.iload_n 1, 1) := by decide +kernel
theorem dX10_mend_16 : decode cX10_mend 16 = .ok (.invokevirtual 110, 3) := by decide +kernel
theorem dX10_mend_19 : decode cX10_mend 19 = .ok (.ifCond .ne 9, 3) := by decide +kernel
theorem dX10_mend_22 : decode cX10_mend 22 = .ok (.aload_n 0, 1) := by decide +kernel
theorem dX10_mend_23 : decode cX10_mend 23 = .ok (.iconst 1, 1) := by decide +kernel
theorem dX10_mend_24 : decode cX10_mend 24 = .ok (.invokevirtual 117, 3) := by decide +kernel
theorem dX10_mend_27 : decode cX10_mend 27 = .ok (.ireturn, 1) := by decide +kernel
theorem dX10_mend_28 : decode cX10_mend 28 = .ok (.aload_n 0, 1) := by decide +kernel
theorem dX10_mend_29 : decode cX10_mend 29 = .ok (.iload_n 1, 1) := by decide +kernel
theorem dX10_mend_30 : decode cX10_mend 30 = .ok (.invokevirtual 145, 3) := by decide +kernel
theorem dX10_mend_33 : decode cX10_mend 33 = .ok (.aload_n 0, 1) := by decide +kernel
theorem dX10_mend_34 : decode cX10_mend 34 = .ok (.iload_n 1, 1) := by decide +kernel
theorem dX10_mend_35 : decode cX10_mend 35 = .ok (.bipush 101, 2) := by decide +kernel
theorem dX10_mend_37 : decode cX10_mend 37 = .ok (.invokevirtual 75, 3) := by decide +kernel
theorem dX10_mend_40 : decode cX10_mend 40 = .ok (.ifCond .ne 5, 3) := by decide +kernel
theorem dX10_mend_43 : decode cX10_mend 43 = .ok (.iconst 0, 1) := by decide +kernel
theorem dX10_mend_44 : decode cX10_mend 44 = .ok (.ireturn, 1) := by decide +kernel
theorem dX10_mend_45 : decode cX10_mend 45 = .ok (.aload_n 0, 1) := by decide +kernel
theorem dX10_mend_46 : decode cX10_mend 46 = .ok (.iload_n 1, 1) := by decide +kernel
theorem dX10_mend_47 : decode cX10_mend 47 = .ok (.bipush 101, 2) := by decide +kernel
theorem dX10_mend_49 : decode cX10_mend 49 = .ok (.iconst 0, 1) := by decide +kernel
theorem dX10_mend_50 : decode cX10_mend 50 = .ok (.invokevirtual 113, 3) := by decide +kernel
theorem dX10_mend_53 : decode cX10_mend 53 = .ok (.aload_n 0, 1) := by decide +kernel
theorem dX10_mend_54 : decode cX10_mend 54 = .ok (.iload_n 1, 1) := by decide +kernel
theorem dX10_mend_55 : decode cX10_mend 55 = .ok (.iconst 4, 1) := by decide +kernel
theorem dX10_mend_56 : decode cX10_mend 56 = .ok (.iconst 1, 1) := by decide +kernel
theorem dX10_mend_57 : decode cX10_mend 57 = .ok (.invokevirtual 113, 3) := by decide +kernel
theorem dX10_mend_60 : decode cX10_mend 60 = .ok (.iconst 1, 1) := by decide +kernel
theorem dX10_mend_61 : decode cX10_mend 61 = .ok (.ireturn, 1) := by decide +kernel
theorem dX10_bound_0 : decode cX10_bound 0 = .ok (.aload_n 0, 1) := by decide +kernel
theorem dX10_bound_1 : decode cX10_bound 1 = .ok (.iconst 0, 1) := by decide +kernel
theorem dX10_bound_2 : decode cX10_bound 2 = .ok (.putfield 53, 3) := by decide +kernel
theorem dX10_bound_5 : decode cX10_bound 5 = .ok (.iload_n 1, 1) := by decide +kernel
theorem dX10_bound_6 : decode cX10_bound 6 = .ok (.iconst 0, 1) := by decide +kernel
theorem dX10_bound_7 : decode cX10_bound 7 = .ok (.sipush 10000, 3) := by decide +kernel
theorem dX10_bound_10 : decode cX10_bound 10 = .ok (.invokestatic 71, 3) := by decide +kernel
theorem dX10_bound_13 : decode cX10_bound 13 = .ok (.ifCond .eq 25, 3) := by decide +kernel
theorem dX10_bound_16 : decode cX10_bound 16 = .ok (.iload_n 2, 1) := by decide +kernel
theorem dX10_bound_17 : decode cX10_bound 17 = .ok (.iconst 0, 1) := by decide +kernel
theorem dX10_bound_18 : decode cX10_bound 18 = .ok (.sipush 10000, 3) := by decide +kernel
theorem dX10_bound_21 : decode cX10_bound 21 = .ok (.invokestatic 71, 3) := by decide +kernel
theorem dX10_bound_24 : decode cX10_bound 24 = .ok (.ifCond .eq 14, 3) := by decide +kernel
theorem dX10_bound_27 : decode cX10_bound 27 = .ok (.iload_n 3, 1) := by decide +kernel
theorem dX10_bound_28 : decode cX10_bound 28 = .ok (.iconst 0, 1) := by decide +kernel
theorem dX10_bound_29 : decode cX10_bound 29 = .ok (.sipush 10000, 3) := by decide +kernel
theorem dX10_bound_32 : decode cX10_bound 32 = .ok (.invokestatic 71, 3) := by decide +kernel
theorem dX10_bound_35 : decode cX10_bound 35 = .ok (.ifCond .ne 6, 3) := by decide +kernel
theorem dX10_bound_38 : decode cX10_bound 38 = .ok (.bipush (-2), 2) := by decide +kernel
theorem dX10_bound_40 : decode cX10_bound 40 = .ok (.ireturn, 1) := by decide +kernel
theorem dX10_bound_41 : decode cX10_bound 41 = .ok (.aload_n 0, 1) := by decide +kernel
theorem dX10_bound_42 : decode cX10_bound 42 = .ok (.getfield 7, 3) := by decide +kernel
theorem dX10_bound_45 : decode cX10_bound 45 = .ok (.sipush 11356, 3) := by decide +kernel
theorem dX10_bound_48 : decode cX10_bound 48 = .ok (.iaload, 1) := by decide +kernel
theorem dX10_bound_49 : decode cX10_bound 49 = .ok (.iconst 1, 1) := by decide +kernel
theorem dX10_bound_50 : decode cX10_bound 50 = .ok (.if_icmp .ne 6, 3) := by decide +kernel
theorem dX10_bound_53 : decode cX10_bound 53 = .ok (.bipush (-3), 2) := by decide +kernel
theorem dX10_bound_55 : decode cX10_bound 55 = .ok (.ireturn, 1) := by decide +kernel
theorem dX10_bound_56 : decode cX10_bound 56 = .ok (.aload_n 0, 1) := by decide +kernel
theorem dX10_bound_57 : decode cX10_bound 57 = .ok (.sipush 11353, 3) := by decide +kernel
theorem dX10_bound_60 : decode cX10_bound 60 = .ok (.iload_n 1, 1) := by decide +kernel
theorem dX10_bound_61 : decode cX10_bound 61 = .ok (.invokevirtual 67, 3) := by decide +kernel
theorem dX10_bound_64 : decode cX10_bound 64 = .ok (.aload_n 0, 1) := by decide +kernel
theorem dX10_bound_65 : decode cX10_bound 65 = .ok (.sipush 11354, 3) := by decide +kernel
theorem dX10_bound_68 : decode cX10_bound 68 = .ok (.iload_n 2, 1) := by decide +kernel
theorem dX10_bound_69 : decode cX10_bound 69 = .ok (.invokevirtual 67, 3) := by decide +kernel
theorem dX10_bound_72 : decode cX10_bound 72 = .ok (.aload_n 0, 1) := by decide +kernel
theorem dX10_bound_73 : decode cX10_bound 73 = .ok (.sipush 11355, 3) := by decide +kernel
theorem dX10_bound_76 : decode cX10_bound 76 = .ok (.iload_n 3, 1) := by decide +kernel
theorem dX10_bound_77 : decode cX10_bound 77 = .ok (.invokevirtual 67, 3) := by decide +kernel
theorem dX10_bound_80 : decode cX10_bound 80 = .ok (.iconst 1, 1) := by decide +kernel
theorem dX10_bound_81 : decode cX10_bound 81 = .ok (.ireturn, 1) := by decide +kernel
theorem dX10_used_0 : decode cX10_used 0 = .ok (.aload_n 0, 1) := by decide +kernel
theorem dX10_used_1 : decode cX10_used 1 = .ok (.iconst 0, 1) := by decide +kernel
theorem dX10_used_2 : decode cX10_used 2 = .ok (.putfield 53, 3) := by decide +kernel
theorem dX10_used_5 : decode cX10_used 5 = .ok (.iload_n 1, 1) := by decide +kernel
theorem dX10_used_6 : decode cX10_used 6 = .ok (.iconst 0, 1) := by decide +kernel
theorem dX10_used_7 : decode cX10_used 7 = .ok (.iconst 5, 1) := by decide +kernel
theorem dX10_used_8 : decode cX10_used 8 = .ok (.invokestatic 71, 3) := by decide +kernel
theorem dX10_used_11 : decode cX10_used 11 = .ok (.ifCond .eq 16, 3) := by decide +kernel
theorem dX10_used_14 : decode cX10_used 14 = .ok (.aload_n 0, 1) := by decide +kernel
theorem dX10_used_15 : decode cX10_used 15 = .ok (.getfield 7, 3) := by decide +kernel
theorem dX10_used_18 : decode cX10_used 18 = .ok (.sipush 11350, 3) := by decide +kernel
theorem dX10_used_21 : decode cX10_used 21 = .ok (.iload_n 1, 1) := by decide +kernel
theorem dX10_used_22 : decode cX10_used 22 = .ok (.iadd, 1) := by decide +kernel
theorem dX10_used_23 : decode cX10_used 23 = .ok (.iaload, 1) := by decide +kernel
theorem dX10_used_24 : decode cX10_used 24 = .ok (.goto 5, 3) := by decide +kernel
theorem dX10_used_27 : decode cX10_used 27 = .ok (.bipush (-2), 2) := by decide +kernel
theorem dX10_used_29 : decode cX10_used 29 = .ok (.ireturn, 1) := by decide +kernel
theorem dX10_book_0 : decode cX10_book 0 = .ok (.aload_n 0, 1) := by decide +kernel
theorem dX10_book_1 : decode cX10_book 1 = .ok (.iconst 0, 1) := by decide +kernel
theorem dX10_book_2 : decode cX10_book 2 = .ok (.putfield 53, 3) := by decide +kernel
theorem dX10_book_5 : decode cX10_book 5 = .ok (.iload_n 1, 1) := by decide +kernel
theorem dX10_book_6 : decode cX10_book 6 = .ok (.invokestatic 106, 3) := by decide +kernel
theorem dX10_book_9 : decode cX10_book 9 = .ok (.ifCond .ne 5, 3) := by decide +kernel
theorem dX10_book_12 : decode cX10_book 12 = .ok (.iconst (-1), 1) := by decide +kernel
theorem dX10_book_13 : decode cX10_book 13 = .ok (.ireturn, 1) := by decide +kernel
theorem dX10_book_14 : decode cX10_book 14 = .ok (.iload_n 2, 1) := by decide +kernel
theorem dX10_book_15 : decode cX10_book 15 = .ok (.iconst 0, 1) := by decide +kernel
theorem dX10_book_16 : decode cX10_book 16 = .ok (.bipush 8, 2) := by decide +kernel
theorem dX10_book_18 : decode cX10_book 18 = .ok (.invokestatic 71, 3) := by decide +kernel
theorem dX10_book_21 : decode cX10_book 21 = .ok (.ifCond .ne 6, 3) := by decide +kernel
theorem dX10_book_24 : decode cX10_book 24 = .ok (.bipush (-2), 2) := by decide +kernel
theorem dX10_book_26 : decode cX10_book 26 = .ok (.ireturn, 1) := by decide +kernel
theorem dX10_book_27 : decode cX10_book 27 = .ok (.aload_n 0, 1) := by decide +kernel
theorem dX10_book_28 : decode cX10_book 28 = .ok (.iload_n 1, 1) := by decide +kernel
theorem dX10_book_29 : decode cX10_book 29 = .ok (.invokevirtual 110, 3) := by decide +kernel
theorem dX10_book_32 : decode cX10_book 32 = .ok (.ifCond .eq 15, 3) := by decide +kernel
theorem dX10_book_35 : decode cX10_book 35 = .ok (.aload_n 0, 1) := by decide +kernel
theorem dX10_book_36 : decode cX10_book 36 = .ok (.iload_n 1, 1) := by decide +kernel
theorem dX10_book_37 : decode cX10_book 37 = .ok (.bipush 32, 2) := by decide +kernel
theorem dX10_book_39 : decode cX10_book 39 = .ok (.iload_n 2, 1) := by decide +kernel
theorem dX10_book_40 : decode cX10_book 40 = .ok (.iadd, 1) := by decide +kernel
theorem dX10_book_41 : decode cX10_book 41 = .ok (.invokevirtual 75, 3) := by decide +kernel
theorem dX10_book_44 : decode cX10_book 44 = .ok (.goto 8, 3) := by decide +kernel
theorem dX10_book_47 : decode cX10_book 47 = .ok (.aload_n 0, 1) := by decide +kernel
theorem dX10_book_48 : decode cX10_book 48 = .ok (.iconst 1, 1) := by decide +kernel
theorem dX10_book_49 : decode cX10_book 49 = .ok (.invokevirtual 117, 3) := by decide +kernel
theorem dX10_book_52 : decode cX10_book 52 = .ok (.ireturn, 1) := by decide +kernel
theorem dX10_cost_0 : decode cX10_cost 0 = .ok (.aload_n 0, 1) := by decide +kernel
theorem dX10_cost_1 : decode cX10_cost 1 = .ok (.iconst 0, 1) := by decide +kernel
theorem dX10_cost_2 : decode cX10_cost 2 = .ok (.putfield 53, 3) := by decide +kernel
theorem dX10_cost_5 : decode cX10_cost 5 = .ok (.iload_n 1, 1) := by decide +kernel
theorem dX10_cost_6 : decode cX10_cost 6 = .ok (.invokestatic 106, 3) := by decide +kernel
theorem dX10_cost_9 : decode cX10_cost 9 = .ok (.ifCond .ne 5, 3) := by decide +kernel
theorem dX10_cost_12 : decode cX10_cost 12 = .ok (.iconst (-1), 1) := by decide +kernel
theorem dX10_cost_13 : decode cX10_cost 13 = .ok (.ireturn, 1) := by decide +kernel
theorem dX10_cost_14 : decode cX10_cost 14 = .ok (.iload_n 2, 1) := by decide +kernel
theorem dX10_cost_15 : decode cX10_cost 15 = .ok (.iconst 0, 1) := by decide +kernel
theorem dX10_cost_16 : decode cX10_cost 16 = .ok (.ldc 193, 2) := by decide +kernel
theorem dX10_cost_18 : decode cX10_cost 18 = .ok (.invokestatic 71, 3) := by decide +kernel
theorem dX10_cost_21 : decode cX10_cost 21 = .ok (.ifCond .ne 6, 3) := by decide +kernel
theorem dX10_cost_24 : decode cX10_cost 24 = .ok (.bipush (-2), 2) := by decide +kernel
theorem dX10_cost_26 : decode cX10_cost 26 = .ok (.ireturn, 1) := by decide +kernel
theorem dX10_cost_27 : decode cX10_cost 27 = .ok (.iconst 0, 1) := by decide +kernel
theorem dX10_cost_28 : decode cX10_cost 28 = .ok (.istore_n 3, 1) := by decide +kernel
theorem dX10_cost_29 : decode cX10_cost 29 = .ok (.iconst 0, 1) := by decide +kernel
theorem dX10_cost_30 : decode cX10_cost 30 = .ok (.istore 4, 2) := by decide +kernel
theorem dX10_cost_32 : decode cX10_cost 32 = .ok (.iload 4, 2) := by decide +kernel
theorem dX10_cost_34 : decode cX10_cost 34 = .ok (.bipush 60, 2) := by decide +kernel
theorem dX10_cost_36 : decode cX10_cost 36 = .ok (.if_icmp .ge 34, 3) := by decide +kernel
theorem dX10_cost_39 : decode cX10_cost 39 = .ok (.aload_n 0, 1) := by decide +kernel
theorem dX10_cost_40 : decode cX10_cost 40 = .ok (.getfield 44, 3) := by decide +kernel
theorem dX10_cost_43 : decode cX10_cost 43 = .ok (.iload 4, 2) := by decide +kernel
theorem dX10_cost_45 : decode cX10_cost 45 = .ok (.aload_n 0, 1) := by decide +kernel
theorem dX10_cost_46 : decode cX10_cost 46 = .ok (.iload 4, 2) := by decide +kernel
theorem dX10_cost_48 : decode cX10_cost 48 = .ok (.bipush 32, 2) := by decide +kernel
theorem dX10_cost_50 : decode cX10_cost 50 = .ok (.invokevirtual 75, 3) := by decide +kernel
theorem dX10_cost_53 : decode cX10_cost 53 = .ok (.iastore, 1) := by decide +kernel
theorem dX10_cost_54 : decode cX10_cost 54 = .ok (.iload_n 3, 1) := by decide +kernel
theorem dX10_cost_55 : decode cX10_cost 55 = .ok (.aload_n 0, 1) := by decide +kernel
theorem dX10_cost_56 : decode cX10_cost 56 = .ok (.getfield 44, 3) := by decide +kernel
theorem dX10_cost_59 : decode cX10_cost 59 = .ok (.iload 4, 2) := by decide +kernel
theorem dX10_cost_61 : decode cX10_cost 61 = .ok (.iaload, 1) := by decide +kernel
theorem dX10_cost_62 : decode cX10_cost 62 = .ok (.iadd, 1) := by decide +kernel
theorem dX10_cost_63 : decode cX10_cost 63 = .ok (.istore_n 3, 1) := by decide +kernel
theorem dX10_cost_64 : decode cX10_cost 64 = .ok (.iinc 4 1, 3) := by decide +kernel
theorem dX10_cost_67 : decode cX10_cost 67 = .ok (.goto (-35), 3) := by decide +kernel
theorem dX10_cost_70 : decode cX10_cost 70 = .ok (.iload_n 3, 1) := by decide +kernel
theorem dX10_cost_71 : decode cX10_cost 71 = .ok (.ifCond .ne 10, 3) := by decide +kernel
theorem dX10_cost_74 : decode cX10_cost 74 = .ok (.aload_n 0, 1) := by decide +kernel
theorem dX10_cost_75 : decode cX10_cost 75 = .ok (.bipush 6, 2) := by decide +kernel
theorem dX10_cost_77 : decode cX10_cost 77 = .ok (.invokevirtual 117, 3) := by decide +kernel
theorem dX10_cost_80 : decode cX10_cost 80 = .ok (.ireturn, 1) := by decide +kernel
theorem dX10_cost_81 : decode cX10_cost 81 = .ok (.aload_n 0, 1) := by decide +kernel
theorem dX10_cost_82 : decode cX10_cost 82 = .ok (.iload_n 1, 1) := by decide +kernel
theorem dX10_cost_83 : decode cX10_cost 83 = .ok (.invokevirtual 110, 3) := by decide +kernel
theorem dX10_cost_86 : decode cX10_cost 86 = .ok (.ifCond .eq 14, 3) := by decide +kernel
theorem dX10_cost_89 : decode cX10_cost 89 = .ok (.aload_n 0, 1) := by decide +kernel
theorem dX10_cost_90 : decode cX10_cost 90 = .ok (.iload_n 2, 1) := by decide +kernel
theorem dX10_cost_91 : decode cX10_cost 91 = .ok (.bipush 60, 2) := by decide +kernel
theorem dX10_cost_93 : decode cX10_cost 93 = .ok (.iload_n 1, 1) := by decide +kernel
theorem dX10_cost_94 : decode cX10_cost 94 = .ok (.invokevirtual 160, 3) := by decide +kernel
theorem dX10_cost_97 : decode cX10_cost 97 = .ok (.goto 4, 3) := by decide +kernel
theorem dX10_cost_100 : decode cX10_cost 100 = .ok (.iconst 0, 1) := by decide +kernel
theorem dX10_cost_101 : decode cX10_cost 101 = .ok (.ireturn, 1) := by decide +kernel
theorem dX10_count_0 : decode cX10_count 0 = .ok (.aload_n 0, 1) := by decide +kernel
theorem dX10_count_1 : decode cX10_count 1 = .ok (.iconst 0, 1) := by decide +kernel
theorem dX10_count_2 : decode cX10_count 2 = .ok (.putfield 53, 3) := by decide +kernel
theorem dX10_count_5 : decode cX10_count 5 = .ok (.iconst 0, 1) := by decide +kernel
theorem dX10_count_6 : decode cX10_count 6 = .ok (.istore_n 2, 1) := by decide +kernel
theorem dX10_count_7 : decode cX10_count 7 = .ok (.iconst 0, 1) := by decide +kernel
theorem dX10_count_8 : decode cX10_count 8 = .ok (.istore_n 3, 1) := by decide +kernel
theorem dX10_count_9 : decode cX10_count 9 = .ok (.iconst 0, 1) := by decide +kernel
theorem dX10_count_10 : decode cX10_count 10 = .ok (.istore 4, 2) := by decide +kernel
theorem dX10_count_12 : decode cX10_count 12 = .ok (.iload 4, 2) := by decide +kernel
theorem dX10_count_14 : decode cX10_count 14 = .ok (.bipush 60, 2) := by decide +kernel
theorem dX10_count_16 : decode cX10_count 16 = .ok (.if_icmp .ge 37, 3) := by decide +kernel
theorem dX10_count_19 : decode cX10_count 19 = .ok (.iload_n 2, 1) := by decide +kernel
theorem dX10_count_20 : decode cX10_count 20 = .ok (.aload_n 0, 1) := by decide +kernel
theorem dX10_count_21 : decode cX10_count 21 = .ok (.iload 4, 2) := by decide +kernel
theorem dX10_count_23 : decode cX10_count 23 = .ok (.invokevirtual 110, 3) := by decide +kernel
theorem dX10_count_26 : decode cX10_count 26 = .ok (.ifCond .eq 7, 3) := by decide +kernel
theorem dX10_count_29 : decode cX10_count 29 = .ok (.iconst 1, 1) := by decide +kernel
theorem dX10_count_30 : decode cX10_count 30 = .ok (.goto 4, 3) := by decide +kernel
theorem dX10_count_33 : decode cX10_count 33 = .ok (.iconst 0, 1) := by decide +kernel
theorem dX10_count_34 : decode cX10_count 34 = .ok (.iadd, 1) := by decide +kernel
theorem dX10_count_35 : decode cX10_count 35 = .ok (.istore_n 2, 1) := by decide +kernel
theorem dX10_count_36 : decode cX10_count 36 = .ok (.iload_n 3, 1) := by decide +kernel
theorem dX10_count_37 : decode cX10_count 37 = .ok (.aload_n 0, 1) := by decide +kernel
theorem dX10_count_38 : decode cX10_count 38 = .ok (.iload 4, 2) := by decide +kernel
theorem dX10_count_40 : decode cX10_count 40 = .ok (.bipush 26, 2) := by decide +kernel
theorem dX10_count_42 : decode cX10_count 42 = .ok (.invokevirtual 75, 3) := by decide +kernel
theorem dX10_count_45 : decode cX10_count 45 = .ok (.iadd, 1) := by decide +kernel
theorem dX10_count_46 : decode cX10_count 46 = .ok (.istore_n 3, 1) := by decide +kernel
theorem dX10_count_47 : decode cX10_count 47 = .ok (.iinc 4 1, 3) := by decide +kernel
theorem dX10_count_50 : decode cX10_count 50 = .ok (.goto (-38), 3) := by decide +kernel
theorem dX10_count_53 : decode cX10_count 53 = .ok (.iconst 0, 1) := by decide +kernel
theorem dX10_count_54 : decode cX10_count 54 = .ok (.istore 4, 2) := by decide +kernel
theorem dX10_count_56 : decode cX10_count 56 = .ok (.iconst 0, 1) := by decide +kernel
theorem dX10_count_57 : decode cX10_count 57 = .ok (.istore 5, 2) := by decide +kernel
theorem dX10_count_59 : decode cX10_count 59 = .ok (.iload 5, 2) := by decide +kernel
theorem dX10_count_61 : decode cX10_count 61 = .ok (.bipush 40, 2) := by decide +kernel
theorem dX10_count_63 : decode cX10_count 63 = .ok (.if_icmp .ge 28, 3) := by decide +kernel
theorem dX10_count_66 : decode cX10_count 66 = .ok (.iload 4, 2) := by decide +kernel
theorem dX10_count_68 : decode cX10_count 68 = .ok (.aload_n 0, 1) := by decide +kernel
theorem dX10_count_69 : decode cX10_count 69 = .ok (.getfield 7, 3) := by decide +kernel
theorem dX10_count_72 : decode cX10_count 72 = .ok (.sipush 6240, 3) := by decide +kernel
theorem dX10_count_75 : decode cX10_count 75 = .ok (.bipush 62, 2) := by decide +kernel
theorem dX10_count_77 : decode cX10_count 77 = .ok (.iload 5, 2) := by decide +kernel
theorem dX10_count_79 : decode cX10_count 79 = .ok (.imul, 1) := by decide +kernel
theorem dX10_count_80 : decode cX10_count 80 = .ok (.iadd, 1) := by decide +kernel
theorem dX10_count_81 : decode cX10_count 81 = .ok (.iaload, 1) := by decide +kernel
theorem dX10_count_82 : decode cX10_count 82 = .ok (.iadd, 1) := by decide +kernel
theorem dX10_count_83 : decode cX10_count 83 = .ok (.istore 4, 2) := by decide +kernel
theorem dX10_count_85 : decode cX10_count 85 = .ok (.iinc 5 1, 3) := by decide +kernel
theorem dX10_count_88 : decode cX10_count 88 = .ok (.goto (-29), 3) := by decide +kernel
theorem dX10_count_91 : decode cX10_count 91 = .ok (.iconst 0, 1) := by decide +kernel
theorem dX10_count_92 : decode cX10_count 92 = .ok (.istore 5, 2) := by decide +kernel
theorem dX10_count_94 : decode cX10_count 94 = .ok (.iconst 0, 1) := by decide +kernel
theorem dX10_count_95 : decode cX10_count 95 = .ok (.istore 6, 2) := by decide +kernel
theorem dX10_count_97 : decode cX10_count 97 = .ok (.iload 6, 2) := by decide +kernel
theorem dX10_count_99 : decode cX10_count 99 = .ok (.bipush 12, 2) := by decide +kernel
theorem dX10_count_101 : decode cX10_count 101 = .ok (.if_icmp .ge 43, 3) := by decide +kernel
theorem dX10_count_104 : decode cX10_count 104 = .ok (.iload 5, 2) := by decide +kernel
theorem dX10_count_106 : decode cX10_count 106 = .ok (.aload_n 0, 1) := by decide +kernel
theorem dX10_count_107 : decode cX10_count 107 = .ok (.getfield 7, 3) := by decide +kernel
theorem dX10_count_110 : decode cX10_count 110 = .ok (.sipush 8720, 3) := by decide +kernel
theorem dX10_count_113 : decode cX10_count 113 = .ok (.iconst 2, 1) := by decide +kernel
theorem dX10_count_114 : decode cX10_count 114 = .ok (.iload 6, 2) := by decide +kernel
theorem dX10_count_116 : decode cX10_count 116 = .ok (.imul, 1) := by decide +kernel
theorem dX10_count_117 : decode cX10_count 117 = .ok (.iadd, 1) := by decide +kernel
theorem dX10_count_118 : decode cX10_count 118 = .ok (.iaload, 1) := by decide +kernel
theorem dX10_count_119 : decode cX10_count 119 = .ok (.aload_n 0, 1) := by decide +kernel
theorem dX10_count_120 : decode cX10_count 120 = .ok (.getfield 7, 3) := by decide +kernel
theorem dX10_count_123 : decode cX10_count 123 = .ok (.sipush 8720, 3) := by decide +kernel
theorem dX10_count_126 : decode cX10_count 126 = .ok (.iconst 2, 1) := by decide +kernel
theorem dX10_count_127 : decode cX10_count 127 = .ok (.iload 6, 2) := by decide +kernel
theorem dX10_count_129 : decode cX10_count 129 = .ok (.imul, 1) := by decide +kernel
theorem dX10_count_130 : decode cX10_count 130 = .ok (.iadd, 1) := by decide +kernel
theorem dX10_count_131 : decode cX10_count 131 = .ok (.iconst 1, 1) := by decide +kernel
theorem dX10_count_132 : decode cX10_count 132 = .ok (.iadd, 1) := by decide +kernel
theorem dX10_count_133 : decode cX10_count 133 = .ok (.iaload, 1) := by decide +kernel
theorem dX10_count_134 : decode cX10_count 134 = .ok (.imul, 1) := by decide +kernel
theorem dX10_count_135 : decode cX10_count 135 = .ok (.iadd, 1) := by decide +kernel
theorem dX10_count_136 : decode cX10_count 136 = .ok (.istore 5, 2) := by decide +kernel
theorem dX10_count_138 : decode cX10_count 138 = .ok (.iinc 6 1, 3) := by decide +kernel
theorem dX10_count_141 : decode cX10_count 141 = .ok (.goto (-44), 3) := by decide +kernel
theorem dX10_count_144 : decode cX10_count 144 = .ok (.iload_n 1, 1) := by decide +kernel
theorem dX10_count_145 : decode cX10_count 145 = .ok (.tableswitch 148 0 12 #[67, 76, 78, 81, 90, 95, 97, 100, 100, 100, 100, 114, 143], 67) := by decide +kernel
theorem dX10_count_212 : decode cX10_count 212 = .ok (.aload_n 0, 1) := by decide +kernel
theorem dX10_count_213 : decode cX10_count 213 = .ok (.getfield 7, 3) := by decide +kernel
theorem dX10_count_216 : decode cX10_count 216 = .ok (.sipush 11344, 3) := by decide +kernel
theorem dX10_count_219 : decode cX10_count 219 = .ok (.iaload, 1) := by decide +kernel
theorem dX10_count_220 : decode cX10_count 220 = .ok (.ireturn, 1) := by decide +kernel
theorem dX10_count_221 : decode cX10_count 221 = .ok (.iload_n 2, 1) := by decide +kernel
theorem dX10_count_222 : decode cX10_count 222 = .ok (.ireturn, 1) := by decide +kernel
theorem dX10_count_223 : decode cX10_count 223 = .ok (.iload 4, 2) := by decide +kernel
theorem dX10_count_225 : decode cX10_count 225 = .ok (.ireturn, 1) := by decide +kernel
theorem dX10_count_226 : decode cX10_count 226 = .ok (.aload_n 0, 1) := by decide +kernel
theorem dX10_count_227 : decode cX10_count 227 = .ok (.getfield 7, 3) := by decide +kernel
theorem dX10_count_230 : decode cX10_count 230 = .ok (.sipush 11345, 3) := by decide +kernel
theorem dX10_count_233 : decode cX10_count 233 = .ok (.iaload, 1) := by decide +kernel
theorem dX10_count_234 : decode cX10_count 234 = .ok (.ireturn, 1) := by decide +kernel
theorem dX10_count_235 : decode cX10_count 235 = .ok (.aload_n 0, 1) := by decide +kernel
theorem dX10_count_236 : decode cX10_count 236 = .ok (.getfield 154, 3) := by decide +kernel
theorem dX10_count_239 : decode cX10_count 239 = .ok (.ireturn, 1) := by decide +kernel
theorem dX10_count_240 : decode cX10_count 240 = .ok (.iload_n 3, 1) := by decide +kernel
theorem dX10_count_241 : decode cX10_count 241 = .ok (.ireturn, 1) := by decide +kernel
theorem dX10_count_242 : decode cX10_count 242 = .ok (.iload 5, 2) := by decide +kernel
theorem dX10_count_244 : decode cX10_count 244 = .ok (.ireturn, 1) := by decide +kernel
theorem dX10_count_245 : decode cX10_count 245 = .ok (.aload_n 0, 1) := by decide +kernel
theorem dX10_count_246 : decode cX10_count 246 = .ok (.getfield 7, 3) := by decide +kernel
theorem dX10_count_249 : decode cX10_count 249 = .ok (.sipush 11346, 3) := by decide +kernel
theorem dX10_count_252 : decode cX10_count 252 = .ok (.iload_n 1, 1) := by decide +kernel
theorem dX10_count_253 : decode cX10_count 253 = .ok (.iadd, 1) := by decide +kernel
theorem dX10_count_254 : decode cX10_count 254 = .ok (.bipush 7, 2) := by decide +kernel
theorem dX10_count_256 : decode cX10_count 256 = .ok (.isub, 1) := by decide +kernel
theorem dX10_count_257 : decode cX10_count 257 = .ok (.iaload, 1) := by decide +kernel
theorem dX10_count_258 : decode cX10_count 258 = .ok (.ireturn, 1) := by decide +kernel
theorem dX10_count_259 : decode cX10_count 259 = .ok (.aload_n 0, 1) := by decide +kernel
theorem dX10_count_260 : decode cX10_count 260 = .ok (.getfield 7, 3) := by decide +kernel
theorem dX10_count_263 : decode cX10_count 263 = .ok (.sipush 11344, 3) := by decide +kernel
theorem dX10_count_266 : decode cX10_count 266 = .ok (.iaload, 1) := by decide +kernel
theorem dX10_count_267 : decode cX10_count 267 = .ok (.ifCond .ne 7, 3) := by decide +kernel
theorem dX10_count_270 : decode cX10_count 270 = .ok (.iconst 0, 1) := by decide +kernel
theorem dX10_count_271 : decode cX10_count 271 = .ok (.goto 16, 3) := by decide +kernel
theorem dX10_count_274 : decode cX10_count 274 = .ok (.aload_n 0, 1) := by decide +kernel
theorem dX10_count_275 : decode cX10_count 275 = .ok (.getfield 7, 3) := by decide +kernel
theorem dX10_count_278 : decode cX10_count 278 = .ok (.sipush 11344, 3) := by decide +kernel
theorem dX10_count_281 : decode cX10_count 281 = .ok (.iaload, 1) := by decide +kernel
theorem dX10_count_282 : decode cX10_count 282 = .ok (.aload_n 0, 1) := by decide +kernel
theorem dX10_count_283 : decode cX10_count 283 = .ok (.getfield 178, 3) := by decide +kernel
theorem dX10_count_286 : decode cX10_count 286 = .ok (.isub, 1) := by decide +kernel
theorem dX10_count_287 : decode cX10_count 287 = .ok (.ireturn, 1) := by decide +kernel
theorem dX10_count_288 : decode cX10_count 288 = .ok (.aload_n 0, 1) := by decide +kernel
theorem dX10_count_289 : decode cX10_count 289 = .ok (.getfield 64, 3) := by decide +kernel
theorem dX10_count_292 : decode cX10_count 292 = .ok (.ireturn, 1) := by decide +kernel
theorem dX10_count_293 : decode cX10_count 293 = .ok (.bipush (-2), 2) := by decide +kernel
theorem dX10_count_295 : decode cX10_count 295 = .ok (.ireturn, 1) := by decide +kernel
theorem dX10_back_0 : decode cX10_back 0 = .ok (.aload_n 0, 1) := by decide +kernel
theorem dX10_back_1 : decode cX10_back 1 = .ok (.iconst 0, 1) := by decide +kernel
theorem dX10_back_2 : decode cX10_back 2 = .ok (.putfield 53, 3) := by decide +kernel
theorem dX10_back_5 : decode cX10_back 5 = .ok (.iload_n 1, 1) := by decide +kernel
theorem dX10_back_6 : decode cX10_back 6 = .ok (.iconst 1, 1) := by decide +kernel
theorem dX10_back_7 : decode cX10_back 7 = .ok (.sipush 300, 3) := by decide +kernel
theorem dX10_back_10 : decode cX10_back 10 = .ok (.invokestatic 71, 3) := by decide +kernel
theorem dX10_back_13 : decode cX10_back 13 = .ok (.ifCond .ne 6, 3) := by decide +kernel
theorem dX10_back_16 : decode cX10_back 16 = .ok (.bipush (-2), 2) := by decide +kernel
theorem dX10_back_18 : decode cX10_back 18 = .ok (.ireturn, 1) := by decide +kernel
theorem dX10_back_19 : decode cX10_back 19 = .ok (.aload_n 0, 1) := by decide +kernel
theorem dX10_back_20 : decode cX10_back 20 = .ok (.getfield 7, 3) := by decide +kernel
theorem dX10_back_23 : decode cX10_back 23 = .ok (.sipush 11344, 3) := by decide +kernel
theorem dX10_back_26 : decode cX10_back 26 = .ok (.iaload, 1) := by decide +kernel
theorem dX10_back_27 : decode cX10_back 27 = .ok (.ifCond .eq 20, 3) := by decide +kernel
theorem dX10_back_30 : decode cX10_back 30 = .ok (.iload_n 1, 1) := by decide +kernel
theorem dX10_back_31 : decode cX10_back 31 = .ok (.aload_n 0, 1) := by decide +kernel
theorem dX10_back_32 : decode cX10_back 32 = .ok (.getfield 7, 3) := by decide +kernel
theorem dX10_back_35 : decode cX10_back 35 = .ok (.sipush 11344, 3) := by decide +kernel
theorem dX10_back_38 : decode cX10_back 38 = .ok (.iaload, 1) := by decide +kernel
theorem dX10_back_39 : decode cX10_back 39 = .ok (.aload_n 0, 1) := by decide +kernel
theorem dX10_back_40 : decode cX10_back 40 = .ok (.getfield 178, 3) := by decide +kernel
theorem dX10_back_43 : decode cX10_back 43 = .ok (.isub, 1) := by decide +kernel
theorem dX10_back_44 : decode cX10_back 44 = .ok (.if_icmp .le 6, 3) := by decide +kernel
theorem dX10_back_47 : decode cX10_back 47 = .ok (.bipush (-3), 2) := by decide +kernel
theorem dX10_back_49 : decode cX10_back 49 = .ok (.ireturn, 1) := by decide +kernel
theorem dX10_back_50 : decode cX10_back 50 = .ok (.aload_n 0, 1) := by decide +kernel
theorem dX10_back_51 : decode cX10_back 51 = .ok (.getfield 20, 3) := by decide +kernel
theorem dX10_back_54 : decode cX10_back 54 = .ok (.aload_n 0, 1) := by decide +kernel
theorem dX10_back_55 : decode cX10_back 55 = .ok (.getfield 7, 3) := by decide +kernel
theorem dX10_back_58 : decode cX10_back 58 = .ok (.sipush 11344, 3) := by decide +kernel
theorem dX10_back_61 : decode cX10_back 61 = .ok (.iaload, 1) := by decide +kernel
theorem dX10_back_62 : decode cX10_back 62 = .ok (.iload_n 1, 1) := by decide +kernel
theorem dX10_back_63 : decode cX10_back 63 = .ok (.isub, 1) := by decide +kernel
theorem dX10_back_64 : decode cX10_back 64 = .ok (.sipush 301, 3) := by decide +kernel
theorem dX10_back_67 : decode cX10_back 67 = .ok (.irem, 1) := by decide +kernel
theorem dX10_back_68 : decode cX10_back 68 = .ok (.iaload, 1) := by decide +kernel
theorem dX10_back_69 : decode cX10_back 69 = .ok (.istore_n 2, 1) := by decide +kernel
theorem dX10_back_70 : decode cX10_back 70 = .ok (.aload_n 0, 1) := by decide +kernel
theorem dX10_back_71 : decode cX10_back 71 = .ok (.getfield 57, 3) := by decide +kernel
theorem dX10_back_74 : decode cX10_back 74 = .ok (.iload_n 2, 1) := by decide +kernel
theorem dX10_back_75 : decode cX10_back 75 = .ok (.if_icmp .le 45, 3) := by decide +kernel
theorem dX10_back_78 : decode cX10_back 78 = .ok (.aload_n 0, 1) := by decide +kernel
theorem dX10_back_79 : decode cX10_back 79 = .ok (.dup, 1) := by decide +kernel
theorem dX10_back_80 : decode cX10_back 80 = .ok (.getfield 57, 3) := by decide +kernel
theorem dX10_back_83 : decode cX10_back 83 = .ok (.iconst 1, 1) := by decide +kernel
theorem dX10_back_84 : decode cX10_back 84 = .ok (.isub, 1) := by decide +kernel
theorem dX10_back_85 : decode cX10_back 85 = .ok (.putfield 57, 3) := by decide +kernel
theorem dX10_back_88 : decode cX10_back 88 = .ok (.aload_n 0, 1) := by decide +kernel
theorem dX10_back_89 : decode cX10_back 89 = .ok (.getfield 7, 3) := by decide +kernel
theorem dX10_back_92 : decode cX10_back 92 = .ok (.aload_n 0, 1) := by decide +kernel
theorem dX10_back_93 : decode cX10_back 93 = .ok (.getfield 14, 3) := by decide +kernel
theorem dX10_back_96 : decode cX10_back 96 = .ok (.aload_n 0, 1) := by decide +kernel
theorem dX10_back_97 : decode cX10_back 97 = .ok (.getfield 57, 3) := by decide +kernel
theorem dX10_back_100 : decode cX10_back 100 = .ok (.ldc 60, 2) := by decide +kernel
theorem dX10_back_102 : decode cX10_back 102 = .ok (.iand, 1) := by decide +kernel
theorem dX10_back_103 : decode cX10_back 103 = .ok (.iaload, 1) := by decide +kernel
theorem dX10_back_104 : decode cX10_back 104 = .ok (.aload_n 0, 1) := by decide +kernel
theorem dX10_back_105 : decode cX10_back 105 = .ok (.getfield 17, 3) := by decide +kernel
theorem dX10_back_108 : decode cX10_back 108 = .ok (.aload_n 0, 1) := by decide +kernel
theorem dX10_back_109 : decode cX10_back 109 = .ok (.getfield 57, 3) := by decide +kernel
theorem dX10_back_112 : decode cX10_back 112 = .ok (.ldc 60, 2) := by decide +kernel
theorem dX10_back_114 : decode cX10_back 114 = .ok (.iand, 1) := by decide +kernel
theorem dX10_back_115 : decode cX10_back 115 = .ok (.iaload, 1) := by decide +kernel
theorem dX10_back_116 : decode cX10_back 116 = .ok (.iastore, 1) := by decide +kernel
theorem dX10_back_117 : decode cX10_back 117 = .ok (.goto (-47), 3) := by decide +kernel
theorem dX10_back_120 : decode cX10_back 120 = .ok (.aload_n 0, 1) := by decide +kernel
theorem dX10_back_121 : decode cX10_back 121 = .ok (.getfield 7, 3) := by decide +kernel
theorem dX10_back_124 : decode cX10_back 124 = .ok (.sipush 11344, 3) := by decide +kernel
theorem dX10_back_127 : decode cX10_back 127 = .ok (.iaload, 1) := by decide +kernel
theorem dX10_back_128 : decode cX10_back 128 = .ok (.ireturn, 1) := by decide +kernel
theorem dX10_digest_0 : decode cX10_digest 0 = .ok (.aload_n 0, 1) := by decide +kernel
theorem dX10_digest_1 : decode cX10_digest 1 = .ok (.iconst 0, 1) := by decide +kernel
theorem dX10_digest_2 : decode cX10_digest 2 = .ok (.putfield 53, 3) := by decide +kernel
theorem dX10_digest_5 : decode cX10_digest 5 = .ok (.ldc2_w 194, 3) := by decide +kernel
theorem dX10_digest_8 : decode cX10_digest 8 = .ok (.aload_n 0, 1) := by decide +kernel
theorem dX10_digest_9 : decode cX10_digest 9 = .ok (.getfield 7, 3) := by decide +kernel
theorem dX10_digest_12 : decode cX10_digest 12 = .ok (.sipush 11344, 3) := by decide +kernel
theorem dX10_digest_15 : decode cX10_digest 15 = .ok (.iaload, 1) := by decide +kernel
theorem dX10_digest_16 : decode cX10_digest 16 = .ok (.i2l, 1) := by decide +kernel
theorem dX10_digest_17 : decode cX10_digest 17 = .ok (.ladd, 1) := by decide +kernel
theorem dX10_digest_18 : decode cX10_digest 18 = .ok (.lstore_n 1, 1) := by decide +kernel
theorem dX10_digest_19 : decode cX10_digest 19 = .ok (.iconst 0, 1) := by decide +kernel
theorem dX10_digest_20 : decode cX10_digest 20 = .ok (.istore_n 3, 1) := by decide +kernel
theorem dX10_digest_21 : decode cX10_digest 21 = .ok (.iload_n 3, 1) := by decide +kernel
theorem dX10_digest_22 : decode cX10_digest 22 = .ok (.bipush 60, 2) := by decide +kernel
theorem dX10_digest_24 : decode cX10_digest 24 = .ok (.if_icmp .ge 97, 3) := by decide +kernel
theorem dX10_digest_27 : decode cX10_digest 27 = .ok (.lload_n 1, 1) := by decide +kernel
theorem dX10_digest_28 : decode cX10_digest 28 = .ok (.ldc2_w 196, 3) := by decide +kernel
theorem dX10_digest_31 : decode cX10_digest 31 = .ok (.lmul, 1) := by decide +kernel
theorem dX10_digest_32 : decode cX10_digest 32 = .ok (.aload_n 0, 1) := by decide +kernel
theorem dX10_digest_33 : decode cX10_digest 33 = .ok (.iload_n 3, 1) := by decide +kernel
theorem dX10_digest_34 : decode cX10_digest 34 = .ok (.invokevirtual 79, 3) := by decide +kernel
theorem dX10_digest_37 : decode cX10_digest 37 = .ok (.i2l, 1) := by decide +kernel
theorem dX10_digest_38 : decode cX10_digest 38 = .ok (.ladd, 1) := by decide +kernel
theorem dX10_digest_39 : decode cX10_digest 39 = .ok (.lstore_n 1, 1) := by decide +kernel
theorem dX10_digest_40 : decode cX10_digest 40 = .ok (.aload_n 0, 1) := by decide +kernel
theorem dX10_digest_41 : decode cX10_digest 41 = .ok (.iload_n 3, 1) := by decide +kernel
theorem dX10_digest_42 : decode cX10_digest 42 = .ok (.invokevirtual 110, 3) := by decide +kernel
theorem dX10_digest_45 : decode cX10_digest 45 = .ok (.ifCond .eq 70, 3) := by decide +kernel
theorem dX10_digest_48 : decode cX10_digest 48 = .ok (.lload_n 1, 1) := by decide +kernel
theorem dX10_digest_49 : decode cX10_digest 49 = .ok (.ldc2_w 196, 3) := by decide +kernel
theorem dX10_digest_52 : decode cX10_digest 52 = .ok (.lmul, 1) := by decide +kernel
theorem dX10_digest_53 : decode cX10_digest 53 = .ok (.aload_n 0, 1) := by decide +kernel
theorem dX10_digest_54 : decode cX10_digest 54 = .ok (.iload_n 3, 1) := by decide +kernel
theorem dX10_digest_55 : decode cX10_digest 55 = .ok (.iconst 5, 1) := by decide +kernel
theorem dX10_digest_56 : decode cX10_digest 56 = .ok (.invokevirtual 75, 3) := by decide +kernel
theorem dX10_digest_59 : decode cX10_digest 59 = .ok (.i2l, 1) := by decide +kernel
theorem dX10_digest_60 : decode cX10_digest 60 = .ok (.ladd, 1) := by decide +kernel
theorem dX10_digest_61 : decode cX10_digest 61 = .ok (.lstore_n 1, 1) := by decide +kernel
theorem dX10_digest_62 : decode cX10_digest 62 = .ok (.lload_n 1, 1) := by decide +kernel
theorem dX10_digest_63 : decode cX10_digest 63 = .ok (.ldc2_w 196, 3) := by decide +kernel
theorem dX10_digest_66 : decode cX10_digest 66 = .ok (.lmul, 1) := by decide +kernel
theorem dX10_digest_67 : decode cX10_digest 67 = .ok (.aload_n 0, 1) := by decide +kernel
theorem dX10_digest_68 : decode cX10_digest 68 = .ok (.iload_n 3, 1) := by decide +kernel
theorem dX10_digest_69 : decode cX10_digest 69 = .ok (.iconst 4, 1) := by decide +kernel
theorem dX10_digest_70 : decode cX10_digest 70 = .ok (.invokevirtual 75, 3) := by decide +kernel
theorem dX10_digest_73 : decode cX10_digest 73 = .ok (.i2l, 1) := by decide +kernel
theorem dX10_digest_74 : decode cX10_digest 74 = .ok (.ladd, 1) := by decide +kernel
theorem dX10_digest_75 : decode cX10_digest 75 = .ok (.lstore_n 1, 1) := by decide +kernel
theorem dX10_digest_76 : decode cX10_digest 76 = .ok (.lload_n 1, 1) := by decide +kernel
theorem dX10_digest_77 : decode cX10_digest 77 = .ok (.ldc2_w 196, 3) := by decide +kernel
theorem dX10_digest_80 : decode cX10_digest 80 = .ok (.lmul, 1) := by decide +kernel
theorem dX10_digest_81 : decode cX10_digest 81 = .ok (.aload_n 0, 1) := by decide +kernel
theorem dX10_digest_82 : decode cX10_digest 82 = .ok (.iload_n 3, 1) := by decide +kernel
theorem dX10_digest_83 : decode cX10_digest 83 = .ok (.invokevirtual 190, 3) := by decide +kernel
theorem dX10_digest_86 : decode cX10_digest 86 = .ok (.i2l, 1) := by decide +kernel
theorem dX10_digest_87 : decode cX10_digest 87 = .ok (.ladd, 1) := by decide +kernel
theorem dX10_digest_88 : decode cX10_digest 88 = .ok (.lstore_n 1, 1) := by decide +kernel
theorem dX10_digest_89 : decode cX10_digest 89 = .ok (.lload_n 1, 1) := by decide +kernel
theorem dX10_digest_90 : decode cX10_digest 90 = .ok (.ldc2_w 196, 3) := by decide +kernel
theorem dX10_digest_93 : decode cX10_digest 93 = .ok (.lmul, 1) := by decide +kernel
theorem dX10_digest_94 : decode cX10_digest 94 = .ok (.aload_n 0, 1) := by decide +kernel
theorem dX10_digest_95 : decode cX10_digest 95 = .ok (.iload_n 3, 1) := by decide +kernel
theorem dX10_digest_96 : decode cX10_digest 96 = .ok (.invokevirtual 120, 3) := by decide +kernel
theorem dX10_digest_99 : decode cX10_digest 99 = .ok (.i2l, 1) := by decide +kernel
theorem dX10_digest_100 : decode cX10_digest 100 = .ok (.ladd, 1) := by decide +kernel
theorem dX10_digest_101 : decode cX10_digest 101 = .ok (.lstore_n 1, 1) := by decide +kernel
theorem dX10_digest_102 : decode cX10_digest 102 = .ok (.lload_n 1, 1) := by decide +kernel
theorem dX10_digest_103 : decode cX10_digest 103 = .ok (.ldc2_w 196, 3) := by decide +kernel
theorem dX10_digest_106 : decode cX10_digest 106 = .ok (.lmul, 1) := by decide +kernel
theorem dX10_digest_107 : decode cX10_digest 107 = .ok (.aload_n 0, 1) := by decide +kernel
theorem dX10_digest_108 : decode cX10_digest 108 = .ok (.iload_n 3, 1) := by decide +kernel
theorem dX10_digest_109 : decode cX10_digest 109 = .ok (.invokevirtual 123, 3) := by decide +kernel
theorem dX10_digest_112 : decode cX10_digest 112 = .ok (.i2l, 1) := by decide +kernel
theorem dX10_digest_113 : decode cX10_digest 113 = .ok (.ladd, 1) := by decide +kernel
theorem dX10_digest_114 : decode cX10_digest 114 = .ok (.lstore_n 1, 1) := by decide +kernel
theorem dX10_digest_115 : decode cX10_digest 115 = .ok (.iinc 3 1, 3) := by decide +kernel
theorem dX10_digest_118 : decode cX10_digest 118 = .ok (.goto (-97), 3) := by decide +kernel
theorem dX10_digest_121 : decode cX10_digest 121 = .ok (.iconst 0, 1) := by decide +kernel
theorem dX10_digest_122 : decode cX10_digest 122 = .ok (.istore_n 3, 1) := by decide +kernel
theorem dX10_digest_123 : decode cX10_digest 123 = .ok (.iload_n 3, 1) := by decide +kernel
theorem dX10_digest_124 : decode cX10_digest 124 = .ok (.bipush 12, 2) := by decide +kernel
theorem dX10_digest_126 : decode cX10_digest 126 = .ok (.if_icmp .ge 31, 3) := by decide +kernel
theorem dX10_digest_129 : decode cX10_digest 129 = .ok (.lload_n 1, 1) := by decide +kernel
theorem dX10_digest_130 : decode cX10_digest 130 = .ok (.ldc2_w 196, 3) := by decide +kernel
theorem dX10_digest_133 : decode cX10_digest 133 = .ok (.lmul, 1) := by decide +kernel
theorem dX10_digest_134 : decode cX10_digest 134 = .ok (.aload_n 0, 1) := by decide +kernel
theorem dX10_digest_135 : decode cX10_digest 135 = .ok (.getfield 7, 3) := by decide +kernel
theorem dX10_digest_138 : decode cX10_digest 138 = .ok (.sipush 8720, 3) := by decide +kernel
theorem dX10_digest_141 : decode cX10_digest 141 = .ok (.iconst 2, 1) := by decide +kernel
theorem dX10_digest_142 : decode cX10_digest 142 = .ok (.iload_n 3, 1) := by decide +kernel
theorem dX10_digest_143 : decode cX10_digest 143 = .ok (.imul, 1) := by decide +kernel
theorem dX10_digest_144 : decode cX10_digest 144 = .ok (.iadd, 1) := by decide +kernel
theorem dX10_digest_145 : decode cX10_digest 145 = .ok (.iconst 1, 1) := by decide +kernel
theorem dX10_digest_146 : decode cX10_digest 146 = .ok (.iadd, 1) := by decide +kernel
theorem dX10_digest_147 : decode cX10_digest 147 = .ok (.iaload, 1) := by decide +kernel
theorem dX10_digest_148 : decode cX10_digest 148 = .ok (.i2l, 1) := by decide +kernel
theorem dX10_digest_149 : decode cX10_digest 149 = .ok (.ladd, 1) := by decide +kernel
theorem dX10_digest_150 : decode cX10_digest 150 = .ok (.lstore_n 1, 1) := by decide +kernel
theorem dX10_digest_151 : decode cX10_digest 151 = .ok (.iinc 3 1, 3) := by decide +kernel
theorem dX10_digest_154 : decode cX10_digest 154 = .ok (.goto (-31), 3) := by decide +kernel
theorem dX10_digest_157 : decode cX10_digest 157 = .ok (.iconst 0, 1) := by decide +kernel
theorem dX10_digest_158 : decode cX10_digest 158 = .ok (.istore_n 3, 1) := by decide +kernel
theorem dX10_digest_159 : decode cX10_digest 159 = .ok (.iload_n 3, 1) := by decide +kernel
theorem dX10_digest_160 : decode cX10_digest 160 = .ok (.aload_n 0, 1) := by decide +kernel
theorem dX10_digest_161 : decode cX10_digest 161 = .ok (.getfield 7, 3) := by decide +kernel
theorem dX10_digest_164 : decode cX10_digest 164 = .ok (.sipush 11345, 3) := by decide +kernel
theorem dX10_digest_167 : decode cX10_digest 167 = .ok (.iaload, 1) := by decide +kernel
theorem dX10_digest_168 : decode cX10_digest 168 = .ok (.if_icmp .ge 31, 3) := by decide +kernel
theorem dX10_digest_171 : decode cX10_digest 171 = .ok (.lload_n 1, 1) := by decide +kernel
theorem dX10_digest_172 : decode cX10_digest 172 = .ok (.ldc2_w 196, 3) := by decide +kernel
theorem dX10_digest_175 : decode cX10_digest 175 = .ok (.lmul, 1) := by decide +kernel
theorem dX10_digest_176 : decode cX10_digest 176 = .ok (.aload_n 0, 1) := by decide +kernel
theorem dX10_digest_177 : decode cX10_digest 177 = .ok (.getfield 7, 3) := by decide +kernel
theorem dX10_digest_180 : decode cX10_digest 180 = .ok (.sipush 8844, 3) := by decide +kernel
theorem dX10_digest_183 : decode cX10_digest 183 = .ok (.iconst 5, 1) := by decide +kernel
theorem dX10_digest_184 : decode cX10_digest 184 = .ok (.iload_n 3, 1) := by decide +kernel
theorem dX10_digest_185 : decode cX10_digest 185 = .ok (.imul, 1) := by decide +kernel
theorem dX10_digest_186 : decode cX10_digest 186 = .ok (.iadd, 1) := by decide +kernel
theorem dX10_digest_187 : decode cX10_digest 187 = .ok (.iconst 3, 1) := by decide +kernel
theorem dX10_digest_188 : decode cX10_digest 188 = .ok (.iadd, 1) := by decide +kernel
theorem dX10_digest_189 : decode cX10_digest 189 = .ok (.iaload, 1) := by decide +kernel
theorem dX10_digest_190 : decode cX10_digest 190 = .ok (.i2l, 1) := by decide +kernel
theorem dX10_digest_191 : decode cX10_digest 191 = .ok (.ladd, 1) := by decide +kernel
theorem dX10_digest_192 : decode cX10_digest 192 = .ok (.lstore_n 1, 1) := by decide +kernel
theorem dX10_digest_193 : decode cX10_digest 193 = .ok (.iinc 3 1, 3) := by decide +kernel
theorem dX10_digest_196 : decode cX10_digest 196 = .ok (.goto (-37), 3) := by decide +kernel
theorem dX10_digest_199 : decode cX10_digest 199 = .ok (.lload_n 1, 1) := by decide +kernel
theorem dX10_digest_200 : decode cX10_digest 200 = .ok (.lreturn, 1) := by decide +kernel
theorem dX10_status_0 : decode cX10_status 0 = .ok (.aload_n 0, 1) := by decide +kernel
theorem dX10_status_1 : decode cX10_status 1 = .ok (.iconst 0, 1) := by decide +kernel
theorem dX10_status_2 : decode cX10_status 2 = .ok (.putfield 53, 3) := by decide +kernel
theorem dX10_status_5 : decode cX10_status 5 = .ok (.aload_n 0, 1) := by decide +kernel
theorem dX10_status_6 : decode cX10_status 6 = .ok (.getfield 61, 3) := by decide +kernel
theorem dX10_status_9 : decode cX10_status 9 = .ok (.ireturn, 1) := by decide +kernel
theorem dJ9_floorMod_7cf53_0 : decode cJ9_floorMod_7cf53 0 = .ok (.iload_n 0, 1) := by decide +kernel
theorem dJ9_floorMod_7cf53_1 : decode cJ9_floorMod_7cf53 1 = .ok (.iload_n 1, 1) := by decide +kernel
theorem dJ9_floorMod_7cf53_2 : decode cJ9_floorMod_7cf53 2 = .ok (.irem, 1) := by decide +kernel
theorem dJ9_floorMod_7cf53_3 : decode cJ9_floorMod_7cf53 3 = .ok (.istore_n 2, 1) := by decide +kernel
theorem dJ9_floorMod_7cf53_4 : decode cJ9_floorMod_7cf53 4 = .ok (.iload_n 0, 1) := by decide +kernel
theorem dJ9_floorMod_7cf53_5 : decode cJ9_floorMod_7cf53 5 = .ok (.iload_n 1, 1) := by decide +kernel
theorem dJ9_floorMod_7cf53_6 : decode cJ9_floorMod_7cf53 6 = .ok (.ixor, 1) := by decide +kernel
theorem dJ9_floorMod_7cf53_7 : decode cJ9_floorMod_7cf53 7 = .ok (.ifCond .ge 11, 3) := by decide +kernel
theorem dJ9_floorMod_7cf53_10 : decode cJ9_floorMod_7cf53 10 = .ok (.iload_n 2, 1) := by decide +kernel
theorem dJ9_floorMod_7cf53_11 : decode cJ9_floorMod_7cf53 11 = .ok (.ifCond .eq 7, 3) := by decide +kernel
theorem dJ9_floorMod_7cf53_14 : decode cJ9_floorMod_7cf53 14 = .ok (.iload_n 2, 1) := by decide +kernel
theorem dJ9_floorMod_7cf53_15 : decode cJ9_floorMod_7cf53 15 = .ok (.iload_n 1, 1) := by decide +kernel
theorem dJ9_floorMod_7cf53_16 : decode cJ9_floorMod_7cf53 16 = .ok (.iadd, 1) := by decide +kernel
theorem dJ9_floorMod_7cf53_17 : decode cJ9_floorMod_7cf53 17 = .ok (.ireturn, 1) := by decide +kernel
theorem dJ9_floorMod_7cf53_18 : decode cJ9_floorMod_7cf53 18 = .ok (.iload_n 2, 1) := by decide +kernel
theorem dJ9_floorMod_7cf53_19 : decode cJ9_floorMod_7cf53 19 = .ok (.ireturn, 1) := by decide +kernel
theorem dJ9_max_7cf53_0 : decode cJ9_max_7cf53 0 = .ok (.iload_n 0, 1) := by decide +kernel
theorem dJ9_max_7cf53_1 : decode cJ9_max_7cf53 1 = .ok (.iload_n 1, 1) := by decide +kernel
theorem dJ9_max_7cf53_2 : decode cJ9_max_7cf53 2 = .ok (.if_icmp .lt 7, 3) := by decide +kernel
theorem dJ9_max_7cf53_5 : decode cJ9_max_7cf53 5 = .ok (.iload_n 0, 1) := by decide +kernel
theorem dJ9_max_7cf53_6 : decode cJ9_max_7cf53 6 = .ok (.goto 4, 3) := by decide +kernel
theorem dJ9_max_7cf53_9 : decode cJ9_max_7cf53 9 = .ok (.iload_n 1, 1) := by decide +kernel
theorem dJ9_max_7cf53_10 : decode cJ9_max_7cf53 10 = .ok (.ireturn, 1) := by decide +kernel
theorem dJ9_min_7cf53_0 : decode cJ9_min_7cf53 0 = .ok (.iload_n 0, 1) := by decide +kernel
theorem dJ9_min_7cf53_1 : decode cJ9_min_7cf53 1 = .ok (.iload_n 1, 1) := by decide +kernel
theorem dJ9_min_7cf53_2 : decode cJ9_min_7cf53 2 = .ok (.if_icmp .gt 7, 3) := by decide +kernel
theorem dJ9_min_7cf53_5 : decode cJ9_min_7cf53 5 = .ok (.iload_n 0, 1) := by decide +kernel
theorem dJ9_min_7cf53_6 : decode cJ9_min_7cf53 6 = .ok (.goto 4, 3) := by decide +kernel
theorem dJ9_min_7cf53_9 : decode cJ9_min_7cf53 9 = .ok (.iload_n 1, 1) := by decide +kernel
theorem dJ9_min_7cf53_10 : decode cJ9_min_7cf53 10 = .ok (.ireturn, 1) := by decide +kernel
theorem dJ7_fill_53178_0 : decode cJ7_fill_53178 0 = .ok (.iconst 0, 1) := by decide +kernel
theorem dJ7_fill_53178_1 : decode cJ7_fill_53178 1 = .ok (.istore_n 2, 1) := by decide +kernel
theorem dJ7_fill_53178_2 : decode cJ7_fill_53178 2 = .ok (.aload_n 0, 1) := by decide +kernel
theorem dJ7_fill_53178_3 : decode cJ7_fill_53178 3 = .ok (.arraylength, 1) := by decide +kernel
theorem dJ7_fill_53178_4 : decode cJ7_fill_53178 4 = .ok (.istore_n 3, 1) := by decide +kernel
theorem dJ7_fill_53178_5 : decode cJ7_fill_53178 5 = .ok (.iload_n 2, 1) := by decide +kernel
theorem dJ7_fill_53178_6 : decode cJ7_fill_53178 6 = .ok (.iload_n 3, 1) := by decide +kernel
theorem dJ7_fill_53178_7 : decode cJ7_fill_53178 7 = .ok (.if_icmp .ge 13, 3) := by decide +kernel
theorem dJ7_fill_53178_10 : decode cJ7_fill_53178 10 = .ok (.aload_n 0, 1) := by decide +kernel
theorem dJ7_fill_53178_11 : decode cJ7_fill_53178 11 = .ok (.iload_n 2, 1) := by decide +kernel
theorem dJ7_fill_53178_12 : decode cJ7_fill_53178 12 = .ok (.iload_n 1, 1) := by decide +kernel
theorem dJ7_fill_53178_13 : decode cJ7_fill_53178 13 = .ok (.iastore, 1) := by decide +kernel
theorem dJ7_fill_53178_14 : decode cJ7_fill_53178 14 = .ok (.iinc 2 1, 3) := by decide +kernel
theorem dJ7_fill_53178_17 : decode cJ7_fill_53178 17 = .ok (.goto (-12), 3) := by decide +kernel
theorem dJ7_fill_53178_20 : decode cJ7_fill_53178 20 = .ok (.return_, 1) := by decide +kernel
theorem dJ7_copyOf_59c91_0 : decode cJ7_copyOf_59c91 0 = .ok (.iload_n 1, 1) := by decide +kernel
theorem dJ7_copyOf_59c91_1 : decode cJ7_copyOf_59c91 1 = .ok (.aload_n 0, 1) := by decide +kernel
theorem dJ7_copyOf_59c91_2 : decode cJ7_copyOf_59c91 2 = .ok (.arraylength, 1) := by decide +kernel
theorem dJ7_copyOf_59c91_3 : decode cJ7_copyOf_59c91 3 = .ok (.if_icmp .ne 11, 3) := by decide +kernel
theorem dJ7_copyOf_59c91_6 : decode cJ7_copyOf_59c91 6 = .ok (.aload_n 0, 1) := by decide +kernel
theorem dJ7_copyOf_59c91_7 : decode cJ7_copyOf_59c91 7 = .ok (.invokevirtual 316, 3) := by decide +kernel
theorem dJ7_copyOf_59c91_10 : decode cJ7_copyOf_59c91 10 = .ok (.checkcast 317, 3) := by decide +kernel
theorem dJ7_copyOf_59c91_13 : decode cJ7_copyOf_59c91 13 = .ok (.areturn, 1) := by decide +kernel
theorem dJ7_copyOf_59c91_14 : decode cJ7_copyOf_59c91 14 = .ok (.iload_n 1, 1) := by decide +kernel
theorem dJ7_copyOf_59c91_15 : decode cJ7_copyOf_59c91 15 = .ok (.newarray .int, 2) := by decide +kernel
theorem dJ7_copyOf_59c91_17 : decode cJ7_copyOf_59c91 17 = .ok (.astore_n 2, 1) := by decide +kernel
theorem dJ7_copyOf_59c91_18 : decode cJ7_copyOf_59c91 18 = .ok (.aload_n 0, 1) := by decide +kernel
theorem dJ7_copyOf_59c91_19 : decode cJ7_copyOf_59c91 19 = .ok (.iconst 0, 1) := by decide +kernel
theorem dJ7_copyOf_59c91_20 : decode cJ7_copyOf_59c91 20 = .ok (.aload_n 2, 1) := by decide +kernel
theorem dJ7_copyOf_59c91_21 : decode cJ7_copyOf_59c91 21 = .ok (.iconst 0, 1) := by decide +kernel
theorem dJ7_copyOf_59c91_22 : decode cJ7_copyOf_59c91 22 = .ok (.aload_n 0, 1) := by decide +kernel
theorem dJ7_copyOf_59c91_23 : decode cJ7_copyOf_59c91 23 = .ok (.arraylength, 1) := by decide +kernel
theorem dJ7_copyOf_59c91_24 : decode cJ7_copyOf_59c91 24 = .ok (.iload_n 1, 1) := by decide +kernel
theorem dJ7_copyOf_59c91_25 : decode cJ7_copyOf_59c91 25 = .ok (.invokestatic 304, 3) := by decide +kernel
theorem dJ7_copyOf_59c91_28 : decode cJ7_copyOf_59c91 28 = .ok (.invokestatic 150, 3) := by decide +kernel
theorem dJ7_copyOf_59c91_31 : decode cJ7_copyOf_59c91 31 = .ok (.aload_n 2, 1) := by decide +kernel
theorem dJ7_copyOf_59c91_32 : decode cJ7_copyOf_59c91 32 = .ok (.areturn, 1) := by decide +kernel
theorem dL_law_0 : decode cL_law 0 = .ok (.new 7, 3) := by decide +kernel
theorem dL_law_3 : decode cL_law 3 = .ok (.dup, 1) := by decide +kernel
theorem dL_law_4 : decode cL_law 4 = .ok (.invokespecial 9, 3) := by decide +kernel
theorem dL_law_7 : decode cL_law 7 = .ok (.astore_n 1, 1) := by decide +kernel
theorem dL_law_8 : decode cL_law 8 = .ok (.new 10, 3) := by decide +kernel
theorem dL_law_11 : decode cL_law 11 = .ok (.dup, 1) := by decide +kernel
theorem dL_law_12 : decode cL_law 12 = .ok (.invokespecial 12, 3) := by decide +kernel
theorem dL_law_15 : decode cL_law 15 = .ok (.astore_n 2, 1) := by decide +kernel
theorem dL_law_16 : decode cL_law 16 = .ok (.iconst 0, 1) := by decide +kernel
theorem dL_law_17 : decode cL_law 17 = .ok (.istore_n 3, 1) := by decide +kernel
theorem dL_law_18 : decode cL_law 18 = .ok (.iload_n 3, 1) := by decide +kernel
theorem dL_law_19 : decode cL_law 19 = .ok (.aload_n 0, 1) := by decide +kernel
theorem dL_law_20 : decode cL_law 20 = .ok (.arraylength, 1) := by decide +kernel
theorem dL_law_21 : decode cL_law 21 = .ok (.iconst 5, 1) := by decide +kernel
theorem dL_law_22 : decode cL_law 22 = .ok (.isub, 1) := by decide +kernel
theorem dL_law_23 : decode cL_law 23 = .ok (.if_icmp .gt 1354, 3) := by decide +kernel
theorem dL_law_26 : decode cL_law 26 = .ok (.aload_n 0, 1) := by decide +kernel
theorem dL_law_27 : decode cL_law 27 = .ok (.iload_n 3, 1) := by decide +kernel
theorem dL_law_28 : decode cL_law 28 = .ok (.iaload, 1) := by decide +kernel
theorem dL_law_29 : decode cL_law 29 = .ok (.bipush 63, 2) := by decide +kernel
theorem dL_law_31 : decode cL_law 31 = .ok (.iand, 1) := by decide +kernel
theorem dL_law_32 : decode cL_law 32 = .ok (.tableswitch 1339 0 37 #[168, 221, 254, 277, 310, 353, 376, 409, 442, 465, 518, 541, 584, 627, 650, 673, 696, 729, 752, 795, 854, 887, 910, 943, 976, 1009, 1032, 1055, 1078, 1111, 1134, 1177, 1200, 1233, 1266, 1289, 1312, 1326], 168) := by decide +kernel
theorem dL_law_200 : decode cL_law 200 = .ok (.aload_n 1, 1) := by decide +kernel
theorem dL_law_201 : decode cL_law 201 = .ok (.aload_n 0, 1) := by decide +kernel
theorem dL_law_202 : decode cL_law 202 = .ok (.iload_n 3, 1) := by decide +kernel
theorem dL_law_203 : decode cL_law 203 = .ok (.iconst 1, 1) := by decide +kernel
theorem dL_law_204 : decode cL_law 204 = .ok (.iadd, 1) := by decide +kernel
theorem dL_law_205 : decode cL_law 205 = .ok (.iaload, 1) := by decide +kernel
theorem dL_law_206 : decode cL_law 206 = .ok (.aload_n 0, 1) := by decide +kernel
theorem dL_law_207 : decode cL_law 207 = .ok (.iload_n 3, 1) := by decide +kernel
theorem dL_law_208 : decode cL_law 208 = .ok (.iconst 2, 1) := by decide +kernel
theorem dL_law_209 : decode cL_law 209 = .ok (.iadd, 1) := by decide +kernel
theorem dL_law_210 : decode cL_law 210 = .ok (.iaload, 1) := by decide +kernel
theorem dL_law_211 : decode cL_law 211 = .ok (.aload_n 0, 1) := by decide +kernel
theorem dL_law_212 : decode cL_law 212 = .ok (.iload_n 3, 1) := by decide +kernel
theorem dL_law_213 : decode cL_law 213 = .ok (.iconst 3, 1) := by decide +kernel
theorem dL_law_214 : decode cL_law 214 = .ok (.iadd, 1) := by decide +kernel
theorem dL_law_215 : decode cL_law 215 = .ok (.iaload, 1) := by decide +kernel
theorem dL_law_216 : decode cL_law 216 = .ok (.aload_n 0, 1) := by decide +kernel
theorem dL_law_217 : decode cL_law 217 = .ok (.iload_n 3, 1) := by decide +kernel
theorem dL_law_218 : decode cL_law 218 = .ok (.iconst 4, 1) := by decide +kernel
theorem dL_law_219 : decode cL_law 219 = .ok (.iadd, 1) := by decide +kernel
theorem dL_law_220 : decode cL_law 220 = .ok (.iaload, 1) := by decide +kernel
theorem dL_law_221 : decode cL_law 221 = .ok (.invokevirtual 13, 3) := by decide +kernel
theorem dL_law_224 : decode cL_law 224 = .ok (.aload_n 2, 1) := by decide +kernel
theorem dL_law_225 : decode cL_law 225 = .ok (.aload_n 0, 1) := by decide +kernel
theorem dL_law_226 : decode cL_law 226 = .ok (.iload_n 3, 1) := by decide +kernel
theorem dL_law_227 : decode cL_law 227 = .ok (.iconst 1, 1) := by decide +kernel
theorem dL_law_228 : decode cL_law 228 = .ok (.iadd, 1) := by decide +kernel
theorem dL_law_229 : decode cL_law 229 = .ok (.iaload, 1) := by decide +kernel
theorem dL_law_230 : decode cL_law 230 = .ok (.aload_n 0, 1) := by decide +kernel
theorem dL_law_231 : decode cL_law 231 = .ok (.iload_n 3, 1) := by decide +kernel
theorem dL_law_232 : decode cL_law 232 = .ok (.iconst 2, 1) := by decide +kernel
theorem dL_law_233 : decode cL_law 233 = .ok (.iadd, 1) := by decide +kernel
theorem dL_law_234 : decode cL_law 234 = .ok (.iaload, 1) := by decide +kernel
theorem dL_law_235 : decode cL_law 235 = .ok (.aload_n 0, 1) := by decide +kernel
theorem dL_law_236 : decode cL_law 236 = .ok (.iload_n 3, 1) := by decide +kernel
theorem dL_law_237 : decode cL_law 237 = .ok (.iconst 3, 1) := by decide +kernel
theorem dL_law_238 : decode cL_law 238 = .ok (.iadd, 1) := by decide +kernel
theorem dL_law_239 : decode cL_law 239 = .ok (.iaload, 1) := by decide +kernel
theorem dL_law_240 : decode cL_law 240 = .ok (.aload_n 0, 1) := by decide +kernel
theorem dL_law_241 : decode cL_law 241 = .ok (.iload_n 3, 1) := by decide +kernel
theorem dL_law_242 : decode cL_law 242 = .ok (.iconst 4, 1) := by decide +kernel
theorem dL_law_243 : decode cL_law 243 = .ok (.iadd, 1) := by decide +kernel
theorem dL_law_244 : decode cL_law 244 = .ok (.iaload, 1) := by decide +kernel
theorem dL_law_245 : decode cL_law 245 = .ok (.invokevirtual 17, 3) := by decide +kernel
theorem dL_law_248 : decode cL_law 248 = .ok (.if_icmp .eq 1123, 3) := by decide +kernel
theorem dL_law_251 : decode cL_law 251 = .ok (.iconst 0, 1) := by decide +kernel
theorem dL_law_252 : decode cL_law 252 = .ok (.ireturn, 1) := by decide +kernel
theorem dL_law_253 : decode cL_law 253 = .ok (.aload_n 1, 1) := by decide +kernel
theorem dL_law_254 : decode cL_law 254 = .ok (.aload_n 0, 1) := by decide +kernel
theorem dL_law_255 : decode cL_law 255 = .ok (.iload_n 3, 1) := by decide +kernel
theorem dL_law_256 : decode cL_law 256 = .ok (.iconst 1, 1) := by decide +kernel
theorem dL_law_257 : decode cL_law 257 = .ok (.iadd, 1) := by decide +kernel
theorem dL_law_258 : decode cL_law 258 = .ok (.iaload, 1) := by decide +kernel
theorem dL_law_259 : decode cL_law 259 = .ok (.aload_n 0, 1) := by decide +kernel
theorem dL_law_260 : decode cL_law 260 = .ok (.iload_n 3, 1) := by decide +kernel
theorem dL_law_261 : decode cL_law 261 = .ok (.iconst 2, 1) := by decide +kernel
theorem dL_law_262 : decode cL_law 262 = .ok (.iadd, 1) := by decide +kernel
theorem dL_law_263 : decode cL_law 263 = .ok (.iaload, 1) := by decide +kernel
theorem dL_law_264 : decode cL_law 264 = .ok (.invokevirtual 18, 3) := by decide +kernel
theorem dL_law_267 : decode cL_law 267 = .ok (.aload_n 2, 1) := by decide +kernel
theorem dL_law_268 : decode cL_law 268 = .ok (.aload_n 0, 1) := by decide +kernel
theorem dL_law_269 : decode cL_law 269 = .ok (.iload_n 3, 1) := by decide +kernel
theorem dL_law_270 : decode cL_law 270 = .ok (.iconst 1, 1) := by decide +kernel
theorem dL_law_271 : decode cL_law 271 = .ok (.iadd, 1) := by decide +kernel
theorem dL_law_272 : decode cL_law 272 = .ok (.iaload, 1) := by decide +kernel
theorem dL_law_273 : decode cL_law 273 = .ok (.aload_n 0, 1) := by decide +kernel
theorem dL_law_274 : decode cL_law 274 = .ok (.iload_n 3, 1) := by decide +kernel
theorem dL_law_275 : decode cL_law 275 = .ok (.iconst 2, 1) := by decide +kernel
theorem dL_law_276 : decode cL_law 276 = .ok (.iadd, 1) := by decide +kernel
theorem dL_law_277 : decode cL_law 277 = .ok (.iaload, 1) := by decide +kernel
theorem dL_law_278 : decode cL_law 278 = .ok (.invokevirtual 22, 3) := by decide +kernel
theorem dL_law_281 : decode cL_law 281 = .ok (.if_icmp .eq 1090, 3) := by decide +kernel
theorem dL_law_284 : decode cL_law 284 = .ok (.iconst 0, 1) := by decide +kernel
theorem dL_law_285 : decode cL_law 285 = .ok (.ireturn, 1) := by decide +kernel
theorem dL_law_286 : decode cL_law 286 = .ok (.aload_n 1, 1) := by decide +kernel
theorem dL_law_287 : decode cL_law 287 = .ok (.aload_n 0, 1) := by decide +kernel
theorem dL_law_288 : decode cL_law 288 = .ok (.iload_n 3, 1) := by decide +kernel
theorem dL_law_289 : decode cL_law 289 = .ok (.iconst 1, 1) := by decide +kernel
theorem dL_law_290 : decode cL_law 290 = .ok (.iadd, 1) := by decide +kernel
theorem dL_law_291 : decode cL_law 291 = .ok (.iaload, 1) := by decide +kernel
theorem dL_law_292 : decode cL_law 292 = .ok (.invokevirtual 23, 3) := by decide +kernel
theorem dL_law_295 : decode cL_law 295 = .ok (.aload_n 2, 1) := by decide +kernel
theorem dL_law_296 : decode cL_law 296 = .ok (.aload_n 0, 1) := by decide +kernel
theorem dL_law_297 : decode cL_law 297 = .ok (.iload_n 3, 1) := by decide +kernel
theorem dL_law_298 : decode cL_law 298 = .ok (.iconst 1, 1) := by decide +kernel
theorem dL_law_299 : decode cL_law 299 = .ok (.iadd, 1) := by decide +kernel
theorem dL_law_300 : decode cL_law 300 = .ok (.iaload, 1) := by decide +kernel
theorem dL_law_301 : decode cL_law 301 = .ok (.invokevirtual 27, 3) := by decide +kernel
theorem dL_law_304 : decode cL_law 304 = .ok (.if_icmp .eq 1067, 3) := by decide +kernel
theorem dL_law_307 : decode cL_law 307 = .ok (.iconst 0, 1) := by decide +kernel
theorem dL_law_308 : decode cL_law 308 = .ok (.ireturn, 1) := by decide +kernel
theorem dL_law_309 : decode cL_law 309 = .ok (.aload_n 1, 1) := by decide +kernel
theorem dL_law_310 : decode cL_law 310 = .ok (.aload_n 0, 1) := by decide +kernel
theorem dL_law_311 : decode cL_law 311 = .ok (.iload_n 3, 1) := by decide +kernel
theorem dL_law_312 : decode cL_law 312 = .ok (.iconst 1, 1) := by decide +kernel
theorem dL_law_313 : decode cL_law 313 = .ok (.iadd, 1) := by decide +kernel
theorem dL_law_314 : decode cL_law 314 = .ok (.iaload, 1) := by decide +kernel
theorem dL_law_315 : decode cL_law 315 = .ok (.aload_n 0, 1) := by decide +kernel
theorem dL_law_316 : decode cL_law 316 = .ok (.iload_n 3, 1) := by decide +kernel
theorem dL_law_317 : decode cL_law 317 = .ok (.iconst 2, 1) := by decide +kernel
theorem dL_law_318 : decode cL_law 318 = .ok (.iadd, 1) := by decide +kernel
theorem dL_law_319 : decode cL_law 319 = .ok (.iaload, 1) := by decide +kernel
theorem dL_law_320 : decode cL_law 320 = .ok (.invokevirtual 28, 3) := by decide +kernel
theorem dL_law_323 : decode cL_law 323 = .ok (.aload_n 2, 1) := by decide +kernel
theorem dL_law_324 : decode cL_law 324 = .ok (.aload_n 0, 1) := by decide +kernel
theorem dL_law_325 : decode cL_law 325 = .ok (.iload_n 3, 1) := by decide +kernel
theorem dL_law_326 : decode cL_law 326 = .ok (.iconst 1, 1) := by decide +kernel
theorem dL_law_327 : decode cL_law 327 = .ok (.iadd, 1) := by decide +kernel
theorem dL_law_328 : decode cL_law 328 = .ok (.iaload, 1) := by decide +kernel
theorem dL_law_329 : decode cL_law 329 = .ok (.aload_n 0, 1) := by decide +kernel
theorem dL_law_330 : decode cL_law 330 = .ok (.iload_n 3, 1) := by decide +kernel
theorem dL_law_331 : decode cL_law 331 = .ok (.iconst 2, 1) := by decide +kernel
theorem dL_law_332 : decode cL_law 332 = .ok (.iadd, 1) := by decide +kernel
theorem dL_law_333 : decode cL_law 333 = .ok (.iaload, 1) := by decide +kernel
theorem dL_law_334 : decode cL_law 334 = .ok (.invokevirtual 31, 3) := by decide +kernel
theorem dL_law_337 : decode cL_law 337 = .ok (.if_icmp .eq 1034, 3) := by decide +kernel
theorem dL_law_340 : decode cL_law 340 = .ok (.iconst 0, 1) := by decide +kernel
theorem dL_law_341 : decode cL_law 341 = .ok (.ireturn, 1) := by decide +kernel
theorem dL_law_342 : decode cL_law 342 = .ok (.aload_n 1, 1) := by decide +kernel
theorem dL_law_343 : decode cL_law 343 = .ok (.aload_n 0, 1) := by decide +kernel
theorem dL_law_344 : decode cL_law 344 = .ok (.iload_n 3, 1) := by decide +kernel
theorem dL_law_345 : decode cL_law 345 = .ok (.iconst 1, 1) := by decide +kernel
theorem dL_law_346 : decode cL_law 346 = .ok (.iadd, 1) := by decide +kernel
theorem dL_law_347 : decode cL_law 347 = .ok (.iaload, 1) := by decide +kernel
theorem dL_law_348 : decode cL_law 348 = .ok (.aload_n 0, 1) := by decide +kernel
theorem dL_law_349 : decode cL_law 349 = .ok (.iload_n 3, 1) := by decide +kernel
theorem dL_law_350 : decode cL_law 350 = .ok (.iconst 2, 1) := by decide +kernel
theorem dL_law_351 : decode cL_law 351 = .ok (.iadd, 1) := by decide +kernel
theorem dL_law_352 : decode cL_law 352 = .ok (.iaload, 1) := by decide +kernel
theorem dL_law_353 : decode cL_law 353 = .ok (.aload_n 0, 1) := by decide +kernel
theorem dL_law_354 : decode cL_law 354 = .ok (.iload_n 3, 1) := by decide +kernel
theorem dL_law_355 : decode cL_law 355 = .ok (.iconst 3, 1) := by decide +kernel
theorem dL_law_356 : decode cL_law 356 = .ok (.iadd, 1) := by decide +kernel
theorem dL_law_357 : decode cL_law 357 = .ok (.iaload, 1) := by decide +kernel
theorem dL_law_358 : decode cL_law 358 = .ok (.invokevirtual 32, 3) := by decide +kernel
theorem dL_law_361 : decode cL_law 361 = .ok (.aload_n 2, 1) := by decide +kernel
theorem dL_law_362 : decode cL_law 362 = .ok (.aload_n 0, 1) := by decide +kernel
theorem dL_law_363 : decode cL_law 363 = .ok (.iload_n 3, 1) := by decide +kernel
theorem dL_law_364 : decode cL_law 364 = .ok (.iconst 1, 1) := by decide +kernel
theorem dL_law_365 : decode cL_law 365 = .ok (.iadd, 1) := by decide +kernel
theorem dL_law_366 : decode cL_law 366 = .ok (.iaload, 1) := by decide +kernel
theorem dL_law_367 : decode cL_law 367 = .ok (.aload_n 0, 1) := by decide +kernel
theorem dL_law_368 : decode cL_law 368 = .ok (.iload_n 3, 1) := by decide +kernel
theorem dL_law_369 : decode cL_law 369 = .ok (.iconst 2, 1) := by decide +kernel
theorem dL_law_370 : decode cL_law 370 = .ok (.iadd, 1) := by decide +kernel
theorem dL_law_371 : decode cL_law 371 = .ok (.iaload, 1) := by decide +kernel
theorem dL_law_372 : decode cL_law 372 = .ok (.aload_n 0, 1) := by decide +kernel
theorem dL_law_373 : decode cL_law 373 = .ok (.iload_n 3, 1) := by decide +kernel
theorem dL_law_374 : decode cL_law 374 = .ok (.iconst 3, 1) := by decide +kernel
theorem dL_law_375 : decode cL_law 375 = .ok (.iadd, 1) := by decide +kernel
theorem dL_law_376 : decode cL_law 376 = .ok (.iaload, 1) := by decide +kernel
theorem dL_law_377 : decode cL_law 377 = .ok (.invokevirtual 36, 3) := by decide +kernel
theorem dL_law_380 : decode cL_law 380 = .ok (.if_icmp .eq 991, 3) := by decide +kernel
theorem dL_law_383 : decode cL_law 383 = .ok (.iconst 0, 1) := by decide +kernel
theorem dL_law_384 : decode cL_law 384 = .ok (.ireturn, 1) := by decide +kernel
theorem dL_law_385 : decode cL_law 385 = .ok (.aload_n 1, 1) := by decide +kernel
theorem dL_law_386 : decode cL_law 386 = .ok (.aload_n 0, 1) := by decide +kernel
theorem dL_law_387 : decode cL_law 387 = .ok (.iload_n 3, 1) := by decide +kernel
theorem dL_law_388 : decode cL_law 388 = .ok (.iconst 1, 1) := by decide +kernel
theorem dL_law_389 : decode cL_law 389 = .ok (.iadd, 1) := by decide +kernel
theorem dL_law_390 : decode cL_law 390 = .ok (.iaload, 1) := by decide +kernel
theorem dL_law_391 : decode cL_law 391 = .ok (.invokevirtual 37, 3) := by decide +kernel
theorem dL_law_394 : decode cL_law 394 = .ok (.aload_n 2, 1) := by decide +kernel
theorem dL_law_395 : decode cL_law 395 = .ok (.aload_n 0, 1) := by decide +kernel
theorem dL_law_396 : decode cL_law 396 = .ok (.iload_n 3, 1) := by decide +kernel
theorem dL_law_397 : decode cL_law 397 = .ok (.iconst 1, 1) := by decide +kernel
theorem dL_law_398 : decode cL_law 398 = .ok (.iadd, 1) := by decide +kernel
theorem dL_law_399 : decode cL_law 399 = .ok (.iaload, 1) := by decide +kernel
theorem dL_law_400 : decode cL_law 400 = .ok (.invokevirtual 40, 3) := by decide +kernel
theorem dL_law_403 : decode cL_law 403 = .ok (.if_icmp .eq 968, 3) := by decide +kernel
theorem dL_law_406 : decode cL_law 406 = .ok (.iconst 0, 1) := by decide +kernel
theorem dL_law_407 : decode cL_law 407 = .ok (.ireturn, 1) := by decide +kernel
theorem dL_law_408 : decode cL_law 408 = .ok (.aload_n 1, 1) := by decide +kernel
theorem dL_law_409 : decode cL_law 409 = .ok (.aload_n 0, 1) := by decide +kernel
theorem dL_law_410 : decode cL_law 410 = .ok (.iload_n 3, 1) := by decide +kernel
theorem dL_law_411 : decode cL_law 411 = .ok (.iconst 1, 1) := by decide +kernel
theorem dL_law_412 : decode cL_law 412 = .ok (.iadd, 1) := by decide +kernel
theorem dL_law_413 : decode cL_law 413 = .ok (.iaload, 1) := by decide +kernel
theorem dL_law_414 : decode cL_law 414 = .ok (.aload_n 0, 1) := by decide +kernel
theorem dL_law_415 : decode cL_law 415 = .ok (.iload_n 3, 1) := by decide +kernel
theorem dL_law_416 : decode cL_law 416 = .ok (.iconst 2, 1) := by decide +kernel
theorem dL_law_417 : decode cL_law 417 = .ok (.iadd, 1) := by decide +kernel
theorem dL_law_418 : decode cL_law 418 = .ok (.iaload, 1) := by decide +kernel
theorem dL_law_419 : decode cL_law 419 = .ok (.invokevirtual 41, 3) := by decide +kernel
theorem dL_law_422 : decode cL_law 422 = .ok (.aload_n 2, 1) := by decide +kernel
theorem dL_law_423 : decode cL_law 423 = .ok (.aload_n 0, 1) := by decide +kernel
theorem dL_law_424 : decode cL_law 424 = .ok (.iload_n 3, 1) := by decide +kernel
theorem dL_law_425 : decode cL_law 425 = .ok (.iconst 1, 1) := by decide +kernel
theorem dL_law_426 : decode cL_law 426 = .ok (.iadd, 1) := by decide +kernel
theorem dL_law_427 : decode cL_law 427 = .ok (.iaload, 1) := by decide +kernel
theorem dL_law_428 : decode cL_law 428 = .ok (.aload_n 0, 1) := by decide +kernel
theorem dL_law_429 : decode cL_law 429 = .ok (.iload_n 3, 1) := by decide +kernel
theorem dL_law_430 : decode cL_law 430 = .ok (.iconst 2, 1) := by decide +kernel
theorem dL_law_431 : decode cL_law 431 = .ok (.iadd, 1) := by decide +kernel
theorem dL_law_432 : decode cL_law 432 = .ok (.iaload, 1) := by decide +kernel
theorem dL_law_433 : decode cL_law 433 = .ok (.invokevirtual 44, 3) := by decide +kernel
theorem dL_law_436 : decode cL_law 436 = .ok (.if_icmp .eq 935, 3) := by decide +kernel
theorem dL_law_439 : decode cL_law 439 = .ok (.iconst 0, 1) := by decide +kernel
theorem dL_law_440 : decode cL_law 440 = .ok (.ireturn, 1) := by decide +kernel
theorem dL_law_441 : decode cL_law 441 = .ok (.aload_n 1, 1) := by decide +kernel
theorem dL_law_442 : decode cL_law 442 = .ok (.aload_n 0, 1) := by decide +kernel
theorem dL_law_443 : decode cL_law 443 = .ok (.iload_n 3, 1) := by decide +kernel
theorem dL_law_444 : decode cL_law 444 = .ok (.iconst 1, 1) := by decide +kernel
theorem dL_law_445 : decode cL_law 445 = .ok (.iadd, 1) := by decide +kernel
theorem dL_law_446 : decode cL_law 446 = .ok (.iaload, 1) := by decide +kernel
theorem dL_law_447 : decode cL_law 447 = .ok (.aload_n 0, 1) := by decide +kernel
theorem dL_law_448 : decode cL_law 448 = .ok (.iload_n 3, 1) := by decide +kernel
theorem dL_law_449 : decode cL_law 449 = .ok (.iconst 2, 1) := by decide +kernel
theorem dL_law_450 : decode cL_law 450 = .ok (.iadd, 1) := by decide +kernel
theorem dL_law_451 : decode cL_law 451 = .ok (.iaload, 1) := by decide +kernel
theorem dL_law_452 : decode cL_law 452 = .ok (.invokevirtual 45, 3) := by decide +kernel
theorem dL_law_455 : decode cL_law 455 = .ok (.aload_n 2, 1) := by decide +kernel
theorem dL_law_456 : decode cL_law 456 = .ok (.aload_n 0, 1) := by decide +kernel
theorem dL_law_457 : decode cL_law 457 = .ok (.iload_n 3, 1) := by decide +kernel
theorem dL_law_458 : decode cL_law 458 = .ok (.iconst 1, 1) := by decide +kernel
theorem dL_law_459 : decode cL_law 459 = .ok (.iadd, 1) := by decide +kernel
theorem dL_law_460 : decode cL_law 460 = .ok (.iaload, 1) := by decide +kernel
theorem dL_law_461 : decode cL_law 461 = .ok (.aload_n 0, 1) := by decide +kernel
theorem dL_law_462 : decode cL_law 462 = .ok (.iload_n 3, 1) := by decide +kernel
theorem dL_law_463 : decode cL_law 463 = .ok (.iconst 2, 1) := by decide +kernel
theorem dL_law_464 : decode cL_law 464 = .ok (.iadd, 1) := by decide +kernel
theorem dL_law_465 : decode cL_law 465 = .ok (.iaload, 1) := by decide +kernel
theorem dL_law_466 : decode cL_law 466 = .ok (.invokevirtual 48, 3) := by decide +kernel
theorem dL_law_469 : decode cL_law 469 = .ok (.if_icmp .eq 902, 3) := by decide +kernel
theorem dL_law_472 : decode cL_law 472 = .ok (.iconst 0, 1) := by decide +kernel
theorem dL_law_473 : decode cL_law 473 = .ok (.ireturn, 1) := by decide +kernel
theorem dL_law_474 : decode cL_law 474 = .ok (.aload_n 1, 1) := by decide +kernel
theorem dL_law_475 : decode cL_law 475 = .ok (.aload_n 0, 1) := by decide +kernel
theorem dL_law_476 : decode cL_law 476 = .ok (.iload_n 3, 1) := by decide +kernel
theorem dL_law_477 : decode cL_law 477 = .ok (.iconst 1, 1) := by decide +kernel
theorem dL_law_478 : decode cL_law 478 = .ok (.iadd, 1) := by decide +kernel
theorem dL_law_479 : decode cL_law 479 = .ok (.iaload, 1) := by decide +kernel
theorem dL_law_480 : decode cL_law 480 = .ok (.invokevirtual 49, 3) := by decide +kernel
theorem dL_law_483 : decode cL_law 483 = .ok (.aload_n 2, 1) := by decide +kernel
theorem dL_law_484 : decode cL_law 484 = .ok (.aload_n 0, 1) := by decide +kernel
theorem dL_law_485 : decode cL_law 485 = .ok (.iload_n 3, 1) := by decide +kernel
theorem dL_law_486 : decode cL_law 486 = .ok (.iconst 1, 1) := by decide +kernel
theorem dL_law_487 : decode cL_law 487 = .ok (.iadd, 1) := by decide +kernel
theorem dL_law_488 : decode cL_law 488 = .ok (.iaload, 1) := by decide +kernel
theorem dL_law_489 : decode cL_law 489 = .ok (.invokevirtual 52, 3) := by decide +kernel
theorem dL_law_492 : decode cL_law 492 = .ok (.if_icmp .eq 879, 3) := by decide +kernel
theorem dL_law_495 : decode cL_law 495 = .ok (.iconst 0, 1) := by decide +kernel
theorem dL_law_496 : decode cL_law 496 = .ok (.ireturn, 1) := by decide +kernel
theorem dL_law_497 : decode cL_law 497 = .ok (.aload_n 1, 1) := by decide +kernel
theorem dL_law_498 : decode cL_law 498 = .ok (.aload_n 0, 1) := by decide +kernel
theorem dL_law_499 : decode cL_law 499 = .ok (.iload_n 3, 1) := by decide +kernel
theorem dL_law_500 : decode cL_law 500 = .ok (.iconst 1, 1) := by decide +kernel
theorem dL_law_501 : decode cL_law 501 = .ok (.iadd, 1) := by decide +kernel
theorem dL_law_502 : decode cL_law 502 = .ok (.iaload, 1) := by decide +kernel
theorem dL_law_503 : decode cL_law 503 = .ok (.aload_n 0, 1) := by decide +kernel
theorem dL_law_504 : decode cL_law 504 = .ok (.iload_n 3, 1) := by decide +kernel
theorem dL_law_505 : decode cL_law 505 = .ok (.iconst 2, 1) := by decide +kernel
theorem dL_law_506 : decode cL_law 506 = .ok (.iadd, 1) := by decide +kernel
theorem dL_law_507 : decode cL_law 507 = .ok (.iaload, 1) := by decide +kernel
theorem dL_law_508 : decode cL_law 508 = .ok (.aload_n 0, 1) := by decide +kernel
theorem dL_law_509 : decode cL_law 509 = .ok (.iload_n 3, 1) := by decide +kernel
theorem dL_law_510 : decode cL_law 510 = .ok (.iconst 3, 1) := by decide +kernel
theorem dL_law_511 : decode cL_law 511 = .ok (.iadd, 1) := by decide +kernel
theorem dL_law_512 : decode cL_law 512 = .ok (.iaload, 1) := by decide +kernel
theorem dL_law_513 : decode cL_law 513 = .ok (.aload_n 0, 1) := by decide +kernel
theorem dL_law_514 : decode cL_law 514 = .ok (.iload_n 3, 1) := by decide +kernel
theorem dL_law_515 : decode cL_law 515 = .ok (.iconst 4, 1) := by decide +kernel
theorem dL_law_516 : decode cL_law 516 = .ok (.iadd, 1) := by decide +kernel
theorem dL_law_517 : decode cL_law 517 = .ok (.iaload, 1) := by decide +kernel
theorem dL_law_518 : decode cL_law 518 = .ok (.invokevirtual 53, 3) := by decide +kernel
theorem dL_law_521 : decode cL_law 521 = .ok (.aload_n 2, 1) := by decide +kernel
theorem dL_law_522 : decode cL_law 522 = .ok (.aload_n 0, 1) := by decide +kernel
theorem dL_law_523 : decode cL_law 523 = .ok (.iload_n 3, 1) := by decide +kernel
theorem dL_law_524 : decode cL_law 524 = .ok (.iconst 1, 1) := by decide +kernel
theorem dL_law_525 : decode cL_law 525 = .ok (.iadd, 1) := by decide +kernel
theorem dL_law_526 : decode cL_law 526 = .ok (.iaload, 1) := by decide +kernel
theorem dL_law_527 : decode cL_law 527 = .ok (.aload_n 0, 1) := by decide +kernel
theorem dL_law_528 : decode cL_law 528 = .ok (.iload_n 3, 1) := by decide +kernel
theorem dL_law_529 : decode cL_law 529 = .ok (.iconst 2, 1) := by decide +kernel
theorem dL_law_530 : decode cL_law 530 = .ok (.iadd, 1) := by decide +kernel
theorem dL_law_531 : decode cL_law 531 = .ok (.iaload, 1) := by decide +kernel
theorem dL_law_532 : decode cL_law 532 = .ok (.aload_n 0, 1) := by decide +kernel
theorem dL_law_533 : decode cL_law 533 = .ok (.iload_n 3, 1) := by decide +kernel
theorem dL_law_534 : decode cL_law 534 = .ok (.iconst 3, 1) := by decide +kernel
theorem dL_law_535 : decode cL_law 535 = .ok (.iadd, 1) := by decide +kernel
theorem dL_law_536 : decode cL_law 536 = .ok (.iaload, 1) := by decide +kernel
theorem dL_law_537 : decode cL_law 537 = .ok (.aload_n 0, 1) := by decide +kernel
theorem dL_law_538 : decode cL_law 538 = .ok (.iload_n 3, 1) := by decide +kernel
theorem dL_law_539 : decode cL_law 539 = .ok (.iconst 4, 1) := by decide +kernel
theorem dL_law_540 : decode cL_law 540 = .ok (.iadd, 1) := by decide +kernel
theorem dL_law_541 : decode cL_law 541 = .ok (.iaload, 1) := by decide +kernel
theorem dL_law_542 : decode cL_law 542 = .ok (.invokevirtual 56, 3) := by decide +kernel
theorem dL_law_545 : decode cL_law 545 = .ok (.if_icmp .eq 826, 3) := by decide +kernel
theorem dL_law_548 : decode cL_law 548 = .ok (.iconst 0, 1) := by decide +kernel
theorem dL_law_549 : decode cL_law 549 = .ok (.ireturn, 1) := by decide +kernel
theorem dL_law_550 : decode cL_law 550 = .ok (.aload_n 1, 1) := by decide +kernel
theorem dL_law_551 : decode cL_law 551 = .ok (.aload_n 0, 1) := by decide +kernel
theorem dL_law_552 : decode cL_law 552 = .ok (.iload_n 3, 1) := by decide +kernel
theorem dL_law_553 : decode cL_law 553 = .ok (.iconst 1, 1) := by decide +kernel
theorem dL_law_554 : decode cL_law 554 = .ok (.iadd, 1) := by decide +kernel
theorem dL_law_555 : decode cL_law 555 = .ok (.iaload, 1) := by decide +kernel
theorem dL_law_556 : decode cL_law 556 = .ok (.invokevirtual 57, 3) := by decide +kernel
theorem dL_law_559 : decode cL_law 559 = .ok (.aload_n 2, 1) := by decide +kernel
theorem dL_law_560 : decode cL_law 560 = .ok (.aload_n 0, 1) := by decide +kernel
theorem dL_law_561 : decode cL_law 561 = .ok (.iload_n 3, 1) := by decide +kernel
theorem dL_law_562 : decode cL_law 562 = .ok (.iconst 1, 1) := by decide +kernel
theorem dL_law_563 : decode cL_law 563 = .ok (.iadd, 1) := by decide +kernel
theorem dL_law_564 : decode cL_law 564 = .ok (.iaload, 1) := by decide +kernel
theorem dL_law_565 : decode cL_law 565 = .ok (.invokevirtual 60, 3) := by decide +kernel
theorem dL_law_568 : decode cL_law 568 = .ok (.if_icmp .eq 803, 3) := by decide +kernel
theorem dL_law_571 : decode cL_law 571 = .ok (.iconst 0, 1) := by decide +kernel
theorem dL_law_572 : decode cL_law 572 = .ok (.ireturn, 1) := by decide +kernel
theorem dL_law_573 : decode cL_law 573 = .ok (.aload_n 1, 1) := by decide +kernel
theorem dL_law_574 : decode cL_law 574 = .ok (.aload_n 0, 1) := by decide +kernel
theorem dL_law_575 : decode cL_law 575 = .ok (.iload_n 3, 1) := by decide +kernel
theorem dL_law_576 : decode cL_law 576 = .ok (.iconst 1, 1) := by decide +kernel
theorem dL_law_577 : decode cL_law 577 = .ok (.iadd, 1) := by decide +kernel
theorem dL_law_578 : decode cL_law 578 = .ok (.iaload, 1) := by decide +kernel
theorem dL_law_579 : decode cL_law 579 = .ok (.aload_n 0, 1) := by decide +kernel
theorem dL_law_580 : decode cL_law 580 = .ok (.iload_n 3, 1) := by decide +kernel
theorem dL_law_581 : decode cL_law 581 = .ok (.iconst 2, 1) := by decide +kernel
theorem dL_law_582 : decode cL_law 582 = .ok (.iadd, 1) := by decide +kernel
theorem dL_law_583 : decode cL_law 583 = .ok (.iaload, 1) := by decide +kernel
theorem dL_law_584 : decode cL_law 584 = .ok (.aload_n 0, 1) := by decide +kernel
theorem dL_law_585 : decode cL_law 585 = .ok (.iload_n 3, 1) := by decide +kernel
theorem dL_law_586 : decode cL_law 586 = .ok (.iconst 3, 1) := by decide +kernel
theorem dL_law_587 : decode cL_law 587 = .ok (.iadd, 1) := by decide +kernel
theorem dL_law_588 : decode cL_law 588 = .ok (.iaload, 1) := by decide +kernel
theorem dL_law_589 : decode cL_law 589 = .ok (.invokevirtual 61, 3) := by decide +kernel
theorem dL_law_592 : decode cL_law 592 = .ok (.aload_n 2, 1) := by decide +kernel
theorem dL_law_593 : decode cL_law 593 = .ok (.aload_n 0, 1) := by decide +kernel
theorem dL_law_594 : decode cL_law 594 = .ok (.iload_n 3, 1) := by decide +kernel
theorem dL_law_595 : decode cL_law 595 = .ok (.iconst 1, 1) := by decide +kernel
theorem dL_law_596 : decode cL_law 596 = .ok (.iadd, 1) := by decide +kernel
theorem dL_law_597 : decode cL_law 597 = .ok (.iaload, 1) := by decide +kernel
theorem dL_law_598 : decode cL_law 598 = .ok (.aload_n 0, 1) := by decide +kernel
theorem dL_law_599 : decode cL_law 599 = .ok (.iload_n 3, 1) := by decide +kernel
theorem dL_law_600 : decode cL_law 600 = .ok (.iconst 2, 1) := by decide +kernel
theorem dL_law_601 : decode cL_law 601 = .ok (.iadd, 1) := by decide +kernel
theorem dL_law_602 : decode cL_law 602 = .ok (.iaload, 1) := by decide +kernel
theorem dL_law_603 : decode cL_law 603 = .ok (.aload_n 0, 1) := by decide +kernel
theorem dL_law_604 : decode cL_law 604 = .ok (.iload_n 3, 1) := by decide +kernel
theorem dL_law_605 : decode cL_law 605 = .ok (.iconst 3, 1) := by decide +kernel
theorem dL_law_606 : decode cL_law 606 = .ok (.iadd, 1) := by decide +kernel
theorem dL_law_607 : decode cL_law 607 = .ok (.iaload, 1) := by decide +kernel
theorem dL_law_608 : decode cL_law 608 = .ok (.invokevirtual 64, 3) := by decide +kernel
theorem dL_law_611 : decode cL_law 611 = .ok (.if_icmp .eq 760, 3) := by decide +kernel
theorem dL_law_614 : decode cL_law 614 = .ok (.iconst 0, 1) := by decide +kernel
theorem dL_law_615 : decode cL_law 615 = .ok (.ireturn, 1) := by decide +kernel
theorem dL_law_616 : decode cL_law 616 = .ok (.aload_n 1, 1) := by decide +kernel
theorem dL_law_617 : decode cL_law 617 = .ok (.aload_n 0, 1) := by decide +kernel
theorem dL_law_618 : decode cL_law 618 = .ok (.iload_n 3, 1) := by decide +kernel
theorem dL_law_619 : decode cL_law 619 = .ok (.iconst 1, 1) := by decide +kernel
theorem dL_law_620 : decode cL_law 620 = .ok (.iadd, 1) := by decide +kernel
theorem dL_law_621 : decode cL_law 621 = .ok (.iaload, 1) := by decide +kernel
theorem dL_law_622 : decode cL_law 622 = .ok (.aload_n 0, 1) := by decide +kernel
theorem dL_law_623 : decode cL_law 623 = .ok (.iload_n 3, 1) := by decide +kernel
theorem dL_law_624 : decode cL_law 624 = .ok (.iconst 2, 1) := by decide +kernel
theorem dL_law_625 : decode cL_law 625 = .ok (.iadd, 1) := by decide +kernel
theorem dL_law_626 : decode cL_law 626 = .ok (.iaload, 1) := by decide +kernel
theorem dL_law_627 : decode cL_law 627 = .ok (.aload_n 0, 1) := by decide +kernel
theorem dL_law_628 : decode cL_law 628 = .ok (.iload_n 3, 1) := by decide +kernel
theorem dL_law_629 : decode cL_law 629 = .ok (.iconst 3, 1) := by decide +kernel
theorem dL_law_630 : decode cL_law 630 = .ok (.iadd, 1) := by decide +kernel
theorem dL_law_631 : decode cL_law 631 = .ok (.iaload, 1) := by decide +kernel
theorem dL_law_632 : decode cL_law 632 = .ok (.invokevirtual 65, 3) := by decide +kernel
theorem dL_law_635 : decode cL_law 635 = .ok (.aload_n 2, 1) := by decide +kernel
theorem dL_law_636 : decode cL_law 636 = .ok (.aload_n 0, 1) := by decide +kernel
theorem dL_law_637 : decode cL_law 637 = .ok (.iload_n 3, 1) := by decide +kernel
theorem dL_law_638 : decode cL_law 638 = .ok (.iconst 1, 1) := by decide +kernel
theorem dL_law_639 : decode cL_law 639 = .ok (.iadd, 1) := by decide +kernel
theorem dL_law_640 : decode cL_law 640 = .ok (.iaload, 1) := by decide +kernel
theorem dL_law_641 : decode cL_law 641 = .ok (.aload_n 0, 1) := by decide +kernel
theorem dL_law_642 : decode cL_law 642 = .ok (.iload_n 3, 1) := by decide +kernel
theorem dL_law_643 : decode cL_law 643 = .ok (.iconst 2, 1) := by decide +kernel
theorem dL_law_644 : decode cL_law 644 = .ok (.iadd, 1) := by decide +kernel
theorem dL_law_645 : decode cL_law 645 = .ok (.iaload, 1) := by decide +kernel
theorem dL_law_646 : decode cL_law 646 = .ok (.aload_n 0, 1) := by decide +kernel
theorem dL_law_647 : decode cL_law 647 = .ok (.iload_n 3, 1) := by decide +kernel
theorem dL_law_648 : decode cL_law 648 = .ok (.iconst 3, 1) := by decide +kernel
theorem dL_law_649 : decode cL_law 649 = .ok (.iadd, 1) := by decide +kernel
theorem dL_law_650 : decode cL_law 650 = .ok (.iaload, 1) := by decide +kernel
theorem dL_law_651 : decode cL_law 651 = .ok (.invokevirtual 68, 3) := by decide +kernel
theorem dL_law_654 : decode cL_law 654 = .ok (.if_icmp .eq 717, 3) := by decide +kernel
theorem dL_law_657 : decode cL_law 657 = .ok (.iconst 0, 1) := by decide +kernel
theorem dL_law_658 : decode cL_law 658 = .ok (.ireturn, 1) := by decide +kernel
theorem dL_law_659 : decode cL_law 659 = .ok (.aload_n 1, 1) := by decide +kernel
theorem dL_law_660 : decode cL_law 660 = .ok (.aload_n 0, 1) := by decide +kernel
theorem dL_law_661 : decode cL_law 661 = .ok (.iload_n 3, 1) := by decide +kernel
theorem dL_law_662 : decode cL_law 662 = .ok (.iconst 1, 1) := by decide +kernel
theorem dL_law_663 : decode cL_law 663 = .ok (.iadd, 1) := by decide +kernel
theorem dL_law_664 : decode cL_law 664 = .ok (.iaload, 1) := by decide +kernel
theorem dL_law_665 : decode cL_law 665 = .ok (.invokevirtual 69, 3) := by decide +kernel
theorem dL_law_668 : decode cL_law 668 = .ok (.aload_n 2, 1) := by decide +kernel
theorem dL_law_669 : decode cL_law 669 = .ok (.aload_n 0, 1) := by decide +kernel
theorem dL_law_670 : decode cL_law 670 = .ok (.iload_n 3, 1) := by decide +kernel
theorem dL_law_671 : decode cL_law 671 = .ok (.iconst 1, 1) := by decide +kernel
theorem dL_law_672 : decode cL_law 672 = .ok (.iadd, 1) := by decide +kernel
theorem dL_law_673 : decode cL_law 673 = .ok (.iaload, 1) := by decide +kernel
theorem dL_law_674 : decode cL_law 674 = .ok (.invokevirtual 72, 3) := by decide +kernel
theorem dL_law_677 : decode cL_law 677 = .ok (.if_icmp .eq 694, 3) := by decide +kernel
theorem dL_law_680 : decode cL_law 680 = .ok (.iconst 0, 1) := by decide +kernel
theorem dL_law_681 : decode cL_law 681 = .ok (.ireturn, 1) := by decide +kernel
theorem dL_law_682 : decode cL_law 682 = .ok (.aload_n 1, 1) := by decide +kernel
theorem dL_law_683 : decode cL_law 683 = .ok (.aload_n 0, 1) := by decide +kernel
theorem dL_law_684 : decode cL_law 684 = .ok (.iload_n 3, 1) := by decide +kernel
theorem dL_law_685 : decode cL_law 685 = .ok (.iconst 1, 1) := by decide +kernel
theorem dL_law_686 : decode cL_law 686 = .ok (.iadd, 1) := by decide +kernel
theorem dL_law_687 : decode cL_law 687 = .ok (.iaload, 1) := by decide +kernel
theorem dL_law_688 : decode cL_law 688 = .ok (.invokevirtual 73, 3) := by decide +kernel
theorem dL_law_691 : decode cL_law 691 = .ok (.aload_n 2, 1) := by decide +kernel
theorem dL_law_692 : decode cL_law 692 = .ok (.aload_n 0, 1) := by decide +kernel
theorem dL_law_693 : decode cL_law 693 = .ok (.iload_n 3, 1) := by decide +kernel
theorem dL_law_694 : decode cL_law 694 = .ok (.iconst 1, 1) := by decide +kernel
theorem dL_law_695 : decode cL_law 695 = .ok (.iadd, 1) := by decide +kernel
theorem dL_law_696 : decode cL_law 696 = .ok (.iaload, 1) := by decide +kernel
theorem dL_law_697 : decode cL_law 697 = .ok (.invokevirtual 76, 3) := by decide +kernel
theorem dL_law_700 : decode cL_law 700 = .ok (.if_icmp .eq 671, 3) := by decide +kernel
theorem dL_law_703 : decode cL_law 703 = .ok (.iconst 0, 1) := by decide +kernel
theorem dL_law_704 : decode cL_law 704 = .ok (.ireturn, 1) := by decide +kernel
theorem dL_law_705 : decode cL_law 705 = .ok (.aload_n 1, 1) := by decide +kernel
theorem dL_law_706 : decode cL_law 706 = .ok (.aload_n 0, 1) := by decide +kernel
theorem dL_law_707 : decode cL_law 707 = .ok (.iload_n 3, 1) := by decide +kernel
theorem dL_law_708 : decode cL_law 708 = .ok (.iconst 1, 1) := by decide +kernel
theorem dL_law_709 : decode cL_law 709 = .ok (.iadd, 1) := by decide +kernel
theorem dL_law_710 : decode cL_law 710 = .ok (.iaload, 1) := by decide +kernel
theorem dL_law_711 : decode cL_law 711 = .ok (.invokevirtual 77, 3) := by decide +kernel
theorem dL_law_714 : decode cL_law 714 = .ok (.aload_n 2, 1) := by decide +kernel
theorem dL_law_715 : decode cL_law 715 = .ok (.aload_n 0, 1) := by decide +kernel
theorem dL_law_716 : decode cL_law 716 = .ok (.iload_n 3, 1) := by decide +kernel
theorem dL_law_717 : decode cL_law 717 = .ok (.iconst 1, 1) := by decide +kernel
theorem dL_law_718 : decode cL_law 718 = .ok (.iadd, 1) := by decide +kernel
theorem dL_law_719 : decode cL_law 719 = .ok (.iaload, 1) := by decide +kernel
theorem dL_law_720 : decode cL_law 720 = .ok (.invokevirtual 80, 3) := by decide +kernel
theorem dL_law_723 : decode cL_law 723 = .ok (.if_icmp .eq 648, 3) := by decide +kernel
theorem dL_law_726 : decode cL_law 726 = .ok (.iconst 0, 1) := by decide +kernel
theorem dL_law_727 : decode cL_law 727 = .ok (.ireturn, 1) := by decide +kernel
theorem dL_law_728 : decode cL_law 728 = .ok (.aload_n 1, 1) := by decide +kernel
theorem dL_law_729 : decode cL_law 729 = .ok (.aload_n 0, 1) := by decide +kernel
theorem dL_law_730 : decode cL_law 730 = .ok (.iload_n 3, 1) := by decide +kernel
theorem dL_law_731 : decode cL_law 731 = .ok (.iconst 1, 1) := by decide +kernel
theorem dL_law_732 : decode cL_law 732 = .ok (.iadd, 1) := by decide +kernel
theorem dL_law_733 : decode cL_law 733 = .ok (.iaload, 1) := by decide +kernel
theorem dL_law_734 : decode cL_law 734 = .ok (.aload_n 0, 1) := by decide +kernel
theorem dL_law_735 : decode cL_law 735 = .ok (.iload_n 3, 1) := by decide +kernel
theorem dL_law_736 : decode cL_law 736 = .ok (.iconst 2, 1) := by decide +kernel
theorem dL_law_737 : decode cL_law 737 = .ok (.iadd, 1) := by decide +kernel
theorem dL_law_738 : decode cL_law 738 = .ok (.iaload, 1) := by decide +kernel
theorem dL_law_739 : decode cL_law 739 = .ok (.invokevirtual 81, 3) := by decide +kernel
theorem dL_law_742 : decode cL_law 742 = .ok (.aload_n 2, 1) := by decide +kernel
theorem dL_law_743 : decode cL_law 743 = .ok (.aload_n 0, 1) := by decide +kernel
theorem dL_law_744 : decode cL_law 744 = .ok (.iload_n 3, 1) := by decide +kernel
theorem dL_law_745 : decode cL_law 745 = .ok (.iconst 1, 1) := by decide +kernel
theorem dL_law_746 : decode cL_law 746 = .ok (.iadd, 1) := by decide +kernel
theorem dL_law_747 : decode cL_law 747 = .ok (.iaload, 1) := by decide +kernel
theorem dL_law_748 : decode cL_law 748 = .ok (.aload_n 0, 1) := by decide +kernel
theorem dL_law_749 : decode cL_law 749 = .ok (.iload_n 3, 1) := by decide +kernel
theorem dL_law_750 : decode cL_law 750 = .ok (.iconst 2, 1) := by decide +kernel
theorem dL_law_751 : decode cL_law 751 = .ok (.iadd, 1) := by decide +kernel
theorem dL_law_752 : decode cL_law 752 = .ok (.iaload, 1) := by decide +kernel
theorem dL_law_753 : decode cL_law 753 = .ok (.invokevirtual 84, 3) := by decide +kernel
theorem dL_law_756 : decode cL_law 756 = .ok (.if_icmp .eq 615, 3) := by decide +kernel
theorem dL_law_759 : decode cL_law 759 = .ok (.iconst 0, 1) := by decide +kernel
theorem dL_law_760 : decode cL_law 760 = .ok (.ireturn, 1) := by decide +kernel
theorem dL_law_761 : decode cL_law 761 = .ok (.aload_n 1, 1) := by decide +kernel
theorem dL_law_762 : decode cL_law 762 = .ok (.aload_n 0, 1) := by decide +kernel
theorem dL_law_763 : decode cL_law 763 = .ok (.iload_n 3, 1) := by decide +kernel
theorem dL_law_764 : decode cL_law 764 = .ok (.iconst 1, 1) := by decide +kernel
theorem dL_law_765 : decode cL_law 765 = .ok (.iadd, 1) := by decide +kernel
theorem dL_law_766 : decode cL_law 766 = .ok (.iaload, 1) := by decide +kernel
theorem dL_law_767 : decode cL_law 767 = .ok (.invokevirtual 85, 3) := by decide +kernel
theorem dL_law_770 : decode cL_law 770 = .ok (.aload_n 2, 1) := by decide +kernel
theorem dL_law_771 : decode cL_law 771 = .ok (.aload_n 0, 1) := by decide +kernel
theorem dL_law_772 : decode cL_law 772 = .ok (.iload_n 3, 1) := by decide +kernel
theorem dL_law_773 : decode cL_law 773 = .ok (.iconst 1, 1) := by decide +kernel
theorem dL_law_774 : decode cL_law 774 = .ok (.iadd, 1) := by decide +kernel
theorem dL_law_775 : decode cL_law 775 = .ok (.iaload, 1) := by decide +kernel
theorem dL_law_776 : decode cL_law 776 = .ok (.invokevirtual 88, 3) := by decide +kernel
theorem dL_law_779 : decode cL_law 779 = .ok (.if_icmp .eq 592, 3) := by decide +kernel
theorem dL_law_782 : decode cL_law 782 = .ok (.iconst 0, 1) := by decide +kernel
theorem dL_law_783 : decode cL_law 783 = .ok (.ireturn, 1) := by decide +kernel
theorem dL_law_784 : decode cL_law 784 = .ok (.aload_n 1, 1) := by decide +kernel
theorem dL_law_785 : decode cL_law 785 = .ok (.aload_n 0, 1) := by decide +kernel
theorem dL_law_786 : decode cL_law 786 = .ok (.iload_n 3, 1) := by decide +kernel
theorem dL_law_787 : decode cL_law 787 = .ok (.iconst 1, 1) := by decide +kernel
theorem dL_law_788 : decode cL_law 788 = .ok (.iadd, 1) := by decide +kernel
theorem dL_law_789 : decode cL_law 789 = .ok (.iaload, 1) := by decide +kernel
theorem dL_law_790 : decode cL_law 790 = .ok (.aload_n 0, 1) := by decide +kernel
theorem dL_law_791 : decode cL_law 791 = .ok (.iload_n 3, 1) := by decide +kernel
theorem dL_law_792 : decode cL_law 792 = .ok (.iconst 2, 1) := by decide +kernel
theorem dL_law_793 : decode cL_law 793 = .ok (.iadd, 1) := by decide +kernel
theorem dL_law_794 : decode cL_law 794 = .ok (.iaload, 1) := by decide +kernel
theorem dL_law_795 : decode cL_law 795 = .ok (.aload_n 0, 1) := by decide +kernel
theorem dL_law_796 : decode cL_law 796 = .ok (.iload_n 3, 1) := by decide +kernel
theorem dL_law_797 : decode cL_law 797 = .ok (.iconst 3, 1) := by decide +kernel
theorem dL_law_798 : decode cL_law 798 = .ok (.iadd, 1) := by decide +kernel
theorem dL_law_799 : decode cL_law 799 = .ok (.iaload, 1) := by decide +kernel
theorem dL_law_800 : decode cL_law 800 = .ok (.invokevirtual 89, 3) := by decide +kernel
theorem dL_law_803 : decode cL_law 803 = .ok (.aload_n 2, 1) := by decide +kernel
theorem dL_law_804 : decode cL_law 804 = .ok (.aload_n 0, 1) := by decide +kernel
theorem dL_law_805 : decode cL_law 805 = .ok (.iload_n 3, 1) := by decide +kernel
theorem dL_law_806 : decode cL_law 806 = .ok (.iconst 1, 1) := by decide +kernel
theorem dL_law_807 : decode cL_law 807 = .ok (.iadd, 1) := by decide +kernel
theorem dL_law_808 : decode cL_law 808 = .ok (.iaload, 1) := by decide +kernel
theorem dL_law_809 : decode cL_law 809 = .ok (.aload_n 0, 1) := by decide +kernel
theorem dL_law_810 : decode cL_law 810 = .ok (.iload_n 3, 1) := by decide +kernel
theorem dL_law_811 : decode cL_law 811 = .ok (.iconst 2, 1) := by decide +kernel
theorem dL_law_812 : decode cL_law 812 = .ok (.iadd, 1) := by decide +kernel
theorem dL_law_813 : decode cL_law 813 = .ok (.iaload, 1) := by decide +kernel
theorem dL_law_814 : decode cL_law 814 = .ok (.aload_n 0, 1) := by decide +kernel
theorem dL_law_815 : decode cL_law 815 = .ok (.iload_n 3, 1) := by decide +kernel
theorem dL_law_816 : decode cL_law 816 = .ok (.iconst 3, 1) := by decide +kernel
theorem dL_law_817 : decode cL_law 817 = .ok (.iadd, 1) := by decide +kernel
theorem dL_law_818 : decode cL_law 818 = .ok (.iaload, 1) := by decide +kernel
theorem dL_law_819 : decode cL_law 819 = .ok (.invokevirtual 92, 3) := by decide +kernel
theorem dL_law_822 : decode cL_law 822 = .ok (.if_icmp .eq 549, 3) := by decide +kernel
theorem dL_law_825 : decode cL_law 825 = .ok (.iconst 0, 1) := by decide +kernel
theorem dL_law_826 : decode cL_law 826 = .ok (.ireturn, 1) := by decide +kernel
theorem dL_law_827 : decode cL_law 827 = .ok (.aload_n 1, 1) := by decide +kernel
theorem dL_law_828 : decode cL_law 828 = .ok (.aload_n 0, 1) := by decide +kernel
theorem dL_law_829 : decode cL_law 829 = .ok (.iload_n 3, 1) := by decide +kernel
theorem dL_law_830 : decode cL_law 830 = .ok (.iconst 1, 1) := by decide +kernel
theorem dL_law_831 : decode cL_law 831 = .ok (.iadd, 1) := by decide +kernel
theorem dL_law_832 : decode cL_law 832 = .ok (.iaload, 1) := by decide +kernel
theorem dL_law_833 : decode cL_law 833 = .ok (.aload_n 0, 1) := by decide +kernel
theorem dL_law_834 : decode cL_law 834 = .ok (.iload_n 3, 1) := by decide +kernel
theorem dL_law_835 : decode cL_law 835 = .ok (.iconst 2, 1) := by decide +kernel
theorem dL_law_836 : decode cL_law 836 = .ok (.iadd, 1) := by decide +kernel
theorem dL_law_837 : decode cL_law 837 = .ok (.iaload, 1) := by decide +kernel
theorem dL_law_838 : decode cL_law 838 = .ok (.aload_n 0, 1) := by decide +kernel
theorem dL_law_839 : decode cL_law 839 = .ok (.iload_n 3, 1) := by decide +kernel
theorem dL_law_840 : decode cL_law 840 = .ok (.iconst 3, 1) := by decide +kernel
theorem dL_law_841 : decode cL_law 841 = .ok (.iadd, 1) := by decide +kernel
theorem dL_law_842 : decode cL_law 842 = .ok (.iaload, 1) := by decide +kernel
theorem dL_law_843 : decode cL_law 843 = .ok (.ifCond .eq 7, 3) := by decide +kernel
theorem dL_law_846 : decode cL_law 846 = .ok (.iconst 1, 1) := by decide +kernel
theorem dL_law_847 : decode cL_law 847 = .ok (.goto 4, 3) := by decide +kernel
theorem dL_law_850 : decode cL_law 850 = .ok (.iconst 0, 1) := by decide +kernel
theorem dL_law_851 : decode cL_law 851 = .ok (.invokevirtual 93, 3) := by decide +kernel
theorem dL_law_854 : decode cL_law 854 = .ok (.aload_n 2, 1) := by decide +kernel
theorem dL_law_855 : decode cL_law 855 = .ok (.aload_n 0, 1) := by decide +kernel
theorem dL_law_856 : decode cL_law 856 = .ok (.iload_n 3, 1) := by decide +kernel
theorem dL_law_857 : decode cL_law 857 = .ok (.iconst 1, 1) := by decide +kernel
theorem dL_law_858 : decode cL_law 858 = .ok (.iadd, 1) := by decide +kernel
theorem dL_law_859 : decode cL_law 859 = .ok (.iaload, 1) := by decide +kernel
theorem dL_law_860 : decode cL_law 860 = .ok (.aload_n 0, 1) := by decide +kernel
theorem dL_law_861 : decode cL_law 861 = .ok (.iload_n 3, 1) := by decide +kernel
theorem dL_law_862 : decode cL_law 862 = .ok (.iconst 2, 1) := by decide +kernel
theorem dL_law_863 : decode cL_law 863 = .ok (.iadd, 1) := by decide +kernel
theorem dL_law_864 : decode cL_law 864 = .ok (.iaload, 1) := by decide +kernel
theorem dL_law_865 : decode cL_law 865 = .ok (.aload_n 0, 1) := by decide +kernel
theorem dL_law_866 : decode cL_law 866 = .ok (.iload_n 3, 1) := by decide +kernel
theorem dL_law_867 : decode cL_law 867 = .ok (.iconst 3, 1) := by decide +kernel
theorem dL_law_868 : decode cL_law 868 = .ok (.iadd, 1) := by decide +kernel
theorem dL_law_869 : decode cL_law 869 = .ok (.iaload, 1) := by decide +kernel
theorem dL_law_870 : decode cL_law 870 = .ok (.ifCond .eq 7, 3) := by decide +kernel
theorem dL_law_873 : decode cL_law 873 = .ok (.iconst 1, 1) := by decide +kernel
theorem dL_law_874 : decode cL_law 874 = .ok (.goto 4, 3) := by decide +kernel
theorem dL_law_877 : decode cL_law 877 = .ok (.iconst 0, 1) := by decide +kernel
theorem dL_law_878 : decode cL_law 878 = .ok (.invokevirtual 97, 3) := by decide +kernel
theorem dL_law_881 : decode cL_law 881 = .ok (.if_icmp .eq 490, 3) := by decide +kernel
theorem dL_law_884 : decode cL_law 884 = .ok (.iconst 0, 1) := by decide +kernel
theorem dL_law_885 : decode cL_law 885 = .ok (.ireturn, 1) := by decide +kernel
theorem dL_law_886 : decode cL_law 886 = .ok (.aload_n 1, 1) := by decide +kernel
theorem dL_law_887 : decode cL_law 887 = .ok (.aload_n 0, 1) := by decide +kernel
theorem dL_law_888 : decode cL_law 888 = .ok (.iload_n 3, 1) := by decide +kernel
theorem dL_law_889 : decode cL_law 889 = .ok (.iconst 1, 1) := by decide +kernel
theorem dL_law_890 : decode cL_law 890 = .ok (.iadd, 1) := by decide +kernel
theorem dL_law_891 : decode cL_law 891 = .ok (.iaload, 1) := by decide +kernel
theorem dL_law_892 : decode cL_law 892 = .ok (.aload_n 0, 1) := by decide +kernel
theorem dL_law_893 : decode cL_law 893 = .ok (.iload_n 3, 1) := by decide +kernel
theorem dL_law_894 : decode cL_law 894 = .ok (.iconst 2, 1) := by decide +kernel
theorem dL_law_895 : decode cL_law 895 = .ok (.iadd, 1) := by decide +kernel
theorem dL_law_896 : decode cL_law 896 = .ok (.iaload, 1) := by decide +kernel
theorem dL_law_897 : decode cL_law 897 = .ok (.invokevirtual 98, 3) := by decide +kernel
theorem dL_law_900 : decode cL_law 900 = .ok (.aload_n 2, 1) := by decide +kernel
theorem dL_law_901 : decode cL_law 901 = .ok (.aload_n 0, 1) := by decide +kernel
theorem dL_law_902 : decode cL_law 902 = .ok (.iload_n 3, 1) := by decide +kernel
theorem dL_law_903 : decode cL_law 903 = .ok (.iconst 1, 1) := by decide +kernel
theorem dL_law_904 : decode cL_law 904 = .ok (.iadd, 1) := by decide +kernel
theorem dL_law_905 : decode cL_law 905 = .ok (.iaload, 1) := by decide +kernel
theorem dL_law_906 : decode cL_law 906 = .ok (.aload_n 0, 1) := by decide +kernel
theorem dL_law_907 : decode cL_law 907 = .ok (.iload_n 3, 1) := by decide +kernel
theorem dL_law_908 : decode cL_law 908 = .ok (.iconst 2, 1) := by decide +kernel
theorem dL_law_909 : decode cL_law 909 = .ok (.iadd, 1) := by decide +kernel
theorem dL_law_910 : decode cL_law 910 = .ok (.iaload, 1) := by decide +kernel
theorem dL_law_911 : decode cL_law 911 = .ok (.invokevirtual 101, 3) := by decide +kernel
theorem dL_law_914 : decode cL_law 914 = .ok (.if_icmp .eq 457, 3) := by decide +kernel
theorem dL_law_917 : decode cL_law 917 = .ok (.iconst 0, 1) := by decide +kernel
theorem dL_law_918 : decode cL_law 918 = .ok (.ireturn, 1) := by decide +kernel
theorem dL_law_919 : decode cL_law 919 = .ok (.aload_n 1, 1) := by decide +kernel
theorem dL_law_920 : decode cL_law 920 = .ok (.aload_n 0, 1) := by decide +kernel
theorem dL_law_921 : decode cL_law 921 = .ok (.iload_n 3, 1) := by decide +kernel
theorem dL_law_922 : decode cL_law 922 = .ok (.iconst 1, 1) := by decide +kernel
theorem dL_law_923 : decode cL_law 923 = .ok (.iadd, 1) := by decide +kernel
theorem dL_law_924 : decode cL_law 924 = .ok (.iaload, 1) := by decide +kernel
theorem dL_law_925 : decode cL_law 925 = .ok (.invokevirtual 102, 3) := by decide +kernel
theorem dL_law_928 : decode cL_law 928 = .ok (.aload_n 2, 1) := by decide +kernel
theorem dL_law_929 : decode cL_law 929 = .ok (.aload_n 0, 1) := by decide +kernel
theorem dL_law_930 : decode cL_law 930 = .ok (.iload_n 3, 1) := by decide +kernel
theorem dL_law_931 : decode cL_law 931 = .ok (.iconst 1, 1) := by decide +kernel
theorem dL_law_932 : decode cL_law 932 = .ok (.iadd, 1) := by decide +kernel
theorem dL_law_933 : decode cL_law 933 = .ok (.iaload, 1) := by decide +kernel
theorem dL_law_934 : decode cL_law 934 = .ok (.invokevirtual 105, 3) := by decide +kernel
theorem dL_law_937 : decode cL_law 937 = .ok (.if_icmp .eq 434, 3) := by decide +kernel
theorem dL_law_940 : decode cL_law 940 = .ok (.iconst 0, 1) := by decide +kernel
theorem dL_law_941 : decode cL_law 941 = .ok (.ireturn, 1) := by decide +kernel
theorem dL_law_942 : decode cL_law 942 = .ok (.aload_n 1, 1) := by decide +kernel
theorem dL_law_943 : decode cL_law 943 = .ok (.aload_n 0, 1) := by decide +kernel
theorem dL_law_944 : decode cL_law 944 = .ok (.iload_n 3, 1) := by decide +kernel
theorem dL_law_945 : decode cL_law 945 = .ok (.iconst 1, 1) := by decide +kernel
theorem dL_law_946 : decode cL_law 946 = .ok (.iadd, 1) := by decide +kernel
theorem dL_law_947 : decode cL_law 947 = .ok (.iaload, 1) := by decide +kernel
theorem dL_law_948 : decode cL_law 948 = .ok (.aload_n 0, 1) := by decide +kernel
theorem dL_law_949 : decode cL_law 949 = .ok (.iload_n 3, 1) := by decide +kernel
theorem dL_law_950 : decode cL_law 950 = .ok (.iconst 2, 1) := by decide +kernel
theorem dL_law_951 : decode cL_law 951 = .ok (.iadd, 1) := by decide +kernel
theorem dL_law_952 : decode cL_law 952 = .ok (.iaload, 1) := by decide +kernel
theorem dL_law_953 : decode cL_law 953 = .ok (.invokevirtual 106, 3) := by decide +kernel
theorem dL_law_956 : decode cL_law 956 = .ok (.aload_n 2, 1) := by decide +kernel
theorem dL_law_957 : decode cL_law 957 = .ok (.aload_n 0, 1) := by decide +kernel
theorem dL_law_958 : decode cL_law 958 = .ok (.iload_n 3, 1) := by decide +kernel
theorem dL_law_959 : decode cL_law 959 = .ok (.iconst 1, 1) := by decide +kernel
theorem dL_law_960 : decode cL_law 960 = .ok (.iadd, 1) := by decide +kernel
theorem dL_law_961 : decode cL_law 961 = .ok (.iaload, 1) := by decide +kernel
theorem dL_law_962 : decode cL_law 962 = .ok (.aload_n 0, 1) := by decide +kernel
theorem dL_law_963 : decode cL_law 963 = .ok (.iload_n 3, 1) := by decide +kernel
theorem dL_law_964 : decode cL_law 964 = .ok (.iconst 2, 1) := by decide +kernel
theorem dL_law_965 : decode cL_law 965 = .ok (.iadd, 1) := by decide +kernel
theorem dL_law_966 : decode cL_law 966 = .ok (.iaload, 1) := by decide +kernel
theorem dL_law_967 : decode cL_law 967 = .ok (.invokevirtual 109, 3) := by decide +kernel
theorem dL_law_970 : decode cL_law 970 = .ok (.if_icmp .eq 401, 3) := by decide +kernel
theorem dL_law_973 : decode cL_law 973 = .ok (.iconst 0, 1) := by decide +kernel
theorem dL_law_974 : decode cL_law 974 = .ok (.ireturn, 1) := by decide +kernel
theorem dL_law_975 : decode cL_law 975 = .ok (.aload_n 1, 1) := by decide +kernel
theorem dL_law_976 : decode cL_law 976 = .ok (.aload_n 0, 1) := by decide +kernel
theorem dL_law_977 : decode cL_law 977 = .ok (.iload_n 3, 1) := by decide +kernel
theorem dL_law_978 : decode cL_law 978 = .ok (.iconst 1, 1) := by decide +kernel
theorem dL_law_979 : decode cL_law 979 = .ok (.iadd, 1) := by decide +kernel
theorem dL_law_980 : decode cL_law 980 = .ok (.iaload, 1) := by decide +kernel
theorem dL_law_981 : decode cL_law 981 = .ok (.aload_n 0, 1) := by decide +kernel
theorem dL_law_982 : decode cL_law 982 = .ok (.iload_n 3, 1) := by decide +kernel
theorem dL_law_983 : decode cL_law 983 = .ok (.iconst 2, 1) := by decide +kernel
theorem dL_law_984 : decode cL_law 984 = .ok (.iadd, 1) := by decide +kernel
theorem dL_law_985 : decode cL_law 985 = .ok (.iaload, 1) := by decide +kernel
theorem dL_law_986 : decode cL_law 986 = .ok (.invokevirtual 110, 3) := by decide +kernel
theorem dL_law_989 : decode cL_law 989 = .ok (.aload_n 2, 1) := by decide +kernel
theorem dL_law_990 : decode cL_law 990 = .ok (.aload_n 0, 1) := by decide +kernel
theorem dL_law_991 : decode cL_law 991 = .ok (.iload_n 3, 1) := by decide +kernel
theorem dL_law_992 : decode cL_law 992 = .ok (.iconst 1, 1) := by decide +kernel
theorem dL_law_993 : decode cL_law 993 = .ok (.iadd, 1) := by decide +kernel
theorem dL_law_994 : decode cL_law 994 = .ok (.iaload, 1) := by decide +kernel
theorem dL_law_995 : decode cL_law 995 = .ok (.aload_n 0, 1) := by decide +kernel
theorem dL_law_996 : decode cL_law 996 = .ok (.iload_n 3, 1) := by decide +kernel
theorem dL_law_997 : decode cL_law 997 = .ok (.iconst 2, 1) := by decide +kernel
theorem dL_law_998 : decode cL_law 998 = .ok (.iadd, 1) := by decide +kernel
theorem dL_law_999 : decode cL_law 999 = .ok (.iaload, 1) := by decide +kernel
theorem dL_law_1000 : decode cL_law 1000 = .ok (.invokevirtual 113, 3) := by decide +kernel
theorem dL_law_1003 : decode cL_law 1003 = .ok (.if_icmp .eq 368, 3) := by decide +kernel
theorem dL_law_1006 : decode cL_law 1006 = .ok (.iconst 0, 1) := by decide +kernel
theorem dL_law_1007 : decode cL_law 1007 = .ok (.ireturn, 1) := by decide +kernel
theorem dL_law_1008 : decode cL_law 1008 = .ok (.aload_n 1, 1) := by decide +kernel
theorem dL_law_1009 : decode cL_law 1009 = .ok (.aload_n 0, 1) := by decide +kernel
theorem dL_law_1010 : decode cL_law 1010 = .ok (.iload_n 3, 1) := by decide +kernel
theorem dL_law_1011 : decode cL_law 1011 = .ok (.iconst 1, 1) := by decide +kernel
theorem dL_law_1012 : decode cL_law 1012 = .ok (.iadd, 1) := by decide +kernel
theorem dL_law_1013 : decode cL_law 1013 = .ok (.iaload, 1) := by decide +kernel
theorem dL_law_1014 : decode cL_law 1014 = .ok (.aload_n 0, 1) := by decide +kernel
theorem dL_law_1015 : decode cL_law 1015 = .ok (.iload_n 3, 1) := by decide +kernel
theorem dL_law_1016 : decode cL_law 1016 = .ok (.iconst 2, 1) := by decide +kernel
theorem dL_law_1017 : decode cL_law 1017 = .ok (.iadd, 1) := by decide +kernel
theorem dL_law_1018 : decode cL_law 1018 = .ok (.iaload, 1) := by decide +kernel
theorem dL_law_1019 : decode cL_law 1019 = .ok (.invokevirtual 114, 3) := by decide +kernel
theorem dL_law_1022 : decode cL_law 1022 = .ok (.aload_n 2, 1) := by decide +kernel
theorem dL_law_1023 : decode cL_law 1023 = .ok (.aload_n 0, 1) := by decide +kernel
theorem dL_law_1024 : decode cL_law 1024 = .ok (.iload_n 3, 1) := by decide +kernel
theorem dL_law_1025 : decode cL_law 1025 = .ok (.iconst 1, 1) := by decide +kernel
theorem dL_law_1026 : decode cL_law 1026 = .ok (.iadd, 1) := by decide +kernel
theorem dL_law_1027 : decode cL_law 1027 = .ok (.iaload, 1) := by decide +kernel
theorem dL_law_1028 : decode cL_law 1028 = .ok (.aload_n 0, 1) := by decide +kernel
theorem dL_law_1029 : decode cL_law 1029 = .ok (.iload_n 3, 1) := by decide +kernel
theorem dL_law_1030 : decode cL_law 1030 = .ok (.iconst 2, 1) := by decide +kernel
theorem dL_law_1031 : decode cL_law 1031 = .ok (.iadd, 1) := by decide +kernel
theorem dL_law_1032 : decode cL_law 1032 = .ok (.iaload, 1) := by decide +kernel
theorem dL_law_1033 : decode cL_law 1033 = .ok (.invokevirtual 117, 3) := by decide +kernel
theorem dL_law_1036 : decode cL_law 1036 = .ok (.if_icmp .eq 335, 3) := by decide +kernel
theorem dL_law_1039 : decode cL_law 1039 = .ok (.iconst 0, 1) := by decide +kernel
theorem dL_law_1040 : decode cL_law 1040 = .ok (.ireturn, 1) := by decide +kernel
theorem dL_law_1041 : decode cL_law 1041 = .ok (.aload_n 1, 1) := by decide +kernel
theorem dL_law_1042 : decode cL_law 1042 = .ok (.aload_n 0, 1) := by decide +kernel
theorem dL_law_1043 : decode cL_law 1043 = .ok (.iload_n 3, 1) := by decide +kernel
theorem dL_law_1044 : decode cL_law 1044 = .ok (.iconst 1, 1) := by decide +kernel
theorem dL_law_1045 : decode cL_law 1045 = .ok (.iadd, 1) := by decide +kernel
theorem dL_law_1046 : decode cL_law 1046 = .ok (.iaload, 1) := by decide +kernel
theorem dL_law_1047 : decode cL_law 1047 = .ok (.invokevirtual 118, 3) := by decide +kernel
theorem dL_law_1050 : decode cL_law 1050 = .ok (.aload_n 2, 1) := by decide +kernel
theorem dL_law_1051 : decode cL_law 1051 = .ok (.aload_n 0, 1) := by decide +kernel
theorem dL_law_1052 : decode cL_law 1052 = .ok (.iload_n 3, 1) := by decide +kernel
theorem dL_law_1053 : decode cL_law 1053 = .ok (.iconst 1, 1) := by decide +kernel
theorem dL_law_1054 : decode cL_law 1054 = .ok (.iadd, 1) := by decide +kernel
theorem dL_law_1055 : decode cL_law 1055 = .ok (.iaload, 1) := by decide +kernel
theorem dL_law_1056 : decode cL_law 1056 = .ok (.invokevirtual 121, 3) := by decide +kernel
theorem dL_law_1059 : decode cL_law 1059 = .ok (.if_icmp .eq 312, 3) := by decide +kernel
theorem dL_law_1062 : decode cL_law 1062 = .ok (.iconst 0, 1) := by decide +kernel
theorem dL_law_1063 : decode cL_law 1063 = .ok (.ireturn, 1) := by decide +kernel
theorem dL_law_1064 : decode cL_law 1064 = .ok (.aload_n 1, 1) := by decide +kernel
theorem dL_law_1065 : decode cL_law 1065 = .ok (.aload_n 0, 1) := by decide +kernel
theorem dL_law_1066 : decode cL_law 1066 = .ok (.iload_n 3, 1) := by decide +kernel
theorem dL_law_1067 : decode cL_law 1067 = .ok (.iconst 1, 1) := by decide +kernel
theorem dL_law_1068 : decode cL_law 1068 = .ok (.iadd, 1) := by decide +kernel
theorem dL_law_1069 : decode cL_law 1069 = .ok (.iaload, 1) := by decide +kernel
theorem dL_law_1070 : decode cL_law 1070 = .ok (.invokevirtual 122, 3) := by decide +kernel
theorem dL_law_1073 : decode cL_law 1073 = .ok (.aload_n 2, 1) := by decide +kernel
theorem dL_law_1074 : decode cL_law 1074 = .ok (.aload_n 0, 1) := by decide +kernel
theorem dL_law_1075 : decode cL_law 1075 = .ok (.iload_n 3, 1) := by decide +kernel
theorem dL_law_1076 : decode cL_law 1076 = .ok (.iconst 1, 1) := by decide +kernel
theorem dL_law_1077 : decode cL_law 1077 = .ok (.iadd, 1) := by decide +kernel
theorem dL_law_1078 : decode cL_law 1078 = .ok (.iaload, 1) := by decide +kernel
theorem dL_law_1079 : decode cL_law 1079 = .ok (.invokevirtual 125, 3) := by decide +kernel
theorem dL_law_1082 : decode cL_law 1082 = .ok (.if_icmp .eq 289, 3) := by decide +kernel
theorem dL_law_1085 : decode cL_law 1085 = .ok (.iconst 0, 1) := by decide +kernel
theorem dL_law_1086 : decode cL_law 1086 = .ok (.ireturn, 1) := by decide +kernel
theorem dL_law_1087 : decode cL_law 1087 = .ok (.aload_n 1, 1) := by decide +kernel
theorem dL_law_1088 : decode cL_law 1088 = .ok (.aload_n 0, 1) := by decide +kernel
theorem dL_law_1089 : decode cL_law 1089 = .ok (.iload_n 3, 1) := by decide +kernel
theorem dL_law_1090 : decode cL_law 1090 = .ok (.iconst 1, 1) := by decide +kernel
theorem dL_law_1091 : decode cL_law 1091 = .ok (.iadd, 1) := by decide +kernel
theorem dL_law_1092 : decode cL_law 1092 = .ok (.iaload, 1) := by decide +kernel
theorem dL_law_1093 : decode cL_law 1093 = .ok (.invokevirtual 126, 3) := by decide +kernel
theorem dL_law_1096 : decode cL_law 1096 = .ok (.aload_n 2, 1) := by decide +kernel
theorem dL_law_1097 : decode cL_law 1097 = .ok (.aload_n 0, 1) := by decide +kernel
theorem dL_law_1098 : decode cL_law 1098 = .ok (.iload_n 3, 1) := by decide +kernel
theorem dL_law_1099 : decode cL_law 1099 = .ok (.iconst 1, 1) := by decide +kernel
theorem dL_law_1100 : decode cL_law 1100 = .ok (.iadd, 1) := by decide +kernel
theorem dL_law_1101 : decode cL_law 1101 = .ok (.iaload, 1) := by decide +kernel
theorem dL_law_1102 : decode cL_law 1102 = .ok (.invokevirtual 129, 3) := by decide +kernel
theorem dL_law_1105 : decode cL_law 1105 = .ok (.if_icmp .eq 266, 3) := by decide +kernel
theorem dL_law_1108 : decode cL_law 1108 = .ok (.iconst 0, 1) := by decide +kernel
theorem dL_law_1109 : decode cL_law 1109 = .ok (.ireturn, 1) := by decide +kernel
theorem dL_law_1110 : decode cL_law 1110 = .ok (.aload_n 1, 1) := by decide +kernel
theorem dL_law_1111 : decode cL_law 1111 = .ok (.aload_n 0, 1) := by decide +kernel
theorem dL_law_1112 : decode cL_law 1112 = .ok (.iload_n 3, 1) := by decide +kernel
theorem dL_law_1113 : decode cL_law 1113 = .ok (.iconst 1, 1) := by decide +kernel
theorem dL_law_1114 : decode cL_law 1114 = .ok (.iadd, 1) := by decide +kernel
theorem dL_law_1115 : decode cL_law 1115 = .ok (.iaload, 1) := by decide +kernel
theorem dL_law_1116 : decode cL_law 1116 = .ok (.aload_n 0, 1) := by decide +kernel
theorem dL_law_1117 : decode cL_law 1117 = .ok (.iload_n 3, 1) := by decide +kernel
theorem dL_law_1118 : decode cL_law 1118 = .ok (.iconst 2, 1) := by decide +kernel
theorem dL_law_1119 : decode cL_law 1119 = .ok (.iadd, 1) := by decide +kernel
theorem dL_law_1120 : decode cL_law 1120 = .ok (.iaload, 1) := by decide +kernel
theorem dL_law_1121 : decode cL_law 1121 = .ok (.invokevirtual 130, 3) := by decide +kernel
theorem dL_law_1124 : decode cL_law 1124 = .ok (.aload_n 2, 1) := by decide +kernel
theorem dL_law_1125 : decode cL_law 1125 = .ok (.aload_n 0, 1) := by decide +kernel
theorem dL_law_1126 : decode cL_law 1126 = .ok (.iload_n 3, 1) := by decide +kernel
theorem dL_law_1127 : decode cL_law 1127 = .ok (.iconst 1, 1) := by decide +kernel
theorem dL_law_1128 : decode cL_law 1128 = .ok (.iadd, 1) := by decide +kernel
theorem dL_law_1129 : decode cL_law 1129 = .ok (.iaload, 1) := by decide +kernel
theorem dL_law_1130 : decode cL_law 1130 = .ok (.aload_n 0, 1) := by decide +kernel
theorem dL_law_1131 : decode cL_law 1131 = .ok (.iload_n 3, 1) := by decide +kernel
theorem dL_law_1132 : decode cL_law 1132 = .ok (.iconst 2, 1) := by decide +kernel
theorem dL_law_1133 : decode cL_law 1133 = .ok (.iadd, 1) := by decide +kernel
theorem dL_law_1134 : decode cL_law 1134 = .ok (.iaload, 1) := by decide +kernel
theorem dL_law_1135 : decode cL_law 1135 = .ok (.invokevirtual 133, 3) := by decide +kernel
theorem dL_law_1138 : decode cL_law 1138 = .ok (.if_icmp .eq 233, 3) := by decide +kernel
theorem dL_law_1141 : decode cL_law 1141 = .ok (.iconst 0, 1) := by decide +kernel
theorem dL_law_1142 : decode cL_law 1142 = .ok (.ireturn, 1) := by decide +kernel
theorem dL_law_1143 : decode cL_law 1143 = .ok (.aload_n 1, 1) := by decide +kernel
theorem dL_law_1144 : decode cL_law 1144 = .ok (.aload_n 0, 1) := by decide +kernel
theorem dL_law_1145 : decode cL_law 1145 = .ok (.iload_n 3, 1) := by decide +kernel
theorem dL_law_1146 : decode cL_law 1146 = .ok (.iconst 1, 1) := by decide +kernel
theorem dL_law_1147 : decode cL_law 1147 = .ok (.iadd, 1) := by decide +kernel
theorem dL_law_1148 : decode cL_law 1148 = .ok (.iaload, 1) := by decide +kernel
theorem dL_law_1149 : decode cL_law 1149 = .ok (.invokevirtual 134, 3) := by decide +kernel
theorem dL_law_1152 : decode cL_law 1152 = .ok (.aload_n 2, 1) := by decide +kernel
theorem dL_law_1153 : decode cL_law 1153 = .ok (.aload_n 0, 1) := by decide +kernel
theorem dL_law_1154 : decode cL_law 1154 = .ok (.iload_n 3, 1) := by decide +kernel
theorem dL_law_1155 : decode cL_law 1155 = .ok (.iconst 1, 1) := by decide +kernel
theorem dL_law_1156 : decode cL_law 1156 = .ok (.iadd, 1) := by decide +kernel
theorem dL_law_1157 : decode cL_law 1157 = .ok (.iaload, 1) := by decide +kernel
theorem dL_law_1158 : decode cL_law 1158 = .ok (.invokevirtual 137, 3) := by decide +kernel
theorem dL_law_1161 : decode cL_law 1161 = .ok (.if_icmp .eq 210, 3) := by decide +kernel
theorem dL_law_1164 : decode cL_law 1164 = .ok (.iconst 0, 1) := by decide +kernel
theorem dL_law_1165 : decode cL_law 1165 = .ok (.ireturn, 1) := by decide +kernel
theorem dL_law_1166 : decode cL_law 1166 = .ok (.aload_n 1, 1) := by decide +kernel
theorem dL_law_1167 : decode cL_law 1167 = .ok (.aload_n 0, 1) := by decide +kernel
theorem dL_law_1168 : decode cL_law 1168 = .ok (.iload_n 3, 1) := by decide +kernel
theorem dL_law_1169 : decode cL_law 1169 = .ok (.iconst 1, 1) := by decide +kernel
theorem dL_law_1170 : decode cL_law 1170 = .ok (.iadd, 1) := by decide +kernel
theorem dL_law_1171 : decode cL_law 1171 = .ok (.iaload, 1) := by decide +kernel
theorem dL_law_1172 : decode cL_law 1172 = .ok (.aload_n 0, 1) := by decide +kernel
theorem dL_law_1173 : decode cL_law 1173 = .ok (.iload_n 3, 1) := by decide +kernel
theorem dL_law_1174 : decode cL_law 1174 = .ok (.iconst 2, 1) := by decide +kernel
theorem dL_law_1175 : decode cL_law 1175 = .ok (.iadd, 1) := by decide +kernel
theorem dL_law_1176 : decode cL_law 1176 = .ok (.iaload, 1) := by decide +kernel
theorem dL_law_1177 : decode cL_law 1177 = .ok (.aload_n 0, 1) := by decide +kernel
theorem dL_law_1178 : decode cL_law 1178 = .ok (.iload_n 3, 1) := by decide +kernel
theorem dL_law_1179 : decode cL_law 1179 = .ok (.iconst 3, 1) := by decide +kernel
theorem dL_law_1180 : decode cL_law 1180 = .ok (.iadd, 1) := by decide +kernel
theorem dL_law_1181 : decode cL_law 1181 = .ok (.iaload, 1) := by decide +kernel
theorem dL_law_1182 : decode cL_law 1182 = .ok (.invokevirtual 138, 3) := by decide +kernel
theorem dL_law_1185 : decode cL_law 1185 = .ok (.aload_n 2, 1) := by decide +kernel
theorem dL_law_1186 : decode cL_law 1186 = .ok (.aload_n 0, 1) := by decide +kernel
theorem dL_law_1187 : decode cL_law 1187 = .ok (.iload_n 3, 1) := by decide +kernel
theorem dL_law_1188 : decode cL_law 1188 = .ok (.iconst 1, 1) := by decide +kernel
theorem dL_law_1189 : decode cL_law 1189 = .ok (.iadd, 1) := by decide +kernel
theorem dL_law_1190 : decode cL_law 1190 = .ok (.iaload, 1) := by decide +kernel
theorem dL_law_1191 : decode cL_law 1191 = .ok (.aload_n 0, 1) := by decide +kernel
theorem dL_law_1192 : decode cL_law 1192 = .ok (.iload_n 3, 1) := by decide +kernel
theorem dL_law_1193 : decode cL_law 1193 = .ok (.iconst 2, 1) := by decide +kernel
theorem dL_law_1194 : decode cL_law 1194 = .ok (.iadd, 1) := by decide +kernel
theorem dL_law_1195 : decode cL_law 1195 = .ok (.iaload, 1) := by decide +kernel
theorem dL_law_1196 : decode cL_law 1196 = .ok (.aload_n 0, 1) := by decide +kernel
theorem dL_law_1197 : decode cL_law 1197 = .ok (.iload_n 3, 1) := by decide +kernel
theorem dL_law_1198 : decode cL_law 1198 = .ok (.iconst 3, 1) := by decide +kernel
theorem dL_law_1199 : decode cL_law 1199 = .ok (.iadd, 1) := by decide +kernel
theorem dL_law_1200 : decode cL_law 1200 = .ok (.iaload, 1) := by decide +kernel
theorem dL_law_1201 : decode cL_law 1201 = .ok (.invokevirtual 141, 3) := by decide +kernel
theorem dL_law_1204 : decode cL_law 1204 = .ok (.if_icmp .eq 167, 3) := by decide +kernel
theorem dL_law_1207 : decode cL_law 1207 = .ok (.iconst 0, 1) := by decide +kernel
theorem dL_law_1208 : decode cL_law 1208 = .ok (.ireturn, 1) := by decide +kernel
theorem dL_law_1209 : decode cL_law 1209 = .ok (.aload_n 1, 1) := by decide +kernel
theorem dL_law_1210 : decode cL_law 1210 = .ok (.aload_n 0, 1) := by decide +kernel
theorem dL_law_1211 : decode cL_law 1211 = .ok (.iload_n 3, 1) := by decide +kernel
theorem dL_law_1212 : decode cL_law 1212 = .ok (.iconst 1, 1) := by decide +kernel
theorem dL_law_1213 : decode cL_law 1213 = .ok (.iadd, 1) := by decide +kernel
theorem dL_law_1214 : decode cL_law 1214 = .ok (.iaload, 1) := by decide +kernel
theorem dL_law_1215 : decode cL_law 1215 = .ok (.invokevirtual 142, 3) := by decide +kernel
theorem dL_law_1218 : decode cL_law 1218 = .ok (.aload_n 2, 1) := by decide +kernel
theorem dL_law_1219 : decode cL_law 1219 = .ok (.aload_n 0, 1) := by decide +kernel
theorem dL_law_1220 : decode cL_law 1220 = .ok (.iload_n 3, 1) := by decide +kernel
theorem dL_law_1221 : decode cL_law 1221 = .ok (.iconst 1, 1) := by decide +kernel
theorem dL_law_1222 : decode cL_law 1222 = .ok (.iadd, 1) := by decide +kernel
theorem dL_law_1223 : decode cL_law 1223 = .ok (.iaload, 1) := by decide +kernel
theorem dL_law_1224 : decode cL_law 1224 = .ok (.invokevirtual 145, 3) := by decide +kernel
theorem dL_law_1227 : decode cL_law 1227 = .ok (.if_icmp .eq 144, 3) := by decide +kernel
theorem dL_law_1230 : decode cL_law 1230 = .ok (.iconst 0, 1) := by decide +kernel
theorem dL_law_1231 : decode cL_law 1231 = .ok (.ireturn, 1) := by decide +kernel
theorem dL_law_1232 : decode cL_law 1232 = .ok (.aload_n 1, 1) := by decide +kernel
theorem dL_law_1233 : decode cL_law 1233 = .ok (.aload_n 0, 1) := by decide +kernel
theorem dL_law_1234 : decode cL_law 1234 = .ok (.iload_n 3, 1) := by decide +kernel
theorem dL_law_1235 : decode cL_law 1235 = .ok (.iconst 1, 1) := by decide +kernel
theorem dL_law_1236 : decode cL_law 1236 = .ok (.iadd, 1) := by decide +kernel
theorem dL_law_1237 : decode cL_law 1237 = .ok (.iaload, 1) := by decide +kernel
theorem dL_law_1238 : decode cL_law 1238 = .ok (.aload_n 0, 1) := by decide +kernel
theorem dL_law_1239 : decode cL_law 1239 = .ok (.iload_n 3, 1) := by decide +kernel
theorem dL_law_1240 : decode cL_law 1240 = .ok (.iconst 2, 1) := by decide +kernel
theorem dL_law_1241 : decode cL_law 1241 = .ok (.iadd, 1) := by decide +kernel
theorem dL_law_1242 : decode cL_law 1242 = .ok (.iaload, 1) := by decide +kernel
theorem dL_law_1243 : decode cL_law 1243 = .ok (.invokevirtual 146, 3) := by decide +kernel
theorem dL_law_1246 : decode cL_law 1246 = .ok (.aload_n 2, 1) := by decide +kernel
theorem dL_law_1247 : decode cL_law 1247 = .ok (.aload_n 0, 1) := by decide +kernel
theorem dL_law_1248 : decode cL_law 1248 = .ok (.iload_n 3, 1) := by decide +kernel
theorem dL_law_1249 : decode cL_law 1249 = .ok (.iconst 1, 1) := by decide +kernel
theorem dL_law_1250 : decode cL_law 1250 = .ok (.iadd, 1) := by decide +kernel
theorem dL_law_1251 : decode cL_law 1251 = .ok (.iaload, 1) := by decide +kernel
theorem dL_law_1252 : decode cL_law 1252 = .ok (.aload_n 0, 1) := by decide +kernel
theorem dL_law_1253 : decode cL_law 1253 = .ok (.iload_n 3, 1) := by decide +kernel
theorem dL_law_1254 : decode cL_law 1254 = .ok (.iconst 2, 1) := by decide +kernel
theorem dL_law_1255 : decode cL_law 1255 = .ok (.iadd, 1) := by decide +kernel
theorem dL_law_1256 : decode cL_law 1256 = .ok (.iaload, 1) := by decide +kernel
theorem dL_law_1257 : decode cL_law 1257 = .ok (.invokevirtual 149, 3) := by decide +kernel
theorem dL_law_1260 : decode cL_law 1260 = .ok (.if_icmp .eq 111, 3) := by decide +kernel
theorem dL_law_1263 : decode cL_law 1263 = .ok (.iconst 0, 1) := by decide +kernel
theorem dL_law_1264 : decode cL_law 1264 = .ok (.ireturn, 1) := by decide +kernel
theorem dL_law_1265 : decode cL_law 1265 = .ok (.aload_n 1, 1) := by decide +kernel
theorem dL_law_1266 : decode cL_law 1266 = .ok (.aload_n 0, 1) := by decide +kernel
theorem dL_law_1267 : decode cL_law 1267 = .ok (.iload_n 3, 1) := by decide +kernel
theorem dL_law_1268 : decode cL_law 1268 = .ok (.iconst 1, 1) := by decide +kernel
theorem dL_law_1269 : decode cL_law 1269 = .ok (.iadd, 1) := by decide +kernel
theorem dL_law_1270 : decode cL_law 1270 = .ok (.iaload, 1) := by decide +kernel
theorem dL_law_1271 : decode cL_law 1271 = .ok (.aload_n 0, 1) := by decide +kernel
theorem dL_law_1272 : decode cL_law 1272 = .ok (.iload_n 3, 1) := by decide +kernel
theorem dL_law_1273 : decode cL_law 1273 = .ok (.iconst 2, 1) := by decide +kernel
theorem dL_law_1274 : decode cL_law 1274 = .ok (.iadd, 1) := by decide +kernel
theorem dL_law_1275 : decode cL_law 1275 = .ok (.iaload, 1) := by decide +kernel
theorem dL_law_1276 : decode cL_law 1276 = .ok (.invokevirtual 150, 3) := by decide +kernel
theorem dL_law_1279 : decode cL_law 1279 = .ok (.aload_n 2, 1) := by decide +kernel
theorem dL_law_1280 : decode cL_law 1280 = .ok (.aload_n 0, 1) := by decide +kernel
theorem dL_law_1281 : decode cL_law 1281 = .ok (.iload_n 3, 1) := by decide +kernel
theorem dL_law_1282 : decode cL_law 1282 = .ok (.iconst 1, 1) := by decide +kernel
theorem dL_law_1283 : decode cL_law 1283 = .ok (.iadd, 1) := by decide +kernel
theorem dL_law_1284 : decode cL_law 1284 = .ok (.iaload, 1) := by decide +kernel
theorem dL_law_1285 : decode cL_law 1285 = .ok (.aload_n 0, 1) := by decide +kernel
theorem dL_law_1286 : decode cL_law 1286 = .ok (.iload_n 3, 1) := by decide +kernel
theorem dL_law_1287 : decode cL_law 1287 = .ok (.iconst 2, 1) := by decide +kernel
theorem dL_law_1288 : decode cL_law 1288 = .ok (.iadd, 1) := by decide +kernel
theorem dL_law_1289 : decode cL_law 1289 = .ok (.iaload, 1) := by decide +kernel
theorem dL_law_1290 : decode cL_law 1290 = .ok (.invokevirtual 153, 3) := by decide +kernel
theorem dL_law_1293 : decode cL_law 1293 = .ok (.if_icmp .eq 78, 3) := by decide +kernel
theorem dL_law_1296 : decode cL_law 1296 = .ok (.iconst 0, 1) := by decide +kernel
theorem dL_law_1297 : decode cL_law 1297 = .ok (.ireturn, 1) := by decide +kernel
theorem dL_law_1298 : decode cL_law 1298 = .ok (.aload_n 1, 1) := by decide +kernel
theorem dL_law_1299 : decode cL_law 1299 = .ok (.aload_n 0, 1) := by decide +kernel
theorem dL_law_1300 : decode cL_law 1300 = .ok (.iload_n 3, 1) := by decide +kernel
theorem dL_law_1301 : decode cL_law 1301 = .ok (.iconst 1, 1) := by decide +kernel
theorem dL_law_1302 : decode cL_law 1302 = .ok (.iadd, 1) := by decide +kernel
theorem dL_law_1303 : decode cL_law 1303 = .ok (.iaload, 1) := by decide +kernel
theorem dL_law_1304 : decode cL_law 1304 = .ok (.invokevirtual 154, 3) := by decide +kernel
theorem dL_law_1307 : decode cL_law 1307 = .ok (.aload_n 2, 1) := by decide +kernel
theorem dL_law_1308 : decode cL_law 1308 = .ok (.aload_n 0, 1) := by decide +kernel
theorem dL_law_1309 : decode cL_law 1309 = .ok (.iload_n 3, 1) := by decide +kernel
theorem dL_law_1310 : decode cL_law 1310 = .ok (.iconst 1, 1) := by decide +kernel
theorem dL_law_1311 : decode cL_law 1311 = .ok (.iadd, 1) := by decide +kernel
theorem dL_law_1312 : decode cL_law 1312 = .ok (.iaload, 1) := by decide +kernel
theorem dL_law_1313 : decode cL_law 1313 = .ok (.invokevirtual 157, 3) := by decide +kernel
theorem dL_law_1316 : decode cL_law 1316 = .ok (.if_icmp .eq 55, 3) := by decide +kernel
theorem dL_law_1319 : decode cL_law 1319 = .ok (.iconst 0, 1) := by decide +kernel
theorem dL_law_1320 : decode cL_law 1320 = .ok (.ireturn, 1) := by decide +kernel
theorem dL_law_1321 : decode cL_law 1321 = .ok (.aload_n 1, 1) := by decide +kernel
theorem dL_law_1322 : decode cL_law 1322 = .ok (.aload_n 0, 1) := by decide +kernel
theorem dL_law_1323 : decode cL_law 1323 = .ok (.iload_n 3, 1) := by decide +kernel
theorem dL_law_1324 : decode cL_law 1324 = .ok (.iconst 1, 1) := by decide +kernel
theorem dL_law_1325 : decode cL_law 1325 = .ok (.iadd, 1) := by decide +kernel
theorem dL_law_1326 : decode cL_law 1326 = .ok (.iaload, 1) := by decide +kernel
theorem dL_law_1327 : decode cL_law 1327 = .ok (.invokevirtual 158, 3) := by decide +kernel
theorem dL_law_1330 : decode cL_law 1330 = .ok (.aload_n 2, 1) := by decide +kernel
theorem dL_law_1331 : decode cL_law 1331 = .ok (.aload_n 0, 1) := by decide +kernel
theorem dL_law_1332 : decode cL_law 1332 = .ok (.iload_n 3, 1) := by decide +kernel
theorem dL_law_1333 : decode cL_law 1333 = .ok (.iconst 1, 1) := by decide +kernel
theorem dL_law_1334 : decode cL_law 1334 = .ok (.iadd, 1) := by decide +kernel
theorem dL_law_1335 : decode cL_law 1335 = .ok (.iaload, 1) := by decide +kernel
theorem dL_law_1336 : decode cL_law 1336 = .ok (.invokevirtual 161, 3) := by decide +kernel
theorem dL_law_1339 : decode cL_law 1339 = .ok (.if_icmp .eq 32, 3) := by decide +kernel
theorem dL_law_1342 : decode cL_law 1342 = .ok (.iconst 0, 1) := by decide +kernel
theorem dL_law_1343 : decode cL_law 1343 = .ok (.ireturn, 1) := by decide +kernel
theorem dL_law_1344 : decode cL_law 1344 = .ok (.aload_n 1, 1) := by decide +kernel
theorem dL_law_1345 : decode cL_law 1345 = .ok (.invokevirtual 162, 3) := by decide +kernel
theorem dL_law_1348 : decode cL_law 1348 = .ok (.aload_n 2, 1) := by decide +kernel
theorem dL_law_1349 : decode cL_law 1349 = .ok (.invokevirtual 166, 3) := by decide +kernel
theorem dL_law_1352 : decode cL_law 1352 = .ok (.lcmp, 1) := by decide +kernel
theorem dL_law_1353 : decode cL_law 1353 = .ok (.ifCond .eq 18, 3) := by decide +kernel
theorem dL_law_1356 : decode cL_law 1356 = .ok (.iconst 0, 1) := by decide +kernel
theorem dL_law_1357 : decode cL_law 1357 = .ok (.ireturn, 1) := by decide +kernel
theorem dL_law_1358 : decode cL_law 1358 = .ok (.aload_n 1, 1) := by decide +kernel
theorem dL_law_1359 : decode cL_law 1359 = .ok (.invokevirtual 167, 3) := by decide +kernel
theorem dL_law_1362 : decode cL_law 1362 = .ok (.aload_n 2, 1) := by decide +kernel
theorem dL_law_1363 : decode cL_law 1363 = .ok (.invokevirtual 171, 3) := by decide +kernel
theorem dL_law_1366 : decode cL_law 1366 = .ok (.if_icmp .eq 5, 3) := by decide +kernel
theorem dL_law_1369 : decode cL_law 1369 = .ok (.iconst 0, 1) := by decide +kernel
theorem dL_law_1370 : decode cL_law 1370 = .ok (.ireturn, 1) := by decide +kernel
theorem dL_law_1371 : decode cL_law 1371 = .ok (.iinc 3 5, 3) := by decide +kernel
theorem dL_law_1374 : decode cL_law 1374 = .ok (.goto (-1356), 3) := by decide +kernel
theorem dL_law_1377 : decode cL_law 1377 = .ok (.iconst 1, 1) := by decide +kernel
theorem dL_law_1378 : decode cL_law 1378 = .ok (.ireturn, 1) := by decide +kernel
