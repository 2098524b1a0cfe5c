theorem dX4_init_0 : decode cX4_init 0 = .ok (.aload_n 0, 1) := by decide +kernel
theorem dX4_init_1 : decode cX4_init 1 = .ok (.invokespecial 1, 3) := by decide +kernel
theorem dX4_init_4 : decode cX4_init 4 = .ok (.aload_n 0, 1) := by decide +kernel
theorem dX4_init_5 : decode cX4_init 5 = .ok (.sipush 5200, 3) := by decide +kernel
theorem dX4_init_8 : decode cX4_init 8 = .ok (.newarray .int, 2) := by decide +kernel
theorem dX4_init_10 : decode cX4_init 10 = .ok (.putfield 7, 3) := by decide +kernel
theorem dX4_init_13 : decode cX4_init 13 = .ok (.aload_n 0, 1) := by decide +kernel
theorem dX4_init_14 : decode cX4_init 14 = .ok (.sipush 5200, 3) := by decide +kernel
theorem dX4_init_17 : decode cX4_init 17 = .ok (.newarray .int, 2) := by decide +kernel
theorem dX4_init_19 : decode cX4_init 19 = .ok (.putfield 13, 3) := by decide +kernel
theorem dX4_init_22 : decode cX4_init 22 = .ok (.aload_n 0, 1) := by decide +kernel
theorem dX4_init_23 : decode cX4_init 23 = .ok (.sipush 5200, 3) := by decide +kernel
theorem dX4_init_26 : decode cX4_init 26 = .ok (.newarray .int, 2) := by decide +kernel
theorem dX4_init_28 : decode cX4_init 28 = .ok (.putfield 16, 3) := by decide +kernel
theorem dX4_init_31 : decode cX4_init 31 = .ok (.aload_n 0, 1) := by decide +kernel
theorem dX4_init_32 : decode cX4_init 32 = .ok (.sipush 5200, 3) := by decide +kernel
theorem dX4_init_35 : decode cX4_init 35 = .ok (.newarray .int, 2) := by decide +kernel
theorem dX4_init_37 : decode cX4_init 37 = .ok (.putfield 19, 3) := by decide +kernel
theorem dX4_init_40 : decode cX4_init 40 = .ok (.aload_n 0, 1) := by decide +kernel
theorem dX4_init_41 : decode cX4_init 41 = .ok (.sipush 5200, 3) := by decide +kernel
theorem dX4_init_44 : decode cX4_init 44 = .ok (.newarray .int, 2) := by decide +kernel
theorem dX4_init_46 : decode cX4_init 46 = .ok (.putfield 22, 3) := by decide +kernel
theorem dX4_init_49 : decode cX4_init 49 = .ok (.aload_n 0, 1) := by decide +kernel
theorem dX4_init_50 : decode cX4_init 50 = .ok (.sipush 5200, 3) := by decide +kernel
theorem dX4_init_53 : decode cX4_init 53 = .ok (.newarray .int, 2) := by decide +kernel
theorem dX4_init_55 : decode cX4_init 55 = .ok (.putfield 25, 3) := by decide +kernel
theorem dX4_init_58 : decode cX4_init 58 = .ok (.aload_n 0, 1) := by decide +kernel
theorem dX4_init_59 : decode cX4_init 59 = .ok (.sipush 5200, 3) := by decide +kernel
theorem dX4_init_62 : decode cX4_init 62 = .ok (.newarray .int, 2) := by decide +kernel
theorem dX4_init_64 : decode cX4_init 64 = .ok (.putfield 28, 3) := by decide +kernel
theorem dX4_init_67 : decode cX4_init 67 = .ok (.aload_n 0, 1) := by decide +kernel
theorem dX4_init_68 : decode cX4_init 68 = .ok (.sipush 20200, 3) := by decide +kernel
theorem dX4_init_71 : decode cX4_init 71 = .ok (.newarray .int, 2) := by decide +kernel
theorem dX4_init_73 : decode cX4_init 73 = .ok (.putfield 31, 3) := by decide +kernel
theorem dX4_init_76 : decode cX4_init 76 = .ok (.aload_n 0, 1) := by decide +kernel
theorem dX4_init_77 : decode cX4_init 77 = .ok (.sipush 20200, 3) := by decide +kernel
theorem dX4_init_80 : decode cX4_init 80 = .ok (.newarray .int, 2) := by decide +kernel
theorem dX4_init_82 : decode cX4_init 82 = .ok (.putfield 34, 3) := by decide +kernel
theorem dX4_init_85 : decode cX4_init 85 = .ok (.aload_n 0, 1) := by decide +kernel
theorem dX4_init_86 : decode cX4_init 86 = .ok (.sipush 20200, 3) := by decide +kernel
theorem dX4_init_89 : decode cX4_init 89 = .ok (.newarray .int, 2) := by decide +kernel
theorem dX4_init_91 : decode cX4_init 91 = .ok (.putfield 37, 3) := by decide +kernel
theorem dX4_init_94 : decode cX4_init 94 = .ok (.aload_n 0, 1) := by decide +kernel
theorem dX4_init_95 : decode cX4_init 95 = .ok (.sipush 6500, 3) := by decide +kernel
theorem dX4_init_98 : decode cX4_init 98 = .ok (.newarray .int, 2) := by decide +kernel
theorem dX4_init_100 : decode cX4_init 100 = .ok (.putfield 40, 3) := by decide +kernel
theorem dX4_init_103 : decode cX4_init 103 = .ok (.aload_n 0, 1) := by decide +kernel
theorem dX4_init_104 : decode cX4_init 104 = .ok (.sipush 512, 3) := by decide +kernel
theorem dX4_init_107 : decode cX4_init 107 = .ok (.newarray .int, 2) := by decide +kernel
theorem dX4_init_109 : decode cX4_init 109 = .ok (.putfield 43, 3) := by decide +kernel
theorem dX4_init_112 : decode cX4_init 112 = .ok (.aload_n 0, 1) := by decide +kernel
theorem dX4_init_113 : decode cX4_init 113 = .ok (.bipush 64, 2) := by decide +kernel
theorem dX4_init_115 : decode cX4_init 115 = .ok (.newarray .int, 2) := by decide +kernel
theorem dX4_init_117 : decode cX4_init 117 = .ok (.putfield 46, 3) := by decide +kernel
theorem dX4_init_120 : decode cX4_init 120 = .ok (.aload_n 0, 1) := by decide +kernel
theorem dX4_init_121 : decode cX4_init 121 = .ok (.bipush 64, 2) := by decide +kernel
theorem dX4_init_123 : decode cX4_init 123 = .ok (.newarray .int, 2) := by decide +kernel
theorem dX4_init_125 : decode cX4_init 125 = .ok (.putfield 49, 3) := by decide +kernel
theorem dX4_init_128 : decode cX4_init 128 = .ok (.aload_n 0, 1) := by decide +kernel
theorem dX4_init_129 : decode cX4_init 129 = .ok (.sipush 512, 3) := by decide +kernel
theorem dX4_init_132 : decode cX4_init 132 = .ok (.newarray .int, 2) := by decide +kernel
theorem dX4_init_134 : decode cX4_init 134 = .ok (.putfield 52, 3) := by decide +kernel
theorem dX4_init_137 : decode cX4_init 137 = .ok (.aload_n 0, 1) := by decide +kernel
theorem dX4_init_138 : decode cX4_init 138 = .ok (.bipush 64, 2) := by decide +kernel
theorem dX4_init_140 : decode cX4_init 140 = .ok (.newarray .int, 2) := by decide +kernel
theorem dX4_init_142 : decode cX4_init 142 = .ok (.putfield 55, 3) := by decide +kernel
theorem dX4_init_145 : decode cX4_init 145 = .ok (.aload_n 0, 1) := by decide +kernel
theorem dX4_init_146 : decode cX4_init 146 = .ok (.sipush 201, 3) := by decide +kernel
theorem dX4_init_149 : decode cX4_init 149 = .ok (.newarray .int, 2) := by decide +kernel
theorem dX4_init_151 : decode cX4_init 151 = .ok (.putfield 58, 3) := by decide +kernel
theorem dX4_init_154 : decode cX4_init 154 = .ok (.aload_n 0, 1) := by decide +kernel
theorem dX4_init_155 : decode cX4_init 155 = .ok (.sipush 201, 3) := by decide +kernel
theorem dX4_init_158 : decode cX4_init 158 = .ok (.newarray .int, 2) := by decide +kernel
theorem dX4_init_160 : decode cX4_init 160 = .ok (.putfield 61, 3) := by decide +kernel
theorem dX4_init_163 : decode cX4_init 163 = .ok (.aload_n 0, 1) := by decide +kernel
theorem dX4_init_164 : decode cX4_init 164 = .ok (.sipush 201, 3) := by decide +kernel
theorem dX4_init_167 : decode cX4_init 167 = .ok (.newarray .int, 2) := by decide +kernel
theorem dX4_init_169 : decode cX4_init 169 = .ok (.putfield 64, 3) := by decide +kernel
theorem dX4_init_172 : decode cX4_init 172 = .ok (.aload_n 0, 1) := by decide +kernel
theorem dX4_init_173 : decode cX4_init 173 = .ok (.iconst 4, 1) := by decide +kernel
theorem dX4_init_174 : decode cX4_init 174 = .ok (.newarray .int, 2) := by decide +kernel
theorem dX4_init_176 : decode cX4_init 176 = .ok (.putfield 67, 3) := by decide +kernel
theorem dX4_init_179 : decode cX4_init 179 = .ok (.iconst 0, 1) := by decide +kernel
theorem dX4_init_180 : decode cX4_init 180 = .ok (.istore_n 1, 1) := by decide +kernel
theorem dX4_init_181 : decode cX4_init 181 = .ok (.iload_n 1, 1) := by decide +kernel
theorem dX4_init_182 : decode cX4_init 182 = .ok (.bipush 64, 2) := by decide +kernel
theorem dX4_init_184 : decode cX4_init 184 = .ok (.if_icmp .ge 16, 3) := by decide +kernel
theorem dX4_init_187 : decode cX4_init 187 = .ok (.aload_n 0, 1) := by decide +kernel
theorem dX4_init_188 : decode cX4_init 188 = .ok (.getfield 49, 3) := by decide +kernel
theorem dX4_init_191 : decode cX4_init 191 = .ok (.iload_n 1, 1) := by decide +kernel
theorem dX4_init_192 : decode cX4_init 192 = .ok (.iconst (-1), 1) := by decide +kernel
theorem dX4_init_193 : decode cX4_init 193 = .ok (.iastore, 1) := by decide +kernel
theorem dX4_init_194 : decode cX4_init 194 = .ok (.iinc 1 1, 3) := by decide +kernel
theorem dX4_init_197 : decode cX4_init 197 = .ok (.goto (-16), 3) := by decide +kernel
theorem dX4_init_200 : decode cX4_init 200 = .ok (.return_, 1) := by decide +kernel
theorem dX4_in_0 : decode cX4_in 0 = .ok (.iload_n 0, 1) := by decide +kernel
theorem dX4_in_1 : decode cX4_in 1 = .ok (.iload_n 1, 1) := by decide +kernel
theorem dX4_in_2 : decode cX4_in 2 = .ok (.if_icmp .lt 12, 3) := by decide +kernel
theorem dX4_in_5 : decode cX4_in 5 = .ok (.iload_n 0, 1) := by decide +kernel
theorem dX4_in_6 : decode cX4_in 6 = .ok (.iload_n 2, 1) := by decide +kernel
theorem dX4_in_7 : decode cX4_in 7 = .ok (.if_icmp .gt 7, 3) := by decide +kernel
theorem dX4_in_10 : decode cX4_in 10 = .ok (.iconst 1, 1) := by decide +kernel
theorem dX4_in_11 : decode cX4_in 11 = .ok (.goto 4, 3) := by decide +kernel
theorem dX4_in_14 : decode cX4_in 14 = .ok (.iconst 0, 1) := by decide +kernel
theorem dX4_in_15 : decode cX4_in 15 = .ok (.ireturn, 1) := by decide +kernel
set_option maxRecDepth 20000 in
theorem ggX4_isWork_X4_in : GoodIn wsX4_isWork wsX4_in := goodIn_r _ [6] (by decide +kernel) (by decide +kernel)
set_option maxRecDepth 20000 in
theorem gX4_isWork_X4_in : GoodIn wsX4_isWork (va_wsS RX4 74 yX4_in wsX4_in) := goodIn_app (goodIn_of _ (by decide +kernel)) ggX4_isWork_X4_in
theorem dX4_isWork_0 : decode cX4_isWork 0 = .ok (.iload_n 1, 1) := by decide +kernel
theorem dX4_isWork_1 : decode cX4_isWork 1 = .ok (.iconst 1, 1) := by decide +kernel
theorem dX4_isWork_2 : decode cX4_isWork 2 = .ok (.aload_n 0, 1) := by decide +kernel
theorem dX4_isWork_3 : decode cX4_isWork 3 = .ok (.getfield 70, 3) := by decide +kernel
theorem dX4_isWork_6 : decode cX4_isWork 6 = .ok (.invokestatic 74, 3) := by decide +kernel
theorem dX4_isWork_9 : decode cX4_isWork 9 = .ok (.ifCond .eq 16, 3) := by decide +kernel
theorem dX4_isWork_12 : decode cX4_isWork 12 = .ok (.aload_n 0, 1) := by decide +kernel
theorem dX4_isWork_13 : decode cX4_isWork 13 = .ok (.getfield 58, 3) := by decide +kernel
theorem dX4_isWork_16 : decode cX4_isWork 16 = .ok (.iload_n 1, 1) := by decide +kernel
theorem dX4_isWork_17 : decode cX4_isWork 17 = .ok (.iaload, 1) := by decide +kernel
theorem dX4_isWork_18 : decode cX4_isWork 18 = .ok (.ifCond .le 7, 3) := by decide +kernel
theorem dX4_isWork_21 : decode cX4_isWork 21 = .ok (.iconst 1, 1) := by decide +kernel
theorem dX4_isWork_22 : decode cX4_isWork 22 = .ok (.goto 4, 3) := by decide +kernel
theorem dX4_isWork_25 : decode cX4_isWork 25 = .ok (.iconst 0, 1) := by decide +kernel
theorem dX4_isWork_26 : decode cX4_isWork 26 = .ok (.ireturn, 1) := by decide +kernel
theorem dX4_many_0 : decode cX4_many 0 = .ok (.iconst 0, 1) := by decide +kernel
theorem dX4_many_1 : decode cX4_many 1 = .ok (.istore_n 1, 1) := by decide +kernel
theorem dX4_many_2 : decode cX4_many 2 = .ok (.iconst 1, 1) := by decide +kernel
theorem dX4_many_3 : decode cX4_many 3 = .ok (.istore_n 2, 1) := by decide +kernel
theorem dX4_many_4 : decode cX4_many 4 = .ok (.iload_n 2, 1) := by decide +kernel
theorem dX4_many_5 : decode cX4_many 5 = .ok (.aload_n 0, 1) := by decide +kernel
theorem dX4_many_6 : decode cX4_many 6 = .ok (.getfield 70, 3) := by decide +kernel
theorem dX4_many_9 : decode cX4_many 9 = .ok (.if_icmp .gt 26, 3) := by decide +kernel
theorem dX4_many_12 : decode cX4_many 12 = .ok (.iload_n 1, 1) := by decide +kernel
theorem dX4_many_13 : decode cX4_many 13 = .ok (.aload_n 0, 1) := by decide +kernel
theorem dX4_many_14 : decode cX4_many 14 = .ok (.getfield 58, 3) := by decide +kernel
theorem dX4_many_17 : decode cX4_many 17 = .ok (.iload_n 2, 1) := by decide +kernel
theorem dX4_many_18 : decode cX4_many 18 = .ok (.iaload, 1) := by decide +kernel
theorem dX4_many_19 : decode cX4_many 19 = .ok (.ifCond .le 7, 3) := by decide +kernel
theorem dX4_many_22 : decode cX4_many 22 = .ok (.iconst 1, 1) := by decide +kernel
theorem dX4_many_23 : decode cX4_many 23 = .ok (.goto 4, 3) := by decide +kernel
theorem dX4_many_26 : decode cX4_many 26 = .ok (.iconst 0, 1) := by decide +kernel
theorem dX4_many_27 : decode cX4_many 27 = .ok (.iadd, 1) := by decide +kernel
theorem dX4_many_28 : decode cX4_many 28 = .ok (.istore_n 1, 1) := by decide +kernel
theorem dX4_many_29 : decode cX4_many 29 = .ok (.iinc 2 1, 3) := by decide +kernel
theorem dX4_many_32 : decode cX4_many 32 = .ok (.goto (-28), 3) := by decide +kernel
theorem dX4_many_35 : decode cX4_many 35 = .ok (.iload_n 1, 1) := by decide +kernel
theorem dX4_many_36 : decode cX4_many 36 = .ok (.ireturn, 1) := by decide +kernel
theorem dX4_note_0 : decode cX4_note 0 = .ok (.aload_n 0, 1) := by decide +kernel
theorem dX4_note_1 : decode cX4_note 1 = .ok (.dup, 1) := by decide +kernel
theorem dX4_note_2 : decode cX4_note 2 = .ok (.getfield 78, 3) := by decide +kernel
theorem dX4_note_5 : decode cX4_note 5 = .ok (.iconst 1, 1) := by decide +kernel
theorem dX4_note_6 : decode cX4_note 6 = .ok (.iadd, 1) := by decide +kernel
theorem dX4_note_7 : decode cX4_note 7 = .ok (.putfield 78, 3) := by decide +kernel
theorem dX4_note_10 : decode cX4_note 10 = .ok (.aload_n 0, 1) := by decide +kernel
theorem dX4_note_11 : decode cX4_note 11 = .ok (.getfield 7, 3) := by decide +kernel
theorem dX4_note_14 : decode cX4_note 14 = .ok (.aload_n 0, 1) := by decide +kernel
theorem dX4_note_15 : decode cX4_note 15 = .ok (.getfield 78, 3) := by decide +kernel
theorem dX4_note_18 : decode cX4_note 18 = .ok (.iload_n 1, 1) := by decide +kernel
theorem dX4_note_19 : decode cX4_note 19 = .ok (.iastore, 1) := by decide +kernel
theorem dX4_note_20 : decode cX4_note 20 = .ok (.aload_n 0, 1) := by decide +kernel
theorem dX4_note_21 : decode cX4_note 21 = .ok (.getfield 13, 3) := by decide +kernel
theorem dX4_note_24 : decode cX4_note 24 = .ok (.aload_n 0, 1) := by decide +kernel
theorem dX4_note_25 : decode cX4_note 25 = .ok (.getfield 78, 3) := by decide +kernel
theorem dX4_note_28 : decode cX4_note 28 = .ok (.iload_n 2, 1) := by decide +kernel
theorem dX4_note_29 : decode cX4_note 29 = .ok (.iastore, 1) := by decide +kernel
theorem dX4_note_30 : decode cX4_note 30 = .ok (.aload_n 0, 1) := by decide +kernel
theorem dX4_note_31 : decode cX4_note 31 = .ok (.getfield 16, 3) := by decide +kernel
theorem dX4_note_34 : decode cX4_note 34 = .ok (.aload_n 0, 1) := by decide +kernel
theorem dX4_note_35 : decode cX4_note 35 = .ok (.getfield 78, 3) := by decide +kernel
theorem dX4_note_38 : decode cX4_note 38 = .ok (.iload_n 2, 1) := by decide +kernel
theorem dX4_note_39 : decode cX4_note 39 = .ok (.ifCond .le 12, 3) := by decide +kernel
theorem dX4_note_42 : decode cX4_note 42 = .ok (.aload_n 0, 1) := by decide +kernel
theorem dX4_note_43 : decode cX4_note 43 = .ok (.getfield 61, 3) := by decide +kernel
theorem dX4_note_46 : decode cX4_note 46 = .ok (.iload_n 2, 1) := by decide +kernel
theorem dX4_note_47 : decode cX4_note 47 = .ok (.iaload, 1) := by decide +kernel
theorem dX4_note_48 : decode cX4_note 48 = .ok (.goto 4, 3) := by decide +kernel
theorem dX4_note_51 : decode cX4_note 51 = .ok (.iconst 0, 1) := by decide +kernel
theorem dX4_note_52 : decode cX4_note 52 = .ok (.iastore, 1) := by decide +kernel
theorem dX4_note_53 : decode cX4_note 53 = .ok (.aload_n 0, 1) := by decide +kernel
theorem dX4_note_54 : decode cX4_note 54 = .ok (.getfield 19, 3) := by decide +kernel
theorem dX4_note_57 : decode cX4_note 57 = .ok (.aload_n 0, 1) := by decide +kernel
theorem dX4_note_58 : decode cX4_note 58 = .ok (.getfield 78, 3) := by decide +kernel
theorem dX4_note_61 : decode cX4_note 61 = .ok (.iconst 0, 1) := by decide +kernel
theorem dX4_note_62 : decode cX4_note 62 = .ok (.iastore, 1) := by decide +kernel
theorem dX4_note_63 : decode cX4_note 63 = .ok (.aload_n 0, 1) := by decide +kernel
theorem dX4_note_64 : decode cX4_note 64 = .ok (.getfield 22, 3) := by decide +kernel
theorem dX4_note_67 : decode cX4_note 67 = .ok (.aload_n 0, 1) := by decide +kernel
theorem dX4_note_68 : decode cX4_note 68 = .ok (.getfield 78, 3) := by decide +kernel
theorem dX4_note_71 : decode cX4_note 71 = .ok (.iconst 0, 1) := by decide +kernel
theorem dX4_note_72 : decode cX4_note 72 = .ok (.iastore, 1) := by decide +kernel
theorem dX4_note_73 : decode cX4_note 73 = .ok (.aload_n 0, 1) := by decide +kernel
theorem dX4_note_74 : decode cX4_note 74 = .ok (.getfield 25, 3) := by decide +kernel
theorem dX4_note_77 : decode cX4_note 77 = .ok (.aload_n 0, 1) := by decide +kernel
theorem dX4_note_78 : decode cX4_note 78 = .ok (.getfield 78, 3) := by decide +kernel
theorem dX4_note_81 : decode cX4_note 81 = .ok (.iconst 0, 1) := by decide +kernel
theorem dX4_note_82 : decode cX4_note 82 = .ok (.iastore, 1) := by decide +kernel
theorem dX4_note_83 : decode cX4_note 83 = .ok (.aload_n 0, 1) := by decide +kernel
theorem dX4_note_84 : decode cX4_note 84 = .ok (.getfield 28, 3) := by decide +kernel
theorem dX4_note_87 : decode cX4_note 87 = .ok (.aload_n 0, 1) := by decide +kernel
theorem dX4_note_88 : decode cX4_note 88 = .ok (.getfield 78, 3) := by decide +kernel
theorem dX4_note_91 : decode cX4_note 91 = .ok (.iconst 0, 1) := by decide +kernel
theorem dX4_note_92 : decode cX4_note 92 = .ok (.iastore, 1) := by decide +kernel
theorem dX4_note_93 : decode cX4_note 93 = .ok (.iload_n 2, 1) := by decide +kernel
theorem dX4_note_94 : decode cX4_note 94 = .ok (.ifCond .le 13, 3) := by decide +kernel
theorem dX4_note_97 : decode cX4_note 97 = .ok (.aload_n 0, 1) := by decide +kernel
theorem dX4_note_98 : decode cX4_note 98 = .ok (.getfield 61, 3) := by decide +kernel
theorem dX4_note_101 : decode cX4_note 101 = .ok (.iload_n 2, 1) := by decide +kernel
theorem dX4_note_102 : decode cX4_note 102 = .ok (.aload_n 0, 1) := by decide +kernel
theorem dX4_note_103 : decode cX4_note 103 = .ok (.getfield 78, 3) := by decide +kernel
theorem dX4_note_106 : decode cX4_note 106 = .ok (.iastore, 1) := by decide +kernel
theorem dX4_note_107 : decode cX4_note 107 = .ok (.aload_n 0, 1) := by decide +kernel
theorem dX4_note_108 : decode cX4_note 108 = .ok (.getfield 78, 3) := by decide +kernel
theorem dX4_note_111 : decode cX4_note 111 = .ok (.ireturn, 1) := by decide +kernel
theorem dX4_forceTo_0 : decode cX4_forceTo 0 = .ok (.iload_n 1, 1) := by decide +kernel
theorem dX4_forceTo_1 : decode cX4_forceTo 1 = .ok (.aload_n 0, 1) := by decide +kernel
theorem dX4_forceTo_2 : decode cX4_forceTo 2 = .ok (.getfield 78, 3) := by decide +kernel
theorem dX4_forceTo_5 : decode cX4_forceTo 5 = .ok (.if_icmp .ge 7, 3) := by decide +kernel
theorem dX4_forceTo_8 : decode cX4_forceTo 8 = .ok (.iload_n 1, 1) := by decide +kernel
theorem dX4_forceTo_9 : decode cX4_forceTo 9 = .ok (.goto 7, 3) := by decide +kernel
theorem dX4_forceTo_12 : decode cX4_forceTo 12 = .ok (.aload_n 0, 1) := by decide +kernel
theorem dX4_forceTo_13 : decode cX4_forceTo 13 = .ok (.getfield 78, 3) := by decide +kernel
theorem dX4_forceTo_16 : decode cX4_forceTo 16 = .ok (.istore_n 2, 1) := by decide +kernel
theorem dX4_forceTo_17 : decode cX4_forceTo 17 = .ok (.aload_n 0, 1) := by decide +kernel
theorem dX4_forceTo_18 : decode cX4_forceTo 18 = .ok (.iload_n 2, 1) := by decide +kernel
theorem dX4_forceTo_19 : decode cX4_forceTo 19 = .ok (.aload_n 0, 1) := by decide +kernel
theorem dX4_forceTo_20 : decode cX4_forceTo 20 = .ok (.getfield 81, 3) := by decide +kernel
theorem dX4_forceTo_23 : decode cX4_forceTo 23 = .ok (.if_icmp .le 7, 3) := by decide +kernel
theorem dX4_forceTo_26 : decode cX4_forceTo 26 = .ok (.iload_n 2, 1) := by decide +kernel
theorem dX4_forceTo_27 : decode cX4_forceTo 27 = .ok (.goto 7, 3) := by decide +kernel
theorem dX4_forceTo_30 : decode cX4_forceTo 30 = .ok (.aload_n 0, 1) := by decide +kernel
theorem dX4_forceTo_31 : decode cX4_forceTo 31 = .ok (.getfield 81, 3) := by decide +kernel
theorem dX4_forceTo_34 : decode cX4_forceTo 34 = .ok (.putfield 81, 3) := by decide +kernel
theorem dX4_forceTo_37 : decode cX4_forceTo 37 = .ok (.return_, 1) := by decide +kernel
theorem dX4_makeDirty_0 : decode cX4_makeDirty 0 = .ok (.aload_n 0, 1) := by decide +kernel
theorem dX4_makeDirty_1 : decode cX4_makeDirty 1 = .ok (.getfield 49, 3) := by decide +kernel
theorem dX4_makeDirty_4 : decode cX4_makeDirty 4 = .ok (.iload_n 1, 1) := by decide +kernel
theorem dX4_makeDirty_5 : decode cX4_makeDirty 5 = .ok (.iaload, 1) := by decide +kernel
theorem dX4_makeDirty_6 : decode cX4_makeDirty 6 = .ok (.iconst (-1), 1) := by decide +kernel
theorem dX4_makeDirty_7 : decode cX4_makeDirty 7 = .ok (.if_icmp .ne 10, 3) := by decide +kernel
theorem dX4_makeDirty_10 : decode cX4_makeDirty 10 = .ok (.aload_n 0, 1) := by decide +kernel
theorem dX4_makeDirty_11 : decode cX4_makeDirty 11 = .ok (.getfield 49, 3) := by decide +kernel
theorem dX4_makeDirty_14 : decode cX4_makeDirty 14 = .ok (.iload_n 1, 1) := by decide +kernel
theorem dX4_makeDirty_15 : decode cX4_makeDirty 15 = .ok (.iload_n 2, 1) := by decide +kernel
theorem dX4_makeDirty_16 : decode cX4_makeDirty 16 = .ok (.iastore, 1) := by decide +kernel
theorem dX4_makeDirty_17 : decode cX4_makeDirty 17 = .ok (.return_, 1) := by decide +kernel
theorem dX4_apply_0 : decode cX4_apply 0 = .ok (.aload_n 0, 1) := by decide +kernel
theorem dX4_apply_1 : decode cX4_apply 1 = .ok (.getfield 19, 3) := by decide +kernel
theorem dX4_apply_4 : decode cX4_apply 4 = .ok (.iload_n 1, 1) := by decide +kernel
theorem dX4_apply_5 : decode cX4_apply 5 = .ok (.iaload, 1) := by decide +kernel
theorem dX4_apply_6 : decode cX4_apply 6 = .ok (.istore_n 2, 1) := by decide +kernel
theorem dX4_apply_7 : decode cX4_apply 7 = .ok (.aload_n 0, 1) := by decide +kernel
theorem dX4_apply_8 : decode cX4_apply 8 = .ok (.getfield 43, 3) := by decide +kernel
theorem dX4_apply_11 : decode cX4_apply 11 = .ok (.bipush 8, 2) := by decide +kernel
theorem dX4_apply_13 : decode cX4_apply 13 = .ok (.iload_n 2, 1) := by decide +kernel
theorem dX4_apply_14 : decode cX4_apply 14 = .ok (.imul, 1) := by decide +kernel
theorem dX4_apply_15 : decode cX4_apply 15 = .ok (.aload_n 0, 1) := by decide +kernel
theorem dX4_apply_16 : decode cX4_apply 16 = .ok (.getfield 22, 3) := by decide +kernel
theorem dX4_apply_19 : decode cX4_apply 19 = .ok (.iload_n 1, 1) := by decide +kernel
theorem dX4_apply_20 : decode cX4_apply 20 = .ok (.iaload, 1) := by decide +kernel
theorem dX4_apply_21 : decode cX4_apply 21 = .ok (.iadd, 1) := by decide +kernel
theorem dX4_apply_22 : decode cX4_apply 22 = .ok (.dup2, 1) := by decide +kernel
theorem dX4_apply_23 : decode cX4_apply 23 = .ok (.iaload, 1) := by decide +kernel
theorem dX4_apply_24 : decode cX4_apply 24 = .ok (.aload_n 0, 1) := by decide +kernel
theorem dX4_apply_25 : decode cX4_apply 25 = .ok (.getfield 25, 3) := by decide +kernel
theorem dX4_apply_28 : decode cX4_apply 28 = .ok (.iload_n 1, 1) := by decide +kernel
theorem dX4_apply_29 : decode cX4_apply 29 = .ok (.iaload, 1) := by decide +kernel
theorem dX4_apply_30 : decode cX4_apply 30 = .ok (.iadd, 1) := by decide +kernel
theorem dX4_apply_31 : decode cX4_apply 31 = .ok (.iastore, 1) := by decide +kernel
theorem dX4_apply_32 : decode cX4_apply 32 = .ok (.aload_n 0, 1) := by decide +kernel
theorem dX4_apply_33 : decode cX4_apply 33 = .ok (.getfield 46, 3) := by decide +kernel
theorem dX4_apply_36 : decode cX4_apply 36 = .ok (.iload_n 2, 1) := by decide +kernel
theorem dX4_apply_37 : decode cX4_apply 37 = .ok (.iload_n 1, 1) := by decide +kernel
theorem dX4_apply_38 : decode cX4_apply 38 = .ok (.iastore, 1) := by decide +kernel
theorem dX4_apply_39 : decode cX4_apply 39 = .ok (.return_, 1) := by decide +kernel
theorem dX4_open_0 : decode cX4_open 0 = .ok (.iload_n 1, 1) := by decide +kernel
theorem dX4_open_1 : decode cX4_open 1 = .ok (.istore_n 2, 1) := by decide +kernel
theorem dX4_open_2 : decode cX4_open 2 = .ok (.iload_n 2, 1) := by decide +kernel
theorem dX4_open_3 : decode cX4_open 3 = .ok (.ifCond .le 33, 3) := by decide +kernel
theorem dX4_open_6 : decode cX4_open 6 = .ok (.aload_n 0, 1) := by decide +kernel
theorem dX4_open_7 : decode cX4_open 7 = .ok (.getfield 7, 3) := by decide +kernel
theorem dX4_open_10 : decode cX4_open 10 = .ok (.iload_n 2, 1) := by decide +kernel
theorem dX4_open_11 : decode cX4_open 11 = .ok (.iaload, 1) := by decide +kernel
theorem dX4_open_12 : decode cX4_open 12 = .ok (.iconst 1, 1) := by decide +kernel
theorem dX4_open_13 : decode cX4_open 13 = .ok (.if_icmp .eq 23, 3) := by decide +kernel
theorem dX4_open_16 : decode cX4_open 16 = .ok (.aload_n 0, 1) := by decide +kernel
theorem dX4_open_17 : decode cX4_open 17 = .ok (.getfield 7, 3) := by decide +kernel
theorem dX4_open_20 : decode cX4_open 20 = .ok (.iload_n 2, 1) := by decide +kernel
theorem dX4_open_21 : decode cX4_open 21 = .ok (.iaload, 1) := by decide +kernel
theorem dX4_open_22 : decode cX4_open 22 = .ok (.iconst 2, 1) := by decide +kernel
theorem dX4_open_23 : decode cX4_open 23 = .ok (.if_icmp .eq 13, 3) := by decide +kernel
theorem dX4_open_26 : decode cX4_open 26 = .ok (.aload_n 0, 1) := by decide +kernel
theorem dX4_open_27 : decode cX4_open 27 = .ok (.getfield 16, 3) := by decide +kernel
theorem dX4_open_30 : decode cX4_open 30 = .ok (.iload_n 2, 1) := by decide +kernel
theorem dX4_open_31 : decode cX4_open 31 = .ok (.iaload, 1) := by decide +kernel
theorem dX4_open_32 : decode cX4_open 32 = .ok (.istore_n 2, 1) := by decide +kernel
theorem dX4_open_33 : decode cX4_open 33 = .ok (.goto (-31), 3) := by decide +kernel
theorem dX4_open_36 : decode cX4_open 36 = .ok (.iload_n 2, 1) := by decide +kernel
theorem dX4_open_37 : decode cX4_open 37 = .ok (.ifCond .le 22, 3) := by decide +kernel
theorem dX4_open_40 : decode cX4_open 40 = .ok (.aload_n 0, 1) := by decide +kernel
theorem dX4_open_41 : decode cX4_open 41 = .ok (.getfield 7, 3) := by decide +kernel
theorem dX4_open_44 : decode cX4_open 44 = .ok (.iload_n 2, 1) := by decide +kernel
theorem dX4_open_45 : decode cX4_open 45 = .ok (.iaload, 1) := by decide +kernel
theorem dX4_open_46 : decode cX4_open 46 = .ok (.iconst 2, 1) := by decide +kernel
theorem dX4_open_47 : decode cX4_open 47 = .ok (.if_icmp .ne 12, 3) := by decide +kernel
theorem dX4_open_50 : decode cX4_open 50 = .ok (.aload_n 0, 1) := by decide +kernel
theorem dX4_open_51 : decode cX4_open 51 = .ok (.getfield 28, 3) := by decide +kernel
theorem dX4_open_54 : decode cX4_open 54 = .ok (.iload_n 2, 1) := by decide +kernel
theorem dX4_open_55 : decode cX4_open 55 = .ok (.iaload, 1) := by decide +kernel
theorem dX4_open_56 : decode cX4_open 56 = .ok (.goto 4, 3) := by decide +kernel
theorem dX4_open_59 : decode cX4_open 59 = .ok (.iload_n 2, 1) := by decide +kernel
theorem dX4_open_60 : decode cX4_open 60 = .ok (.ireturn, 1) := by decide +kernel
set_option maxRecDepth 20000 in
theorem ggX4_giveBack_X4_note : GoodIn wsX4_giveBack wsX4_note := goodIn_r _ [11, 12, 13, 14, 6, 15, 2, 3, 4, 5, 31, 32, 33, 34, 35, 36, 37, 38, 39, 40, 41, 42, 43, 44, 45, 46, 47, 48, 49, 50, 51, 52, 53, 54, 55, 56, 57, 58] (by decide +kernel) (by decide +kernel)
set_option maxRecDepth 20000 in
theorem gX4_giveBack_X4_note : GoodIn wsX4_giveBack (wsV RX4 84 RX4 yX4_note wsX4_note) := goodIn_app (goodIn_of _ (by decide +kernel)) ggX4_giveBack_X4_note
set_option maxRecDepth 20000 in
theorem ggX4_giveBack_X4_open : GoodIn wsX4_giveBack wsX4_open := goodIn_r _ [19, 13, 6, 5, 31, 32, 33, 34, 35, 36, 37, 38, 39, 40, 41, 42, 43, 44, 45, 46, 47, 48, 49, 50, 51, 52, 53, 54, 55, 56, 57, 58] (by decide +kernel) (by decide +kernel)
set_option maxRecDepth 20000 in
theorem gX4_giveBack_X4_open : GoodIn wsX4_giveBack (wsV RX4 88 RX4 yX4_open wsX4_open) := goodIn_app (goodIn_of _ (by decide +kernel)) ggX4_giveBack_X4_open
set_option maxRecDepth 20000 in
theorem ggX4_giveBack_X4_makeDirty : GoodIn wsX4_giveBack wsX4_makeDirty := goodIn_r _ [23, 24, 31, 32, 33, 34, 35, 36, 37, 38, 39, 40, 41, 42, 43, 44, 45, 46, 47, 48, 49, 50, 51, 52, 53, 54, 55, 56, 57, 58] (by decide +kernel) (by decide +kernel)
set_option maxRecDepth 20000 in
theorem gX4_giveBack_X4_makeDirty : GoodIn wsX4_giveBack (wsV RX4 92 RX4 yX4_makeDirty wsX4_makeDirty) := goodIn_app (goodIn_of _ (by decide +kernel)) ggX4_giveBack_X4_makeDirty
set_option maxRecDepth 20000 in
theorem ggX4_giveBack_X4_apply : GoodIn wsX4_giveBack wsX4_apply := goodIn_r _ [28, 2, 29, 3, 4, 30, 31, 32, 33, 34, 35, 36, 37, 38, 39, 40, 41, 42, 43, 44, 45, 46, 47, 48, 49, 50, 51, 52, 53, 54, 55, 56, 57, 58] (by decide +kernel) (by decide +kernel)
set_option maxRecDepth 20000 in
theorem gX4_giveBack_X4_apply : GoodIn wsX4_giveBack (wsV RX4 96 RX4 yX4_apply wsX4_apply) := goodIn_app (goodIn_of _ (by decide +kernel)) ggX4_giveBack_X4_apply
theorem dX4_giveBack_0 : decode cX4_giveBack 0 = .ok (.aload_n 0, 1) := by decide +kernel
theorem dX4_giveBack_1 : decode cX4_giveBack 1 = .ok (.getfield 64, 3) := by decide +kernel
theorem dX4_giveBack_4 : decode cX4_giveBack 4 = .ok (.iload_n 1, 1) := by decide +kernel
theorem dX4_giveBack_5 : decode cX4_giveBack 5 = .ok (.iaload, 1) := by decide +kernel
theorem dX4_giveBack_6 : decode cX4_giveBack 6 = .ok (.istore_n 2, 1) := by decide +kernel
theorem dX4_giveBack_7 : decode cX4_giveBack 7 = .ok (.aload_n 0, 1) := by decide +kernel
theorem dX4_giveBack_8 : decode cX4_giveBack 8 = .ok (.iconst 2, 1) := by decide +kernel
theorem dX4_giveBack_9 : decode cX4_giveBack 9 = .ok (.iload_n 1, 1) := by decide +kernel
theorem dX4_giveBack_10 : decode cX4_giveBack 10 = .ok (.invokevirtual 84, 3) := by decide +kernel
theorem dX4_giveBack_13 : decode cX4_giveBack 13 = .ok (.istore_n 3, 1) := by decide +kernel
theorem dX4_giveBack_14 : decode cX4_giveBack 14 = .ok (.aload_n 0, 1) := by decide +kernel
theorem dX4_giveBack_15 : decode cX4_giveBack 15 = .ok (.getfield 19, 3) := by decide +kernel
theorem dX4_giveBack_18 : decode cX4_giveBack 18 = .ok (.iload_n 3, 1) := by decide +kernel
theorem dX4_giveBack_19 : decode cX4_giveBack 19 = .ok (.aload_n 0, 1) := by decide +kernel
theorem dX4_giveBack_20 : decode cX4_giveBack 20 = .ok (.getfield 19, 3) := by decide +kernel
theorem dX4_giveBack_23 : decode cX4_giveBack 23 = .ok (.iload_n 2, 1) := by decide +kernel
theorem dX4_giveBack_24 : decode cX4_giveBack 24 = .ok (.iaload, 1) := by decide +kernel
theorem dX4_giveBack_25 : decode cX4_giveBack 25 = .ok (.iastore, 1) := by decide +kernel
theorem dX4_giveBack_26 : decode cX4_giveBack 26 = .ok (.aload_n 0, 1) := by decide +kernel
theorem dX4_giveBack_27 : decode cX4_giveBack 27 = .ok (.getfield 22, 3) := by decide +kernel
theorem dX4_giveBack_30 : decode cX4_giveBack 30 = .ok (.iload_n 3, 1) := by decide +kernel
theorem dX4_giveBack_31 : decode cX4_giveBack 31 = .ok (.aload_n 0, 1) := by decide +kernel
theorem dX4_giveBack_32 : decode cX4_giveBack 32 = .ok (.getfield 22, 3) := by decide +kernel
theorem dX4_giveBack_35 : decode cX4_giveBack 35 = .ok (.iload_n 2, 1) := by decide +kernel
theorem dX4_giveBack_36 : decode cX4_giveBack 36 = .ok (.iaload, 1) := by decide +kernel
theorem dX4_giveBack_37 : decode cX4_giveBack 37 = .ok (.iastore, 1) := by decide +kernel
theorem dX4_giveBack_38 : decode cX4_giveBack 38 = .ok (.aload_n 0, 1) := by decide +kernel
theorem dX4_giveBack_39 : decode cX4_giveBack 39 = .ok (.getfield 25, 3) := by decide +kernel
theorem dX4_giveBack_42 : decode cX4_giveBack 42 = .ok (.iload_n 3, 1) := by decide +kernel
theorem dX4_giveBack_43 : decode cX4_giveBack 43 = .ok (.aload_n 0, 1) := by decide +kernel
theorem dX4_giveBack_44 : decode cX4_giveBack 44 = .ok (.getfield 25, 3) := by decide +kernel
theorem dX4_giveBack_47 : decode cX4_giveBack 47 = .ok (.iload_n 2, 1) := by decide +kernel
theorem dX4_giveBack_48 : decode cX4_giveBack 48 = .ok (.iaload, 1) := by decide +kernel
theorem dX4_giveBack_49 : decode cX4_giveBack 49 = .ok (.ineg, 1) := by decide +kernel
theorem dX4_giveBack_50 : decode cX4_giveBack 50 = .ok (.iastore, 1) := by decide +kernel
theorem dX4_giveBack_51 : decode cX4_giveBack 51 = .ok (.aload_n 0, 1) := by decide +kernel
theorem dX4_giveBack_52 : decode cX4_giveBack 52 = .ok (.getfield 28, 3) := by decide +kernel
theorem dX4_giveBack_55 : decode cX4_giveBack 55 = .ok (.iload_n 3, 1) := by decide +kernel
theorem dX4_giveBack_56 : decode cX4_giveBack 56 = .ok (.aload_n 0, 1) := by decide +kernel
theorem dX4_giveBack_57 : decode cX4_giveBack 57 = .ok (.aload_n 0, 1) := by decide +kernel
theorem dX4_giveBack_58 : decode cX4_giveBack 58 = .ok (.getfield 16, 3) := by decide +kernel
theorem dX4_giveBack_61 : decode cX4_giveBack 61 = .ok (.iload_n 2, 1) := by decide +kernel
theorem dX4_giveBack_62 : decode cX4_giveBack 62 = .ok (.iaload, 1) := by decide +kernel
theorem dX4_giveBack_63 : decode cX4_giveBack 63 = .ok (.invokevirtual 88, 3) := by decide +kernel
theorem dX4_giveBack_66 : decode cX4_giveBack 66 = .ok (.iastore, 1) := by decide +kernel
theorem dX4_giveBack_67 : decode cX4_giveBack 67 = .ok (.aload_n 0, 1) := by decide +kernel
theorem dX4_giveBack_68 : decode cX4_giveBack 68 = .ok (.getfield 64, 3) := by decide +kernel
theorem dX4_giveBack_71 : decode cX4_giveBack 71 = .ok (.iload_n 1, 1) := by decide +kernel
theorem dX4_giveBack_72 : decode cX4_giveBack 72 = .ok (.aload_n 0, 1) := by decide +kernel
theorem dX4_giveBack_73 : decode cX4_giveBack 73 = .ok (.getfield 28, 3) := by decide +kernel
theorem dX4_giveBack_76 : decode cX4_giveBack 76 = .ok (.iload_n 3, 1) := by decide +kernel
theorem dX4_giveBack_77 : decode cX4_giveBack 77 = .ok (.iaload, 1) := by decide +kernel
theorem dX4_giveBack_78 : decode cX4_giveBack 78 = .ok (.iastore, 1) := by decide +kernel
theorem dX4_giveBack_79 : decode cX4_giveBack 79 = .ok (.aload_n 0, 1) := by decide +kernel
theorem dX4_giveBack_80 : decode cX4_giveBack 80 = .ok (.aload_n 0, 1) := by decide +kernel
theorem dX4_giveBack_81 : decode cX4_giveBack 81 = .ok (.getfield 19, 3) := by decide +kernel
theorem dX4_giveBack_84 : decode cX4_giveBack 84 = .ok (.iload_n 3, 1) := by decide +kernel
theorem dX4_giveBack_85 : decode cX4_giveBack 85 = .ok (.iaload, 1) := by decide +kernel
theorem dX4_giveBack_86 : decode cX4_giveBack 86 = .ok (.iload_n 3, 1) := by decide +kernel
theorem dX4_giveBack_87 : decode cX4_giveBack 87 = .ok (.invokevirtual 92, 3) := by decide +kernel
theorem dX4_giveBack_90 : decode cX4_giveBack 90 = .ok (.aload_n 0, 1) := by decide +kernel
theorem dX4_giveBack_91 : decode cX4_giveBack 91 = .ok (.iload_n 3, 1) := by decide +kernel
theorem dX4_giveBack_92 : decode cX4_giveBack 92 = .ok (.invokevirtual 96, 3) := by decide +kernel
theorem dX4_giveBack_95 : decode cX4_giveBack 95 = .ok (.return_, 1) := by decide +kernel
set_option maxRecDepth 20000 in
theorem ggX4_undoTo_X4_giveBack : GoodIn wsX4_undoTo wsX4_giveBack := goodIn_r _ [6, 1, 7, 8, 9, 10, 11, 12, 13, 14, 5, 15, 16, 17, 18, 19, 20, 21, 22, 23, 24, 25, 26, 27, 28, 29, 30, 31, 32, 33, 34, 35, 36, 37, 38, 39, 40, 41, 42, 43, 44, 45, 46, 47, 48, 49, 50, 51, 52, 53, 54, 55, 56, 57, 58, 59, 60, 61, 62] (by decide +kernel) (by decide +kernel)
set_option maxRecDepth 20000 in
theorem gX4_undoTo_X4_giveBack : GoodIn wsX4_undoTo (wsV RX4 100 RX4 yX4_giveBack wsX4_giveBack) := goodIn_app (goodIn_of _ (by decide +kernel)) ggX4_undoTo_X4_giveBack
theorem dX4_undoTo_0 : decode cX4_undoTo 0 = .ok (.iconst 0, 1) := by decide +kernel
theorem dX4_undoTo_1 : decode cX4_undoTo 1 = .ok (.istore_n 3, 1) := by decide +kernel
theorem dX4_undoTo_2 : decode cX4_undoTo 2 = .ok (.aload_n 0, 1) := by decide +kernel
theorem dX4_undoTo_3 : decode cX4_undoTo 3 = .ok (.getfield 64, 3) := by decide +kernel
theorem dX4_undoTo_6 : decode cX4_undoTo 6 = .ok (.iload_n 1, 1) := by decide +kernel
theorem dX4_undoTo_7 : decode cX4_undoTo 7 = .ok (.iaload, 1) := by decide +kernel
theorem dX4_undoTo_8 : decode cX4_undoTo 8 = .ok (.iload_n 2, 1) := by decide +kernel
theorem dX4_undoTo_9 : decode cX4_undoTo 9 = .ok (.if_icmp .le 14, 3) := by decide +kernel
theorem dX4_undoTo_12 : decode cX4_undoTo 12 = .ok (.aload_n 0, 1) := by decide +kernel
theorem dX4_undoTo_13 : decode cX4_undoTo 13 = .ok (.iload_n 1, 1) := by decide +kernel
theorem dX4_undoTo_14 : decode cX4_undoTo 14 = .ok (.invokevirtual 100, 3) := by decide +kernel
theorem dX4_undoTo_17 : decode cX4_undoTo 17 = .ok (.iinc 3 1, 3) := by decide +kernel
theorem dX4_undoTo_20 : decode cX4_undoTo 20 = .ok (.goto (-18), 3) := by decide +kernel
theorem dX4_undoTo_23 : decode cX4_undoTo 23 = .ok (.iload_n 3, 1) := by decide +kernel
theorem dX4_undoTo_24 : decode cX4_undoTo 24 = .ok (.ireturn, 1) := by decide +kernel
set_option maxRecDepth 20000 in
theorem ggX4_end_X4_note : GoodIn wsX4_end wsX4_note := goodIn_r _ [6, 7, 8, 9, 10, 11, 12, 13, 14, 15, 16, 17, 18, 19, 20, 21, 22, 23, 24, 25, 26, 27, 28, 29, 30, 31, 32, 33, 34, 35, 36, 37, 38, 39, 40, 41, 42, 43] (by decide +kernel) (by decide +kernel)
set_option maxRecDepth 20000 in
theorem gX4_end_X4_note : GoodIn wsX4_end (wsV RX4 84 RX4 yX4_note wsX4_note) := goodIn_app (goodIn_of _ (by decide +kernel)) ggX4_end_X4_note
theorem dX4_end_0 : decode cX4_end 0 = .ok (.aload_n 0, 1) := by decide +kernel
theorem dX4_end_1 : decode cX4_end 1 = .ok (.iconst 5, 1) := by decide +kernel
theorem dX4_end_2 : decode cX4_end 2 = .ok (.iload_n 1, 1) := by decide +kernel
theorem dX4_end_3 : decode cX4_end 3 = .ok (.invokevirtual 84, 3) := by decide +kernel
theorem dX4_end_6 : decode cX4_end 6 = .ok (.istore_n 2, 1) := by decide +kernel
theorem dX4_end_7 : decode cX4_end 7 = .ok (.aload_n 0, 1) := by decide +kernel
theorem dX4_end_8 : decode cX4_end 8 = .ok (.getfield 58, 3) := by decide +kernel
theorem dX4_end_11 : decode cX4_end 11 = .ok (.iload_n 1, 1) := by decide +kernel
theorem dX4_end_12 : decode cX4_end 12 = .ok (.iconst 0, 1) := by decide +kernel
theorem dX4_end_13 : decode cX4_end 13 = .ok (.iastore, 1) := by decide +kernel
theorem dX4_end_14 : decode cX4_end 14 = .ok (.return_, 1) := by decide +kernel
set_option maxRecDepth 20000 in
theorem ggX4_begin_X4_many : GoodIn wsX4_begin wsX4_many := goodIn_r _ [10, 2, 3, 11, 12, 13, 14, 15, 16, 17, 18, 19, 20, 21, 22, 23, 24, 25, 26, 27, 28, 29, 30, 31, 32, 33, 34, 35, 36, 37, 38] (by decide +kernel) (by decide +kernel)
set_option maxRecDepth 20000 in
theorem gX4_begin_X4_many : GoodIn wsX4_begin (wsV RX4 106 RX4 yX4_many wsX4_many) := goodIn_app (goodIn_of _ (by decide +kernel)) ggX4_begin_X4_many
theorem dX4_begin_0 : decode cX4_begin 0 = .ok (.aload_n 0, 1) := by decide +kernel
theorem dX4_begin_1 : decode cX4_begin 1 = .ok (.getfield 103, 3) := by decide +kernel
theorem dX4_begin_4 : decode cX4_begin 4 = .ok (.ifCond .le 6, 3) := by decide +kernel
theorem dX4_begin_7 : decode cX4_begin 7 = .ok (.bipush (-105), 2) := by decide +kernel
theorem dX4_begin_9 : decode cX4_begin 9 = .ok (.ireturn, 1) := by decide +kernel
theorem dX4_begin_10 : decode cX4_begin 10 = .ok (.aload_n 0, 1) := by decide +kernel
theorem dX4_begin_11 : decode cX4_begin 11 = .ok (.getfield 70, 3) := by decide +kernel
theorem dX4_begin_14 : decode cX4_begin 14 = .ok (.sipush 200, 3) := by decide +kernel
theorem dX4_begin_17 : decode cX4_begin 17 = .ok (.if_icmp .eq 12, 3) := by decide +kernel
theorem dX4_begin_20 : decode cX4_begin 20 = .ok (.aload_n 0, 1) := by decide +kernel
theorem dX4_begin_21 : decode cX4_begin 21 = .ok (.invokevirtual 106, 3) := by decide +kernel
theorem dX4_begin_24 : decode cX4_begin 24 = .ok (.bipush 16, 2) := by decide +kernel
theorem dX4_begin_26 : decode cX4_begin 26 = .ok (.if_icmp .ne 6, 3) := by decide +kernel
theorem dX4_begin_29 : decode cX4_begin 29 = .ok (.bipush (-104), 2) := by decide +kernel
theorem dX4_begin_31 : decode cX4_begin 31 = .ok (.ireturn, 1) := by decide +kernel
theorem dX4_begin_32 : decode cX4_begin 32 = .ok (.aload_n 0, 1) := by decide +kernel
theorem dX4_begin_33 : decode cX4_begin 33 = .ok (.dup, 1) := by decide +kernel
theorem dX4_begin_34 : decode cX4_begin 34 = .ok (.getfield 70, 3) := by decide +kernel
theorem dX4_begin_37 : decode cX4_begin 37 = .ok (.iconst 1, 1) := by decide +kernel
theorem dX4_begin_38 : decode cX4_begin 38 = .ok (.iadd, 1) := by decide +kernel
theorem dX4_begin_39 : decode cX4_begin 39 = .ok (.putfield 70, 3) := by decide +kernel
theorem dX4_begin_42 : decode cX4_begin 42 = .ok (.aload_n 0, 1) := by decide +kernel
theorem dX4_begin_43 : decode cX4_begin 43 = .ok (.getfield 58, 3) := by decide +kernel
theorem dX4_begin_46 : decode cX4_begin 46 = .ok (.aload_n 0, 1) := by decide +kernel
theorem dX4_begin_47 : decode cX4_begin 47 = .ok (.getfield 70, 3) := by decide +kernel
theorem dX4_begin_50 : decode cX4_begin 50 = .ok (.iconst 1, 1) := by decide +kernel
theorem dX4_begin_51 : decode cX4_begin 51 = .ok (.iastore, 1) := by decide +kernel
theorem dX4_begin_52 : decode cX4_begin 52 = .ok (.aload_n 0, 1) := by decide +kernel
theorem dX4_begin_53 : decode cX4_begin 53 = .ok (.getfield 61, 3) := by decide +kernel
theorem dX4_begin_56 : decode cX4_begin 56 = .ok (.aload_n 0, 1) := by decide +kernel
theorem dX4_begin_57 : decode cX4_begin 57 = .ok (.getfield 70, 3) := by decide +kernel
theorem dX4_begin_60 : decode cX4_begin 60 = .ok (.iconst 0, 1) := by decide +kernel
theorem dX4_begin_61 : decode cX4_begin 61 = .ok (.iastore, 1) := by decide +kernel
theorem dX4_begin_62 : decode cX4_begin 62 = .ok (.aload_n 0, 1) := by decide +kernel
theorem dX4_begin_63 : decode cX4_begin 63 = .ok (.getfield 64, 3) := by decide +kernel
theorem dX4_begin_66 : decode cX4_begin 66 = .ok (.aload_n 0, 1) := by decide +kernel
theorem dX4_begin_67 : decode cX4_begin 67 = .ok (.getfield 70, 3) := by decide +kernel
theorem dX4_begin_70 : decode cX4_begin 70 = .ok (.iconst 0, 1) := by decide +kernel
theorem dX4_begin_71 : decode cX4_begin 71 = .ok (.iastore, 1) := by decide +kernel
theorem dX4_begin_72 : decode cX4_begin 72 = .ok (.aload_n 0, 1) := by decide +kernel
theorem dX4_begin_73 : decode cX4_begin 73 = .ok (.getfield 70, 3) := by decide +kernel
theorem dX4_begin_76 : decode cX4_begin 76 = .ok (.ireturn, 1) := by decide +kernel
set_option maxRecDepth 20000 in
theorem ggX4_add_X4_isWork : GoodIn wsX4_add wsX4_isWork := goodIn_r _ [12, 13, 2, 14, 15, 11, 16, 38, 39, 40, 41, 42, 43, 44, 45, 46, 47, 48, 49, 50, 51, 52, 53, 54, 55, 56, 57, 58, 59, 60, 61, 62, 63, 64, 65] (by decide +kernel) (by decide +kernel)
set_option maxRecDepth 20000 in
theorem gX4_add_X4_isWork : GoodIn wsX4_add (wsV RX4 110 RX4 yX4_isWork wsX4_isWork) := goodIn_app (goodIn_of _ (by decide +kernel)) ggX4_add_X4_isWork
set_option maxRecDepth 20000 in
theorem ggX4_add_X4_in : GoodIn wsX4_add wsX4_in := goodIn_r _ [16] (by decide +kernel) (by decide +kernel)
set_option maxRecDepth 20000 in
theorem gX4_add_X4_in : GoodIn wsX4_add (va_wsS RX4 74 yX4_in wsX4_in) := goodIn_app (goodIn_of _ (by decide +kernel)) ggX4_add_X4_in
set_option maxRecDepth 20000 in
theorem ggX4_add_X4_note : GoodIn wsX4_add wsX4_note := goodIn_r _ [20, 21, 22, 23, 24, 25, 4, 5, 6, 26, 38, 39, 40, 41, 42, 43, 44, 45, 46, 47, 48, 49, 50, 51, 52, 53, 54, 55, 56, 57, 58, 59, 60, 61, 62, 63, 64, 65] (by decide +kernel) (by decide +kernel)
set_option maxRecDepth 20000 in
theorem gX4_add_X4_note : GoodIn wsX4_add (wsV RX4 84 RX4 yX4_note wsX4_note) := goodIn_app (goodIn_of _ (by decide +kernel)) ggX4_add_X4_note
set_option maxRecDepth 20000 in
theorem ggX4_add_X4_makeDirty : GoodIn wsX4_add wsX4_makeDirty := goodIn_r _ [30, 31, 38, 39, 40, 41, 42, 43, 44, 45, 46, 47, 48, 49, 50, 51, 52, 53, 54, 55, 56, 57, 58, 59, 60, 61, 62, 63, 64, 65] (by decide +kernel) (by decide +kernel)
set_option maxRecDepth 20000 in
theorem gX4_add_X4_makeDirty : GoodIn wsX4_add (wsV RX4 92 RX4 yX4_makeDirty wsX4_makeDirty) := goodIn_app (goodIn_of _ (by decide +kernel)) ggX4_add_X4_makeDirty
set_option maxRecDepth 20000 in
theorem ggX4_add_X4_apply : GoodIn wsX4_add wsX4_apply := goodIn_r _ [35, 4, 36, 5, 6, 37, 38, 39, 40, 41, 42, 43, 44, 45, 46, 47, 48, 49, 50, 51, 52, 53, 54, 55, 56, 57, 58, 59, 60, 61, 62, 63, 64, 65] (by decide +kernel) (by decide +kernel)
set_option maxRecDepth 20000 in
theorem gX4_add_X4_apply : GoodIn wsX4_add (wsV RX4 96 RX4 yX4_apply wsX4_apply) := goodIn_app (goodIn_of _ (by decide +kernel)) ggX4_add_X4_apply
theorem dX4_add_0 : decode cX4_add 0 = .ok (.aload_n 0, 1) := by decide +kernel
theorem dX4_add_1 : decode cX4_add 1 = .ok (.getfield 103, 3) := by decide +kernel
theorem dX4_add_4 : decode cX4_add 4 = .ok (.ifCond .le 6, 3) := by decide +kernel
theorem dX4_add_7 : decode cX4_add 7 = .ok (.bipush (-105), 2) := by decide +kernel
theorem dX4_add_9 : decode cX4_add 9 = .ok (.ireturn, 1) := by decide +kernel
theorem dX4_add_10 : decode cX4_add 10 = .ok (.aload_n 0, 1) := by decide +kernel
theorem dX4_add_11 : decode cX4_add 11 = .ok (.iload_n 1, 1) := by decide +kernel
theorem dX4_add_12 : decode cX4_add 12 = .ok (.invokevirtual 110, 3) := by decide +kernel
theorem dX4_add_15 : decode cX4_add 15 = .ok (.ifCond .ne 6, 3) := by decide +kernel
theorem dX4_add_18 : decode cX4_add 18 = .ok (.bipush (-101), 2) := by decide +kernel
theorem dX4_add_20 : decode cX4_add 20 = .ok (.ireturn, 1) := by decide +kernel
theorem dX4_add_21 : decode cX4_add 21 = .ok (.iload_n 2, 1) := by decide +kernel
theorem dX4_add_22 : decode cX4_add 22 = .ok (.iconst 0, 1) := by decide +kernel
theorem dX4_add_23 : decode cX4_add 23 = .ok (.bipush 63, 2) := by decide +kernel
theorem dX4_add_25 : decode cX4_add 25 = .ok (.invokestatic 74, 3) := by decide +kernel
theorem dX4_add_28 : decode cX4_add 28 = .ok (.ifCond .eq 13, 3) := by decide +kernel
theorem dX4_add_31 : decode cX4_add 31 = .ok (.iload_n 3, 1) := by decide +kernel
theorem dX4_add_32 : decode cX4_add 32 = .ok (.iconst 0, 1) := by decide +kernel
theorem dX4_add_33 : decode cX4_add 33 = .ok (.bipush 7, 2) := by decide +kernel
theorem dX4_add_35 : decode cX4_add 35 = .ok (.invokestatic 74, 3) := by decide +kernel
theorem dX4_add_38 : decode cX4_add 38 = .ok (.ifCond .ne 6, 3) := by decide +kernel
theorem dX4_add_41 : decode cX4_add 41 = .ok (.bipush (-102), 2) := by decide +kernel
theorem dX4_add_43 : decode cX4_add 43 = .ok (.ireturn, 1) := by decide +kernel
theorem dX4_add_44 : decode cX4_add 44 = .ok (.aload_n 0, 1) := by decide +kernel
theorem dX4_add_45 : decode cX4_add 45 = .ok (.getfield 58, 3) := by decide +kernel
theorem dX4_add_48 : decode cX4_add 48 = .ok (.iload_n 1, 1) := by decide +kernel
theorem dX4_add_49 : decode cX4_add 49 = .ok (.iaload, 1) := by decide +kernel
theorem dX4_add_50 : decode cX4_add 50 = .ok (.iconst 1, 1) := by decide +kernel
theorem dX4_add_51 : decode cX4_add 51 = .ok (.if_icmp .eq 6, 3) := by decide +kernel
theorem dX4_add_54 : decode cX4_add 54 = .ok (.bipush (-103), 2) := by decide +kernel
theorem dX4_add_56 : decode cX4_add 56 = .ok (.ireturn, 1) := by decide +kernel
theorem dX4_add_57 : decode cX4_add 57 = .ok (.aload_n 0, 1) := by decide +kernel
theorem dX4_add_58 : decode cX4_add 58 = .ok (.getfield 114, 3) := by decide +kernel
theorem dX4_add_61 : decode cX4_add 61 = .ok (.sipush 2000, 3) := by decide +kernel
theorem dX4_add_64 : decode cX4_add 64 = .ok (.if_icmp .ne 6, 3) := by decide +kernel
theorem dX4_add_67 : decode cX4_add 67 = .ok (.bipush (-104), 2) := by decide +kernel
theorem dX4_add_69 : decode cX4_add 69 = .ok (.ireturn, 1) := by decide +kernel
theorem dX4_add_70 : decode cX4_add 70 = .ok (.aload_n 0, 1) := by decide +kernel
theorem dX4_add_71 : decode cX4_add 71 = .ok (.iconst 1, 1) := by decide +kernel
theorem dX4_add_72 : decode cX4_add 72 = .ok (.iload_n 1, 1) := by decide +kernel
theorem dX4_add_73 : decode cX4_add 73 = .ok (.invokevirtual 84, 3) := by decide +kernel
theorem dX4_add_76 : decode cX4_add 76 = .ok (.istore 5, 2) := by decide +kernel
theorem dX4_add_78 : decode cX4_add 78 = .ok (.aload_n 0, 1) := by decide +kernel
theorem dX4_add_79 : decode cX4_add 79 = .ok (.dup, 1) := by decide +kernel
theorem dX4_add_80 : decode cX4_add 80 = .ok (.getfield 114, 3) := by decide +kernel
theorem dX4_add_83 : decode cX4_add 83 = .ok (.iconst 1, 1) := by decide +kernel
theorem dX4_add_84 : decode cX4_add 84 = .ok (.iadd, 1) := by decide +kernel
theorem dX4_add_85 : decode cX4_add 85 = .ok (.putfield 114, 3) := by decide +kernel
theorem dX4_add_88 : decode cX4_add 88 = .ok (.aload_n 0, 1) := by decide +kernel
theorem dX4_add_89 : decode cX4_add 89 = .ok (.getfield 19, 3) := by decide +kernel
theorem dX4_add_92 : decode cX4_add 92 = .ok (.iload 5, 2) := by decide +kernel
theorem dX4_add_94 : decode cX4_add 94 = .ok (.iload_n 2, 1) := by decide +kernel
theorem dX4_add_95 : decode cX4_add 95 = .ok (.iastore, 1) := by decide +kernel
theorem dX4_add_96 : decode cX4_add 96 = .ok (.aload_n 0, 1) := by decide +kernel
theorem dX4_add_97 : decode cX4_add 97 = .ok (.getfield 22, 3) := by decide +kernel
theorem dX4_add_100 : decode cX4_add 100 = .ok (.iload 5, 2) := by decide +kernel
theorem dX4_add_102 : decode cX4_add 102 = .ok (.iload_n 3, 1) := by decide +kernel
theorem dX4_add_103 : decode cX4_add 103 = .ok (.iastore, 1) := by decide +kernel
theorem dX4_add_104 : decode cX4_add 104 = .ok (.aload_n 0, 1) := by decide +kernel
theorem dX4_add_105 : decode cX4_add 105 = .ok (.getfield 25, 3) := by decide +kernel
theorem dX4_add_108 : decode cX4_add 108 = .ok (.iload 5, 2) := by decide +kernel
theorem dX4_add_110 : decode cX4_add 110 = .ok (.iload 4, 2) := by decide +kernel
theorem dX4_add_112 : decode cX4_add 112 = .ok (.iastore, 1) := by decide +kernel
theorem dX4_add_113 : decode cX4_add 113 = .ok (.aload_n 0, 1) := by decide +kernel
theorem dX4_add_114 : decode cX4_add 114 = .ok (.getfield 64, 3) := by decide +kernel
theorem dX4_add_117 : decode cX4_add 117 = .ok (.iload_n 1, 1) := by decide +kernel
theorem dX4_add_118 : decode cX4_add 118 = .ok (.iload 5, 2) := by decide +kernel
theorem dX4_add_120 : decode cX4_add 120 = .ok (.iastore, 1) := by decide +kernel
theorem dX4_add_121 : decode cX4_add 121 = .ok (.aload_n 0, 1) := by decide +kernel
theorem dX4_add_122 : decode cX4_add 122 = .ok (.iload_n 2, 1) := by decide +kernel
theorem dX4_add_123 : decode cX4_add 123 = .ok (.iload 5, 2) := by decide +kernel
theorem dX4_add_125 : decode cX4_add 125 = .ok (.invokevirtual 92, 3) := by decide +kernel
theorem dX4_add_128 : decode cX4_add 128 = .ok (.aload_n 0, 1) := by decide +kernel
theorem dX4_add_129 : decode cX4_add 129 = .ok (.iload 5, 2) := by decide +kernel
theorem dX4_add_131 : decode cX4_add 131 = .ok (.invokevirtual 96, 3) := by decide +kernel
theorem dX4_add_134 : decode cX4_add 134 = .ok (.iload 5, 2) := by decide +kernel
theorem dX4_add_136 : decode cX4_add 136 = .ok (.ireturn, 1) := by decide +kernel
set_option maxRecDepth 20000 in
theorem ggX4_back_X4_isWork : GoodIn wsX4_back wsX4_isWork := goodIn_r _ [8, 9, 3, 10, 11, 7, 12, 49, 50, 51, 52, 53, 54, 55, 56, 57, 58, 59, 60, 61, 62, 63, 64, 65, 66, 67, 68, 69, 70, 71, 72, 73, 74, 75, 76] (by decide +kernel) (by decide +kernel)
set_option maxRecDepth 20000 in
theorem gX4_back_X4_isWork : GoodIn wsX4_back (wsV RX4 110 RX4 yX4_isWork wsX4_isWork) := goodIn_app (goodIn_of _ (by decide +kernel)) ggX4_back_X4_isWork
set_option maxRecDepth 20000 in
theorem ggX4_back_X4_in : GoodIn wsX4_back wsX4_in := goodIn_r _ [12] (by decide +kernel) (by decide +kernel)
set_option maxRecDepth 20000 in
theorem gX4_back_X4_in : GoodIn wsX4_back (va_wsS RX4 74 yX4_in wsX4_in) := goodIn_app (goodIn_of _ (by decide +kernel)) ggX4_back_X4_in
set_option maxRecDepth 20000 in
theorem ggX4_back_X4_undoTo : GoodIn wsX4_back wsX4_undoTo := goodIn_r _ [16, 17, 18, 19, 20, 7, 21, 22, 23, 24, 25, 26, 27, 28, 29, 30, 31, 32, 33, 2, 34, 35, 36, 37, 38, 39, 40, 41, 42, 43, 44, 45, 46, 47, 48, 49, 50, 51, 52, 53, 54, 55, 56, 57, 58, 59, 60, 61, 62, 63, 64, 65, 66, 67, 68, 69, 70, 71, 72, 73, 74, 75, 76] (by decide +kernel) (by decide +kernel)
set_option maxRecDepth 20000 in
theorem gX4_back_X4_undoTo : GoodIn wsX4_back (wsV RX4 117 RX4 yX4_undoTo wsX4_undoTo) := goodIn_app (goodIn_of _ (by decide +kernel)) ggX4_back_X4_undoTo
theorem dX4_back_0 : decode cX4_back 0 = .ok (.aload_n 0, 1) := by decide +kernel
theorem dX4_back_1 : decode cX4_back 1 = .ok (.getfield 103, 3) := by decide +kernel
theorem dX4_back_4 : decode cX4_back 4 = .ok (.ifCond .le 6, 3) := by decide +kernel
theorem dX4_back_7 : decode cX4_back 7 = .ok (.bipush (-105), 2) := by decide +kernel
theorem dX4_back_9 : decode cX4_back 9 = .ok (.ireturn, 1) := by decide +kernel
theorem dX4_back_10 : decode cX4_back 10 = .ok (.aload_n 0, 1) := by decide +kernel
theorem dX4_back_11 : decode cX4_back 11 = .ok (.iload_n 1, 1) := by decide +kernel
theorem dX4_back_12 : decode cX4_back 12 = .ok (.invokevirtual 110, 3) := by decide +kernel
theorem dX4_back_15 : decode cX4_back 15 = .ok (.ifCond .ne 6, 3) := by decide +kernel
theorem dX4_back_18 : decode cX4_back 18 = .ok (.bipush (-101), 2) := by decide +kernel
theorem dX4_back_20 : decode cX4_back 20 = .ok (.ireturn, 1) := by decide +kernel
theorem dX4_back_21 : decode cX4_back 21 = .ok (.iload_n 2, 1) := by decide +kernel
theorem dX4_back_22 : decode cX4_back 22 = .ok (.iconst 0, 1) := by decide +kernel
theorem dX4_back_23 : decode cX4_back 23 = .ok (.aload_n 0, 1) := by decide +kernel
theorem dX4_back_24 : decode cX4_back 24 = .ok (.getfield 61, 3) := by decide +kernel
theorem dX4_back_27 : decode cX4_back 27 = .ok (.iload_n 1, 1) := by decide +kernel
theorem dX4_back_28 : decode cX4_back 28 = .ok (.iaload, 1) := by decide +kernel
theorem dX4_back_29 : decode cX4_back 29 = .ok (.invokestatic 74, 3) := by decide +kernel
theorem dX4_back_32 : decode cX4_back 32 = .ok (.ifCond .ne 6, 3) := by decide +kernel
theorem dX4_back_35 : decode cX4_back 35 = .ok (.bipush (-102), 2) := by decide +kernel
theorem dX4_back_37 : decode cX4_back 37 = .ok (.ireturn, 1) := by decide +kernel
theorem dX4_back_38 : decode cX4_back 38 = .ok (.aload_n 0, 1) := by decide +kernel
theorem dX4_back_39 : decode cX4_back 39 = .ok (.getfield 58, 3) := by decide +kernel
theorem dX4_back_42 : decode cX4_back 42 = .ok (.iload_n 1, 1) := by decide +kernel
theorem dX4_back_43 : decode cX4_back 43 = .ok (.iaload, 1) := by decide +kernel
theorem dX4_back_44 : decode cX4_back 44 = .ok (.iconst 1, 1) := by decide +kernel
theorem dX4_back_45 : decode cX4_back 45 = .ok (.if_icmp .eq 8, 3) := by decide +kernel
theorem dX4_back_48 : decode cX4_back 48 = .ok (.bipush (-103), 2) := by decide +kernel
theorem dX4_back_50 : decode cX4_back 50 = .ok (.goto 9, 3) := by decide +kernel
theorem dX4_back_53 : decode cX4_back 53 = .ok (.aload_n 0, 1) := by decide +kernel
theorem dX4_back_54 : decode cX4_back 54 = .ok (.iload_n 1, 1) := by decide +kernel
theorem dX4_back_55 : decode cX4_back 55 = .ok (.iload_n 2, 1) := by decide +kernel
theorem dX4_back_56 : decode cX4_back 56 = .ok (.invokevirtual 117, 3) := by decide +kernel
theorem dX4_back_59 : decode cX4_back 59 = .ok (.ireturn, 1) := by decide +kernel
set_option maxRecDepth 20000 in
theorem ggX4_prepare_X4_isWork : GoodIn wsX4_prepare wsX4_isWork := goodIn_r _ [7, 8, 2, 9, 10, 6, 11, 30, 31, 32, 33, 34, 35, 36, 37, 38, 39, 40, 41, 42, 43, 44, 45, 46, 47, 48, 49, 50, 51, 52, 53, 54, 55, 56, 57] (by decide +kernel) (by decide +kernel)
set_option maxRecDepth 20000 in
theorem gX4_prepare_X4_isWork : GoodIn wsX4_prepare (wsV RX4 110 RX4 yX4_isWork wsX4_isWork) := goodIn_app (goodIn_of _ (by decide +kernel)) ggX4_prepare_X4_isWork
set_option maxRecDepth 20000 in
theorem ggX4_prepare_X4_note : GoodIn wsX4_prepare wsX4_note := goodIn_r _ [15, 16, 17, 18, 19, 20, 21, 22, 23, 24, 30, 31, 32, 33, 34, 35, 36, 37, 38, 39, 40, 41, 42, 43, 44, 45, 46, 47, 48, 49, 50, 51, 52, 53, 54, 55, 56, 57] (by decide +kernel) (by decide +kernel)
set_option maxRecDepth 20000 in
theorem gX4_prepare_X4_note : GoodIn wsX4_prepare (wsV RX4 84 RX4 yX4_note wsX4_note) := goodIn_app (goodIn_of _ (by decide +kernel)) ggX4_prepare_X4_note
set_option maxRecDepth 20000 in
theorem ggX4_prepare_X4_forceTo : GoodIn wsX4_prepare wsX4_forceTo := goodIn_r _ [28, 16, 29, 30, 31, 32, 33, 34, 35, 36, 37, 38, 39, 40, 41, 42, 43, 44, 45, 46, 47, 48, 49, 50, 51, 52, 53, 54, 55, 56, 57] (by decide +kernel) (by decide +kernel)
set_option maxRecDepth 20000 in
theorem gX4_prepare_X4_forceTo : GoodIn wsX4_prepare (wsV RX4 120 RX4 yX4_forceTo wsX4_forceTo) := goodIn_app (goodIn_of _ (by decide +kernel)) ggX4_prepare_X4_forceTo
theorem dX4_prepare_0 : decode cX4_prepare 0 = .ok (.aload_n 0, 1) := by decide +kernel
theorem dX4_prepare_1 : decode cX4_prepare 1 = .ok (.getfield 103, 3) := by decide +kernel
theorem dX4_prepare_4 : decode cX4_prepare 4 = .ok (.ifCond .le 6, 3) := by decide +kernel
theorem dX4_prepare_7 : decode cX4_prepare 7 = .ok (.bipush (-105), 2) := by decide +kernel
theorem dX4_prepare_9 : decode cX4_prepare 9 = .ok (.ireturn, 1) := by decide +kernel
theorem dX4_prepare_10 : decode cX4_prepare 10 = .ok (.aload_n 0, 1) := by decide +kernel
theorem dX4_prepare_11 : decode cX4_prepare 11 = .ok (.iload_n 1, 1) := by decide +kernel
theorem dX4_prepare_12 : decode cX4_prepare 12 = .ok (.invokevirtual 110, 3) := by decide +kernel
theorem dX4_prepare_15 : decode cX4_prepare 15 = .ok (.ifCond .ne 6, 3) := by decide +kernel
theorem dX4_prepare_18 : decode cX4_prepare 18 = .ok (.bipush (-101), 2) := by decide +kernel
theorem dX4_prepare_20 : decode cX4_prepare 20 = .ok (.ireturn, 1) := by decide +kernel
theorem dX4_prepare_21 : decode cX4_prepare 21 = .ok (.aload_n 0, 1) := by decide +kernel
theorem dX4_prepare_22 : decode cX4_prepare 22 = .ok (.getfield 58, 3) := by decide +kernel
theorem dX4_prepare_25 : decode cX4_prepare 25 = .ok (.iload_n 1, 1) := by decide +kernel
theorem dX4_prepare_26 : decode cX4_prepare 26 = .ok (.iaload, 1) := by decide +kernel
theorem dX4_prepare_27 : decode cX4_prepare 27 = .ok (.iconst 1, 1) := by decide +kernel
theorem dX4_prepare_28 : decode cX4_prepare 28 = .ok (.if_icmp .eq 6, 3) := by decide +kernel
theorem dX4_prepare_31 : decode cX4_prepare 31 = .ok (.bipush (-103), 2) := by decide +kernel
theorem dX4_prepare_33 : decode cX4_prepare 33 = .ok (.ireturn, 1) := by decide +kernel
theorem dX4_prepare_34 : decode cX4_prepare 34 = .ok (.aload_n 0, 1) := by decide +kernel
theorem dX4_prepare_35 : decode cX4_prepare 35 = .ok (.getfield 58, 3) := by decide +kernel
theorem dX4_prepare_38 : decode cX4_prepare 38 = .ok (.iload_n 1, 1) := by decide +kernel
theorem dX4_prepare_39 : decode cX4_prepare 39 = .ok (.iconst 3, 1) := by decide +kernel
theorem dX4_prepare_40 : decode cX4_prepare 40 = .ok (.iastore, 1) := by decide +kernel
theorem dX4_prepare_41 : decode cX4_prepare 41 = .ok (.aload_n 0, 1) := by decide +kernel
theorem dX4_prepare_42 : decode cX4_prepare 42 = .ok (.bipush 6, 2) := by decide +kernel
theorem dX4_prepare_44 : decode cX4_prepare 44 = .ok (.iload_n 1, 1) := by decide +kernel
theorem dX4_prepare_45 : decode cX4_prepare 45 = .ok (.invokevirtual 84, 3) := by decide +kernel
theorem dX4_prepare_48 : decode cX4_prepare 48 = .ok (.istore_n 2, 1) := by decide +kernel
theorem dX4_prepare_49 : decode cX4_prepare 49 = .ok (.aload_n 0, 1) := by decide +kernel
theorem dX4_prepare_50 : decode cX4_prepare 50 = .ok (.iload_n 2, 1) := by decide +kernel
theorem dX4_prepare_51 : decode cX4_prepare 51 = .ok (.invokevirtual 120, 3) := by decide +kernel
theorem dX4_prepare_54 : decode cX4_prepare 54 = .ok (.iload_n 2, 1) := by decide +kernel
theorem dX4_prepare_55 : decode cX4_prepare 55 = .ok (.ireturn, 1) := by decide +kernel
set_option maxRecDepth 20000 in
theorem ggX4_commit_X4_isWork : GoodIn wsX4_commit wsX4_isWork := goodIn_r _ [6, 7, 8, 9, 10, 5, 11, 34, 35, 36, 37, 38, 39, 40, 41, 42, 43, 44, 45, 46, 47, 48, 49, 50, 51, 52, 53, 54, 55, 56, 57, 58, 59, 60, 61] (by decide +kernel) (by decide +kernel)
set_option maxRecDepth 20000 in
theorem gX4_commit_X4_isWork : GoodIn wsX4_commit (wsV RX4 110 RX4 yX4_isWork wsX4_isWork) := goodIn_app (goodIn_of _ (by decide +kernel)) ggX4_commit_X4_isWork
set_option maxRecDepth 20000 in
theorem ggX4_commit_X4_note : GoodIn wsX4_commit wsX4_note := goodIn_r _ [15, 16, 17, 18, 19, 20, 21, 22, 23, 24, 34, 35, 36, 37, 38, 39, 40, 41, 42, 43, 44, 45, 46, 47, 48, 49, 50, 51, 52, 53, 54, 55, 56, 57, 58, 59, 60, 61] (by decide +kernel) (by decide +kernel)
set_option maxRecDepth 20000 in
theorem gX4_commit_X4_note : GoodIn wsX4_commit (wsV RX4 84 RX4 yX4_note wsX4_note) := goodIn_app (goodIn_of _ (by decide +kernel)) ggX4_commit_X4_note
set_option maxRecDepth 20000 in
theorem ggX4_commit_X4_forceTo : GoodIn wsX4_commit wsX4_forceTo := goodIn_r _ [28, 16, 29, 34, 35, 36, 37, 38, 39, 40, 41, 42, 43, 44, 45, 46, 47, 48, 49, 50, 51, 52, 53, 54, 55, 56, 57, 58, 59, 60, 61] (by decide +kernel) (by decide +kernel)
set_option maxRecDepth 20000 in
theorem gX4_commit_X4_forceTo : GoodIn wsX4_commit (wsV RX4 120 RX4 yX4_forceTo wsX4_forceTo) := goodIn_app (goodIn_of _ (by decide +kernel)) ggX4_commit_X4_forceTo
set_option maxRecDepth 20000 in
theorem ggX4_commit_X4_end : GoodIn wsX4_commit wsX4_end := goodIn_r _ [33, 8, 12, 13, 14, 5, 15, 16, 17, 18, 19, 20, 21, 22, 23, 24, 34, 35, 36, 37, 38, 39, 40, 41, 42, 43, 44, 45, 46, 47, 48, 49, 50, 51, 52, 53, 54, 55, 56, 57, 58, 59, 60, 61] (by decide +kernel) (by decide +kernel)
set_option maxRecDepth 20000 in
theorem gX4_commit_X4_end : GoodIn wsX4_commit (wsV RX4 123 RX4 yX4_end wsX4_end) := goodIn_app (goodIn_of _ (by decide +kernel)) ggX4_commit_X4_end
theorem dX4_commit_0 : decode cX4_commit 0 = .ok (.aload_n 0, 1) := by decide +kernel
theorem dX4_commit_1 : decode cX4_commit 1 = .ok (.getfield 103, 3) := by decide +kernel
theorem dX4_commit_4 : decode cX4_commit 4 = .ok (.ifCond .le 6, 3) := by decide +kernel
theorem dX4_commit_7 : decode cX4_commit 7 = .ok (.bipush (-105), 2) := by decide +kernel
theorem dX4_commit_9 : decode cX4_commit 9 = .ok (.ireturn, 1) := by decide +kernel
theorem dX4_commit_10 : decode cX4_commit 10 = .ok (.aload_n 0, 1) := by decide +kernel
theorem dX4_commit_11 : decode cX4_commit 11 = .ok (.iload_n 1, 1) := by decide +kernel
theorem dX4_commit_12 : decode cX4_commit 12 = .ok (.invokevirtual 110, 3) := by decide +kernel
theorem dX4_commit_15 : decode cX4_commit 15 = .ok (.ifCond .ne 6, 3) := by decide +kernel
theorem dX4_commit_18 : decode cX4_commit 18 = .ok (.bipush (-101), 2) := by decide +kernel
theorem dX4_commit_20 : decode cX4_commit 20 = .ok (.ireturn, 1) := by decide +kernel
theorem dX4_commit_21 : decode cX4_commit 21 = .ok (.aload_n 0, 1) := by decide +kernel
theorem dX4_commit_22 : decode cX4_commit 22 = .ok (.iconst 3, 1) := by decide +kernel
theorem dX4_commit_23 : decode cX4_commit 23 = .ok (.iload_n 1, 1) := by decide +kernel
theorem dX4_commit_24 : decode cX4_commit 24 = .ok (.invokevirtual 84, 3) := by decide +kernel
theorem dX4_commit_27 : decode cX4_commit 27 = .ok (.istore_n 2, 1) := by decide +kernel
theorem dX4_commit_28 : decode cX4_commit 28 = .ok (.aload_n 0, 1) := by decide +kernel
theorem dX4_commit_29 : decode cX4_commit 29 = .ok (.iload_n 2, 1) := by decide +kernel
theorem dX4_commit_30 : decode cX4_commit 30 = .ok (.invokevirtual 120, 3) := by decide +kernel
theorem dX4_commit_33 : decode cX4_commit 33 = .ok (.aload_n 0, 1) := by decide +kernel
theorem dX4_commit_34 : decode cX4_commit 34 = .ok (.iload_n 1, 1) := by decide +kernel
theorem dX4_commit_35 : decode cX4_commit 35 = .ok (.invokevirtual 123, 3) := by decide +kernel
theorem dX4_commit_38 : decode cX4_commit 38 = .ok (.iload_n 2, 1) := by decide +kernel
theorem dX4_commit_39 : decode cX4_commit 39 = .ok (.ireturn, 1) := by decide +kernel
set_option maxRecDepth 20000 in
theorem ggX4_abort_X4_isWork : GoodIn wsX4_abort wsX4_isWork := goodIn_r _ [6, 7, 8, 9, 10, 5, 11, 53, 54, 55, 56, 57, 58, 59, 60, 61, 62, 63, 64, 65, 66, 67, 68, 69, 70, 71, 72, 73, 74, 75, 76, 77, 78, 79, 80] (by decide +kernel) (by decide +kernel)
set_option maxRecDepth 20000 in
theorem gX4_abort_X4_isWork : GoodIn wsX4_abort (wsV RX4 110 RX4 yX4_isWork wsX4_isWork) := goodIn_app (goodIn_of _ (by decide +kernel)) ggX4_abort_X4_isWork
set_option maxRecDepth 20000 in
theorem ggX4_abort_X4_note : GoodIn wsX4_abort wsX4_note := goodIn_r _ [15, 16, 17, 18, 19, 20, 21, 22, 23, 24, 53, 54, 55, 56, 57, 58, 59, 60, 61, 62, 63, 64, 65, 66, 67, 68, 69, 70, 71, 72, 73, 74, 75, 76, 77, 78, 79, 80] (by decide +kernel) (by decide +kernel)
set_option maxRecDepth 20000 in
theorem gX4_abort_X4_note : GoodIn wsX4_abort (wsV RX4 84 RX4 yX4_note wsX4_note) := goodIn_app (goodIn_of _ (by decide +kernel)) ggX4_abort_X4_note
set_option maxRecDepth 20000 in
theorem ggX4_abort_X4_undoTo : GoodIn wsX4_abort wsX4_undoTo := goodIn_r _ [28, 29, 30, 31, 32, 5, 33, 21, 22, 23, 24, 19, 12, 13, 14, 15, 16, 17, 18, 20, 34, 35, 36, 37, 38, 39, 40, 41, 42, 43, 44, 45, 46, 47, 48, 53, 54, 55, 56, 57, 58, 59, 60, 61, 62, 63, 64, 65, 66, 67, 68, 69, 70, 71, 72, 73, 74, 75, 76, 77, 78, 79, 80] (by decide +kernel) (by decide +kernel)
set_option maxRecDepth 20000 in
theorem gX4_abort_X4_undoTo : GoodIn wsX4_abort (wsV RX4 117 RX4 yX4_undoTo wsX4_undoTo) := goodIn_app (goodIn_of _ (by decide +kernel)) ggX4_abort_X4_undoTo
set_option maxRecDepth 20000 in
theorem ggX4_abort_X4_end : GoodIn wsX4_abort wsX4_end := goodIn_r _ [52, 8, 12, 13, 14, 5, 15, 16, 17, 18, 19, 20, 21, 22, 23, 24, 53, 54, 55, 56, 57, 58, 59, 60, 61, 62, 63, 64, 65, 66, 67, 68, 69, 70, 71, 72, 73, 74, 75, 76, 77, 78, 79, 80] (by decide +kernel) (by decide +kernel)
set_option maxRecDepth 20000 in
theorem gX4_abort_X4_end : GoodIn wsX4_abort (wsV RX4 123 RX4 yX4_end wsX4_end) := goodIn_app (goodIn_of _ (by decide +kernel)) ggX4_abort_X4_end
theorem dX4_abort_0 : decode cX4_abort 0 = .ok (.aload_n 0, 1) := by decide +kernel
theorem dX4_abort_1 : decode cX4_abort 1 = .ok (.getfield 103, 3) := by decide +kernel
theorem dX4_abort_4 : decode cX4_abort 4 = .ok (.ifCond .le 6, 3) := by decide +kernel
theorem dX4_abort_7 : decode cX4_abort 7 = .ok (.bipush (-105), 2) := by decide +kernel
theorem dX4_abort_9 : decode cX4_abort 9 = .ok (.ireturn, 1) := by decide +kernel
theorem dX4_abort_10 : decode cX4_abort 10 = .ok (.aload_n 0, 1) := by decide +kernel
theorem dX4_abort_11 : decode cX4_abort 11 = .ok (.iload_n 1, 1) := by decide +kernel
theorem dX4_abort_12 : decode cX4_abort 12 = .ok (.invokevirtual 110, 3) := by decide +kernel
theorem dX4_abort_15 : decode cX4_abort 15 = .ok (.ifCond .ne 6, 3) := by decide +kernel
theorem dX4_abort_18 : decode cX4_abort 18 = .ok (.bipush (-101), 2) := by decide +kernel
theorem dX4_abort_20 : decode cX4_abort 20 = .ok (.ireturn, 1) := by decide +kernel
theorem dX4_abort_21 : decode cX4_abort 21 = .ok (.aload_n 0, 1) := by decide +kernel
theorem dX4_abort_22 : decode cX4_abort 22 = .ok (.iconst 4, 1) := by decide +kernel
theorem dX4_abort_23 : decode cX4_abort 23 = .ok (.iload_n 1, 1) := by decide +kernel
theorem dX4_abort_24 : decode cX4_abort 24 = .ok (.invokevirtual 84, 3) := by decide +kernel
theorem dX4_abort_27 : decode cX4_abort 27 = .ok (.istore_n 2, 1) := by decide +kernel
theorem dX4_abort_28 : decode cX4_abort 28 = .ok (.aload_n 0, 1) := by decide +kernel
theorem dX4_abort_29 : decode cX4_abort 29 = .ok (.iload_n 1, 1) := by decide +kernel
theorem dX4_abort_30 : decode cX4_abort 30 = .ok (.iconst 0, 1) := by decide +kernel
theorem dX4_abort_31 : decode cX4_abort 31 = .ok (.invokevirtual 117, 3) := by decide +kernel
theorem dX4_abort_34 : decode cX4_abort 34 = .ok (.istore_n 3, 1) := by decide +kernel
theorem dX4_abort_35 : decode cX4_abort 35 = .ok (.aload_n 0, 1) := by decide +kernel
theorem dX4_abort_36 : decode cX4_abort 36 = .ok (.iload_n 1, 1) := by decide +kernel
theorem dX4_abort_37 : decode cX4_abort 37 = .ok (.invokevirtual 123, 3) := by decide +kernel
theorem dX4_abort_40 : decode cX4_abort 40 = .ok (.iload_n 3, 1) := by decide +kernel
theorem dX4_abort_41 : decode cX4_abort 41 = .ok (.ireturn, 1) := by decide +kernel
set_option maxRecDepth 20000 in
theorem ggX4_write_X4_in : GoodIn wsX4_write wsX4_in := goodIn_r _ [10] (by decide +kernel) (by decide +kernel)
set_option maxRecDepth 20000 in
theorem gX4_write_X4_in : GoodIn wsX4_write (va_wsS RX4 74 yX4_in wsX4_in) := goodIn_app (goodIn_of _ (by decide +kernel)) ggX4_write_X4_in
set_option maxRecDepth 20000 in
theorem ggX4_write_X4_forceTo : GoodIn wsX4_write wsX4_forceTo := goodIn_r _ [14, 15, 16, 17, 18, 19, 20, 21, 22, 23, 24, 25, 26, 27, 28, 29, 30, 31, 32, 33, 34, 35, 36, 37, 38, 39, 40, 41, 42, 43, 44] (by decide +kernel) (by decide +kernel)
set_option maxRecDepth 20000 in
theorem gX4_write_X4_forceTo : GoodIn wsX4_write (wsV RX4 120 RX4 yX4_forceTo wsX4_forceTo) := goodIn_app (goodIn_of _ (by decide +kernel)) ggX4_write_X4_forceTo
theorem dX4_write_0 : decode cX4_write 0 = .ok (.aload_n 0, 1) := by decide +kernel
theorem dX4_write_1 : decode cX4_write 1 = .ok (.getfield 103, 3) := by decide +kernel
theorem dX4_write_4 : decode cX4_write 4 = .ok (.ifCond .le 6, 3) := by decide +kernel
theorem dX4_write_7 : decode cX4_write 7 = .ok (.bipush (-105), 2) := by decide +kernel
theorem dX4_write_9 : decode cX4_write 9 = .ok (.ireturn, 1) := by decide +kernel
theorem dX4_write_10 : decode cX4_write 10 = .ok (.iload_n 1, 1) := by decide +kernel
theorem dX4_write_11 : decode cX4_write 11 = .ok (.iconst 0, 1) := by decide +kernel
theorem dX4_write_12 : decode cX4_write 12 = .ok (.bipush 63, 2) := by decide +kernel
theorem dX4_write_14 : decode cX4_write 14 = .ok (.invokestatic 74, 3) := by decide +kernel
theorem dX4_write_17 : decode cX4_write 17 = .ok (.ifCond .ne 6, 3) := by decide +kernel
theorem dX4_write_20 : decode cX4_write 20 = .ok (.bipush (-102), 2) := by decide +kernel
theorem dX4_write_22 : decode cX4_write 22 = .ok (.ireturn, 1) := by decide +kernel
theorem dX4_write_23 : decode cX4_write 23 = .ok (.aload_n 0, 1) := by decide +kernel
theorem dX4_write_24 : decode cX4_write 24 = .ok (.getfield 49, 3) := by decide +kernel
theorem dX4_write_27 : decode cX4_write 27 = .ok (.iload_n 1, 1) := by decide +kernel
theorem dX4_write_28 : decode cX4_write 28 = .ok (.iaload, 1) := by decide +kernel
theorem dX4_write_29 : decode cX4_write 29 = .ok (.iconst (-1), 1) := by decide +kernel
theorem dX4_write_30 : decode cX4_write 30 = .ok (.if_icmp .ne 5, 3) := by decide +kernel
theorem dX4_write_33 : decode cX4_write 33 = .ok (.iconst 0, 1) := by decide +kernel
theorem dX4_write_34 : decode cX4_write 34 = .ok (.ireturn, 1) := by decide +kernel
theorem dX4_write_35 : decode cX4_write 35 = .ok (.aload_n 0, 1) := by decide +kernel
theorem dX4_write_36 : decode cX4_write 36 = .ok (.aload_n 0, 1) := by decide +kernel
theorem dX4_write_37 : decode cX4_write 37 = .ok (.getfield 46, 3) := by decide +kernel
theorem dX4_write_40 : decode cX4_write 40 = .ok (.iload_n 1, 1) := by decide +kernel
theorem dX4_write_41 : decode cX4_write 41 = .ok (.iaload, 1) := by decide +kernel
theorem dX4_write_42 : decode cX4_write 42 = .ok (.invokevirtual 120, 3) := by decide +kernel
theorem dX4_write_45 : decode cX4_write 45 = .ok (.bipush 8, 2) := by decide +kernel
theorem dX4_write_47 : decode cX4_write 47 = .ok (.iload_n 1, 1) := by decide +kernel
theorem dX4_write_48 : decode cX4_write 48 = .ok (.imul, 1) := by decide +kernel
theorem dX4_write_49 : decode cX4_write 49 = .ok (.istore_n 2, 1) := by decide +kernel
theorem dX4_write_50 : decode cX4_write 50 = .ok (.iload_n 2, 1) := by decide +kernel
theorem dX4_write_51 : decode cX4_write 51 = .ok (.bipush 8, 2) := by decide +kernel
theorem dX4_write_53 : decode cX4_write 53 = .ok (.iload_n 1, 1) := by decide +kernel
theorem dX4_write_54 : decode cX4_write 54 = .ok (.imul, 1) := by decide +kernel
theorem dX4_write_55 : decode cX4_write 55 = .ok (.bipush 8, 2) := by decide +kernel
theorem dX4_write_57 : decode cX4_write 57 = .ok (.iadd, 1) := by decide +kernel
theorem dX4_write_58 : decode cX4_write 58 = .ok (.if_icmp .ge 21, 3) := by decide +kernel
theorem dX4_write_61 : decode cX4_write 61 = .ok (.aload_n 0, 1) := by decide +kernel
theorem dX4_write_62 : decode cX4_write 62 = .ok (.getfield 52, 3) := by decide +kernel
theorem dX4_write_65 : decode cX4_write 65 = .ok (.iload_n 2, 1) := by decide +kernel
theorem dX4_write_66 : decode cX4_write 66 = .ok (.aload_n 0, 1) := by decide +kernel
theorem dX4_write_67 : decode cX4_write 67 = .ok (.getfield 43, 3) := by decide +kernel
theorem dX4_write_70 : decode cX4_write 70 = .ok (.iload_n 2, 1) := by decide +kernel
theorem dX4_write_71 : decode cX4_write 71 = .ok (.iaload, 1) := by decide +kernel
theorem dX4_write_72 : decode cX4_write 72 = .ok (.iastore, 1) := by decide +kernel
theorem dX4_write_73 : decode cX4_write 73 = .ok (.iinc 2 1, 3) := by decide +kernel
theorem dX4_write_76 : decode cX4_write 76 = .ok (.goto (-26), 3) := by decide +kernel
theorem dX4_write_79 : decode cX4_write 79 = .ok (.aload_n 0, 1) := by decide +kernel
theorem dX4_write_80 : decode cX4_write 80 = .ok (.getfield 55, 3) := by decide +kernel
theorem dX4_write_83 : decode cX4_write 83 = .ok (.iload_n 1, 1) := by decide +kernel
theorem dX4_write_84 : decode cX4_write 84 = .ok (.aload_n 0, 1) := by decide +kernel
theorem dX4_write_85 : decode cX4_write 85 = .ok (.getfield 46, 3) := by decide +kernel
theorem dX4_write_88 : decode cX4_write 88 = .ok (.iload_n 1, 1) := by decide +kernel
theorem dX4_write_89 : decode cX4_write 89 = .ok (.iaload, 1) := by decide +kernel
theorem dX4_write_90 : decode cX4_write 90 = .ok (.iastore, 1) := by decide +kernel
theorem dX4_write_91 : decode cX4_write 91 = .ok (.aload_n 0, 1) := by decide +kernel
theorem dX4_write_92 : decode cX4_write 92 = .ok (.getfield 49, 3) := by decide +kernel
theorem dX4_write_95 : decode cX4_write 95 = .ok (.iload_n 1, 1) := by decide +kernel
theorem dX4_write_96 : decode cX4_write 96 = .ok (.iconst (-1), 1) := by decide +kernel
theorem dX4_write_97 : decode cX4_write 97 = .ok (.iastore, 1) := by decide +kernel
theorem dX4_write_98 : decode cX4_write 98 = .ok (.iconst 1, 1) := by decide +kernel
theorem dX4_write_99 : decode cX4_write 99 = .ok (.ireturn, 1) := by decide +kernel
set_option maxRecDepth 20000 in
theorem ggX4_force_X4_forceTo : GoodIn wsX4_force wsX4_forceTo := goodIn_r _ [7, 8, 2, 9, 10, 11, 12, 13, 14, 15, 16, 17, 18, 19, 20, 21, 22, 23, 24, 25, 26, 27, 28, 29, 30, 31, 32, 33, 34, 35, 36] (by decide +kernel) (by decide +kernel)
set_option maxRecDepth 20000 in
theorem gX4_force_X4_forceTo : GoodIn wsX4_force (wsV RX4 120 RX4 yX4_forceTo wsX4_forceTo) := goodIn_app (goodIn_of _ (by decide +kernel)) ggX4_force_X4_forceTo
theorem dX4_force_0 : decode cX4_force 0 = .ok (.aload_n 0, 1) := by decide +kernel
theorem dX4_force_1 : decode cX4_force 1 = .ok (.getfield 103, 3) := by decide +kernel
theorem dX4_force_4 : decode cX4_force 4 = .ok (.ifCond .le 6, 3) := by decide +kernel
theorem dX4_force_7 : decode cX4_force 7 = .ok (.bipush (-105), 2) := by decide +kernel
theorem dX4_force_9 : decode cX4_force 9 = .ok (.ireturn, 1) := by decide +kernel
theorem dX4_force_10 : decode cX4_force 10 = .ok (.iload_n 1, 1) := by decide +kernel
theorem dX4_force_11 : decode cX4_force 11 = .ok (.ifCond .ge 6, 3) := by decide +kernel
theorem dX4_force_14 : decode cX4_force 14 = .ok (.bipush (-102), 2) := by decide +kernel
theorem dX4_force_16 : decode cX4_force 16 = .ok (.ireturn, 1) := by decide +kernel
theorem dX4_force_17 : decode cX4_force 17 = .ok (.aload_n 0, 1) := by decide +kernel
theorem dX4_force_18 : decode cX4_force 18 = .ok (.iload_n 1, 1) := by decide +kernel
theorem dX4_force_19 : decode cX4_force 19 = .ok (.invokevirtual 120, 3) := by decide +kernel
theorem dX4_force_22 : decode cX4_force 22 = .ok (.aload_n 0, 1) := by decide +kernel
theorem dX4_force_23 : decode cX4_force 23 = .ok (.getfield 81, 3) := by decide +kernel
theorem dX4_force_26 : decode cX4_force 26 = .ok (.ireturn, 1) := by decide +kernel
set_option maxRecDepth 20000 in
theorem ggX4_point_X4_note : GoodIn wsX4_point wsX4_note := goodIn_r _ [16, 17, 18, 19, 20, 7, 21, 22, 23, 3, 29, 30, 31, 32, 33, 34, 35, 36, 37, 38, 39, 40, 41, 42, 43, 44, 45, 46, 47, 48, 49, 50, 51, 52, 53, 54, 55, 56] (by decide +kernel) (by decide +kernel)
set_option maxRecDepth 20000 in
theorem gX4_point_X4_note : GoodIn wsX4_point (wsV RX4 84 RX4 yX4_note wsX4_note) := goodIn_app (goodIn_of _ (by decide +kernel)) ggX4_point_X4_note
set_option maxRecDepth 20000 in
theorem ggX4_point_X4_forceTo : GoodIn wsX4_point wsX4_forceTo := goodIn_r _ [27, 17, 28, 29, 30, 31, 32, 33, 34, 35, 36, 37, 38, 39, 40, 41, 42, 43, 44, 45, 46, 47, 48, 49, 50, 51, 52, 53, 54, 55, 56] (by decide +kernel) (by decide +kernel)
set_option maxRecDepth 20000 in
theorem gX4_point_X4_forceTo : GoodIn wsX4_point (wsV RX4 120 RX4 yX4_forceTo wsX4_forceTo) := goodIn_app (goodIn_of _ (by decide +kernel)) ggX4_point_X4_forceTo
theorem dX4_point_0 : decode cX4_point 0 = .ok (.aload_n 0, 1) := by decide +kernel
theorem dX4_point_1 : decode cX4_point 1 = .ok (.getfield 103, 3) := by decide +kernel
theorem dX4_point_4 : decode cX4_point 4 = .ok (.ifCond .le 6, 3) := by decide +kernel
theorem dX4_point_7 : decode cX4_point 7 = .ok (.bipush (-105), 2) := by decide +kernel
theorem dX4_point_9 : decode cX4_point 9 = .ok (.ireturn, 1) := by decide +kernel
theorem dX4_point_10 : decode cX4_point 10 = .ok (.aload_n 0, 1) := by decide +kernel
theorem dX4_point_11 : decode cX4_point 11 = .ok (.getfield 126, 3) := by decide +kernel
theorem dX4_point_14 : decode cX4_point 14 = .ok (.bipush 100, 2) := by decide +kernel
theorem dX4_point_16 : decode cX4_point 16 = .ok (.if_icmp .ne 6, 3) := by decide +kernel
theorem dX4_point_19 : decode cX4_point 19 = .ok (.bipush (-104), 2) := by decide +kernel
theorem dX4_point_21 : decode cX4_point 21 = .ok (.ireturn, 1) := by decide +kernel
theorem dX4_point_22 : decode cX4_point 22 = .ok (.aload_n 0, 1) := by decide +kernel
theorem dX4_point_23 : decode cX4_point 23 = .ok (.bipush 7, 2) := by decide +kernel
theorem dX4_point_25 : decode cX4_point 25 = .ok (.iconst 0, 1) := by decide +kernel
theorem dX4_point_26 : decode cX4_point 26 = .ok (.invokevirtual 84, 3) := by decide +kernel
theorem dX4_point_29 : decode cX4_point 29 = .ok (.istore_n 1, 1) := by decide +kernel
theorem dX4_point_30 : decode cX4_point 30 = .ok (.aload_n 0, 1) := by decide +kernel
theorem dX4_point_31 : decode cX4_point 31 = .ok (.bipush 8, 2) := by decide +kernel
theorem dX4_point_33 : decode cX4_point 33 = .ok (.iconst 0, 1) := by decide +kernel
theorem dX4_point_34 : decode cX4_point 34 = .ok (.invokevirtual 84, 3) := by decide +kernel
theorem dX4_point_37 : decode cX4_point 37 = .ok (.istore_n 2, 1) := by decide +kernel
theorem dX4_point_38 : decode cX4_point 38 = .ok (.aload_n 0, 1) := by decide +kernel
theorem dX4_point_39 : decode cX4_point 39 = .ok (.getfield 28, 3) := by decide +kernel
theorem dX4_point_42 : decode cX4_point 42 = .ok (.iload_n 2, 1) := by decide +kernel
theorem dX4_point_43 : decode cX4_point 43 = .ok (.aload_n 0, 1) := by decide +kernel
theorem dX4_point_44 : decode cX4_point 44 = .ok (.getfield 126, 3) := by decide +kernel
theorem dX4_point_47 : decode cX4_point 47 = .ok (.iastore, 1) := by decide +kernel
theorem dX4_point_48 : decode cX4_point 48 = .ok (.iconst 1, 1) := by decide +kernel
theorem dX4_point_49 : decode cX4_point 49 = .ok (.istore_n 3, 1) := by decide +kernel
theorem dX4_point_50 : decode cX4_point 50 = .ok (.iload_n 3, 1) := by decide +kernel
theorem dX4_point_51 : decode cX4_point 51 = .ok (.sipush 200, 3) := by decide +kernel
theorem dX4_point_54 : decode cX4_point 54 = .ok (.if_icmp .gt 72, 3) := by decide +kernel
theorem dX4_point_57 : decode cX4_point 57 = .ok (.aload_n 0, 1) := by decide +kernel
theorem dX4_point_58 : decode cX4_point 58 = .ok (.getfield 31, 3) := by decide +kernel
theorem dX4_point_61 : decode cX4_point 61 = .ok (.sipush 201, 3) := by decide +kernel
theorem dX4_point_64 : decode cX4_point 64 = .ok (.aload_n 0, 1) := by decide +kernel
theorem dX4_point_65 : decode cX4_point 65 = .ok (.getfield 126, 3) := by decide +kernel
theorem dX4_point_68 : decode cX4_point 68 = .ok (.imul, 1) := by decide +kernel
theorem dX4_point_69 : decode cX4_point 69 = .ok (.iload_n 3, 1) := by decide +kernel
theorem dX4_point_70 : decode cX4_point 70 = .ok (.iadd, 1) := by decide +kernel
theorem dX4_point_71 : decode cX4_point 71 = .ok (.aload_n 0, 1) := by decide +kernel
theorem dX4_point_72 : decode cX4_point 72 = .ok (.getfield 58, 3) := by decide +kernel
theorem dX4_point_75 : decode cX4_point 75 = .ok (.iload_n 3, 1) := by decide +kernel
theorem dX4_point_76 : decode cX4_point 76 = .ok (.iaload, 1) := by decide +kernel
theorem dX4_point_77 : decode cX4_point 77 = .ok (.iastore, 1) := by decide +kernel
theorem dX4_point_78 : decode cX4_point 78 = .ok (.aload_n 0, 1) := by decide +kernel
theorem dX4_point_79 : decode cX4_point 79 = .ok (.getfield 34, 3) := by decide +kernel
theorem dX4_point_82 : decode cX4_point 82 = .ok (.sipush 201, 3) := by decide +kernel
theorem dX4_point_85 : decode cX4_point 85 = .ok (.aload_n 0, 1) := by decide +kernel
theorem dX4_point_86 : decode cX4_point 86 = .ok (.getfield 126, 3) := by decide +kernel
theorem dX4_point_89 : decode cX4_point 89 = .ok (.imul, 1) := by decide +kernel
theorem dX4_point_90 : decode cX4_point 90 = .ok (.iload_n 3, 1) := by decide +kernel
theorem dX4_point_91 : decode cX4_point 91 = .ok (.iadd, 1) := by decide +kernel
theorem dX4_point_92 : decode cX4_point 92 = .ok (.aload_n 0, 1) := by decide +kernel
theorem dX4_point_93 : decode cX4_point 93 = .ok (.getfield 61, 3) := by decide +kernel
theorem dX4_point_96 : decode cX4_point 96 = .ok (.iload_n 3, 1) := by decide +kernel
theorem dX4_point_97 : decode cX4_point 97 = .ok (.iaload, 1) := by decide +kernel
theorem dX4_point_98 : decode cX4_point 98 = .ok (.iastore, 1) := by decide +kernel
theorem dX4_point_99 : decode cX4_point 99 = .ok (.aload_n 0, 1) := by decide +kernel
theorem dX4_point_100 : decode cX4_point 100 = .ok (.getfield 37, 3) := by decide +kernel
theorem dX4_point_103 : decode cX4_point 103 = .ok (.sipush 201, 3) := by decide +kernel
theorem dX4_point_106 : decode cX4_point 106 = .ok (.aload_n 0, 1) := by decide +kernel
theorem dX4_point_107 : decode cX4_point 107 = .ok (.getfield 126, 3) := by decide +kernel
theorem dX4_point_110 : decode cX4_point 110 = .ok (.imul, 1) := by decide +kernel
theorem dX4_point_111 : decode cX4_point 111 = .ok (.iload_n 3, 1) := by decide +kernel
theorem dX4_point_112 : decode cX4_point 112 = .ok (.iadd, 1) := by decide +kernel
theorem dX4_point_113 : decode cX4_point 113 = .ok (.aload_n 0, 1) := by decide +kernel
theorem dX4_point_114 : decode cX4_point 114 = .ok (.getfield 64, 3) := by decide +kernel
theorem dX4_point_117 : decode cX4_point 117 = .ok (.iload_n 3, 1) := by decide +kernel
theorem dX4_point_118 : decode cX4_point 118 = .ok (.iaload, 1) := by decide +kernel
theorem dX4_point_119 : decode cX4_point 119 = .ok (.iastore, 1) := by decide +kernel
theorem dX4_point_120 : decode cX4_point 120 = .ok (.iinc 3 1, 3) := by decide +kernel
theorem dX4_point_123 : decode cX4_point 123 = .ok (.goto (-73), 3) := by decide +kernel
theorem dX4_point_126 : decode cX4_point 126 = .ok (.iconst 0, 1) := by decide +kernel
theorem dX4_point_127 : decode cX4_point 127 = .ok (.istore_n 3, 1) := by decide +kernel
theorem dX4_point_128 : decode cX4_point 128 = .ok (.iload_n 3, 1) := by decide +kernel
theorem dX4_point_129 : decode cX4_point 129 = .ok (.bipush 64, 2) := by decide +kernel
theorem dX4_point_131 : decode cX4_point 131 = .ok (.if_icmp .ge 29, 3) := by decide +kernel
theorem dX4_point_134 : decode cX4_point 134 = .ok (.aload_n 0, 1) := by decide +kernel
theorem dX4_point_135 : decode cX4_point 135 = .ok (.getfield 40, 3) := by decide +kernel
theorem dX4_point_138 : decode cX4_point 138 = .ok (.bipush 64, 2) := by decide +kernel
theorem dX4_point_140 : decode cX4_point 140 = .ok (.aload_n 0, 1) := by decide +kernel
theorem dX4_point_141 : decode cX4_point 141 = .ok (.getfield 126, 3) := by decide +kernel
theorem dX4_point_144 : decode cX4_point 144 = .ok (.imul, 1) := by decide +kernel
theorem dX4_point_145 : decode cX4_point 145 = .ok (.iload_n 3, 1) := by decide +kernel
theorem dX4_point_146 : decode cX4_point 146 = .ok (.iadd, 1) := by decide +kernel
theorem dX4_point_147 : decode cX4_point 147 = .ok (.aload_n 0, 1) := by decide +kernel
theorem dX4_point_148 : decode cX4_point 148 = .ok (.getfield 49, 3) := by decide +kernel
theorem dX4_point_151 : decode cX4_point 151 = .ok (.iload_n 3, 1) := by decide +kernel
theorem dX4_point_152 : decode cX4_point 152 = .ok (.iaload, 1) := by decide +kernel
theorem dX4_point_153 : decode cX4_point 153 = .ok (.iastore, 1) := by decide +kernel
theorem dX4_point_154 : decode cX4_point 154 = .ok (.iinc 3 1, 3) := by decide +kernel
theorem dX4_point_157 : decode cX4_point 157 = .ok (.goto (-29), 3) := by decide +kernel
theorem dX4_point_160 : decode cX4_point 160 = .ok (.aload_n 0, 1) := by decide +kernel
theorem dX4_point_161 : decode cX4_point 161 = .ok (.dup, 1) := by decide +kernel
theorem dX4_point_162 : decode cX4_point 162 = .ok (.getfield 126, 3) := by decide +kernel
theorem dX4_point_165 : decode cX4_point 165 = .ok (.iconst 1, 1) := by decide +kernel
theorem dX4_point_166 : decode cX4_point 166 = .ok (.iadd, 1) := by decide +kernel
theorem dX4_point_167 : decode cX4_point 167 = .ok (.putfield 126, 3) := by decide +kernel
theorem dX4_point_170 : decode cX4_point 170 = .ok (.aload_n 0, 1) := by decide +kernel
theorem dX4_point_171 : decode cX4_point 171 = .ok (.iload_n 2, 1) := by decide +kernel
theorem dX4_point_172 : decode cX4_point 172 = .ok (.invokevirtual 120, 3) := by decide +kernel
theorem dX4_point_175 : decode cX4_point 175 = .ok (.iload_n 1, 1) := by decide +kernel
theorem dX4_point_176 : decode cX4_point 176 = .ok (.ireturn, 1) := by decide +kernel
set_option maxRecDepth 20000 in
theorem ggX4_loss_X4_passOver : GoodIn wsX4_loss wsX4_passOver := goodIn_r _ [20, 15, 5, 1, 21, 22, 23, 19, 24, 7, 25, 26, 27, 28, 29, 12, 14, 30, 31, 32, 33, 34, 35, 36, 37, 38, 39, 40, 41, 42, 43, 44, 45, 46, 47, 48, 49, 50, 51, 52, 53, 54, 55, 56, 57] (by decide +kernel) (by decide +kernel)
set_option maxRecDepth 20000 in
theorem gX4_loss_X4_passOver : GoodIn wsX4_loss (wsV RX4 135 RX4 yX4_passOver wsX4_passOver) := goodIn_app (goodIn_of _ (by decide +kernel)) ggX4_loss_X4_passOver
theorem dX4_loss_0 : decode cX4_loss 0 = .ok (.iload_n 1, 1) := by decide +kernel
theorem dX4_loss_1 : decode cX4_loss 1 = .ok (.ifCond .ge 6, 3) := by decide +kernel
theorem dX4_loss_4 : decode cX4_loss 4 = .ok (.bipush (-102), 2) := by decide +kernel
theorem dX4_loss_6 : decode cX4_loss 6 = .ok (.ireturn, 1) := by decide +kernel
theorem dX4_loss_7 : decode cX4_loss 7 = .ok (.aload_n 0, 1) := by decide +kernel
theorem dX4_loss_8 : decode cX4_loss 8 = .ok (.getfield 78, 3) := by decide +kernel
theorem dX4_loss_11 : decode cX4_loss 11 = .ok (.aload_n 0, 1) := by decide +kernel
theorem dX4_loss_12 : decode cX4_loss 12 = .ok (.getfield 81, 3) := by decide +kernel
theorem dX4_loss_15 : decode cX4_loss 15 = .ok (.isub, 1) := by decide +kernel
theorem dX4_loss_16 : decode cX4_loss 16 = .ok (.istore_n 2, 1) := by decide +kernel
theorem dX4_loss_17 : decode cX4_loss 17 = .ok (.aload_n 0, 1) := by decide +kernel
theorem dX4_loss_18 : decode cX4_loss 18 = .ok (.aload_n 0, 1) := by decide +kernel
theorem dX4_loss_19 : decode cX4_loss 19 = .ok (.getfield 81, 3) := by decide +kernel
theorem dX4_loss_22 : decode cX4_loss 22 = .ok (.iload_n 1, 1) := by decide +kernel
theorem dX4_loss_23 : decode cX4_loss 23 = .ok (.iload_n 2, 1) := by decide +kernel
theorem dX4_loss_24 : decode cX4_loss 24 = .ok (.if_icmp .ge 7, 3) := by decide +kernel
theorem dX4_loss_27 : decode cX4_loss 27 = .ok (.iload_n 1, 1) := by decide +kernel
theorem dX4_loss_28 : decode cX4_loss 28 = .ok (.goto 4, 3) := by decide +kernel
theorem dX4_loss_31 : decode cX4_loss 31 = .ok (.iload_n 2, 1) := by decide +kernel
theorem dX4_loss_32 : decode cX4_loss 32 = .ok (.iadd, 1) := by decide +kernel
theorem dX4_loss_33 : decode cX4_loss 33 = .ok (.putfield 78, 3) := by decide +kernel
theorem dX4_loss_36 : decode cX4_loss 36 = .ok (.aload_n 0, 1) := by decide +kernel
theorem dX4_loss_37 : decode cX4_loss 37 = .ok (.aload_n 0, 1) := by decide +kernel
theorem dX4_loss_38 : decode cX4_loss 38 = .ok (.getfield 78, 3) := by decide +kernel
theorem dX4_loss_41 : decode cX4_loss 41 = .ok (.putfield 81, 3) := by decide +kernel
theorem dX4_loss_44 : decode cX4_loss 44 = .ok (.aload_n 0, 1) := by decide +kernel
theorem dX4_loss_45 : decode cX4_loss 45 = .ok (.iconst 0, 1) := by decide +kernel
theorem dX4_loss_46 : decode cX4_loss 46 = .ok (.putfield 114, 3) := by decide +kernel
theorem dX4_loss_49 : decode cX4_loss 49 = .ok (.aload_n 0, 1) := by decide +kernel
theorem dX4_loss_50 : decode cX4_loss 50 = .ok (.iconst (-1), 1) := by decide +kernel
theorem dX4_loss_51 : decode cX4_loss 51 = .ok (.putfield 129, 3) := by decide +kernel
theorem dX4_loss_54 : decode cX4_loss 54 = .ok (.aload_n 0, 1) := by decide +kernel
theorem dX4_loss_55 : decode cX4_loss 55 = .ok (.iconst 1, 1) := by decide +kernel
theorem dX4_loss_56 : decode cX4_loss 56 = .ok (.putfield 132, 3) := by decide +kernel
theorem dX4_loss_59 : decode cX4_loss 59 = .ok (.iconst 1, 1) := by decide +kernel
theorem dX4_loss_60 : decode cX4_loss 60 = .ok (.istore_n 3, 1) := by decide +kernel
theorem dX4_loss_61 : decode cX4_loss 61 = .ok (.iload_n 3, 1) := by decide +kernel
theorem dX4_loss_62 : decode cX4_loss 62 = .ok (.aload_n 0, 1) := by decide +kernel
theorem dX4_loss_63 : decode cX4_loss 63 = .ok (.getfield 78, 3) := by decide +kernel
theorem dX4_loss_66 : decode cX4_loss 66 = .ok (.if_icmp .gt 56, 3) := by decide +kernel
theorem dX4_loss_69 : decode cX4_loss 69 = .ok (.aload_n 0, 1) := by decide +kernel
theorem dX4_loss_70 : decode cX4_loss 70 = .ok (.dup, 1) := by decide +kernel
theorem dX4_loss_71 : decode cX4_loss 71 = .ok (.getfield 114, 3) := by decide +kernel
theorem dX4_loss_74 : decode cX4_loss 74 = .ok (.aload_n 0, 1) := by decide +kernel
theorem dX4_loss_75 : decode cX4_loss 75 = .ok (.getfield 7, 3) := by decide +kernel
theorem dX4_loss_78 : decode cX4_loss 78 = .ok (.iload_n 3, 1) := by decide +kernel
theorem dX4_loss_79 : decode cX4_loss 79 = .ok (.iaload, 1) := by decide +kernel
theorem dX4_loss_80 : decode cX4_loss 80 = .ok (.iconst 1, 1) := by decide +kernel
theorem dX4_loss_81 : decode cX4_loss 81 = .ok (.if_icmp .ne 7, 3) := by decide +kernel
theorem dX4_loss_84 : decode cX4_loss 84 = .ok (.iconst 1, 1) := by decide +kernel
theorem dX4_loss_85 : decode cX4_loss 85 = .ok (.goto 4, 3) := by decide +kernel
theorem dX4_loss_88 : decode cX4_loss 88 = .ok (.iconst 0, 1) := by decide +kernel
theorem dX4_loss_89 : decode cX4_loss 89 = .ok (.iadd, 1) := by decide +kernel
theorem dX4_loss_90 : decode cX4_loss 90 = .ok (.putfield 114, 3) := by decide +kernel
theorem dX4_loss_93 : decode cX4_loss 93 = .ok (.aload_n 0, 1) := by decide +kernel
theorem dX4_loss_94 : decode cX4_loss 94 = .ok (.getfield 7, 3) := by decide +kernel
theorem dX4_loss_97 : decode cX4_loss 97 = .ok (.iload_n 3, 1) := by decide +kernel
theorem dX4_loss_98 : decode cX4_loss 98 = .ok (.iaload, 1) := by decide +kernel
theorem dX4_loss_99 : decode cX4_loss 99 = .ok (.bipush 8, 2) := by decide +kernel
theorem dX4_loss_101 : decode cX4_loss 101 = .ok (.if_icmp .ne 15, 3) := by decide +kernel
theorem dX4_loss_104 : decode cX4_loss 104 = .ok (.aload_n 0, 1) := by decide +kernel
theorem dX4_loss_105 : decode cX4_loss 105 = .ok (.iload_n 3, 1) := by decide +kernel
theorem dX4_loss_106 : decode cX4_loss 106 = .ok (.putfield 129, 3) := by decide +kernel
theorem dX4_loss_109 : decode cX4_loss 109 = .ok (.aload_n 0, 1) := by decide +kernel
theorem dX4_loss_110 : decode cX4_loss 110 = .ok (.iload_n 3, 1) := by decide +kernel
theorem dX4_loss_111 : decode cX4_loss 111 = .ok (.iconst 1, 1) := by decide +kernel
theorem dX4_loss_112 : decode cX4_loss 112 = .ok (.isub, 1) := by decide +kernel
theorem dX4_loss_113 : decode cX4_loss 113 = .ok (.putfield 132, 3) := by decide +kernel
theorem dX4_loss_116 : decode cX4_loss 116 = .ok (.iinc 3 1, 3) := by decide +kernel
theorem dX4_loss_119 : decode cX4_loss 119 = .ok (.goto (-58), 3) := by decide +kernel
theorem dX4_loss_122 : decode cX4_loss 122 = .ok (.iconst 0, 1) := by decide +kernel
theorem dX4_loss_123 : decode cX4_loss 123 = .ok (.istore_n 3, 1) := by decide +kernel
theorem dX4_loss_124 : decode cX4_loss 124 = .ok (.iload_n 3, 1) := by decide +kernel
theorem dX4_loss_125 : decode cX4_loss 125 = .ok (.bipush 64, 2) := by decide +kernel
theorem dX4_loss_127 : decode cX4_loss 127 = .ok (.if_icmp .ge 66, 3) := by decide +kernel
theorem dX4_loss_130 : decode cX4_loss 130 = .ok (.aload_n 0, 1) := by decide +kernel
theorem dX4_loss_131 : decode cX4_loss 131 = .ok (.getfield 49, 3) := by decide +kernel
theorem dX4_loss_134 : decode cX4_loss 134 = .ok (.iload_n 3, 1) := by decide +kernel
theorem dX4_loss_135 : decode cX4_loss 135 = .ok (.iconst (-1), 1) := by decide +kernel
theorem dX4_loss_136 : decode cX4_loss 136 = .ok (.iastore, 1) := by decide +kernel
theorem dX4_loss_137 : decode cX4_loss 137 = .ok (.aload_n 0, 1) := by decide +kernel
theorem dX4_loss_138 : decode cX4_loss 138 = .ok (.getfield 46, 3) := by decide +kernel
theorem dX4_loss_141 : decode cX4_loss 141 = .ok (.iload_n 3, 1) := by decide +kernel
theorem dX4_loss_142 : decode cX4_loss 142 = .ok (.aload_n 0, 1) := by decide +kernel
theorem dX4_loss_143 : decode cX4_loss 143 = .ok (.getfield 55, 3) := by decide +kernel
theorem dX4_loss_146 : decode cX4_loss 146 = .ok (.iload_n 3, 1) := by decide +kernel
theorem dX4_loss_147 : decode cX4_loss 147 = .ok (.iaload, 1) := by decide +kernel
theorem dX4_loss_148 : decode cX4_loss 148 = .ok (.iastore, 1) := by decide +kernel
theorem dX4_loss_149 : decode cX4_loss 149 = .ok (.bipush 8, 2) := by decide +kernel
theorem dX4_loss_151 : decode cX4_loss 151 = .ok (.iload_n 3, 1) := by decide +kernel
theorem dX4_loss_152 : decode cX4_loss 152 = .ok (.imul, 1) := by decide +kernel
theorem dX4_loss_153 : decode cX4_loss 153 = .ok (.istore 4, 2) := by decide +kernel
theorem dX4_loss_155 : decode cX4_loss 155 = .ok (.iload 4, 2) := by decide +kernel
theorem dX4_loss_157 : decode cX4_loss 157 = .ok (.bipush 8, 2) := by decide +kernel
theorem dX4_loss_159 : decode cX4_loss 159 = .ok (.iload_n 3, 1) := by decide +kernel
theorem dX4_loss_160 : decode cX4_loss 160 = .ok (.imul, 1) := by decide +kernel
theorem dX4_loss_161 : decode cX4_loss 161 = .ok (.bipush 8, 2) := by decide +kernel
theorem dX4_loss_163 : decode cX4_loss 163 = .ok (.iadd, 1) := by decide +kernel
theorem dX4_loss_164 : decode cX4_loss 164 = .ok (.if_icmp .ge 23, 3) := by decide +kernel
theorem dX4_loss_167 : decode cX4_loss 167 = .ok (.aload_n 0, 1) := by decide +kernel
theorem dX4_loss_168 : decode cX4_loss 168 = .ok (.getfield 43, 3) := by decide +kernel
theorem dX4_loss_171 : decode cX4_loss 171 = .ok (.iload 4, 2) := by decide +kernel
theorem dX4_loss_173 : decode cX4_loss 173 = .ok (.aload_n 0, 1) := by decide +kernel
theorem dX4_loss_174 : decode cX4_loss 174 = .ok (.getfield 52, 3) := by decide +kernel
theorem dX4_loss_177 : decode cX4_loss 177 = .ok (.iload 4, 2) := by decide +kernel
theorem dX4_loss_179 : decode cX4_loss 179 = .ok (.iaload, 1) := by decide +kernel
theorem dX4_loss_180 : decode cX4_loss 180 = .ok (.iastore, 1) := by decide +kernel
theorem dX4_loss_181 : decode cX4_loss 181 = .ok (.iinc 4 1, 3) := by decide +kernel
theorem dX4_loss_184 : decode cX4_loss 184 = .ok (.goto (-29), 3) := by decide +kernel
theorem dX4_loss_187 : decode cX4_loss 187 = .ok (.iinc 3 1, 3) := by decide +kernel
theorem dX4_loss_190 : decode cX4_loss 190 = .ok (.goto (-66), 3) := by decide +kernel
theorem dX4_loss_193 : decode cX4_loss 193 = .ok (.iconst 0, 1) := by decide +kernel
theorem dX4_loss_194 : decode cX4_loss 194 = .ok (.istore_n 3, 1) := by decide +kernel
theorem dX4_loss_195 : decode cX4_loss 195 = .ok (.iload_n 3, 1) := by decide +kernel
theorem dX4_loss_196 : decode cX4_loss 196 = .ok (.sipush 200, 3) := by decide +kernel
theorem dX4_loss_199 : decode cX4_loss 199 = .ok (.if_icmp .gt 30, 3) := by decide +kernel
theorem dX4_loss_202 : decode cX4_loss 202 = .ok (.aload_n 0, 1) := by decide +kernel
theorem dX4_loss_203 : decode cX4_loss 203 = .ok (.getfield 58, 3) := by decide +kernel
theorem dX4_loss_206 : decode cX4_loss 206 = .ok (.iload_n 3, 1) := by decide +kernel
theorem dX4_loss_207 : decode cX4_loss 207 = .ok (.iconst 0, 1) := by decide +kernel
theorem dX4_loss_208 : decode cX4_loss 208 = .ok (.iastore, 1) := by decide +kernel
theorem dX4_loss_209 : decode cX4_loss 209 = .ok (.aload_n 0, 1) := by decide +kernel
theorem dX4_loss_210 : decode cX4_loss 210 = .ok (.getfield 61, 3) := by decide +kernel
theorem dX4_loss_213 : decode cX4_loss 213 = .ok (.iload_n 3, 1) := by decide +kernel
theorem dX4_loss_214 : decode cX4_loss 214 = .ok (.iconst 0, 1) := by decide +kernel
theorem dX4_loss_215 : decode cX4_loss 215 = .ok (.iastore, 1) := by decide +kernel
theorem dX4_loss_216 : decode cX4_loss 216 = .ok (.aload_n 0, 1) := by decide +kernel
theorem dX4_loss_217 : decode cX4_loss 217 = .ok (.getfield 64, 3) := by decide +kernel
theorem dX4_loss_220 : decode cX4_loss 220 = .ok (.iload_n 3, 1) := by decide +kernel
theorem dX4_loss_221 : decode cX4_loss 221 = .ok (.iconst 0, 1) := by decide +kernel
theorem dX4_loss_222 : decode cX4_loss 222 = .ok (.iastore, 1) := by decide +kernel
theorem dX4_loss_223 : decode cX4_loss 223 = .ok (.iinc 3 1, 3) := by decide +kernel
theorem dX4_loss_226 : decode cX4_loss 226 = .ok (.goto (-31), 3) := by decide +kernel
theorem dX4_loss_229 : decode cX4_loss 229 = .ok (.aload_n 0, 1) := by decide +kernel
theorem dX4_loss_230 : decode cX4_loss 230 = .ok (.iconst 1, 1) := by decide +kernel
theorem dX4_loss_231 : decode cX4_loss 231 = .ok (.putfield 103, 3) := by decide +kernel
theorem dX4_loss_234 : decode cX4_loss 234 = .ok (.aload_n 0, 1) := by decide +kernel
theorem dX4_loss_235 : decode cX4_loss 235 = .ok (.invokevirtual 135, 3) := by decide +kernel
theorem dX4_loss_238 : decode cX4_loss 238 = .ok (.aload_n 0, 1) := by decide +kernel
theorem dX4_loss_239 : decode cX4_loss 239 = .ok (.getfield 78, 3) := by decide +kernel
theorem dX4_loss_242 : decode cX4_loss 242 = .ok (.ireturn, 1) := by decide +kernel
theorem dX4_leastBase_0 : decode cX4_leastBase 0 = .ok (.aload_n 0, 1) := by decide +kernel
theorem dX4_leastBase_1 : decode cX4_leastBase 1 = .ok (.getfield 78, 3) := by decide +kernel
theorem dX4_leastBase_4 : decode cX4_leastBase 4 = .ok (.iconst 1, 1) := by decide +kernel
theorem dX4_leastBase_5 : decode cX4_leastBase 5 = .ok (.iadd, 1) := by decide +kernel
theorem dX4_leastBase_6 : decode cX4_leastBase 6 = .ok (.istore_n 1, 1) := by decide +kernel
theorem dX4_leastBase_7 : decode cX4_leastBase 7 = .ok (.iconst 0, 1) := by decide +kernel
theorem dX4_leastBase_8 : decode cX4_leastBase 8 = .ok (.istore_n 2, 1) := by decide +kernel
theorem dX4_leastBase_9 : decode cX4_leastBase 9 = .ok (.iload_n 2, 1) := by decide +kernel
theorem dX4_leastBase_10 : decode cX4_leastBase 10 = .ok (.bipush 64, 2) := by decide +kernel
theorem dX4_leastBase_12 : decode cX4_leastBase 12 = .ok (.if_icmp .ge 40, 3) := by decide +kernel
theorem dX4_leastBase_15 : decode cX4_leastBase 15 = .ok (.aload_n 0, 1) := by decide +kernel
theorem dX4_leastBase_16 : decode cX4_leastBase 16 = .ok (.getfield 49, 3) := by decide +kernel
theorem dX4_leastBase_19 : decode cX4_leastBase 19 = .ok (.iload_n 2, 1) := by decide +kernel
theorem dX4_leastBase_20 : decode cX4_leastBase 20 = .ok (.iaload, 1) := by decide +kernel
theorem dX4_leastBase_21 : decode cX4_leastBase 21 = .ok (.iconst (-1), 1) := by decide +kernel
theorem dX4_leastBase_22 : decode cX4_leastBase 22 = .ok (.if_icmp .eq 22, 3) := by decide +kernel
theorem dX4_leastBase_25 : decode cX4_leastBase 25 = .ok (.aload_n 0, 1) := by decide +kernel
theorem dX4_leastBase_26 : decode cX4_leastBase 26 = .ok (.getfield 49, 3) := by decide +kernel
theorem dX4_leastBase_29 : decode cX4_leastBase 29 = .ok (.iload_n 2, 1) := by decide +kernel
theorem dX4_leastBase_30 : decode cX4_leastBase 30 = .ok (.iaload, 1) := by decide +kernel
theorem dX4_leastBase_31 : decode cX4_leastBase 31 = .ok (.iload_n 1, 1) := by decide +kernel
theorem dX4_leastBase_32 : decode cX4_leastBase 32 = .ok (.if_icmp .ge 12, 3) := by decide +kernel
theorem dX4_leastBase_35 : decode cX4_leastBase 35 = .ok (.aload_n 0, 1) := by decide +kernel
theorem dX4_leastBase_36 : decode cX4_leastBase 36 = .ok (.getfield 49, 3) := by decide +kernel
theorem dX4_leastBase_39 : decode cX4_leastBase 39 = .ok (.iload_n 2, 1) := by decide +kernel
theorem dX4_leastBase_40 : decode cX4_leastBase 40 = .ok (.iaload, 1) := by decide +kernel
theorem dX4_leastBase_41 : decode cX4_leastBase 41 = .ok (.goto 4, 3) := by decide +kernel
theorem dX4_leastBase_44 : decode cX4_leastBase 44 = .ok (.iload_n 1, 1) := by decide +kernel
theorem dX4_leastBase_45 : decode cX4_leastBase 45 = .ok (.istore_n 1, 1) := by decide +kernel
theorem dX4_leastBase_46 : decode cX4_leastBase 46 = .ok (.iinc 2 1, 3) := by decide +kernel
theorem dX4_leastBase_49 : decode cX4_leastBase 49 = .ok (.goto (-40), 3) := by decide +kernel
theorem dX4_leastBase_52 : decode cX4_leastBase 52 = .ok (.iload_n 1, 1) := by decide +kernel
theorem dX4_leastBase_53 : decode cX4_leastBase 53 = .ok (.ireturn, 1) := by decide +kernel
theorem dX4_chosen_0 : decode cX4_chosen 0 = .ok (.iconst 0, 1) := by decide +kernel
theorem dX4_chosen_1 : decode cX4_chosen 1 = .ok (.istore_n 1, 1) := by decide +kernel
theorem dX4_chosen_2 : decode cX4_chosen 2 = .ok (.iconst 1, 1) := by decide +kernel
theorem dX4_chosen_3 : decode cX4_chosen 3 = .ok (.istore_n 2, 1) := by decide +kernel
theorem dX4_chosen_4 : decode cX4_chosen 4 = .ok (.iload_n 2, 1) := by decide +kernel
theorem dX4_chosen_5 : decode cX4_chosen 5 = .ok (.aload_n 0, 1) := by decide +kernel
theorem dX4_chosen_6 : decode cX4_chosen 6 = .ok (.getfield 70, 3) := by decide +kernel
theorem dX4_chosen_9 : decode cX4_chosen 9 = .ok (.if_icmp .gt 110, 3) := by decide +kernel
theorem dX4_chosen_12 : decode cX4_chosen 12 = .ok (.aload_n 0, 1) := by decide +kernel
theorem dX4_chosen_13 : decode cX4_chosen 13 = .ok (.getfield 103, 3) := by decide +kernel
theorem dX4_chosen_16 : decode cX4_chosen 16 = .ok (.iconst 3, 1) := by decide +kernel
theorem dX4_chosen_17 : decode cX4_chosen 17 = .ok (.if_icmp .ne 21, 3) := by decide +kernel
theorem dX4_chosen_20 : decode cX4_chosen 20 = .ok (.aload_n 0, 1) := by decide +kernel
theorem dX4_chosen_21 : decode cX4_chosen 21 = .ok (.getfield 58, 3) := by decide +kernel
theorem dX4_chosen_24 : decode cX4_chosen 24 = .ok (.iload_n 2, 1) := by decide +kernel
theorem dX4_chosen_25 : decode cX4_chosen 25 = .ok (.iaload, 1) := by decide +kernel
theorem dX4_chosen_26 : decode cX4_chosen 26 = .ok (.iconst 4, 1) := by decide +kernel
theorem dX4_chosen_27 : decode cX4_chosen 27 = .ok (.if_icmp .ne 7, 3) := by decide +kernel
theorem dX4_chosen_30 : decode cX4_chosen 30 = .ok (.iconst 1, 1) := by decide +kernel
theorem dX4_chosen_31 : decode cX4_chosen 31 = .ok (.goto 32, 3) := by decide +kernel
theorem dX4_chosen_34 : decode cX4_chosen 34 = .ok (.iconst 0, 1) := by decide +kernel
theorem dX4_chosen_35 : decode cX4_chosen 35 = .ok (.goto 28, 3) := by decide +kernel
theorem dX4_chosen_38 : decode cX4_chosen 38 = .ok (.aload_n 0, 1) := by decide +kernel
theorem dX4_chosen_39 : decode cX4_chosen 39 = .ok (.getfield 58, 3) := by decide +kernel
theorem dX4_chosen_42 : decode cX4_chosen 42 = .ok (.iload_n 2, 1) := by decide +kernel
theorem dX4_chosen_43 : decode cX4_chosen 43 = .ok (.iaload, 1) := by decide +kernel
theorem dX4_chosen_44 : decode cX4_chosen 44 = .ok (.iconst 1, 1) := by decide +kernel
theorem dX4_chosen_45 : decode cX4_chosen 45 = .ok (.if_icmp .eq 13, 3) := by decide +kernel
theorem dX4_chosen_48 : decode cX4_chosen 48 = .ok (.aload_n 0, 1) := by decide +kernel
theorem dX4_chosen_49 : decode cX4_chosen 49 = .ok (.getfield 58, 3) := by decide +kernel
theorem dX4_chosen_52 : decode cX4_chosen 52 = .ok (.iload_n 2, 1) := by decide +kernel
theorem dX4_chosen_53 : decode cX4_chosen 53 = .ok (.iaload, 1) := by decide +kernel
theorem dX4_chosen_54 : decode cX4_chosen 54 = .ok (.iconst 2, 1) := by decide +kernel
theorem dX4_chosen_55 : decode cX4_chosen 55 = .ok (.if_icmp .ne 7, 3) := by decide +kernel
theorem dX4_chosen_58 : decode cX4_chosen 58 = .ok (.iconst 1, 1) := by decide +kernel
theorem dX4_chosen_59 : decode cX4_chosen 59 = .ok (.goto 4, 3) := by decide +kernel
theorem dX4_chosen_62 : decode cX4_chosen 62 = .ok (.iconst 0, 1) := by decide +kernel
theorem dX4_chosen_63 : decode cX4_chosen 63 = .ok (.istore_n 3, 1) := by decide +kernel
theorem dX4_chosen_64 : decode cX4_chosen 64 = .ok (.iload_n 1, 1) := by decide +kernel
theorem dX4_chosen_65 : decode cX4_chosen 65 = .ok (.ifCond .eq 26, 3) := by decide +kernel
theorem dX4_chosen_68 : decode cX4_chosen 68 = .ok (.aload_n 0, 1) := by decide +kernel
theorem dX4_chosen_69 : decode cX4_chosen 69 = .ok (.getfield 103, 3) := by decide +kernel
theorem dX4_chosen_72 : decode cX4_chosen 72 = .ok (.iconst 4, 1) := by decide +kernel
theorem dX4_chosen_73 : decode cX4_chosen 73 = .ok (.if_icmp .ne 22, 3) := by decide +kernel
theorem dX4_chosen_76 : decode cX4_chosen 76 = .ok (.aload_n 0, 1) := by decide +kernel
theorem dX4_chosen_77 : decode cX4_chosen 77 = .ok (.getfield 64, 3) := by decide +kernel
theorem dX4_chosen_80 : decode cX4_chosen 80 = .ok (.iload_n 2, 1) := by decide +kernel
theorem dX4_chosen_81 : decode cX4_chosen 81 = .ok (.iaload, 1) := by decide +kernel
theorem dX4_chosen_82 : decode cX4_chosen 82 = .ok (.aload_n 0, 1) := by decide +kernel
theorem dX4_chosen_83 : decode cX4_chosen 83 = .ok (.getfield 64, 3) := by decide +kernel
theorem dX4_chosen_86 : decode cX4_chosen 86 = .ok (.iload_n 1, 1) := by decide +kernel
theorem dX4_chosen_87 : decode cX4_chosen 87 = .ok (.iaload, 1) := by decide +kernel
theorem dX4_chosen_88 : decode cX4_chosen 88 = .ok (.if_icmp .le 7, 3) := by decide +kernel
theorem dX4_chosen_91 : decode cX4_chosen 91 = .ok (.iconst 1, 1) := by decide +kernel
theorem dX4_chosen_92 : decode cX4_chosen 92 = .ok (.goto 4, 3) := by decide +kernel
theorem dX4_chosen_95 : decode cX4_chosen 95 = .ok (.iconst 0, 1) := by decide +kernel
theorem dX4_chosen_96 : decode cX4_chosen 96 = .ok (.istore 4, 2) := by decide +kernel
theorem dX4_chosen_98 : decode cX4_chosen 98 = .ok (.iload_n 3, 1) := by decide +kernel
theorem dX4_chosen_99 : decode cX4_chosen 99 = .ok (.ifCond .eq 12, 3) := by decide +kernel
theorem dX4_chosen_102 : decode cX4_chosen 102 = .ok (.iload 4, 2) := by decide +kernel
theorem dX4_chosen_104 : decode cX4_chosen 104 = .ok (.ifCond .eq 7, 3) := by decide +kernel
theorem dX4_chosen_107 : decode cX4_chosen 107 = .ok (.iload_n 2, 1) := by decide +kernel
theorem dX4_chosen_108 : decode cX4_chosen 108 = .ok (.goto 4, 3) := by decide +kernel
theorem dX4_chosen_111 : decode cX4_chosen 111 = .ok (.iload_n 1, 1) := by decide +kernel
theorem dX4_chosen_112 : decode cX4_chosen 112 = .ok (.istore_n 1, 1) := by decide +kernel
theorem dX4_chosen_113 : decode cX4_chosen 113 = .ok (.iinc 2 1, 3) := by decide +kernel
theorem dX4_chosen_116 : decode cX4_chosen 116 = .ok (.goto (-112), 3) := by decide +kernel
theorem dX4_chosen_119 : decode cX4_chosen 119 = .ok (.iload_n 1, 1) := by decide +kernel
theorem dX4_chosen_120 : decode cX4_chosen 120 = .ok (.ireturn, 1) := by decide +kernel
set_option maxRecDepth 20000 in
theorem ggX4_passOver_X4_leastBase : GoodIn wsX4_passOver wsX4_leastBase := goodIn_r _ [8, 3, 9, 17, 18, 19, 20, 21, 22, 23, 24, 25, 26, 27, 28, 29, 30, 31, 32, 33, 34, 35, 36, 37, 38, 39, 40, 41, 42, 43, 44] (by decide +kernel) (by decide +kernel)
set_option maxRecDepth 20000 in
theorem gX4_passOver_X4_leastBase : GoodIn wsX4_passOver (wsV RX4 138 RX4 yX4_leastBase wsX4_leastBase) := goodIn_app (goodIn_of _ (by decide +kernel)) ggX4_passOver_X4_leastBase
set_option maxRecDepth 20000 in
theorem ggX4_passOver_X4_chosen : GoodIn wsX4_passOver wsX4_chosen := goodIn_r _ [13, 14, 1, 15, 16, 17, 18, 19, 20, 21, 22, 23, 24, 25, 26, 27, 28, 29, 30, 31, 32, 33, 34, 35, 36, 37, 38, 39, 40, 41, 42, 43, 44] (by decide +kernel) (by decide +kernel)
set_option maxRecDepth 20000 in
theorem gX4_passOver_X4_chosen : GoodIn wsX4_passOver (wsV RX4 141 RX4 yX4_chosen wsX4_chosen) := goodIn_app (goodIn_of _ (by decide +kernel)) ggX4_passOver_X4_chosen
theorem dX4_passOver_0 : decode cX4_passOver 0 = .ok (.aload_n 0, 1) := by decide +kernel
theorem dX4_passOver_1 : decode cX4_passOver 1 = .ok (.getfield 103, 3) := by decide +kernel
theorem dX4_passOver_4 : decode cX4_passOver 4 = .ok (.iconst 1, 1) := by decide +kernel
theorem dX4_passOver_5 : decode cX4_passOver 5 = .ok (.if_icmp .ne 27, 3) := by decide +kernel
theorem dX4_passOver_8 : decode cX4_passOver 8 = .ok (.aload_n 0, 1) := by decide +kernel
theorem dX4_passOver_9 : decode cX4_passOver 9 = .ok (.getfield 132, 3) := by decide +kernel
theorem dX4_passOver_12 : decode cX4_passOver 12 = .ok (.aload_n 0, 1) := by decide +kernel
theorem dX4_passOver_13 : decode cX4_passOver 13 = .ok (.getfield 78, 3) := by decide +kernel
theorem dX4_passOver_16 : decode cX4_passOver 16 = .ok (.if_icmp .le 16, 3) := by decide +kernel
theorem dX4_passOver_19 : decode cX4_passOver 19 = .ok (.aload_n 0, 1) := by decide +kernel
theorem dX4_passOver_20 : decode cX4_passOver 20 = .ok (.iconst 2, 1) := by decide +kernel
theorem dX4_passOver_21 : decode cX4_passOver 21 = .ok (.putfield 103, 3) := by decide +kernel
theorem dX4_passOver_24 : decode cX4_passOver 24 = .ok (.aload_n 0, 1) := by decide +kernel
theorem dX4_passOver_25 : decode cX4_passOver 25 = .ok (.aload_n 0, 1) := by decide +kernel
theorem dX4_passOver_26 : decode cX4_passOver 26 = .ok (.invokevirtual 138, 3) := by decide +kernel
theorem dX4_passOver_29 : decode cX4_passOver 29 = .ok (.putfield 132, 3) := by decide +kernel
theorem dX4_passOver_32 : decode cX4_passOver 32 = .ok (.aload_n 0, 1) := by decide +kernel
theorem dX4_passOver_33 : decode cX4_passOver 33 = .ok (.getfield 103, 3) := by decide +kernel
theorem dX4_passOver_36 : decode cX4_passOver 36 = .ok (.iconst 2, 1) := by decide +kernel
theorem dX4_passOver_37 : decode cX4_passOver 37 = .ok (.if_icmp .ne 19, 3) := by decide +kernel
theorem dX4_passOver_40 : decode cX4_passOver 40 = .ok (.aload_n 0, 1) := by decide +kernel
theorem dX4_passOver_41 : decode cX4_passOver 41 = .ok (.getfield 132, 3) := by decide +kernel
theorem dX4_passOver_44 : decode cX4_passOver 44 = .ok (.aload_n 0, 1) := by decide +kernel
theorem dX4_passOver_45 : decode cX4_passOver 45 = .ok (.getfield 78, 3) := by decide +kernel
theorem dX4_passOver_48 : decode cX4_passOver 48 = .ok (.if_icmp .le 8, 3) := by decide +kernel
theorem dX4_passOver_51 : decode cX4_passOver 51 = .ok (.aload_n 0, 1) := by decide +kernel
theorem dX4_passOver_52 : decode cX4_passOver 52 = .ok (.iconst 3, 1) := by decide +kernel
theorem dX4_passOver_53 : decode cX4_passOver 53 = .ok (.putfield 103, 3) := by decide +kernel
theorem dX4_passOver_56 : decode cX4_passOver 56 = .ok (.aload_n 0, 1) := by decide +kernel
theorem dX4_passOver_57 : decode cX4_passOver 57 = .ok (.getfield 103, 3) := by decide +kernel
theorem dX4_passOver_60 : decode cX4_passOver 60 = .ok (.iconst 3, 1) := by decide +kernel
theorem dX4_passOver_61 : decode cX4_passOver 61 = .ok (.if_icmp .ne 15, 3) := by decide +kernel
theorem dX4_passOver_64 : decode cX4_passOver 64 = .ok (.aload_n 0, 1) := by decide +kernel
theorem dX4_passOver_65 : decode cX4_passOver 65 = .ok (.invokevirtual 141, 3) := by decide +kernel
theorem dX4_passOver_68 : decode cX4_passOver 68 = .ok (.ifCond .ne 8, 3) := by decide +kernel
theorem dX4_passOver_71 : decode cX4_passOver 71 = .ok (.aload_n 0, 1) := by decide +kernel
theorem dX4_passOver_72 : decode cX4_passOver 72 = .ok (.iconst 4, 1) := by decide +kernel
theorem dX4_passOver_73 : decode cX4_passOver 73 = .ok (.putfield 103, 3) := by decide +kernel
theorem dX4_passOver_76 : decode cX4_passOver 76 = .ok (.aload_n 0, 1) := by decide +kernel
theorem dX4_passOver_77 : decode cX4_passOver 77 = .ok (.getfield 103, 3) := by decide +kernel
theorem dX4_passOver_80 : decode cX4_passOver 80 = .ok (.iconst 4, 1) := by decide +kernel
theorem dX4_passOver_81 : decode cX4_passOver 81 = .ok (.if_icmp .ne 15, 3) := by decide +kernel
theorem dX4_passOver_84 : decode cX4_passOver 84 = .ok (.aload_n 0, 1) := by decide +kernel
theorem dX4_passOver_85 : decode cX4_passOver 85 = .ok (.invokevirtual 141, 3) := by decide +kernel
theorem dX4_passOver_88 : decode cX4_passOver 88 = .ok (.ifCond .ne 8, 3) := by decide +kernel
theorem dX4_passOver_91 : decode cX4_passOver 91 = .ok (.aload_n 0, 1) := by decide +kernel
theorem dX4_passOver_92 : decode cX4_passOver 92 = .ok (.iconst 0, 1) := by decide +kernel
theorem dX4_passOver_93 : decode cX4_passOver 93 = .ok (.putfield 103, 3) := by decide +kernel
theorem dX4_passOver_96 : decode cX4_passOver 96 = .ok (.return_, 1) := by decide +kernel
set_option maxRecDepth 20000 in
theorem ggX4_lookThrough_X4_makeDirty : GoodIn wsX4_lookThrough wsX4_makeDirty := goodIn_r _ [19, 10, 20, 21, 22, 23, 24, 25, 26, 27, 28, 29, 30, 31, 32, 33, 34, 35, 36, 37, 38, 39, 40, 41, 42, 43, 44, 45, 46, 47] (by decide +kernel) (by decide +kernel)
set_option maxRecDepth 20000 in
theorem gX4_lookThrough_X4_makeDirty : GoodIn wsX4_lookThrough (wsV RX4 92 RX4 yX4_makeDirty wsX4_makeDirty) := goodIn_app (goodIn_of _ (by decide +kernel)) ggX4_lookThrough_X4_makeDirty
theorem dX4_lookThrough_0 : decode cX4_lookThrough 0 = .ok (.aload_n 0, 1) := by decide +kernel
theorem dX4_lookThrough_1 : decode cX4_lookThrough 1 = .ok (.getfield 67, 3) := by decide +kernel
theorem dX4_lookThrough_4 : decode cX4_lookThrough 4 = .ok (.iconst 0, 1) := by decide +kernel
theorem dX4_lookThrough_5 : decode cX4_lookThrough 5 = .ok (.dup2, 1) := by decide +kernel
theorem dX4_lookThrough_6 : decode cX4_lookThrough 6 = .ok (.iaload, 1) := by decide +kernel
theorem dX4_lookThrough_7 : decode cX4_lookThrough 7 = .ok (.iconst 1, 1) := by decide +kernel
theorem dX4_lookThrough_8 : decode cX4_lookThrough 8 = .ok (.iadd, 1) := by decide +kernel
theorem dX4_lookThrough_9 : decode cX4_lookThrough 9 = .ok (.iastore, 1) := by decide +kernel
theorem dX4_lookThrough_10 : decode cX4_lookThrough 10 = .ok (.iload_n 1, 1) := by decide +kernel
theorem dX4_lookThrough_11 : decode cX4_lookThrough 11 = .ok (.aload_n 0, 1) := by decide +kernel
theorem dX4_lookThrough_12 : decode cX4_lookThrough 12 = .ok (.getfield 129, 3) := by decide +kernel
theorem dX4_lookThrough_15 : decode cX4_lookThrough 15 = .ok (.if_icmp .ne 153, 3) := by decide +kernel
theorem dX4_lookThrough_18 : decode cX4_lookThrough 18 = .ok (.aload_n 0, 1) := by decide +kernel
theorem dX4_lookThrough_19 : decode cX4_lookThrough 19 = .ok (.getfield 28, 3) := by decide +kernel
theorem dX4_lookThrough_22 : decode cX4_lookThrough 22 = .ok (.iload_n 1, 1) := by decide +kernel
theorem dX4_lookThrough_23 : decode cX4_lookThrough 23 = .ok (.iaload, 1) := by decide +kernel
theorem dX4_lookThrough_24 : decode cX4_lookThrough 24 = .ok (.istore_n 2, 1) := by decide +kernel
theorem dX4_lookThrough_25 : decode cX4_lookThrough 25 = .ok (.iconst 1, 1) := by decide +kernel
theorem dX4_lookThrough_26 : decode cX4_lookThrough 26 = .ok (.istore_n 3, 1) := by decide +kernel
theorem dX4_lookThrough_27 : decode cX4_lookThrough 27 = .ok (.iload_n 3, 1) := by decide +kernel
theorem dX4_lookThrough_28 : decode cX4_lookThrough 28 = .ok (.sipush 200, 3) := by decide +kernel
theorem dX4_lookThrough_31 : decode cX4_lookThrough 31 = .ok (.if_icmp .gt 87, 3) := by decide +kernel
theorem dX4_lookThrough_34 : decode cX4_lookThrough 34 = .ok (.aload_n 0, 1) := by decide +kernel
theorem dX4_lookThrough_35 : decode cX4_lookThrough 35 = .ok (.getfield 58, 3) := by decide +kernel
theorem dX4_lookThrough_38 : decode cX4_lookThrough 38 = .ok (.iload_n 3, 1) := by decide +kernel
theorem dX4_lookThrough_39 : decode cX4_lookThrough 39 = .ok (.iaload, 1) := by decide +kernel
theorem dX4_lookThrough_40 : decode cX4_lookThrough 40 = .ok (.ifCond .ne 72, 3) := by decide +kernel
theorem dX4_lookThrough_43 : decode cX4_lookThrough 43 = .ok (.aload_n 0, 1) := by decide +kernel
theorem dX4_lookThrough_44 : decode cX4_lookThrough 44 = .ok (.getfield 31, 3) := by decide +kernel
theorem dX4_lookThrough_47 : decode cX4_lookThrough 47 = .ok (.sipush 201, 3) := by decide +kernel
theorem dX4_lookThrough_50 : decode cX4_lookThrough 50 = .ok (.iload_n 2, 1) := by decide +kernel
theorem dX4_lookThrough_51 : decode cX4_lookThrough 51 = .ok (.imul, 1) := by decide +kernel
theorem dX4_lookThrough_52 : decode cX4_lookThrough 52 = .ok (.iload_n 3, 1) := by decide +kernel
theorem dX4_lookThrough_53 : decode cX4_lookThrough 53 = .ok (.iadd, 1) := by decide +kernel
theorem dX4_lookThrough_54 : decode cX4_lookThrough 54 = .ok (.iaload, 1) := by decide +kernel
theorem dX4_lookThrough_55 : decode cX4_lookThrough 55 = .ok (.ifCond .le 57, 3) := by decide +kernel
theorem dX4_lookThrough_58 : decode cX4_lookThrough 58 = .ok (.aload_n 0, 1) := by decide +kernel
theorem dX4_lookThrough_59 : decode cX4_lookThrough 59 = .ok (.getfield 58, 3) := by decide +kernel
theorem dX4_lookThrough_62 : decode cX4_lookThrough 62 = .ok (.iload_n 3, 1) := by decide +kernel
theorem dX4_lookThrough_63 : decode cX4_lookThrough 63 = .ok (.aload_n 0, 1) := by decide +kernel
theorem dX4_lookThrough_64 : decode cX4_lookThrough 64 = .ok (.getfield 31, 3) := by decide +kernel
theorem dX4_lookThrough_67 : decode cX4_lookThrough 67 = .ok (.sipush 201, 3) := by decide +kernel
theorem dX4_lookThrough_70 : decode cX4_lookThrough 70 = .ok (.iload_n 2, 1) := by decide +kernel
theorem dX4_lookThrough_71 : decode cX4_lookThrough 71 = .ok (.imul, 1) := by decide +kernel
theorem dX4_lookThrough_72 : decode cX4_lookThrough 72 = .ok (.iload_n 3, 1) := by decide +kernel
theorem dX4_lookThrough_73 : decode cX4_lookThrough 73 = .ok (.iadd, 1) := by decide +kernel
theorem dX4_lookThrough_74 : decode cX4_lookThrough 74 = .ok (.iaload, 1) := by decide +kernel
theorem dX4_lookThrough_75 : decode cX4_lookThrough 75 = .ok (.iastore, 1) := by decide +kernel
theorem dX4_lookThrough_76 : decode cX4_lookThrough 76 = .ok (.aload_n 0, 1) := by decide +kernel
theorem dX4_lookThrough_77 : decode cX4_lookThrough 77 = .ok (.getfield 61, 3) := by decide +kernel
theorem dX4_lookThrough_80 : decode cX4_lookThrough 80 = .ok (.iload_n 3, 1) := by decide +kernel
theorem dX4_lookThrough_81 : decode cX4_lookThrough 81 = .ok (.aload_n 0, 1) := by decide +kernel
theorem dX4_lookThrough_82 : decode cX4_lookThrough 82 = .ok (.getfield 34, 3) := by decide +kernel
theorem dX4_lookThrough_85 : decode cX4_lookThrough 85 = .ok (.sipush 201, 3) := by decide +kernel
theorem dX4_lookThrough_88 : decode cX4_lookThrough 88 = .ok (.iload_n 2, 1) := by decide +kernel
theorem dX4_lookThrough_89 : decode cX4_lookThrough 89 = .ok (.imul, 1) := by decide +kernel
theorem dX4_lookThrough_90 : decode cX4_lookThrough 90 = .ok (.iload_n 3, 1) := by decide +kernel
theorem dX4_lookThrough_91 : decode cX4_lookThrough 91 = .ok (.iadd, 1) := by decide +kernel
theorem dX4_lookThrough_92 : decode cX4_lookThrough 92 = .ok (.iaload, 1) := by decide +kernel
theorem dX4_lookThrough_93 : decode cX4_lookThrough 93 = .ok (.iastore, 1) := by decide +kernel
theorem dX4_lookThrough_94 : decode cX4_lookThrough 94 = .ok (.aload_n 0, 1) := by decide +kernel
theorem dX4_lookThrough_95 : decode cX4_lookThrough 95 = .ok (.getfield 64, 3) := by decide +kernel
theorem dX4_lookThrough_98 : decode cX4_lookThrough 98 = .ok (.iload_n 3, 1) := by decide +kernel
theorem dX4_lookThrough_99 : decode cX4_lookThrough 99 = .ok (.aload_n 0, 1) := by decide +kernel
theorem dX4_lookThrough_100 : decode cX4_lookThrough 100 = .ok (.getfield 37, 3) := by decide +kernel
theorem dX4_lookThrough_103 : decode cX4_lookThrough 103 = .ok (.sipush 201, 3) := by decide +kernel
theorem dX4_lookThrough_106 : decode cX4_lookThrough 106 = .ok (.iload_n 2, 1) := by decide +kernel
theorem dX4_lookThrough_107 : decode cX4_lookThrough 107 = .ok (.imul, 1) := by decide +kernel
theorem dX4_lookThrough_108 : decode cX4_lookThrough 108 = .ok (.iload_n 3, 1) := by decide +kernel
theorem dX4_lookThrough_109 : decode cX4_lookThrough 109 = .ok (.iadd, 1) := by decide +kernel
theorem dX4_lookThrough_110 : decode cX4_lookThrough 110 = .ok (.iaload, 1) := by decide +kernel
theorem dX4_lookThrough_111 : decode cX4_lookThrough 111 = .ok (.iastore, 1) := by decide +kernel
theorem dX4_lookThrough_112 : decode cX4_lookThrough 112 = .ok (.iinc 3 1, 3) := by decide +kernel
theorem dX4_lookThrough_115 : decode cX4_lookThrough 115 = .ok (.goto (-88), 3) := by decide +kernel
theorem dX4_lookThrough_118 : decode cX4_lookThrough 118 = .ok (.iconst 0, 1) := by decide +kernel
theorem dX4_lookThrough_119 : decode cX4_lookThrough 119 = .ok (.istore_n 3, 1) := by decide +kernel
theorem dX4_lookThrough_120 : decode cX4_lookThrough 120 = .ok (.iload_n 3, 1) := by decide +kernel
theorem dX4_lookThrough_121 : decode cX4_lookThrough 121 = .ok (.bipush 64, 2) := by decide +kernel
theorem dX4_lookThrough_123 : decode cX4_lookThrough 123 = .ok (.if_icmp .ge 45, 3) := by decide +kernel
theorem dX4_lookThrough_126 : decode cX4_lookThrough 126 = .ok (.aload_n 0, 1) := by decide +kernel
theorem dX4_lookThrough_127 : decode cX4_lookThrough 127 = .ok (.getfield 49, 3) := by decide +kernel
theorem dX4_lookThrough_130 : decode cX4_lookThrough 130 = .ok (.iload_n 3, 1) := by decide +kernel
theorem dX4_lookThrough_131 : decode cX4_lookThrough 131 = .ok (.aload_n 0, 1) := by decide +kernel
theorem dX4_lookThrough_132 : decode cX4_lookThrough 132 = .ok (.getfield 49, 3) := by decide +kernel
theorem dX4_lookThrough_135 : decode cX4_lookThrough 135 = .ok (.iload_n 3, 1) := by decide +kernel
theorem dX4_lookThrough_136 : decode cX4_lookThrough 136 = .ok (.iaload, 1) := by decide +kernel
theorem dX4_lookThrough_137 : decode cX4_lookThrough 137 = .ok (.iconst (-1), 1) := by decide +kernel
theorem dX4_lookThrough_138 : decode cX4_lookThrough 138 = .ok (.if_icmp .ne 17, 3) := by decide +kernel
theorem dX4_lookThrough_141 : decode cX4_lookThrough 141 = .ok (.aload_n 0, 1) := by decide +kernel
theorem dX4_lookThrough_142 : decode cX4_lookThrough 142 = .ok (.getfield 40, 3) := by decide +kernel
theorem dX4_lookThrough_145 : decode cX4_lookThrough 145 = .ok (.bipush 64, 2) := by decide +kernel
theorem dX4_lookThrough_147 : decode cX4_lookThrough 147 = .ok (.iload_n 2, 1) := by decide +kernel
theorem dX4_lookThrough_148 : decode cX4_lookThrough 148 = .ok (.imul, 1) := by decide +kernel
theorem dX4_lookThrough_149 : decode cX4_lookThrough 149 = .ok (.iload_n 3, 1) := by decide +kernel
theorem dX4_lookThrough_150 : decode cX4_lookThrough 150 = .ok (.iadd, 1) := by decide +kernel
theorem dX4_lookThrough_151 : decode cX4_lookThrough 151 = .ok (.iaload, 1) := by decide +kernel
theorem dX4_lookThrough_152 : decode cX4_lookThrough 152 = .ok (.goto 9, 3) := by decide +kernel
theorem dX4_lookThrough_155 : decode cX4_lookThrough 155 = .ok (.aload_n 0, 1) := by decide +kernel
theorem dX4_lookThrough_156 : decode cX4_lookThrough 156 = .ok (.getfield 49, 3) := by decide +kernel
theorem dX4_lookThrough_159 : decode cX4_lookThrough 159 = .ok (.iload_n 3, 1) := by decide +kernel
theorem dX4_lookThrough_160 : decode cX4_lookThrough 160 = .ok (.iaload, 1) := by decide +kernel
theorem dX4_lookThrough_161 : decode cX4_lookThrough 161 = .ok (.iastore, 1) := by decide +kernel
theorem dX4_lookThrough_162 : decode cX4_lookThrough 162 = .ok (.iinc 3 1, 3) := by decide +kernel
theorem dX4_lookThrough_165 : decode cX4_lookThrough 165 = .ok (.goto (-45), 3) := by decide +kernel
theorem dX4_lookThrough_168 : decode cX4_lookThrough 168 = .ok (.aload_n 0, 1) := by decide +kernel
theorem dX4_lookThrough_169 : decode cX4_lookThrough 169 = .ok (.getfield 13, 3) := by decide +kernel
theorem dX4_lookThrough_172 : decode cX4_lookThrough 172 = .ok (.iload_n 1, 1) := by decide +kernel
theorem dX4_lookThrough_173 : decode cX4_lookThrough 173 = .ok (.iaload, 1) := by decide +kernel
theorem dX4_lookThrough_174 : decode cX4_lookThrough 174 = .ok (.istore_n 2, 1) := by decide +kernel
theorem dX4_lookThrough_175 : decode cX4_lookThrough 175 = .ok (.iload_n 2, 1) := by decide +kernel
theorem dX4_lookThrough_176 : decode cX4_lookThrough 176 = .ok (.ifCond .ne 4, 3) := by decide +kernel
theorem dX4_lookThrough_179 : decode cX4_lookThrough 179 = .ok (.return_, 1) := by decide +kernel
theorem dX4_lookThrough_180 : decode cX4_lookThrough 180 = .ok (.aload_n 0, 1) := by decide +kernel
theorem dX4_lookThrough_181 : decode cX4_lookThrough 181 = .ok (.getfield 58, 3) := by decide +kernel
theorem dX4_lookThrough_184 : decode cX4_lookThrough 184 = .ok (.iload_n 2, 1) := by decide +kernel
theorem dX4_lookThrough_185 : decode cX4_lookThrough 185 = .ok (.iaload, 1) := by decide +kernel
theorem dX4_lookThrough_186 : decode cX4_lookThrough 186 = .ok (.ifCond .ne 17, 3) := by decide +kernel
theorem dX4_lookThrough_189 : decode cX4_lookThrough 189 = .ok (.aload_n 0, 1) := by decide +kernel
theorem dX4_lookThrough_190 : decode cX4_lookThrough 190 = .ok (.getfield 58, 3) := by decide +kernel
theorem dX4_lookThrough_193 : decode cX4_lookThrough 193 = .ok (.iload_n 2, 1) := by decide +kernel
theorem dX4_lookThrough_194 : decode cX4_lookThrough 194 = .ok (.iconst 1, 1) := by decide +kernel
theorem dX4_lookThrough_195 : decode cX4_lookThrough 195 = .ok (.iastore, 1) := by decide +kernel
theorem dX4_lookThrough_196 : decode cX4_lookThrough 196 = .ok (.aload_n 0, 1) := by decide +kernel
theorem dX4_lookThrough_197 : decode cX4_lookThrough 197 = .ok (.getfield 64, 3) := by decide +kernel
theorem dX4_lookThrough_200 : decode cX4_lookThrough 200 = .ok (.iload_n 2, 1) := by decide +kernel
theorem dX4_lookThrough_201 : decode cX4_lookThrough 201 = .ok (.iconst 0, 1) := by decide +kernel
theorem dX4_lookThrough_202 : decode cX4_lookThrough 202 = .ok (.iastore, 1) := by decide +kernel
theorem dX4_lookThrough_203 : decode cX4_lookThrough 203 = .ok (.aload_n 0, 1) := by decide +kernel
theorem dX4_lookThrough_204 : decode cX4_lookThrough 204 = .ok (.getfield 61, 3) := by decide +kernel
theorem dX4_lookThrough_207 : decode cX4_lookThrough 207 = .ok (.iload_n 2, 1) := by decide +kernel
theorem dX4_lookThrough_208 : decode cX4_lookThrough 208 = .ok (.iload_n 1, 1) := by decide +kernel
theorem dX4_lookThrough_209 : decode cX4_lookThrough 209 = .ok (.iastore, 1) := by decide +kernel
theorem dX4_lookThrough_210 : decode cX4_lookThrough 210 = .ok (.aload_n 0, 1) := by decide +kernel
theorem dX4_lookThrough_211 : decode cX4_lookThrough 211 = .ok (.getfield 7, 3) := by decide +kernel
theorem dX4_lookThrough_214 : decode cX4_lookThrough 214 = .ok (.iload_n 1, 1) := by decide +kernel
theorem dX4_lookThrough_215 : decode cX4_lookThrough 215 = .ok (.iaload, 1) := by decide +kernel
theorem dX4_lookThrough_216 : decode cX4_lookThrough 216 = .ok (.tableswitch 117 1 6 #[40, 61, 87, 97, 117, 107], 40) := by decide +kernel
theorem dX4_lookThrough_256 : decode cX4_lookThrough 256 = .ok (.aload_n 0, 1) := by decide +kernel
theorem dX4_lookThrough_257 : decode cX4_lookThrough 257 = .ok (.getfield 64, 3) := by decide +kernel
theorem dX4_lookThrough_260 : decode cX4_lookThrough 260 = .ok (.iload_n 2, 1) := by decide +kernel
theorem dX4_lookThrough_261 : decode cX4_lookThrough 261 = .ok (.iload_n 1, 1) := by decide +kernel
theorem dX4_lookThrough_262 : decode cX4_lookThrough 262 = .ok (.iastore, 1) := by decide +kernel
theorem dX4_lookThrough_263 : decode cX4_lookThrough 263 = .ok (.aload_n 0, 1) := by decide +kernel
theorem dX4_lookThrough_264 : decode cX4_lookThrough 264 = .ok (.aload_n 0, 1) := by decide +kernel
theorem dX4_lookThrough_265 : decode cX4_lookThrough 265 = .ok (.getfield 19, 3) := by decide +kernel
theorem dX4_lookThrough_268 : decode cX4_lookThrough 268 = .ok (.iload_n 1, 1) := by decide +kernel
theorem dX4_lookThrough_269 : decode cX4_lookThrough 269 = .ok (.iaload, 1) := by decide +kernel
theorem dX4_lookThrough_270 : decode cX4_lookThrough 270 = .ok (.iload_n 1, 1) := by decide +kernel
theorem dX4_lookThrough_271 : decode cX4_lookThrough 271 = .ok (.invokevirtual 92, 3) := by decide +kernel
theorem dX4_lookThrough_274 : decode cX4_lookThrough 274 = .ok (.goto 66, 3) := by decide +kernel
theorem dX4_lookThrough_277 : decode cX4_lookThrough 277 = .ok (.aload_n 0, 1) := by decide +kernel
theorem dX4_lookThrough_278 : decode cX4_lookThrough 278 = .ok (.getfield 64, 3) := by decide +kernel
theorem dX4_lookThrough_281 : decode cX4_lookThrough 281 = .ok (.iload_n 2, 1) := by decide +kernel
theorem dX4_lookThrough_282 : decode cX4_lookThrough 282 = .ok (.aload_n 0, 1) := by decide +kernel
theorem dX4_lookThrough_283 : decode cX4_lookThrough 283 = .ok (.getfield 28, 3) := by decide +kernel
theorem dX4_lookThrough_286 : decode cX4_lookThrough 286 = .ok (.iload_n 1, 1) := by decide +kernel
theorem dX4_lookThrough_287 : decode cX4_lookThrough 287 = .ok (.iaload, 1) := by decide +kernel
theorem dX4_lookThrough_288 : decode cX4_lookThrough 288 = .ok (.iastore, 1) := by decide +kernel
theorem dX4_lookThrough_289 : decode cX4_lookThrough 289 = .ok (.aload_n 0, 1) := by decide +kernel
theorem dX4_lookThrough_290 : decode cX4_lookThrough 290 = .ok (.aload_n 0, 1) := by decide +kernel
theorem dX4_lookThrough_291 : decode cX4_lookThrough 291 = .ok (.getfield 19, 3) := by decide +kernel
theorem dX4_lookThrough_294 : decode cX4_lookThrough 294 = .ok (.iload_n 1, 1) := by decide +kernel
theorem dX4_lookThrough_295 : decode cX4_lookThrough 295 = .ok (.iaload, 1) := by decide +kernel
theorem dX4_lookThrough_296 : decode cX4_lookThrough 296 = .ok (.iload_n 1, 1) := by decide +kernel
theorem dX4_lookThrough_297 : decode cX4_lookThrough 297 = .ok (.invokevirtual 92, 3) := by decide +kernel
theorem dX4_lookThrough_300 : decode cX4_lookThrough 300 = .ok (.goto 40, 3) := by decide +kernel
theorem dX4_lookThrough_303 : decode cX4_lookThrough 303 = .ok (.aload_n 0, 1) := by decide +kernel
theorem dX4_lookThrough_304 : decode cX4_lookThrough 304 = .ok (.getfield 58, 3) := by decide +kernel
theorem dX4_lookThrough_307 : decode cX4_lookThrough 307 = .ok (.iload_n 2, 1) := by decide +kernel
theorem dX4_lookThrough_308 : decode cX4_lookThrough 308 = .ok (.iconst 4, 1) := by decide +kernel
theorem dX4_lookThrough_309 : decode cX4_lookThrough 309 = .ok (.iastore, 1) := by decide +kernel
theorem dX4_lookThrough_310 : decode cX4_lookThrough 310 = .ok (.goto 30, 3) := by decide +kernel
theorem dX4_lookThrough_313 : decode cX4_lookThrough 313 = .ok (.aload_n 0, 1) := by decide +kernel
theorem dX4_lookThrough_314 : decode cX4_lookThrough 314 = .ok (.getfield 58, 3) := by decide +kernel
theorem dX4_lookThrough_317 : decode cX4_lookThrough 317 = .ok (.iload_n 2, 1) := by decide +kernel
theorem dX4_lookThrough_318 : decode cX4_lookThrough 318 = .ok (.iconst 2, 1) := by decide +kernel
theorem dX4_lookThrough_319 : decode cX4_lookThrough 319 = .ok (.iastore, 1) := by decide +kernel
theorem dX4_lookThrough_320 : decode cX4_lookThrough 320 = .ok (.goto 20, 3) := by decide +kernel
theorem dX4_lookThrough_323 : decode cX4_lookThrough 323 = .ok (.aload_n 0, 1) := by decide +kernel
theorem dX4_lookThrough_324 : decode cX4_lookThrough 324 = .ok (.getfield 58, 3) := by decide +kernel
theorem dX4_lookThrough_327 : decode cX4_lookThrough 327 = .ok (.iload_n 2, 1) := by decide +kernel
theorem dX4_lookThrough_328 : decode cX4_lookThrough 328 = .ok (.iconst 3, 1) := by decide +kernel
theorem dX4_lookThrough_329 : decode cX4_lookThrough 329 = .ok (.iastore, 1) := by decide +kernel
theorem dX4_lookThrough_330 : decode cX4_lookThrough 330 = .ok (.goto 10, 3) := by decide +kernel
theorem dX4_lookThrough_333 : decode cX4_lookThrough 333 = .ok (.aload_n 0, 1) := by decide +kernel
theorem dX4_lookThrough_334 : decode cX4_lookThrough 334 = .ok (.getfield 58, 3) := by decide +kernel
theorem dX4_lookThrough_337 : decode cX4_lookThrough 337 = .ok (.iload_n 2, 1) := by decide +kernel
theorem dX4_lookThrough_338 : decode cX4_lookThrough 338 = .ok (.iconst 0, 1) := by decide +kernel
theorem dX4_lookThrough_339 : decode cX4_lookThrough 339 = .ok (.iastore, 1) := by decide +kernel
theorem dX4_lookThrough_340 : decode cX4_lookThrough 340 = .ok (.return_, 1) := by decide +kernel
set_option maxRecDepth 20000 in
theorem ggX4_doAgain_X4_apply : GoodIn wsX4_doAgain wsX4_apply := goodIn_r _ [10, 2, 11, 12, 13, 4, 14, 15, 16, 17, 18, 19, 20, 21, 22, 23, 24, 25, 26, 27, 28, 29, 30, 31, 32, 33, 34, 35, 36, 37, 38, 39, 40, 41] (by decide +kernel) (by decide +kernel)
set_option maxRecDepth 20000 in
theorem gX4_doAgain_X4_apply : GoodIn wsX4_doAgain (wsV RX4 96 RX4 yX4_apply wsX4_apply) := goodIn_app (goodIn_of _ (by decide +kernel)) ggX4_doAgain_X4_apply
theorem dX4_doAgain_0 : decode cX4_doAgain 0 = .ok (.aload_n 0, 1) := by decide +kernel
theorem dX4_doAgain_1 : decode cX4_doAgain 1 = .ok (.getfield 7, 3) := by decide +kernel
theorem dX4_doAgain_4 : decode cX4_doAgain 4 = .ok (.iload_n 1, 1) := by decide +kernel
theorem dX4_doAgain_5 : decode cX4_doAgain 5 = .ok (.iaload, 1) := by decide +kernel
theorem dX4_doAgain_6 : decode cX4_doAgain 6 = .ok (.iconst 1, 1) := by decide +kernel
theorem dX4_doAgain_7 : decode cX4_doAgain 7 = .ok (.if_icmp .eq 14, 3) := by decide +kernel
theorem dX4_doAgain_10 : decode cX4_doAgain 10 = .ok (.aload_n 0, 1) := by decide +kernel
theorem dX4_doAgain_11 : decode cX4_doAgain 11 = .ok (.getfield 7, 3) := by decide +kernel
theorem dX4_doAgain_14 : decode cX4_doAgain 14 = .ok (.iload_n 1, 1) := by decide +kernel
theorem dX4_doAgain_15 : decode cX4_doAgain 15 = .ok (.iaload, 1) := by decide +kernel
theorem dX4_doAgain_16 : decode cX4_doAgain 16 = .ok (.iconst 2, 1) := by decide +kernel
theorem dX4_doAgain_17 : decode cX4_doAgain 17 = .ok (.if_icmp .eq 4, 3) := by decide +kernel
theorem dX4_doAgain_20 : decode cX4_doAgain 20 = .ok (.return_, 1) := by decide +kernel
theorem dX4_doAgain_21 : decode cX4_doAgain 21 = .ok (.aload_n 0, 1) := by decide +kernel
theorem dX4_doAgain_22 : decode cX4_doAgain 22 = .ok (.getfield 19, 3) := by decide +kernel
theorem dX4_doAgain_25 : decode cX4_doAgain 25 = .ok (.iload_n 1, 1) := by decide +kernel
theorem dX4_doAgain_26 : decode cX4_doAgain 26 = .ok (.iaload, 1) := by decide +kernel
theorem dX4_doAgain_27 : decode cX4_doAgain 27 = .ok (.istore_n 2, 1) := by decide +kernel
theorem dX4_doAgain_28 : decode cX4_doAgain 28 = .ok (.aload_n 0, 1) := by decide +kernel
theorem dX4_doAgain_29 : decode cX4_doAgain 29 = .ok (.getfield 49, 3) := by decide +kernel
theorem dX4_doAgain_32 : decode cX4_doAgain 32 = .ok (.iload_n 2, 1) := by decide +kernel
theorem dX4_doAgain_33 : decode cX4_doAgain 33 = .ok (.iaload, 1) := by decide +kernel
theorem dX4_doAgain_34 : decode cX4_doAgain 34 = .ok (.iconst (-1), 1) := by decide +kernel
theorem dX4_doAgain_35 : decode cX4_doAgain 35 = .ok (.if_icmp .eq 27, 3) := by decide +kernel
theorem dX4_doAgain_38 : decode cX4_doAgain 38 = .ok (.aload_n 0, 1) := by decide +kernel
theorem dX4_doAgain_39 : decode cX4_doAgain 39 = .ok (.getfield 49, 3) := by decide +kernel
theorem dX4_doAgain_42 : decode cX4_doAgain 42 = .ok (.iload_n 2, 1) := by decide +kernel
theorem dX4_doAgain_43 : decode cX4_doAgain 43 = .ok (.iaload, 1) := by decide +kernel
theorem dX4_doAgain_44 : decode cX4_doAgain 44 = .ok (.iload_n 1, 1) := by decide +kernel
theorem dX4_doAgain_45 : decode cX4_doAgain 45 = .ok (.if_icmp .gt 17, 3) := by decide +kernel
theorem dX4_doAgain_48 : decode cX4_doAgain 48 = .ok (.aload_n 0, 1) := by decide +kernel
theorem dX4_doAgain_49 : decode cX4_doAgain 49 = .ok (.getfield 46, 3) := by decide +kernel
theorem dX4_doAgain_52 : decode cX4_doAgain 52 = .ok (.iload_n 2, 1) := by decide +kernel
theorem dX4_doAgain_53 : decode cX4_doAgain 53 = .ok (.iaload, 1) := by decide +kernel
theorem dX4_doAgain_54 : decode cX4_doAgain 54 = .ok (.iload_n 1, 1) := by decide +kernel
theorem dX4_doAgain_55 : decode cX4_doAgain 55 = .ok (.if_icmp .ge 7, 3) := by decide +kernel
theorem dX4_doAgain_58 : decode cX4_doAgain 58 = .ok (.iconst 1, 1) := by decide +kernel
theorem dX4_doAgain_59 : decode cX4_doAgain 59 = .ok (.goto 4, 3) := by decide +kernel
theorem dX4_doAgain_62 : decode cX4_doAgain 62 = .ok (.iconst 0, 1) := by decide +kernel
theorem dX4_doAgain_63 : decode cX4_doAgain 63 = .ok (.istore_n 3, 1) := by decide +kernel
theorem dX4_doAgain_64 : decode cX4_doAgain 64 = .ok (.iload_n 3, 1) := by decide +kernel
theorem dX4_doAgain_65 : decode cX4_doAgain 65 = .ok (.ifCond .eq 8, 3) := by decide +kernel
theorem dX4_doAgain_68 : decode cX4_doAgain 68 = .ok (.aload_n 0, 1) := by decide +kernel
theorem dX4_doAgain_69 : decode cX4_doAgain 69 = .ok (.iload_n 1, 1) := by decide +kernel
theorem dX4_doAgain_70 : decode cX4_doAgain 70 = .ok (.invokevirtual 96, 3) := by decide +kernel
theorem dX4_doAgain_73 : decode cX4_doAgain 73 = .ok (.aload_n 0, 1) := by decide +kernel
theorem dX4_doAgain_74 : decode cX4_doAgain 74 = .ok (.getfield 67, 3) := by decide +kernel
theorem dX4_doAgain_77 : decode cX4_doAgain 77 = .ok (.iload_n 3, 1) := by decide +kernel
theorem dX4_doAgain_78 : decode cX4_doAgain 78 = .ok (.ifCond .eq 7, 3) := by decide +kernel
theorem dX4_doAgain_81 : decode cX4_doAgain 81 = .ok (.iconst 1, 1) := by decide +kernel
theorem dX4_doAgain_82 : decode cX4_doAgain 82 = .ok (.goto 4, 3) := by decide +kernel
theorem dX4_doAgain_85 : decode cX4_doAgain 85 = .ok (.iconst 2, 1) := by decide +kernel
theorem dX4_doAgain_86 : decode cX4_doAgain 86 = .ok (.dup2, 1) := by decide +kernel
theorem dX4_doAgain_87 : decode cX4_doAgain 87 = .ok (.iaload, 1) := by decide +kernel
theorem dX4_doAgain_88 : decode cX4_doAgain 88 = .ok (.iconst 1, 1) := by decide +kernel
theorem dX4_doAgain_89 : decode cX4_doAgain 89 = .ok (.iadd, 1) := by decide +kernel
theorem dX4_doAgain_90 : decode cX4_doAgain 90 = .ok (.iastore, 1) := by decide +kernel
theorem dX4_doAgain_91 : decode cX4_doAgain 91 = .ok (.return_, 1) := by decide +kernel
set_option maxRecDepth 20000 in
theorem ggX4_step_X4_lookThrough : GoodIn wsX4_step wsX4_lookThrough := goodIn_r _ [9, 4, 10, 11, 12, 13, 14, 15, 3, 16, 17, 18, 19, 20, 21, 22, 23, 24, 8, 25, 69, 70, 71, 72, 73, 74, 75, 76, 77, 78, 79, 80, 81, 82, 83, 84, 85, 86, 87, 88, 89, 90, 91, 92, 93, 94, 95, 96] (by decide +kernel) (by decide +kernel)
set_option maxRecDepth 20000 in
theorem gX4_step_X4_lookThrough : GoodIn wsX4_step (wsV RX4 144 RX4 yX4_lookThrough wsX4_lookThrough) := goodIn_app (goodIn_of _ (by decide +kernel)) ggX4_step_X4_lookThrough
set_option maxRecDepth 20000 in
theorem ggX4_step_X4_doAgain : GoodIn wsX4_step wsX4_doAgain := goodIn_r _ [29, 20, 21, 17, 30, 4, 31, 32, 33, 8, 34, 35, 36, 37, 69, 70, 71, 72, 73, 74, 75, 76, 77, 78, 79, 80, 81, 82, 83, 84, 85, 86, 87, 88, 89, 90, 91, 92, 93, 94, 95, 96] (by decide +kernel) (by decide +kernel)
set_option maxRecDepth 20000 in
theorem gX4_step_X4_doAgain : GoodIn wsX4_step (wsV RX4 147 RX4 yX4_doAgain wsX4_doAgain) := goodIn_app (goodIn_of _ (by decide +kernel)) ggX4_step_X4_doAgain
set_option maxRecDepth 20000 in
theorem ggX4_step_X4_chosen : GoodIn wsX4_step wsX4_chosen := goodIn_r _ [41, 42, 1, 12, 3, 69, 70, 71, 72, 73, 74, 75, 76, 77, 78, 79, 80, 81, 82, 83, 84, 85, 86, 87, 88, 89, 90, 91, 92, 93, 94, 95, 96] (by decide +kernel) (by decide +kernel)
set_option maxRecDepth 20000 in
theorem gX4_step_X4_chosen : GoodIn wsX4_step (wsV RX4 141 RX4 yX4_chosen wsX4_chosen) := goodIn_app (goodIn_of _ (by decide +kernel)) ggX4_step_X4_chosen
set_option maxRecDepth 20000 in
theorem ggX4_step_X4_giveBack : GoodIn wsX4_step wsX4_giveBack := goodIn_r _ [46, 3, 21, 36, 37, 11, 47, 48, 49, 50, 8, 51, 52, 20, 19, 14, 53, 54, 55, 56, 22, 23, 24, 25, 17, 31, 32, 33, 34, 35, 30, 69, 70, 71, 72, 73, 74, 75, 76, 77, 78, 79, 80, 81, 82, 83, 84, 85, 86, 87, 88, 89, 90, 91, 92, 93, 94, 95, 96] (by decide +kernel) (by decide +kernel)
set_option maxRecDepth 20000 in
theorem gX4_step_X4_giveBack : GoodIn wsX4_step (wsV RX4 100 RX4 yX4_giveBack wsX4_giveBack) := goodIn_app (goodIn_of _ (by decide +kernel)) ggX4_step_X4_giveBack
set_option maxRecDepth 20000 in
theorem ggX4_step_X4_end : GoodIn wsX4_step wsX4_end := goodIn_r _ [60, 12, 48, 49, 50, 8, 51, 52, 20, 19, 47, 14, 21, 36, 37, 11, 69, 70, 71, 72, 73, 74, 75, 76, 77, 78, 79, 80, 81, 82, 83, 84, 85, 86, 87, 88, 89, 90, 91, 92, 93, 94, 95, 96] (by decide +kernel) (by decide +kernel)
set_option maxRecDepth 20000 in
theorem gX4_step_X4_end : GoodIn wsX4_step (wsV RX4 123 RX4 yX4_end wsX4_end) := goodIn_app (goodIn_of _ (by decide +kernel)) ggX4_step_X4_end
set_option maxRecDepth 20000 in
theorem ggX4_step_X4_passOver : GoodIn wsX4_step wsX4_passOver := goodIn_r _ [64, 1, 2, 52, 65, 66, 67, 8, 68, 17, 38, 39, 40, 41, 42, 12, 3, 69, 70, 71, 72, 73, 74, 75, 76, 77, 78, 79, 80, 81, 82, 83, 84, 85, 86, 87, 88, 89, 90, 91, 92, 93, 94, 95, 96] (by decide +kernel) (by decide +kernel)
set_option maxRecDepth 20000 in
theorem gX4_step_X4_passOver : GoodIn wsX4_step (wsV RX4 135 RX4 yX4_passOver wsX4_passOver) := goodIn_app (goodIn_of _ (by decide +kernel)) ggX4_step_X4_passOver
theorem dX4_step_0 : decode cX4_step 0 = .ok (.aload_n 0, 1) := by decide +kernel
theorem dX4_step_1 : decode cX4_step 1 = .ok (.getfield 103, 3) := by decide +kernel
theorem dX4_step_4 : decode cX4_step 4 = .ok (.iconst 1, 1) := by decide +kernel
theorem dX4_step_5 : decode cX4_step 5 = .ok (.if_icmp .ne 24, 3) := by decide +kernel
theorem dX4_step_8 : decode cX4_step 8 = .ok (.aload_n 0, 1) := by decide +kernel
theorem dX4_step_9 : decode cX4_step 9 = .ok (.aload_n 0, 1) := by decide +kernel
theorem dX4_step_10 : decode cX4_step 10 = .ok (.getfield 132, 3) := by decide +kernel
theorem dX4_step_13 : decode cX4_step 13 = .ok (.invokevirtual 144, 3) := by decide +kernel
theorem dX4_step_16 : decode cX4_step 16 = .ok (.aload_n 0, 1) := by decide +kernel
theorem dX4_step_17 : decode cX4_step 17 = .ok (.dup, 1) := by decide +kernel
theorem dX4_step_18 : decode cX4_step 18 = .ok (.getfield 132, 3) := by decide +kernel
theorem dX4_step_21 : decode cX4_step 21 = .ok (.iconst 1, 1) := by decide +kernel
theorem dX4_step_22 : decode cX4_step 22 = .ok (.iadd, 1) := by decide +kernel
theorem dX4_step_23 : decode cX4_step 23 = .ok (.putfield 132, 3) := by decide +kernel
theorem dX4_step_26 : decode cX4_step 26 = .ok (.goto 77, 3) := by decide +kernel
theorem dX4_step_29 : decode cX4_step 29 = .ok (.aload_n 0, 1) := by decide +kernel
theorem dX4_step_30 : decode cX4_step 30 = .ok (.getfield 103, 3) := by decide +kernel
theorem dX4_step_33 : decode cX4_step 33 = .ok (.iconst 2, 1) := by decide +kernel
theorem dX4_step_34 : decode cX4_step 34 = .ok (.if_icmp .ne 24, 3) := by decide +kernel
theorem dX4_step_37 : decode cX4_step 37 = .ok (.aload_n 0, 1) := by decide +kernel
theorem dX4_step_38 : decode cX4_step 38 = .ok (.aload_n 0, 1) := by decide +kernel
theorem dX4_step_39 : decode cX4_step 39 = .ok (.getfield 132, 3) := by decide +kernel
theorem dX4_step_42 : decode cX4_step 42 = .ok (.invokevirtual 147, 3) := by decide +kernel
theorem dX4_step_45 : decode cX4_step 45 = .ok (.aload_n 0, 1) := by decide +kernel
theorem dX4_step_46 : decode cX4_step 46 = .ok (.dup, 1) := by decide +kernel
theorem dX4_step_47 : decode cX4_step 47 = .ok (.getfield 132, 3) := by decide +kernel
theorem dX4_step_50 : decode cX4_step 50 = .ok (.iconst 1, 1) := by decide +kernel
theorem dX4_step_51 : decode cX4_step 51 = .ok (.iadd, 1) := by decide +kernel
theorem dX4_step_52 : decode cX4_step 52 = .ok (.putfield 132, 3) := by decide +kernel
theorem dX4_step_55 : decode cX4_step 55 = .ok (.goto 48, 3) := by decide +kernel
theorem dX4_step_58 : decode cX4_step 58 = .ok (.aload_n 0, 1) := by decide +kernel
theorem dX4_step_59 : decode cX4_step 59 = .ok (.invokevirtual 141, 3) := by decide +kernel
theorem dX4_step_62 : decode cX4_step 62 = .ok (.istore_n 1, 1) := by decide +kernel
theorem dX4_step_63 : decode cX4_step 63 = .ok (.aload_n 0, 1) := by decide +kernel
theorem dX4_step_64 : decode cX4_step 64 = .ok (.getfield 103, 3) := by decide +kernel
theorem dX4_step_67 : decode cX4_step 67 = .ok (.iconst 4, 1) := by decide +kernel
theorem dX4_step_68 : decode cX4_step 68 = .ok (.if_icmp .ne 30, 3) := by decide +kernel
theorem dX4_step_71 : decode cX4_step 71 = .ok (.aload_n 0, 1) := by decide +kernel
theorem dX4_step_72 : decode cX4_step 72 = .ok (.getfield 64, 3) := by decide +kernel
theorem dX4_step_75 : decode cX4_step 75 = .ok (.iload_n 1, 1) := by decide +kernel
theorem dX4_step_76 : decode cX4_step 76 = .ok (.iaload, 1) := by decide +kernel
theorem dX4_step_77 : decode cX4_step 77 = .ok (.ifCond .le 21, 3) := by decide +kernel
theorem dX4_step_80 : decode cX4_step 80 = .ok (.aload_n 0, 1) := by decide +kernel
theorem dX4_step_81 : decode cX4_step 81 = .ok (.iload_n 1, 1) := by decide +kernel
theorem dX4_step_82 : decode cX4_step 82 = .ok (.invokevirtual 100, 3) := by decide +kernel
theorem dX4_step_85 : decode cX4_step 85 = .ok (.aload_n 0, 1) := by decide +kernel
theorem dX4_step_86 : decode cX4_step 86 = .ok (.getfield 67, 3) := by decide +kernel
theorem dX4_step_89 : decode cX4_step 89 = .ok (.iconst 3, 1) := by decide +kernel
theorem dX4_step_90 : decode cX4_step 90 = .ok (.dup2, 1) := by decide +kernel
theorem dX4_step_91 : decode cX4_step 91 = .ok (.iaload, 1) := by decide +kernel
theorem dX4_step_92 : decode cX4_step 92 = .ok (.iconst 1, 1) := by decide +kernel
theorem dX4_step_93 : decode cX4_step 93 = .ok (.iadd, 1) := by decide +kernel
theorem dX4_step_94 : decode cX4_step 94 = .ok (.iastore, 1) := by decide +kernel
theorem dX4_step_95 : decode cX4_step 95 = .ok (.goto 8, 3) := by decide +kernel
theorem dX4_step_98 : decode cX4_step 98 = .ok (.aload_n 0, 1) := by decide +kernel
theorem dX4_step_99 : decode cX4_step 99 = .ok (.iload_n 1, 1) := by decide +kernel
theorem dX4_step_100 : decode cX4_step 100 = .ok (.invokevirtual 123, 3) := by decide +kernel
theorem dX4_step_103 : decode cX4_step 103 = .ok (.aload_n 0, 1) := by decide +kernel
theorem dX4_step_104 : decode cX4_step 104 = .ok (.invokevirtual 135, 3) := by decide +kernel
theorem dX4_step_107 : decode cX4_step 107 = .ok (.return_, 1) := by decide +kernel
set_option maxRecDepth 20000 in
theorem ggX4_restart_X4_step : GoodIn wsX4_restart wsX4_step := goodIn_r _ [6, 1, 7, 8, 9, 10, 11, 12, 5, 13, 14, 15, 16, 17, 18, 19, 20, 21, 22, 23, 24, 25, 26, 27, 28, 29, 30, 31, 32, 33, 34, 35, 36, 37, 38, 39, 40, 41, 42, 43, 44, 45, 46, 47, 48, 49, 50, 51, 52, 53, 54, 55, 56, 57, 58, 59, 60, 61, 62, 63, 64, 65, 66, 67, 68, 69, 70, 71, 72, 73, 74, 75, 76, 77, 78, 79, 80, 81, 82, 83, 84, 85, 86, 87, 88, 89, 90, 91, 92, 93, 94, 95, 96, 97, 98, 99, 100] (by decide +kernel) (by decide +kernel)
set_option maxRecDepth 20000 in
theorem gX4_restart_X4_step : GoodIn wsX4_restart (wsV RX4 150 RX4 yX4_step wsX4_step) := goodIn_app (goodIn_of _ (by decide +kernel)) ggX4_restart_X4_step
theorem dX4_restart_0 : decode cX4_restart 0 = .ok (.iload_n 1, 1) := by decide +kernel
theorem dX4_restart_1 : decode cX4_restart 1 = .ok (.ifCond .ge 6, 3) := by decide +kernel
theorem dX4_restart_4 : decode cX4_restart 4 = .ok (.bipush (-102), 2) := by decide +kernel
theorem dX4_restart_6 : decode cX4_restart 6 = .ok (.ireturn, 1) := by decide +kernel
theorem dX4_restart_7 : decode cX4_restart 7 = .ok (.iconst 0, 1) := by decide +kernel
theorem dX4_restart_8 : decode cX4_restart 8 = .ok (.istore_n 2, 1) := by decide +kernel
theorem dX4_restart_9 : decode cX4_restart 9 = .ok (.iload_n 2, 1) := by decide +kernel
theorem dX4_restart_10 : decode cX4_restart 10 = .ok (.iload_n 1, 1) := by decide +kernel
theorem dX4_restart_11 : decode cX4_restart 11 = .ok (.if_icmp .ge 20, 3) := by decide +kernel
theorem dX4_restart_14 : decode cX4_restart 14 = .ok (.aload_n 0, 1) := by decide +kernel
theorem dX4_restart_15 : decode cX4_restart 15 = .ok (.getfield 103, 3) := by decide +kernel
theorem dX4_restart_18 : decode cX4_restart 18 = .ok (.ifCond .le 13, 3) := by decide +kernel
theorem dX4_restart_21 : decode cX4_restart 21 = .ok (.aload_n 0, 1) := by decide +kernel
theorem dX4_restart_22 : decode cX4_restart 22 = .ok (.invokevirtual 150, 3) := by decide +kernel
theorem dX4_restart_25 : decode cX4_restart 25 = .ok (.iinc 2 1, 3) := by decide +kernel
theorem dX4_restart_28 : decode cX4_restart 28 = .ok (.goto (-19), 3) := by decide +kernel
theorem dX4_restart_31 : decode cX4_restart 31 = .ok (.iload_n 2, 1) := by decide +kernel
theorem dX4_restart_32 : decode cX4_restart 32 = .ok (.ireturn, 1) := by decide +kernel
theorem dX4_part_0 : decode cX4_part 0 = .ok (.aload_n 0, 1) := by decide +kernel
theorem dX4_part_1 : decode cX4_part 1 = .ok (.getfield 103, 3) := by decide +kernel
theorem dX4_part_4 : decode cX4_part 4 = .ok (.ireturn, 1) := by decide +kernel
set_option maxRecDepth 20000 in
theorem ggX4_word_X4_in : GoodIn wsX4_word wsX4_in := goodIn_r _ [5] (by decide +kernel) (by decide +kernel)
set_option maxRecDepth 20000 in
theorem gX4_word_X4_in : GoodIn wsX4_word (va_wsS RX4 74 yX4_in wsX4_in) := goodIn_app (goodIn_of _ (by decide +kernel)) ggX4_word_X4_in
theorem dX4_word_0 : decode cX4_word 0 = .ok (.iload_n 1, 1) := by decide +kernel
theorem dX4_word_1 : decode cX4_word 1 = .ok (.iconst 0, 1) := by decide +kernel
theorem dX4_word_2 : decode cX4_word 2 = .ok (.bipush 63, 2) := by decide +kernel
theorem dX4_word_4 : decode cX4_word 4 = .ok (.invokestatic 74, 3) := by decide +kernel
theorem dX4_word_7 : decode cX4_word 7 = .ok (.ifCond .eq 27, 3) := by decide +kernel
theorem dX4_word_10 : decode cX4_word 10 = .ok (.iload_n 2, 1) := by decide +kernel
theorem dX4_word_11 : decode cX4_word 11 = .ok (.iconst 0, 1) := by decide +kernel
theorem dX4_word_12 : decode cX4_word 12 = .ok (.bipush 7, 2) := by decide +kernel
theorem dX4_word_14 : decode cX4_word 14 = .ok (.invokestatic 74, 3) := by decide +kernel
theorem dX4_word_17 : decode cX4_word 17 = .ok (.ifCond .eq 17, 3) := by decide +kernel
theorem dX4_word_20 : decode cX4_word 20 = .ok (.aload_n 0, 1) := by decide +kernel
theorem dX4_word_21 : decode cX4_word 21 = .ok (.getfield 43, 3) := by decide +kernel
theorem dX4_word_24 : decode cX4_word 24 = .ok (.bipush 8, 2) := by decide +kernel
theorem dX4_word_26 : decode cX4_word 26 = .ok (.iload_n 1, 1) := by decide +kernel
theorem dX4_word_27 : decode cX4_word 27 = .ok (.imul, 1) := by decide +kernel
theorem dX4_word_28 : decode cX4_word 28 = .ok (.iload_n 2, 1) := by decide +kernel
theorem dX4_word_29 : decode cX4_word 29 = .ok (.iadd, 1) := by decide +kernel
theorem dX4_word_30 : decode cX4_word 30 = .ok (.iaload, 1) := by decide +kernel
theorem dX4_word_31 : decode cX4_word 31 = .ok (.goto 4, 3) := by decide +kernel
theorem dX4_word_34 : decode cX4_word 34 = .ok (.iconst 0, 1) := by decide +kernel
theorem dX4_word_35 : decode cX4_word 35 = .ok (.ireturn, 1) := by decide +kernel
set_option maxRecDepth 20000 in
theorem ggX4_page_X4_in : GoodIn wsX4_page wsX4_in := goodIn_r _ [7] (by decide +kernel) (by decide +kernel)
set_option maxRecDepth 20000 in
theorem gX4_page_X4_in : GoodIn wsX4_page (va_wsS RX4 74 yX4_in wsX4_in) := goodIn_app (goodIn_of _ (by decide +kernel)) ggX4_page_X4_in
theorem dX4_page_0 : decode cX4_page 0 = .ok (.iload_n 1, 1) := by decide +kernel
theorem dX4_page_1 : decode cX4_page 1 = .ok (.iconst 0, 1) := by decide +kernel
theorem dX4_page_2 : decode cX4_page 2 = .ok (.bipush 63, 2) := by decide +kernel
theorem dX4_page_4 : decode cX4_page 4 = .ok (.invokestatic 74, 3) := by decide +kernel
theorem dX4_page_7 : decode cX4_page 7 = .ok (.ifCond .eq 12, 3) := by decide +kernel
theorem dX4_page_10 : decode cX4_page 10 = .ok (.iload_n 2, 1) := by decide +kernel
theorem dX4_page_11 : decode cX4_page 11 = .ok (.iconst 0, 1) := by decide +kernel
theorem dX4_page_12 : decode cX4_page 12 = .ok (.iconst 2, 1) := by decide +kernel
theorem dX4_page_13 : decode cX4_page 13 = .ok (.invokestatic 74, 3) := by decide +kernel
theorem dX4_page_16 : decode cX4_page 16 = .ok (.ifCond .ne 6, 3) := by decide +kernel
theorem dX4_page_19 : decode cX4_page 19 = .ok (.bipush (-102), 2) := by decide +kernel
theorem dX4_page_21 : decode cX4_page 21 = .ok (.ireturn, 1) := by decide +kernel
theorem dX4_page_22 : decode cX4_page 22 = .ok (.iload_n 2, 1) := by decide +kernel
theorem dX4_page_23 : decode cX4_page 23 = .ok (.ifCond .ne 12, 3) := by decide +kernel
theorem dX4_page_26 : decode cX4_page 26 = .ok (.aload_n 0, 1) := by decide +kernel
theorem dX4_page_27 : decode cX4_page 27 = .ok (.getfield 46, 3) := by decide +kernel
theorem dX4_page_30 : decode cX4_page 30 = .ok (.iload_n 1, 1) := by decide +kernel
theorem dX4_page_31 : decode cX4_page 31 = .ok (.iaload, 1) := by decide +kernel
theorem dX4_page_32 : decode cX4_page 32 = .ok (.goto 23, 3) := by decide +kernel
theorem dX4_page_35 : decode cX4_page 35 = .ok (.iload_n 2, 1) := by decide +kernel
theorem dX4_page_36 : decode cX4_page 36 = .ok (.iconst 1, 1) := by decide +kernel
theorem dX4_page_37 : decode cX4_page 37 = .ok (.if_icmp .ne 12, 3) := by decide +kernel
theorem dX4_page_40 : decode cX4_page 40 = .ok (.aload_n 0, 1) := by decide +kernel
theorem dX4_page_41 : decode cX4_page 41 = .ok (.getfield 49, 3) := by decide +kernel
theorem dX4_page_44 : decode cX4_page 44 = .ok (.iload_n 1, 1) := by decide +kernel
theorem dX4_page_45 : decode cX4_page 45 = .ok (.iaload, 1) := by decide +kernel
theorem dX4_page_46 : decode cX4_page 46 = .ok (.goto 9, 3) := by decide +kernel
theorem dX4_page_49 : decode cX4_page 49 = .ok (.aload_n 0, 1) := by decide +kernel
theorem dX4_page_50 : decode cX4_page 50 = .ok (.getfield 55, 3) := by decide +kernel
theorem dX4_page_53 : decode cX4_page 53 = .ok (.iload_n 1, 1) := by decide +kernel
theorem dX4_page_54 : decode cX4_page 54 = .ok (.iaload, 1) := by decide +kernel
theorem dX4_page_55 : decode cX4_page 55 = .ok (.ireturn, 1) := by decide +kernel
theorem dX4_table_0 : decode cX4_table 0 = .ok (.iload_n 1, 1) := by decide +kernel
theorem dX4_table_1 : decode cX4_table 1 = .ok (.istore_n 3, 1) := by decide +kernel
theorem dX4_table_2 : decode cX4_table 2 = .ok (.iconst 1, 1) := by decide +kernel
theorem dX4_table_3 : decode cX4_table 3 = .ok (.istore 4, 2) := by decide +kernel
theorem dX4_table_5 : decode cX4_table 5 = .ok (.iload 4, 2) := by decide +kernel
theorem dX4_table_7 : decode cX4_table 7 = .ok (.aload_n 0, 1) := by decide +kernel
theorem dX4_table_8 : decode cX4_table 8 = .ok (.getfield 70, 3) := by decide +kernel
theorem dX4_table_11 : decode cX4_table 11 = .ok (.if_icmp .gt 82, 3) := by decide +kernel
theorem dX4_table_14 : decode cX4_table 14 = .ok (.aload_n 0, 1) := by decide +kernel
theorem dX4_table_15 : decode cX4_table 15 = .ok (.getfield 58, 3) := by decide +kernel
theorem dX4_table_18 : decode cX4_table 18 = .ok (.iload 4, 2) := by decide +kernel
theorem dX4_table_20 : decode cX4_table 20 = .ok (.iaload, 1) := by decide +kernel
theorem dX4_table_21 : decode cX4_table 21 = .ok (.ifCond .le 66, 3) := by decide +kernel
theorem dX4_table_24 : decode cX4_table 24 = .ok (.iload_n 3, 1) := by decide +kernel
theorem dX4_table_25 : decode cX4_table 25 = .ok (.ifCond .ne 59, 3) := by decide +kernel
theorem dX4_table_28 : decode cX4_table 28 = .ok (.iload_n 2, 1) := by decide +kernel
theorem dX4_table_29 : decode cX4_table 29 = .ok (.ifCond .ne 8, 3) := by decide +kernel
theorem dX4_table_32 : decode cX4_table 32 = .ok (.iload 4, 2) := by decide +kernel
theorem dX4_table_34 : decode cX4_table 34 = .ok (.goto 49, 3) := by decide +kernel
theorem dX4_table_37 : decode cX4_table 37 = .ok (.iload_n 2, 1) := by decide +kernel
theorem dX4_table_38 : decode cX4_table 38 = .ok (.iconst 1, 1) := by decide +kernel
theorem dX4_table_39 : decode cX4_table 39 = .ok (.if_icmp .ne 13, 3) := by decide +kernel
theorem dX4_table_42 : decode cX4_table 42 = .ok (.aload_n 0, 1) := by decide +kernel
theorem dX4_table_43 : decode cX4_table 43 = .ok (.getfield 58, 3) := by decide +kernel
theorem dX4_table_46 : decode cX4_table 46 = .ok (.iload 4, 2) := by decide +kernel
theorem dX4_table_48 : decode cX4_table 48 = .ok (.iaload, 1) := by decide +kernel
theorem dX4_table_49 : decode cX4_table 49 = .ok (.goto 34, 3) := by decide +kernel
theorem dX4_table_52 : decode cX4_table 52 = .ok (.iload_n 2, 1) := by decide +kernel
theorem dX4_table_53 : decode cX4_table 53 = .ok (.iconst 2, 1) := by decide +kernel
theorem dX4_table_54 : decode cX4_table 54 = .ok (.if_icmp .ne 13, 3) := by decide +kernel
theorem dX4_table_57 : decode cX4_table 57 = .ok (.aload_n 0, 1) := by decide +kernel
theorem dX4_table_58 : decode cX4_table 58 = .ok (.getfield 61, 3) := by decide +kernel
theorem dX4_table_61 : decode cX4_table 61 = .ok (.iload 4, 2) := by decide +kernel
theorem dX4_table_63 : decode cX4_table 63 = .ok (.iaload, 1) := by decide +kernel
theorem dX4_table_64 : decode cX4_table 64 = .ok (.goto 19, 3) := by decide +kernel
theorem dX4_table_67 : decode cX4_table 67 = .ok (.iload_n 2, 1) := by decide +kernel
theorem dX4_table_68 : decode cX4_table 68 = .ok (.iconst 3, 1) := by decide +kernel
theorem dX4_table_69 : decode cX4_table 69 = .ok (.if_icmp .ne 13, 3) := by decide +kernel
theorem dX4_table_72 : decode cX4_table 72 = .ok (.aload_n 0, 1) := by decide +kernel
theorem dX4_table_73 : decode cX4_table 73 = .ok (.getfield 64, 3) := by decide +kernel
theorem dX4_table_76 : decode cX4_table 76 = .ok (.iload 4, 2) := by decide +kernel
theorem dX4_table_78 : decode cX4_table 78 = .ok (.iaload, 1) := by decide +kernel
theorem dX4_table_79 : decode cX4_table 79 = .ok (.goto 4, 3) := by decide +kernel
theorem dX4_table_82 : decode cX4_table 82 = .ok (.iconst (-1), 1) := by decide +kernel
theorem dX4_table_83 : decode cX4_table 83 = .ok (.ireturn, 1) := by decide +kernel
theorem dX4_table_84 : decode cX4_table 84 = .ok (.iinc 3 (-1), 3) := by decide +kernel
theorem dX4_table_87 : decode cX4_table 87 = .ok (.iinc 4 1, 3) := by decide +kernel
theorem dX4_table_90 : decode cX4_table 90 = .ok (.goto (-85), 3) := by decide +kernel
theorem dX4_table_93 : decode cX4_table 93 = .ok (.iconst (-1), 1) := by decide +kernel
theorem dX4_table_94 : decode cX4_table 94 = .ok (.ireturn, 1) := by decide +kernel
set_option maxRecDepth 20000 in
theorem ggX4_record_X4_in : GoodIn wsX4_record wsX4_in := goodIn_r _ [12] (by decide +kernel) (by decide +kernel)
set_option maxRecDepth 20000 in
theorem gX4_record_X4_in : GoodIn wsX4_record (va_wsS RX4 74 yX4_in wsX4_in) := goodIn_app (goodIn_of _ (by decide +kernel)) ggX4_record_X4_in
theorem dX4_record_0 : decode cX4_record 0 = .ok (.iload_n 1, 1) := by decide +kernel
theorem dX4_record_1 : decode cX4_record 1 = .ok (.iconst 1, 1) := by decide +kernel
theorem dX4_record_2 : decode cX4_record 2 = .ok (.aload_n 0, 1) := by decide +kernel
theorem dX4_record_3 : decode cX4_record 3 = .ok (.getfield 78, 3) := by decide +kernel
theorem dX4_record_6 : decode cX4_record 6 = .ok (.invokestatic 74, 3) := by decide +kernel
theorem dX4_record_9 : decode cX4_record 9 = .ok (.ifCond .eq 13, 3) := by decide +kernel
theorem dX4_record_12 : decode cX4_record 12 = .ok (.iload_n 2, 1) := by decide +kernel
theorem dX4_record_13 : decode cX4_record 13 = .ok (.iconst 0, 1) := by decide +kernel
theorem dX4_record_14 : decode cX4_record 14 = .ok (.bipush 6, 2) := by decide +kernel
theorem dX4_record_16 : decode cX4_record 16 = .ok (.invokestatic 74, 3) := by decide +kernel
theorem dX4_record_19 : decode cX4_record 19 = .ok (.ifCond .ne 5, 3) := by decide +kernel
theorem dX4_record_22 : decode cX4_record 22 = .ok (.iconst (-1), 1) := by decide +kernel
theorem dX4_record_23 : decode cX4_record 23 = .ok (.ireturn, 1) := by decide +kernel
theorem dX4_record_24 : decode cX4_record 24 = .ok (.iload_n 2, 1) := by decide +kernel
theorem dX4_record_25 : decode cX4_record 25 = .ok (.tableswitch 81 0 5 #[39, 46, 53, 60, 67, 74], 39) := by decide +kernel
theorem dX4_record_64 : decode cX4_record 64 = .ok (.aload_n 0, 1) := by decide +kernel
theorem dX4_record_65 : decode cX4_record 65 = .ok (.getfield 7, 3) := by decide +kernel
theorem dX4_record_68 : decode cX4_record 68 = .ok (.iload_n 1, 1) := by decide +kernel
theorem dX4_record_69 : decode cX4_record 69 = .ok (.iaload, 1) := by decide +kernel
theorem dX4_record_70 : decode cX4_record 70 = .ok (.ireturn, 1) := by decide +kernel
theorem dX4_record_71 : decode cX4_record 71 = .ok (.aload_n 0, 1) := by decide +kernel
theorem dX4_record_72 : decode cX4_record 72 = .ok (.getfield 13, 3) := by decide +kernel
theorem dX4_record_75 : decode cX4_record 75 = .ok (.iload_n 1, 1) := by decide +kernel
theorem dX4_record_76 : decode cX4_record 76 = .ok (.iaload, 1) := by decide +kernel
theorem dX4_record_77 : decode cX4_record 77 = .ok (.ireturn, 1) := by decide +kernel
theorem dX4_record_78 : decode cX4_record 78 = .ok (.aload_n 0, 1) := by decide +kernel
theorem dX4_record_79 : decode cX4_record 79 = .ok (.getfield 16, 3) := by decide +kernel
theorem dX4_record_82 : decode cX4_record 82 = .ok (.iload_n 1, 1) := by decide +kernel
theorem dX4_record_83 : decode cX4_record 83 = .ok (.iaload, 1) := by decide +kernel
theorem dX4_record_84 : decode cX4_record 84 = .ok (.ireturn, 1) := by decide +kernel
theorem dX4_record_85 : decode cX4_record 85 = .ok (.aload_n 0, 1) := by decide +kernel
theorem dX4_record_86 : decode cX4_record 86 = .ok (.getfield 19, 3) := by decide +kernel
theorem dX4_record_89 : decode cX4_record 89 = .ok (.iload_n 1, 1) := by decide +kernel
theorem dX4_record_90 : decode cX4_record 90 = .ok (.iaload, 1) := by decide +kernel
theorem dX4_record_91 : decode cX4_record 91 = .ok (.ireturn, 1) := by decide +kernel
theorem dX4_record_92 : decode cX4_record 92 = .ok (.aload_n 0, 1) := by decide +kernel
theorem dX4_record_93 : decode cX4_record 93 = .ok (.getfield 22, 3) := by decide +kernel
theorem dX4_record_96 : decode cX4_record 96 = .ok (.iload_n 1, 1) := by decide +kernel
theorem dX4_record_97 : decode cX4_record 97 = .ok (.iaload, 1) := by decide +kernel
theorem dX4_record_98 : decode cX4_record 98 = .ok (.ireturn, 1) := by decide +kernel
theorem dX4_record_99 : decode cX4_record 99 = .ok (.aload_n 0, 1) := by decide +kernel
theorem dX4_record_100 : decode cX4_record 100 = .ok (.getfield 25, 3) := by decide +kernel
theorem dX4_record_103 : decode cX4_record 103 = .ok (.iload_n 1, 1) := by decide +kernel
theorem dX4_record_104 : decode cX4_record 104 = .ok (.iaload, 1) := by decide +kernel
theorem dX4_record_105 : decode cX4_record 105 = .ok (.ireturn, 1) := by decide +kernel
theorem dX4_record_106 : decode cX4_record 106 = .ok (.aload_n 0, 1) := by decide +kernel
theorem dX4_record_107 : decode cX4_record 107 = .ok (.getfield 7, 3) := by decide +kernel
theorem dX4_record_110 : decode cX4_record 110 = .ok (.iload_n 1, 1) := by decide +kernel
theorem dX4_record_111 : decode cX4_record 111 = .ok (.iaload, 1) := by decide +kernel
theorem dX4_record_112 : decode cX4_record 112 = .ok (.iconst 2, 1) := by decide +kernel
theorem dX4_record_113 : decode cX4_record 113 = .ok (.if_icmp .ne 12, 3) := by decide +kernel
theorem dX4_record_116 : decode cX4_record 116 = .ok (.aload_n 0, 1) := by decide +kernel
theorem dX4_record_117 : decode cX4_record 117 = .ok (.getfield 28, 3) := by decide +kernel
theorem dX4_record_120 : decode cX4_record 120 = .ok (.iload_n 1, 1) := by decide +kernel
theorem dX4_record_121 : decode cX4_record 121 = .ok (.iaload, 1) := by decide +kernel
theorem dX4_record_122 : decode cX4_record 122 = .ok (.goto 4, 3) := by decide +kernel
theorem dX4_record_125 : decode cX4_record 125 = .ok (.iconst 0, 1) := by decide +kernel
theorem dX4_record_126 : decode cX4_record 126 = .ok (.ireturn, 1) := by decide +kernel
set_option maxRecDepth 20000 in
theorem ggX4_count_X4_in : GoodIn wsX4_count wsX4_in := goodIn_r _ [7] (by decide +kernel) (by decide +kernel)
set_option maxRecDepth 20000 in
theorem gX4_count_X4_in : GoodIn wsX4_count (va_wsS RX4 74 yX4_in wsX4_in) := goodIn_app (goodIn_of _ (by decide +kernel)) ggX4_count_X4_in
theorem dX4_count_0 : decode cX4_count 0 = .ok (.iload_n 1, 1) := by decide +kernel
theorem dX4_count_1 : decode cX4_count 1 = .ok (.iconst 0, 1) := by decide +kernel
theorem dX4_count_2 : decode cX4_count 2 = .ok (.iconst 5, 1) := by decide +kernel
theorem dX4_count_3 : decode cX4_count 3 = .ok (.invokestatic 74, 3) := by decide +kernel
theorem dX4_count_6 : decode cX4_count 6 = .ok (.ifCond .ne 6, 3) := by decide +kernel
theorem dX4_count_9 : decode cX4_count 9 = .ok (.bipush (-102), 2) := by decide +kernel
theorem dX4_count_11 : decode cX4_count 11 = .ok (.ireturn, 1) := by decide +kernel
theorem dX4_count_12 : decode cX4_count 12 = .ok (.iload_n 1, 1) := by decide +kernel
theorem dX4_count_13 : decode cX4_count 13 = .ok (.ifCond .ne 10, 3) := by decide +kernel
theorem dX4_count_16 : decode cX4_count 16 = .ok (.aload_n 0, 1) := by decide +kernel
theorem dX4_count_17 : decode cX4_count 17 = .ok (.getfield 78, 3) := by decide +kernel
theorem dX4_count_20 : decode cX4_count 20 = .ok (.goto 23, 3) := by decide +kernel
theorem dX4_count_23 : decode cX4_count 23 = .ok (.iload_n 1, 1) := by decide +kernel
theorem dX4_count_24 : decode cX4_count 24 = .ok (.iconst 1, 1) := by decide +kernel
theorem dX4_count_25 : decode cX4_count 25 = .ok (.if_icmp .ne 10, 3) := by decide +kernel
theorem dX4_count_28 : decode cX4_count 28 = .ok (.aload_n 0, 1) := by decide +kernel
theorem dX4_count_29 : decode cX4_count 29 = .ok (.getfield 81, 3) := by decide +kernel
theorem dX4_count_32 : decode cX4_count 32 = .ok (.goto 11, 3) := by decide +kernel
theorem dX4_count_35 : decode cX4_count 35 = .ok (.aload_n 0, 1) := by decide +kernel
theorem dX4_count_36 : decode cX4_count 36 = .ok (.getfield 67, 3) := by decide +kernel
theorem dX4_count_39 : decode cX4_count 39 = .ok (.iload_n 1, 1) := by decide +kernel
theorem dX4_count_40 : decode cX4_count 40 = .ok (.iconst 2, 1) := by decide +kernel
theorem dX4_count_41 : decode cX4_count 41 = .ok (.isub, 1) := by decide +kernel
theorem dX4_count_42 : decode cX4_count 42 = .ok (.iaload, 1) := by decide +kernel
theorem dX4_count_43 : decode cX4_count 43 = .ok (.ireturn, 1) := by decide +kernel
