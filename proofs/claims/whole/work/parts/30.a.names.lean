theorem dX4_init_0 : decode cX4_init 0 = .ok (.aload_n 0, 1) := by decide +kernel
theorem dX4_init_1 : decode cX4_init 1 = .ok (.invokespecial 1, 3) := by decide +kernel
theorem dX4_init_4 : decode cX4_init 4 = .ok (.aload_n 0, 1) := by decide +kernel
theorem dX4_init_5 : decode cX4_init 5 = .ok (.sipush 5200, 3) := by decide +kernel
theorem dX4_init_8 : decode cX4_init 8 = .ok (.newarray .int, 2) := by decide +kernel
theorem dX4_init_10 : decode cX4_init 10 = .ok (.putfield 7, 3) := by decide +kernel
theorem dX4_init_13 : decode cX4_init 13 = .ok (.aload_n 0, 1) := by decide +kernel
theorem dX4_init_14 : decode cX4_init 14 = .ok (.sipush 5200, 3) := by decide +kernel
theorem dX4_init_17 : decode cX4_init 17 = .ok (.newarray .int, 2) := by decide +kernel
theorem dX4_init_19 : decode cX4_init 19 = .ok (.putfield 13, 3) := by decide +kernel
theorem dX4_init_22 : decode cX4_init 22 = .ok (.aload_n 0, 1) := by decide +kernel
theorem dX4_init_23 : decode cX4_init 23 = .ok (.sipush 5200, 3) := by decide +kernel
theorem dX4_init_26 : decode cX4_init 26 = .ok (.newarray .int, 2) := by decide +kernel
theorem dX4_init_28 : decode cX4_init 28 = .ok (.putfield 16, 3) := by decide +kernel
theorem dX4_init_31 : decode cX4_init 31 = .ok (.aload_n 0, 1) := by decide +kernel
theorem dX4_init_32 : decode cX4_init 32 = .ok (.sipush 5200, 3) := by decide +kernel
theorem dX4_init_35 : decode cX4_init 35 = .ok (.newarray .int, 2) := by decide +kernel
theorem dX4_init_37 : decode cX4_init 37 = .ok (.putfield 19, 3) := by decide +kernel
theorem dX4_init_40 : decode cX4_init 40 = .ok (.aload_n 0, 1) := by decide +kernel
theorem dX4_init_41 : decode cX4_init 41 = .ok (.sipush 5200, 3) := by decide +kernel
theorem dX4_init_44 : decode cX4_init 44 = .ok (.newarray .int, 2) := by decide +kernel
theorem dX4_init_46 : decode cX4_init 46 = .ok (.putfield 22, 3) := by decide +kernel
theorem dX4_init_49 : decode cX4_init 49 = .ok (.aload_n 0, 1) := by decide +kernel
theorem dX4_init_50 : decode cX4_init 50 = .ok (.sipush 5200, 3) := by decide +kernel
theorem dX4_init_53 : decode cX4_init 53 = .ok (.newarray .int, 2) := by decide +kernel
theorem dX4_init_55 : decode cX4_init 55 = .ok (.putfield 25, 3) := by decide +kernel
theorem dX4_init_58 : decode cX4_init 58 = .ok (.aload_n 0, 1) := by decide +kernel
theorem dX4_init_59 : decode cX4_init 59 = .ok (.sipush 5200, 3) := by decide +kernel
theorem dX4_init_62 : decode cX4_init 62 = .ok (.newarray .int, 2) := by decide +kernel
theorem dX4_init_64 : decode cX4_init 64 = .ok (.putfield 28, 3) := by decide +kernel
theorem dX4_init_67 : decode cX4_init 67 = .ok (.aload_n 0, 1) := by decide +kernel
theorem dX4_init_68 : decode cX4_init 68 = .ok (.sipush 20200, 3) := by decide +kernel
theorem dX4_init_71 : decode cX4_init 71 = .ok (.newarray .int, 2) := by decide +kernel
theorem dX4_init_73 : decode cX4_init 73 = .ok (.putfield 31, 3) := by decide +kernel
theorem dX4_init_76 : decode cX4_init 76 = .ok (.aload_n 0, 1) := by decide +kernel
theorem dX4_init_77 : decode cX4_init 77 = .ok (.sipush 20200, 3) := by decide +kernel
theorem dX4_init_80 : decode cX4_init 80 = .ok (.newarray .int, 2) := by decide +kernel
theorem dX4_init_82 : decode cX4_init 82 = .ok (.putfield 34, 3) := by decide +kernel
theorem dX4_init_85 : decode cX4_init 85 = .ok (.aload_n 0, 1) := by decide +kernel
theorem dX4_init_86 : decode cX4_init 86 = .ok (.sipush 20200, 3) := by decide +kernel
theorem dX4_init_89 : decode cX4_init 89 = .ok (.newarray .int, 2) := by decide +kernel
theorem dX4_init_91 : decode cX4_init 91 = .ok (.putfield 37, 3) := by decide +kernel
theorem dX4_init_94 : decode cX4_init 94 = .ok (.aload_n 0, 1) := by decide +kernel
theorem dX4_init_95 : decode cX4_init 95 = .ok (.sipush 6500, 3) := by decide +kernel
theorem dX4_init_98 : decode cX4_init 98 = .ok (.newarray .int, 2) := by decide +kernel
theorem dX4_init_100 : decode cX4_init 100 = .ok (.putfield 40, 3) := by decide +kernel
theorem dX4_init_103 : decode cX4_init 103 = .ok (.aload_n 0, 1) := by decide +kernel
theorem dX4_init_104 : decode cX4_init 104 = .ok (.sipush 512, 3) := by decide +kernel
theorem dX4_init_107 : decode cX4_init 107 = .ok (.newarray .int, 2) := by decide +kernel
theorem dX4_init_109 : decode cX4_init 109 = .ok (.putfield 43, 3) := by decide +kernel
theorem dX4_init_112 : decode cX4_init 112 = .ok (.aload_n 0, 1) := by decide +kernel
theorem dX4_init_113 : decode cX4_init 113 = .ok (.bipush 64, 2) := by decide +kernel
theorem dX4_init_115 : decode cX4_init 115 = .ok (.newarray .int, 2) := by decide +kernel
theorem dX4_init_117 : decode cX4_init 117 = .ok (.putfield 46, 3) := by decide +kernel
theorem dX4_init_120 : decode cX4_init 120 = .ok (.aload_n 0, 1) := by decide +kernel
theorem dX4_init_121 : decode cX4_init 121 = .ok (.bipush 64, 2) := by decide +kernel
theorem dX4_init_123 : decode cX4_init 123 = .ok (.newarray .int, 2) := by decide +kernel
theorem dX4_init_125 : decode cX4_init 125 = .ok (.putfield 49, 3) := by decide +kernel
theorem dX4_init_128 : decode cX4_init 128 = .ok (.aload_n 0, 1) := by decide +kernel
theorem dX4_init_129 : decode cX4_init 129 = .ok (.sipush 512, 3) := by decide +kernel
theorem dX4_init_132 : decode cX4_init 132 = .ok (.newarray .int, 2) := by decide +kernel
theorem dX4_init_134 : decode cX4_init 134 = .ok (.putfield 52, 3) := by decide +kernel
theorem dX4_init_137 : decode cX4_init 137 = .ok (.aload_n 0, 1) := by decide +kernel
theorem dX4_init_138 : decode cX4_init 138 = .ok (.bipush 64, 2) := by decide +kernel
theorem dX4_init_140 : decode cX4_init 140 = .ok (.newarray .int, 2) := by decide +kernel
theorem dX4_init_142 : decode cX4_init 142 = .ok (.putfield 55, 3) := by decide +kernel
theorem dX4_init_145 : decode cX4_init 145 = .ok (.aload_n 0, 1) := by decide +kernel
theorem dX4_init_146 : decode cX4_init 146 = .ok (.sipush 201, 3) := by decide +kernel
theorem dX4_init_149 : decode cX4_init 149 = .ok (.newarray .int, 2) := by decide +kernel
theorem dX4_init_151 : decode cX4_init 151 = .ok (.putfield 58, 3) := by decide +kernel
theorem dX4_init_154 : decode cX4_init 154 = .ok (.aload_n 0, 1) := by decide +kernel
theorem dX4_init_155 : decode cX4_init 155 = .ok (.sipush 201, 3) := by decide +kernel
theorem dX4_init_158 : decode cX4_init 158 = .ok (.newarray .int, 2) := by decide +kernel
theorem dX4_init_160 : decode cX4_init 160 = .ok (.putfield 61, 3) := by decide +kernel
theorem dX4_init_163 : decode cX4_init 163 = .ok (.aload_n 0, 1) := by decide +kernel
theorem dX4_init_164 : decode cX4_init 164 = .ok (.sipush 201, 3) := by decide +kernel
theorem dX4_init_167 : decode cX4_init 167 = .ok (.newarray .int, 2) := by decide +kernel
theorem dX4_init_169 : decode cX4_init 169 = .ok (.putfield 64, 3) := by decide +kernel
theorem dX4_init_172 : decode cX4_init 172 = .ok (.aload_n 0, 1) := by decide +kernel
theorem dX4_init_173 : decode cX4_init 173 = .ok (.iconst 4, 1) := by decide +kernel
theorem dX4_init_174 : decode cX4_init 174 = .ok (.newarray .int, 2) := by decide +kernel
theorem dX4_init_176 : decode cX4_init 176 = .ok (.putfield 67, 3) := by decide +kernel
theorem dX4_init_179 : decode cX4_init 179 = .ok (.iconst 0, 1) := by decide +kernel
theorem dX4_init_180 : decode cX4_init 180 = .ok (.istore_n 1, 1) := by decide +kernel
theorem dX4_init_181 : decode cX4_init 181 = .ok (.iload_n 1, 1) := by decide +kernel
theorem dX4_init_182 : decode cX4_init 182 = .ok (.bipush 64, 2) := by decide +kernel
theorem dX4_init_184 : decode cX4_init 184 = .ok (.if_icmp .ge 16, 3) := by decide +kernel
theorem dX4_init_187 : decode cX4_init 187 = .ok (.aload_n 0, 1) := by decide +kernel
theorem dX4_init_188 : decode cX4_init 188 = .ok (.getfield 49, 3) := by decide +kernel
theorem dX4_init_191 : decode cX4_init 191 = .ok (.iload_n 1, 1) := by decide +kernel
theorem dX4_init_192 : decode cX4_init 192 = .ok (.iconst (-1), 1) := by decide +kernel
theorem dX4_init_193 : decode cX4_init 193 = .ok (.iastore, 1) := by decide +kernel
theorem dX4_init_194 : decode cX4_init 194 = .ok (.iinc 1 1, 3) := by decide +kernel
theorem dX4_init_197 : decode cX4_init 197 = .ok (.goto (-16), 3) := by decide +kernel
theorem dX4_init_200 : decode cX4_init 200 = .ok (.return_, 1) := by decide +kernel
theorem dX4_in_0 : decode cX4_in 0 = .ok (.iload_n 0, 1) := by decide +kernel
theorem dX4_in_1 : decode cX4_in 1 = .ok (.iload_n 1, 1) := by decide +kernel
theorem dX4_in_2 : decode cX4_in 2 = .ok (.if_icmp .lt 12, 3) := by decide +kernel
theorem dX4_in_5 : decode cX4_in 5 = .ok (.iload_n 0, 1) := by decide +kernel
theorem dX4_in_6 : decode cX4_in 6 = .ok (.iload_n 2, 1) := by decide +kernel
theorem dX4_in_7 : decode cX4_in 7 = .ok (.if_icmp .gt 7, 3) := by decide +kernel
theorem dX4_in_10 : decode cX4_in 10 = .ok (.iconst 1, 1) := by decide +kernel
theorem dX4_in_11 : decode cX4_in 11 = .ok (.goto 4, 3) := by decide +kernel
theorem dX4_in_14 : decode cX4_in 14 = .ok (.iconst 0, 1) := by decide +kernel
theorem dX4_in_15 : decode cX4_in 15 = .ok (.ireturn, 1) := by decide +kernel
set_option maxRecDepth 20000 in
theorem ggX4_isWork_X4_in : GoodIn wsX4_isWork wsX4_in := goodIn_r _ [6] (by decide +kernel) (by decide +kernel)
set_option maxRecDepth 20000 in
theorem gX4_isWork_X4_in : GoodIn wsX4_isWork (va_wsS RX4 74 yX4_in wsX4_in) := goodIn_app (goodIn_of _ (by decide +kernel)) ggX4_isWork_X4_in
theorem dX4_isWork_0 : decode cX4_isWork 0 = .ok (.iload_n 1, 1) := by decide +kernel
theorem dX4_isWork_1 : decode cX4_isWork 1 = .ok (.iconst 1, 1) := by decide +kernel
theorem dX4_isWork_2 : decode cX4_isWork 2 = .ok (.aload_n 0, 1) := by decide +kernel
theorem dX4_isWork_3 : decode cX4_isWork 3 = .ok (.getfield 70, 3) := by decide +kernel
theorem dX4_isWork_6 : decode cX4_isWork 6 = .ok (.invokestatic 74, 3) := by decide +kernel
theorem dX4_isWork_9 : decode cX4_isWork 9 = .ok (.ifCond .eq 16, 3) := by decide +kernel
theorem dX4_isWork_12 : decode cX4_isWork 12 = .ok (.aload_n 0, 1) := by decide +kernel
theorem dX4_isWork_13 : decode cX4_isWork 13 = .ok (.getfield 58, 3) := by decide +kernel
theorem dX4_isWork_16 : decode cX4_isWork 16 = .ok (.iload_n 1, 1) := by decide +kernel
theorem dX4_isWork_17 : decode cX4_isWork 17 = .ok (.iaload, 1) := by decide +kernel
theorem dX4_isWork_18 : decode cX4_isWork 18 = .ok (.ifCond .le 7, 3) := by decide +kernel
theorem dX4_isWork_21 : decode cX4_isWork 21 = .ok (.iconst 1, 1) := by decide +kernel
theorem dX4_isWork_22 : decode cX4_isWork 22 = .ok (.goto 4, 3) := by decide +kernel
theorem dX4_isWork_25 : decode cX4_isWork 25 = .ok (.iconst 0, 1) := by decide +kernel
theorem dX4_isWork_26 : decode cX4_isWork 26 = .ok (.ireturn, 1) := by decide +kernel
theorem dX4_many_0 : decode cX4_many 0 = .ok (.iconst 0, 1) := by decide +kernel
theorem dX4_many_1 : decode cX4_many 1 = .ok (.istore_n 1, 1) := by decide +kernel
theorem dX4_many_2 : decode cX4_many 2 = .ok (.iconst 1, 1) := by decide +kernel
theorem dX4_many_3 : decode cX4_many 3 = .ok (.istore_n 2, 1) := by decide +kernel
theorem dX4_many_4 : decode cX4_many 4 = .ok (.iload_n 2, 1) := by decide +kernel
theorem dX4_many_5 : decode cX4_many 5 = .ok (.aload_n 0, 1) := by decide +kernel
theorem dX4_many_6 : decode cX4_many 6 = .ok (.getfield 70, 3) := by decide +kernel
theorem dX4_many_9 : decode cX4_many 9 = .ok (.if_icmp .gt 26, 3) := by decide +kernel
theorem dX4_many_12 : decode cX4_many 12 = .ok (.iload_n 1, 1) := by decide +kernel
theorem dX4_many_13 : decode cX4_many 13 = .ok (.aload_n 0, 1) := by decide +kernel
theorem dX4_many_14 : decode cX4_many 14 = .ok (.getfield 58, 3) := by decide +kernel
theorem dX4_many_17 : decode cX4_many 17 = .ok (.iload_n 2, 1) := by decide +kernel
theorem dX4_many_18 : decode cX4_many 18 = .ok (.iaload, 1) := by decide +kernel
theorem dX4_many_19 : decode cX4_many 19 = .ok (.ifCond .le 7, 3) := by decide +kernel
theorem dX4_many_22 : decode cX4_many 22 = .ok (.iconst 1, 1) := by decide +kernel
theorem dX4_many_23 : decode cX4_many 23 = .ok (.goto 4, 3) := by decide +kernel
theorem dX4_many_26 : decode cX4_many 26 = .ok (.iconst 0, 1) := by decide +kernel
theorem dX4_many_27 : decode cX4_many 27 = .ok (.iadd, 1) := by decide +kernel
theorem dX4_many_28 : decode cX4_many 28 = .ok (.istore_n 1, 1) := by decide +kernel
theorem dX4_many_29 : decode cX4_many 29 = .ok (.iinc 2 1, 3) := by decide +kernel
theorem dX4_many_32 : decode cX4_many 32 = .ok (.goto (-28), 3) := by decide +kernel
theorem dX4_many_35 : decode cX4_many 35 = .ok (.iload_n 1, 1) := by decide +kernel
theorem dX4_many_36 : decode cX4_many 36 = .ok (.ireturn, 1) := by decide +kernel
theorem dX4_note_0 : decode cX4_note 0 = .ok (.aload_n 0, 1) := by decide +kernel
theorem dX4_note_1 : decode cX4_note 1 = .ok (.dup, 1) := by decide +kernel
theorem dX4_note_2 : decode cX4_note 2 = .ok (.getfield 78, 3) := by decide +kernel
theorem dX4_note_5 : decode cX4_note 5 = .ok (.iconst 1, 1) := by decide +kernel
theorem dX4_note_6 : decode cX4_note 6 = .ok (.iadd, 1) := by decide +kernel
theorem dX4_note_7 : decode cX4_note 7 = .ok (.putfield 78, 3) := by decide +kernel
theorem dX4_note_10 : decode cX4_note 10 = .ok (.aload_n 0, 1) := by decide +kernel
theorem dX4_note_11 : decode cX4_note 11 = .ok (.getfield 7, 3) := by decide +kernel
theorem dX4_note_14 : decode cX4_note 14 = .ok (.aload_n 0, 1) := by decide +kernel
theorem dX4_note_15 : decode cX4_note 15 = .ok (.getfield 78, 3) := by decide +kernel
theorem dX4_note_18 : decode cX4_note 18 = .ok (.iload_n 1, 1) := by decide +kernel
theorem dX4_note_19 : decode cX4_note 19 = .ok (.iastore, 1) := by decide +kernel
theorem dX4_note_20 : decode cX4_note 20 = .ok (.aload_n 0, 1) := by decide +kernel
theorem dX4_note_21 : decode cX4_note 21 = .ok (.getfield 13, 3) := by decide +kernel
theorem dX4_note_24 : decode cX4_note 24 = .ok (.aload_n 0, 1) := by decide +kernel
theorem dX4_note_25 : decode cX4_note 25 = .ok (.getfield 78, 3) := by decide +kernel
theorem dX4_note_28 : decode cX4_note 28 = .ok (.iload_n 2, 1) := by decide +kernel
theorem dX4_note_29 : decode cX4_note 29 = .ok (.iastore, 1) := by decide +kernel
theorem dX4_note_30 : decode cX4_note 30 = .ok (.aload_n 0, 1) := by decide +kernel
theorem dX4_note_31 : decode cX4_note 31 = .ok (.getfield 16, 3) := by decide +kernel
theorem dX4_note_34 : decode cX4_note 34 = .ok (.aload_n 0, 1) := by decide +kernel
theorem dX4_note_35 : decode cX4_note 35 = .ok (.getfield 78, 3) := by decide +kernel
theorem dX4_note_38 : decode cX4_note 38 = .ok (.iload_n 2, 1) := by decide +kernel
theorem dX4_note_39 : decode cX4_note 39 = .ok (.ifCond .le 12, 3) := by decide +kernel
theorem dX4_note_42 : decode cX4_note 42 = .ok (.aload_n 0, 1) := by decide +kernel
theorem dX4_note_43 : decode cX4_note 43 = .ok (.getfield 61, 3) := by decide +kernel
theorem dX4_note_46 : decode cX4_note 46 = .ok (.iload_n 2, 1) := by decide +kernel
theorem dX4_note_47 : decode cX4_note 47 = .ok (.iaload, 1) := by decide +kernel
theorem dX4_note_48 : decode cX4_note 48 = .ok (.goto 4, 3) := by decide +kernel
theorem dX4_note_51 : decode cX4_note 51 = .ok (.iconst 0, 1) := by decide +kernel
theorem dX4_note_52 : decode cX4_note 52 = .ok (.iastore, 1) := by decide +kernel
theorem dX4_note_53 : decode cX4_note 53 = .ok (.aload_n 0, 1) := by decide +kernel
theorem dX4_note_54 : decode cX4_note 54 = .ok (.getfield 19, 3) := by decide +kernel
theorem dX4_note_57 : decode cX4_note 57 = .ok (.aload_n 0, 1) := by decide +kernel
theorem dX4_note_58 : decode cX4_note 58 = .ok (.getfield 78, 3) := by decide +kernel
theorem dX4_note_61 : decode cX4_note 61 = .ok (.iconst 0, 1) := by decide +kernel
theorem dX4_note_62 : decode cX4_note 62 = .ok (.iastore, 1) := by decide +kernel
theorem dX4_note_63 : decode cX4_note 63 = .ok (.aload_n 0, 1) := by decide +kernel
theorem dX4_note_64 : decode cX4_note 64 = .ok (.getfield 22, 3) := by decide +kernel
theorem dX4_note_67 : decode cX4_note 67 = .ok (.aload_n 0, 1) := by decide +kernel
theorem dX4_note_68 : decode cX4_note 68 = .ok (.getfield 78, 3) := by decide +kernel
theorem dX4_note_71 : decode cX4_note 71 = .ok (.iconst 0, 1) := by decide +kernel
theorem dX4_note_72 : decode cX4_note 72 = .ok (.iastore, 1) := by decide +kernel
theorem dX4_note_73 : decode cX4_note 73 = .ok (.aload_n 0, 1) := by decide +kernel
theorem dX4_note_74 : decode cX4_note 74 = .ok (.getfield 25, 3) := by decide +kernel
theorem dX4_note_77 : decode cX4_note 77 = .ok (.aload_n 0, 1) := by decide +kernel
theorem dX4_note_78 : decode cX4_note 78 = .ok (.getfield 78, 3) := by decide +kernel
theorem dX4_note_81 : decode cX4_note 81 = .ok (.iconst 0, 1) := by decide +kernel
theorem dX4_note_82 : decode cX4_note 82 = .ok (.iastore, 1) := by decide +kernel
theorem dX4_note_83 : decode cX4_note 83 = .ok (.aload_n 0, 1) := by decide +kernel
theorem dX4_note_84 : decode cX4_note 84 = .ok (.getfield 28, 3) := by decide +kernel
theorem dX4_note_87 : decode cX4_note 87 = .ok (.aload_n 0, 1) := by decide +kernel
theorem dX4_note_88 : decode cX4_note 88 = .ok (.getfield 78, 3) := by decide +kernel
theorem dX4_note_91 : decode cX4_note 91 = .ok (.iconst 0, 1) := by decide +kernel
theorem dX4_note_92 : decode cX4_note 92 = .ok (.iastore, 1) := by decide +kernel
theorem dX4_note_93 : decode cX4_note 93 = .ok (.iload_n 2, 1) := by decide +kernel
theorem dX4_note_94 : decode cX4_note 94 = .ok (.ifCond .le 13, 3) := by decide +kernel
theorem dX4_note_97 : decode cX4_note 97 = .ok (.aload_n 0, 1) := by decide +kernel
theorem dX4_note_98 : decode cX4_note 98 = .ok (.getfield 61, 3) := by decide +kernel
theorem dX4_note_101 : decode cX4_note 101 = .ok (.iload_n 2, 1) := by decide +kernel
theorem dX4_note_102 : decode cX4_note 102 = .ok (.aload_n 0, 1) := by decide +kernel
theorem dX4_note_103 : decode cX4_note 103 = .ok (.getfield 78, 3) := by decide +kernel
theorem dX4_note_106 : decode cX4_note 106 = .ok (.iastore, 1) := by decide +kernel
theorem dX4_note_107 : decode cX4_note 107 = .ok (.aload_n 0, 1) := by decide +kernel
theorem dX4_note_108 : decode cX4_note 108 = .ok (.getfield 78, 3) := by decide +kernel
theorem dX4_note_111 : decode cX4_note 111 = .ok (.ireturn, 1) := by decide +kernel
theorem dX4_forceTo_0 : decode cX4_forceTo 0 = .ok (.iload_n 1, 1) := by decide +kernel
theorem dX4_forceTo_1 : decode cX4_forceTo 1 = .ok (.aload_n 0, 1) := by decide +kernel
theorem dX4_forceTo_2 : decode cX4_forceTo 2 = .ok (.getfield 78, 3) := by decide +kernel
theorem dX4_forceTo_5 : decode cX4_forceTo 5 = .ok (.if_icmp .ge 7, 3) := by decide +kernel
theorem dX4_forceTo_8 : decode cX4_forceTo 8 = .ok (.iload_n 1, 1) := by decide +kernel
theorem dX4_forceTo_9 : decode cX4_forceTo 9 = .ok (.goto 7, 3) := by decide +kernel
theorem dX4_forceTo_12 : decode cX4_forceTo 12 = .ok (.aload_n 0, 1) := by decide +kernel
theorem dX4_forceTo_13 : decode cX4_forceTo 13 = .ok (.getfield 78, 3) := by decide +kernel
theorem dX4_forceTo_16 : decode cX4_forceTo 16 = .ok (.istore_n 2, 1) := by decide +kernel
theorem dX4_forceTo_17 : decode cX4_forceTo 17 = .ok (.aload_n 0, 1) := by decide +kernel
theorem dX4_forceTo_18 : decode cX4_forceTo 18 = .ok (.iload_n 2, 1) := by decide +kernel
theorem dX4_forceTo_19 : decode cX4_forceTo 19 = .ok (.aload_n 0, 1) := by decide +kernel
theorem dX4_forceTo_20 : decode cX4_forceTo 20 = .ok (.getfield 81, 3) := by decide +kernel
theorem dX4_forceTo_23 : decode cX4_forceTo 23 = .ok (.if_icmp .le 7, 3) := by decide +kernel
theorem dX4_forceTo_26 : decode cX4_forceTo 26 = .ok (.iload_n 2, 1) := by decide +kernel
theorem dX4_forceTo_27 : decode cX4_forceTo 27 = .ok (.goto 7, 3) := by decide +kernel
theorem dX4_forceTo_30 : decode cX4_forceTo 30 = .ok (.aload_n 0, 1) := by decide +kernel
theorem dX4_forceTo_31 : decode cX4_forceTo 31 = .ok (.getfield 81, 3) := by decide +kernel
theorem dX4_forceTo_34 : decode cX4_forceTo 34 = .ok (.putfield 81, 3) := by decide +kernel
theorem dX4_forceTo_37 : decode cX4_forceTo 37 = .ok (.return_, 1) := by decide +kernel
theorem dX4_makeDirty_0 : decode cX4_makeDirty 0 = .ok (.aload_n 0, 1) := by decide +kernel
theorem dX4_makeDirty_1 : decode cX4_makeDirty 1 = .ok (.getfield 49, 3) := by decide +kernel
theorem dX4_makeDirty_4 : decode cX4_makeDirty 4 = .ok (.iload_n 1, 1) := by decide +kernel
theorem dX4_makeDirty_5 : decode cX4_makeDirty 5 = .ok (.iaload, 1) := by decide +kernel
theorem dX4_makeDirty_6 : decode cX4_makeDirty 6 = .ok (.iconst (-1), 1) := by decide +kernel
theorem dX4_makeDirty_7 : decode cX4_makeDirty 7 = .ok (.if_icmp .ne 10, 3) := by decide +kernel
theorem dX4_makeDirty_10 : decode cX4_makeDirty 10 = .ok (.aload_n 0, 1) := by decide +kernel
theorem dX4_makeDirty_11 : decode cX4_makeDirty 11 = .ok (.getfield 49, 3) := by decide +kernel
theorem dX4_makeDirty_14 : decode cX4_makeDirty 14 = .ok (.iload_n 1, 1) := by decide +kernel
theorem dX4_makeDirty_15 : decode cX4_makeDirty 15 = .ok (.iload_n 2, 1) := by decide +kernel
theorem dX4_makeDirty_16 : decode cX4_makeDirty 16 = .ok (.iastore, 1) := by decide +kernel
theorem dX4_makeDirty_17 : decode cX4_makeDirty 17 = .ok (.return_, 1) := by decide +kernel
theorem dX4_apply_0 : decode cX4_apply 0 = .ok (.aload_n 0, 1) := by decide +kernel
theorem dX4_apply_1 : decode cX4_apply 1 = .ok (.getfield 19, 3) := by decide +kernel
theorem dX4_apply_4 : decode cX4_apply 4 = .ok (.iload_n 1, 1) := by decide +kernel
theorem dX4_apply_5 : decode cX4_apply 5 = .ok (.iaload, 1) := by decide +kernel
theorem dX4_apply_6 : decode cX4_apply 6 = .ok (.istore_n 2, 1) := by decide +kernel
theorem dX4_apply_7 : decode cX4_apply 7 = .ok (.aload_n 0, 1) := by decide +kernel
theorem dX4_apply_8 : decode cX4_apply 8 = .ok (.getfield 43, 3) := by decide +kernel
theorem dX4_apply_11 : decode cX4_apply 11 = .ok (.bipush 8, 2) := by decide +kernel
theorem dX4_apply_13 : decode cX4_apply 13 = .ok (.iload_n 2, 1) := by decide +kernel
theorem dX4_apply_14 : decode cX4_apply 14 = .ok (.imul, 1) := by decide +kernel
theorem dX4_apply_15 : decode cX4_apply 15 = .ok (.aload_n 0, 1) := by decide +kernel
theorem dX4_apply_16 : decode cX4_apply 16 = .ok (.getfield 22, 3) := by decide +kernel
theorem dX4_apply_19 : decode cX4_apply 19 = .ok (.iload_n 1, 1) := by decide +kernel
theorem dX4_apply_20 : decode cX4_apply 20 = .ok (.iaload, 1) := by decide +kernel
theorem dX4_apply_21 : decode cX4_apply 21 = .ok (.iadd, 1) := by decide +kernel
theorem dX4_apply_22 : decode cX4_apply 22 = .ok (.dup2, 1) := by decide +kernel
theorem dX4_apply_23 : decode cX4_apply 23 = .ok (.iaload, 1) := by decide +kernel
theorem dX4_apply_24 : decode cX4_apply 24 = .ok (.aload_n 0, 1) := by decide +kernel
theorem dX4_apply_25 : decode cX4_apply 25 = .ok (.getfield 25, 3) := by decide +kernel
theorem dX4_apply_28 : decode cX4_apply 28 = .ok (.iload_n 1, 1) := by decide +kernel
theorem dX4_apply_29 : decode cX4_apply 29 = .ok (.iaload, 1) := by decide +kernel
theorem dX4_apply_30 : decode cX4_apply 30 = .ok (.iadd, 1) := by decide +kernel
theorem dX4_apply_31 : decode cX4_apply 31 = .ok (.iastore, 1) := by decide +kernel
theorem dX4_apply_32 : decode cX4_apply 32 = .ok (.aload_n 0, 1) := by decide +kernel
theorem dX4_apply_33 : decode cX4_apply 33 = .ok (.getfield 46, 3) := by decide +kernel
theorem dX4_apply_36 : decode cX4_apply 36 = .ok (.iload_n 2, 1) := by decide +kernel
theorem dX4_apply_37 : decode cX4_apply 37 = .ok (.iload_n 1, 1) := by decide +kernel
theorem dX4_apply_38 : decode cX4_apply 38 = .ok (.iastore, 1) := by decide +kernel
theorem dX4_apply_39 : decode cX4_apply 39 = .ok (.return_, 1) := by decide +kernel
theorem dX4_open_0 : decode cX4_open 0 = .ok (.iload_n 1, 1) := by decide +kernel
theorem dX4_open_1 : decode cX4_open 1 = .ok (.istore_n 2, 1) := by decide +kernel
theorem dX4_open_2 : decode cX4_open 2 = .ok (.iload_n 2, 1) := by decide +kernel
theorem dX4_open_3 : decode cX4_open 3 = .ok (.ifCond .le 33, 3) := by decide +kernel
theorem dX4_open_6 : decode cX4_open 6 = .ok (.aload_n 0, 1) := by decide +kernel
theorem dX4_open_7 : decode cX4_open 7 = .ok (.getfield 7, 3) := by decide +kernel
theorem dX4_open_10 : decode cX4_open 10 = .ok (.iload_n 2, 1) := by decide +kernel
theorem dX4_open_11 : decode cX4_open 11 = .ok (.iaload, 1) := by decide +kernel
theorem dX4_open_12 : decode cX4_open 12 = .ok (.iconst 1, 1) := by decide +kernel
theorem dX4_open_13 : decode cX4_open 13 = .ok (.if_icmp .eq 23, 3) := by decide +kernel
theorem dX4_open_16 : decode cX4_open 16 = .ok (.aload_n 0, 1) := by decide +kernel
theorem dX4_open_17 : decode cX4_open 17 = .ok (.getfield 7, 3) := by decide +kernel
theorem dX4_open_20 : decode cX4_open 20 = .ok (.iload_n 2, 1) := by decide +kernel
theorem dX4_open_21 : decode cX4_open 21 = .ok (.iaload, 1) := by decide +kernel
theorem dX4_open_22 : decode cX4_open 22 = .ok (.iconst 2, 1) := by decide +kernel
theorem dX4_open_23 : decode cX4_open 23 = .ok (.if_icmp .eq 13, 3) := by decide +kernel
theorem dX4_open_26 : decode cX4_open 26 = .ok (.aload_n 0, 1) := by decide +kernel
theorem dX4_open_27 : decode cX4_open 27 = .ok (.getfield 16, 3) := by decide +kernel
theorem dX4_open_30 : decode cX4_open 30 = .ok (.iload_n 2, 1) := by decide +kernel
theorem dX4_open_31 : decode cX4_open 31 = .ok (.iaload, 1) := by decide +kernel
theorem dX4_open_32 : decode cX4_open 32 = .ok (.istore_n 2, 1) := by decide +kernel
theorem dX4_open_33 : decode cX4_open 33 = .ok (.goto (-31), 3) := by decide +kernel
theorem dX4_open_36 : decode cX4_open 36 = .ok (.iload_n 2, 1) := by decide +kernel
theorem dX4_open_37 : decode cX4_open 37 = .ok (.ifCond .le 22, 3) := by decide +kernel
theorem dX4_open_40 : decode cX4_open 40 = .ok (.aload_n 0, 1) := by decide +kernel
theorem dX4_open_41 : decode cX4_open 41 = .ok (.getfield 7, 3) := by decide +kernel
theorem dX4_open_44 : decode cX4_open 44 = .ok (.iload_n 2, 1) := by decide +kernel
theorem dX4_open_45 : decode cX4_open 45 = .ok (.iaload, 1) := by decide +kernel
theorem dX4_open_46 : decode cX4_open 46 = .ok (.iconst 2, 1) := by decide +kernel
theorem dX4_open_47 : decode cX4_open 47 = .ok (.if_icmp .ne 12, 3) := by decide +kernel
theorem dX4_open_50 : decode cX4_open 50 = .ok (.aload_n 0, 1) := by decide +kernel
theorem dX4_open_51 : decode cX4_open 51 = .ok (.getfield 28, 3) := by decide +kernel
theorem dX4_open_54 : decode cX4_open 54 = .ok (.iload_n 2, 1) := by decide +kernel
theorem dX4_open_55 : decode cX4_open 55 = .ok (.iaload, 1) := by decide +kernel
theorem dX4_open_56 : decode cX4_open 56 = .ok (.goto 4, 3) := by decide +kernel
theorem dX4_open_59 : decode cX4_open 59 = .ok (.iload_n 2, 1) := by decide +kernel
theorem dX4_open_60 : decode cX4_open 60 = .ok (.ireturn, 1) := by decide +kernel
set_option maxRecDepth 20000 in
theorem ggX4_giveBack_X4_note : GoodIn wsX4_giveBack wsX4_note := goodIn_r _ [11, 12, 13, 14, 6, 15, 2, 3, 4, 5, 31, 32, 33, 34, 35, 36, 37, 38, 39, 40, 41, 42, 43, 44, 45, 46, 47, 48, 49, 50, 51, 52, 53, 54, 55, 56, 57, 58] (by decide +kernel) (by decide +kernel)
set_option maxRecDepth 20000 in
theorem gX4_giveBack_X4_note : GoodIn wsX4_giveBack (wsV RX4 84 RX4 yX4_note wsX4_note) := goodIn_app (goodIn_of _ (by decide +kernel)) ggX4_giveBack_X4_note
set_option maxRecDepth 20000 in
theorem ggX4_giveBack_X4_open : GoodIn wsX4_giveBack wsX4_open := goodIn_r _ [19, 13, 6, 5, 31, 32, 33, 34, 35, 36, 37, 38, 39, 40, 41, 42, 43, 44, 45, 46, 47, 48, 49, 50, 51, 52, 53, 54, 55, 56, 57, 58] (by decide +kernel) (by decide +kernel)
set_option maxRecDepth 20000 in
theorem gX4_giveBack_X4_open : GoodIn wsX4_giveBack (wsV RX4 88 RX4 yX4_open wsX4_open) := goodIn_app (goodIn_of _ (by decide +kernel)) ggX4_giveBack_X4_open
set_option maxRecDepth 20000 in
theorem ggX4_giveBack_X4_makeDirty : GoodIn wsX4_giveBack wsX4_makeDirty := goodIn_r _ [23, 24, 31, 32, 33, 34, 35, 36, 37, 38, 39, 40, 41, 42, 43, 44, 45, 46, 47, 48, 49, 50, 51, 52, 53, 54, 55, 56, 57, 58] (by decide +kernel) (by decide +kernel)
set_option maxRecDepth 20000 in
theorem gX4_giveBack_X4_makeDirty : GoodIn wsX4_giveBack (wsV RX4 92 RX4 yX4_makeDirty wsX4_makeDirty) := goodIn_app (goodIn_of _ (by decide +kernel)) ggX4_giveBack_X4_makeDirty
set_option maxRecDepth 20000 in
theorem ggX4_giveBack_X4_apply : GoodIn wsX4_giveBack wsX4_apply := goodIn_r _ [28, 2, 29, 3, 4, 30, 31, 32, 33, 34, 35, 36, 37, 38, 39, 40, 41, 42, 43, 44, 45, 46, 47, 48, 49, 50, 51, 52, 53, 54, 55, 56, 57, 58] (by decide +kernel) (by decide +kernel)
set_option maxRecDepth 20000 in
theorem gX4_giveBack_X4_apply : GoodIn wsX4_giveBack (wsV RX4 96 RX4 yX4_apply wsX4_apply) := goodIn_app (goodIn_of _ (by decide +kernel)) ggX4_giveBack_X4_apply
theorem dX4_giveBack_0 : decode cX4_giveBack 0 = .ok (.aload_n 0, 1) := by decide +kernel
theorem dX4_giveBack_1 : decode cX4_giveBack 1 = .ok (.getfield 64, 3) := by decide +kernel
theorem dX4_giveBack_4 : decode cX4_giveBack 4 = .ok (.iload_n 1, 1) := by decide +kernel
theorem dX4_giveBack_5 : decode cX4_giveBack 5 = .ok (.iaload, 1) := by decide +kernel
theorem dX4_giveBack_6 : decode cX4_giveBack 6 = .ok (.istore_n 2, 1) := by decide +kernel
theorem dX4_giveBack_7 : decode cX4_giveBack 7 = .ok (.aload_n 0, 1) := by decide +kernel
theorem dX4_giveBack_8 : decode cX4_giveBack 8 = .ok (.iconst 2, 1) := by decide +kernel
theorem dX4_giveBack_9 : decode cX4_giveBack 9 = .ok (.iload_n 1, 1) := by decide +kernel
theorem dX4_giveBack_10 : decode cX4_giveBack 10 = .ok (.invokevirtual 84, 3) := by decide +kernel
theorem dX4_giveBack_13 : decode cX4_giveBack 13 = .ok (.istore_n 3, 1) := by decide +kernel
theorem dX4_giveBack_14 : decode cX4_giveBack 14 = .ok (.aload_n 0, 1) := by decide +kernel
theorem dX4_giveBack_15 : decode cX4_giveBack 15 = .ok (.getfield 19, 3) := by decide +kernel
theorem dX4_giveBack_18 : decode cX4_giveBack 18 = .ok (.iload_n 3, 1) := by decide +kernel
theorem dX4_giveBack_19 : decode cX4_giveBack 19 = .ok (.aload_n 0, 1) := by decide +kernel
theorem dX4_giveBack_20 : decode cX4_giveBack 20 = .ok (.getfield 19, 3) := by decide +kernel
theorem dX4_giveBack_23 : decode cX4_giveBack 23 = .ok (.iload_n 2, 1) := by decide +kernel
theorem dX4_giveBack_24 : decode cX4_giveBack 24 = .ok (.iaload, 1) := by decide +kernel
theorem dX4_giveBack_25 : decode cX4_giveBack 25 = .ok (.iastore, 1) := by decide +kernel
theorem dX4_giveBack_26 : decode cX4_giveBack 26 = .ok (.aload_n 0, 1) := by decide +kernel
theorem dX4_giveBack_27 : decode cX4_giveBack 27 = .ok (.getfield 22, 3) := by decide +kernel
theorem dX4_giveBack_30 : decode cX4_giveBack 30 = .ok (.iload_n 3, 1) := by decide +kernel
theorem dX4_giveBack_31 : decode cX4_giveBack 31 = .ok (.aload_n 0, 1) := by decide +kernel
theorem dX4_giveBack_32 : decode cX4_giveBack 32 = .ok (.getfield 22, 3) := by decide +kernel
theorem dX4_giveBack_35 : decode cX4_giveBack 35 = .ok (.iload_n 2, 1) := by decide +kernel
theorem dX4_giveBack_36 : decode cX4_giveBack 36 = .ok (.iaload, 1) := by decide +kernel
theorem dX4_giveBack_37 : decode cX4_giveBack 37 = .ok (.iastore, 1) := by decide +kernel
theorem dX4_giveBack_38 : decode cX4_giveBack 38 = .ok (.aload_n 0, 1) := by decide +kernel
theorem dX4_giveBack_39 : decode cX4_giveBack 39 = .ok (.getfield 25, 3) := by decide +kernel
theorem dX4_giveBack_42 : decode cX4_giveBack 42 = .ok (.iload_n 3, 1) := by decide +kernel
theorem dX4_giveBack_43 : decode cX4_giveBack 43 = .ok (.aload_n 0, 1) := by decide +kernel
theorem dX4_giveBack_44 : decode cX4_giveBack 44 = .ok (.getfield 25, 3) := by decide +kernel
theorem dX4_giveBack_47 : decode cX4_giveBack 47 = .ok (.iload_n 2, 1) := by decide +kernel
theorem dX4_giveBack_48 : decode cX4_giveBack 48 = .ok (.iaload, 1) := by decide +kernel
theorem dX4_giveBack_49 : decode cX4_giveBack 49 = .ok (.ineg, 1) := by decide +kernel
theorem dX4_giveBack_50 : decode cX4_giveBack 50 = .ok (.iastore, 1) := by decide +kernel
theorem dX4_giveBack_51 : decode cX4_giveBack 51 = .ok (.aload_n 0, 1) := by decide +kernel
theorem dX4_giveBack_52 : decode cX4_giveBack 52 = .ok (.getfield 28, 3) := by decide +kernel
theorem dX4_giveBack_55 : decode cX4_giveBack 55 = .ok (.iload_n 3, 1) := by decide +kernel
theorem dX4_giveBack_56 : decode cX4_giveBack 56 = .ok (.aload_n 0, 1) := by decide +kernel
theorem dX4_giveBack_57 : decode cX4_giveBack 57 = .ok (.aload_n 0, 1) := by decide +kernel
theorem dX4_giveBack_58 : decode cX4_giveBack 58 = .ok (.getfield 16, 3) := by decide +kernel
theorem dX4_giveBack_61 : decode cX4_giveBack 61 = .ok (.iload_n 2, 1) := by decide +kernel
theorem dX4_giveBack_62 : decode cX4_giveBack 62 = .ok (.iaload, 1) := by decide +kernel
theorem dX4_giveBack_63 : decode cX4_giveBack 63 = .ok (.invokevirtual 88, 3) := by decide +kernel
theorem dX4_giveBack_66 : decode cX4_giveBack 66 = .ok (.iastore, 1) := by decide +kernel
theorem dX4_giveBack_67 : decode cX4_giveBack 67 = .ok (.aload_n 0, 1) := by decide +kernel
theorem dX4_giveBack_68 : decode cX4_giveBack 68 = .ok (.getfield 64, 3) := by decide +kernel
theorem dX4_giveBack_71 : decode cX4_giveBack 71 = .ok (.iload_n 1, 1) := by decide +kernel
theorem dX4_giveBack_72 : decode cX4_giveBack 72 = .ok (.aload_n 0, 1) := by decide +kernel
theorem dX4_giveBack_73 : decode cX4_giveBack 73 = .ok (.getfield 28, 3) := by decide +kernel
theorem dX4_giveBack_76 : decode cX4_giveBack 76 = .ok (.iload_n 3, 1) := by decide +kernel
theorem dX4_giveBack_77 : decode cX4_giveBack 77 = .ok (.iaload, 1) := by decide +kernel
theorem dX4_giveBack_78 : decode cX4_giveBack 78 = .ok (.iastore, 1) := by decide +kernel
theorem dX4_giveBack_79 : decode cX4_giveBack 79 = .ok (.aload_n 0, 1) := by decide +kernel
theorem dX4_giveBack_80 : decode cX4_giveBack 80 = .ok (.aload_n 0, 1) := by decide +kernel
theorem dX4_giveBack_81 : decode cX4_giveBack 81 = .ok (.getfield 19, 3) := by decide +kernel
theorem dX4_giveBack_84 : decode cX4_giveBack 84 = .ok (.iload_n 3, 1) := by decide +kernel
theorem dX4_giveBack_85 : decode cX4_giveBack 85 = .ok (.iaload, 1) := by decide +kernel
theorem dX4_giveBack_86 : decode cX4_giveBack 86 = .ok (.iload_n 3, 1) := by decide +kernel
theorem dX4_giveBack_87 : decode cX4_giveBack 87 = .ok (.invokevirtual 92, 3) := by decide +kernel
theorem dX4_giveBack_90 : decode cX4_giveBack 90 = .ok (.aload_n 0, 1) := by decide +kernel
theorem dX4_giveBack_91 : decode cX4_giveBack 91 = .ok (.iload_n 3, 1) := by decide +kernel
theorem dX4_giveBack_92 : decode cX4_giveBack 92 = .ok (.invokevirtual 96, 3) := by decide +kernel
theorem dX4_giveBack_95 : decode cX4_giveBack 95 = .ok (.return_, 1) := by decide +kernel
set_option maxRecDepth 20000 in
theorem ggX4_undoTo_X4_giveBack : GoodIn wsX4_undoTo wsX4_giveBack := goodIn_r _ [6, 1, 7, 8, 9, 10, 11, 12, 13, 14, 5, 15, 16, 17, 18, 19, 20, 21, 22, 23, 24, 25, 26, 27, 28, 29, 30, 31, 32, 33, 34, 35, 36, 37, 38, 39, 40, 41, 42, 43, 44, 45, 46, 47, 48, 49, 50, 51, 52, 53, 54, 55, 56, 57, 58, 59, 60, 61, 62] (by decide +kernel) (by decide +kernel)
set_option maxRecDepth 20000 in
theorem gX4_undoTo_X4_giveBack : GoodIn wsX4_undoTo (wsV RX4 100 RX4 yX4_giveBack wsX4_giveBack) := goodIn_app (goodIn_of _ (by decide +kernel)) ggX4_undoTo_X4_giveBack
theorem dX4_undoTo_0 : decode cX4_undoTo 0 = .ok (.iconst 0, 1) := by decide +kernel
theorem dX4_undoTo_1 : decode cX4_undoTo 1 = .ok (.istore_n 3, 1) := by decide +kernel
theorem dX4_undoTo_2 : decode cX4_undoTo 2 = .ok (.aload_n 0, 1) := by decide +kernel
theorem dX4_undoTo_3 : decode cX4_undoTo 3 = .ok (.getfield 64, 3) := by decide +kernel
theorem dX4_undoTo_6 : decode cX4_undoTo 6 = .ok (.iload_n 1, 1) := by decide +kernel
theorem dX4_undoTo_7 : decode cX4_undoTo 7 = .ok (.iaload, 1) := by decide +kernel
theorem dX4_undoTo_8 : decode cX4_undoTo 8 = .ok (.iload_n 2, 1) := by decide +kernel
theorem dX4_undoTo_9 : decode cX4_undoTo 9 = .ok (.if_icmp .le 14, 3) := by decide +kernel
theorem dX4_undoTo_12 : decode cX4_undoTo 12 = .ok (.aload_n 0, 1) := by decide +kernel
theorem dX4_undoTo_13 : decode cX4_undoTo 13 = .ok (.iload_n 1, 1) := by decide +kernel
theorem dX4_undoTo_14 : decode cX4_undoTo 14 = .ok (.invokevirtual 100, 3) := by decide +kernel
theorem dX4_undoTo_17 : decode cX4_undoTo 17 = .ok (.iinc 3 1, 3) := by decide +kernel
theorem dX4_undoTo_20 : decode cX4_undoTo 20 = .ok (.goto (-18), 3) := by decide +kernel
theorem dX4_undoTo_23 : decode cX4_undoTo 23 = .ok (.iload_n 3, 1) := by decide +kernel
theorem dX4_undoTo_24 : decode cX4_undoTo 24 = .ok (.ireturn, 1) := by decide +kernel
set_option maxRecDepth 20000 in
theorem ggX4_end_X4_note : GoodIn wsX4_end wsX4_note := goodIn_r _ [6, 7, 8, 9, 10, 11, 12, 13, 14, 15, 16, 17, 18, 19, 20, 21, 22, 23, 24, 25, 26, 27, 28, 29, 30, 31, 32, 33, 34, 35, 36, 37, 38, 39, 40, 41, 42, 43] (by decide +kernel) (by decide +kernel)
set_option maxRecDepth 20000 in
theorem gX4_end_X4_note : GoodIn wsX4_end (wsV RX4 84 RX4 yX4_note wsX4_note) := goodIn_app (goodIn_of _ (by decide +kernel)) ggX4_end_X4_note
theorem dX4_end_0 : decode cX4_end 0 = .ok (.aload_n 0, 1) := by decide +kernel
theorem dX4_end_1 : decode cX4_end 1 = .ok (.iconst 5, 1) := by decide +kernel
theorem dX4_end_2 : decode cX4_end 2 = .ok (.iload_n 1, 1) := by decide +kernel
theorem dX4_end_3 : decode cX4_end 3 = .ok (.invokevirtual 84, 3) := by decide +kernel
theorem dX4_end_6 : decode cX4_end 6 = .ok (.istore_n 2, 1) := by decide +kernel
theorem dX4_end_7 : decode cX4_end 7 = .ok (.aload_n 0, 1) := by decide +kernel
theorem dX4_end_8 : decode cX4_end 8 = .ok (.getfield 58, 3) := by decide +kernel
theorem dX4_end_11 : decode cX4_end 11 = .ok (.iload_n 1, 1) := by decide +kernel
theorem dX4_end_12 : decode cX4_end 12 = .ok (.iconst 0, 1) := by decide +kernel
theorem dX4_end_13 : decode cX4_end 13 = .ok (.iastore, 1) := by decide +kernel
theorem dX4_end_14 : decode cX4_end 14 = .ok (.return_, 1) := by decide +kernel
set_option maxRecDepth 20000 in
theorem ggX4_begin_X4_many : GoodIn wsX4_begin wsX4_many := goodIn_r _ [10, 2, 3, 11, 12, 13, 14, 15, 16, 17, 18, 19, 20, 21, 22, 23, 24, 25, 26, 27, 28, 29, 30, 31, 32, 33, 34, 35, 36, 37, 38] (by decide +kernel) (by decide +kernel)
set_option maxRecDepth 20000 in
theorem gX4_begin_X4_many : GoodIn wsX4_begin (wsV RX4 106 RX4 yX4_many wsX4_many) := goodIn_app (goodIn_of _ (by decide +kernel)) ggX4_begin_X4_many
theorem dX4_begin_0 : decode cX4_begin 0 = .ok (.aload_n 0, 1) := by decide +kernel
theorem dX4_begin_1 : decode cX4_begin 1 = .ok (.getfield 103, 3) := by decide +kernel
theorem dX4_begin_4 : decode cX4_begin 4 = .ok (.ifCond .le 6, 3) := by decide +kernel
theorem dX4_begin_7 : decode cX4_begin 7 = .ok (.bipush (-105), 2) := by decide +kernel
theorem dX4_begin_9 : decode cX4_begin 9 = .ok (.ireturn, 1) := by decide +kernel
theorem dX4_begin_10 : decode cX4_begin 10 = .ok (.aload_n 0, 1) := by decide +kernel
theorem dX4_begin_11 : decode cX4_begin 11 = .ok (.getfield 70, 3) := by decide +kernel
theorem dX4_begin_14 : decode cX4_begin 14 = .ok (.sipush 200, 3) := by decide +kernel
theorem dX4_begin_17 : decode cX4_begin 17 = .ok (.if_icmp .eq 12, 3) := by decide +kernel
theorem dX4_begin_20 : decode cX4_begin 20 = .ok (.aload_n 0, 1) := by decide +kernel
theorem dX4_begin_21 : decode cX4_begin 21 = .ok (.invokevirtual 106, 3) := by decide +kernel
theorem dX4_begin_24 : decode cX4_begin 24 = .ok (.bipush 16, 2) := by decide +kernel
theorem dX4_begin_26 : decode cX4_begin 26 = .ok (.if_icmp .ne 6, 3) := by decide +kernel
theorem dX4_begin_29 : decode cX4_begin 29 = .ok (.bipush (-104), 2) := by decide +kernel
theorem dX4_begin_31 : decode cX4_begin 31 = .ok (.ireturn, 1) := by decide +kernel
theorem dX4_begin_32 : decode cX4_begin 32 = .ok (.aload_n 0, 1) := by decide +kernel
theorem dX4_begin_33 : decode cX4_begin 33 = .ok (.dup, 1) := by decide +kernel
theorem dX4_begin_34 : decode cX4_begin 34 = .ok (.getfield 70, 3) := by decide +kernel
theorem dX4_begin_37 : decode cX4_begin 37 = .ok (.iconst 1, 1) := by decide +kernel
theorem dX4_begin_38 : decode cX4_begin 38 = .ok (.iadd, 1) := by decide +kernel
theorem dX4_begin_39 : decode cX4_begin 39 = .ok (.putfield 70, 3) := by decide +kernel
theorem dX4_begin_42 : decode cX4_begin 42 = .ok (.aload_n 0, 1) := by decide +kernel
theorem dX4_begin_43 : decode cX4_begin 43 = .ok (.getfield 58, 3) := by decide +kernel
theorem dX4_begin_46 : decode cX4_begin 46 = .ok (.aload_n 0, 1) := by decide +kernel
theorem dX4_begin_47 : decode cX4_begin 47 = .ok (.getfield 70, 3) := by decide +kernel
theorem dX4_begin_50 : decode cX4_begin 50 = .ok (.iconst 1, 1) := by decide +kernel
theorem dX4_begin_51 : decode cX4_begin 51 = .ok (.iastore, 1) := by decide +kernel
theorem dX4_begin_52 : decode cX4_begin 52 = .ok (.aload_n 0, 1) := by decide +kernel
theorem dX4_begin_53 : decode cX4_begin 53 = .ok (.getfield 61, 3) := by decide +kernel
theorem dX4_begin_56 : decode cX4_begin 56 = .ok (.aload_n 0, 1) := by decide +kernel
theorem dX4_begin_57 : decode cX4_begin 57 = .ok (.getfield 70, 3) := by decide +kernel
theorem dX4_begin_60 : decode cX4_begin 60 = .ok (.iconst 0, 1) := by decide +kernel
theorem dX4_begin_61 : decode cX4_begin 61 = .ok (.iastore, 1) := by decide +kernel
theorem dX4_begin_62 : decode cX4_begin 62 = .ok (.aload_n 0, 1) := by decide +kernel
theorem dX4_begin_63 : decode cX4_begin 63 = .ok (.getfield 64, 3) := by decide +kernel
theorem dX4_begin_66 : decode cX4_begin 66 = .ok (.aload_n 0, 1) := by decide +kernel
theorem dX4_begin_67 : decode cX4_begin 67 = .ok (.getfield 70, 3) := by decide +kernel
theorem dX4_begin_70 : decode cX4_begin 70 = .ok (.iconst 0, 1) := by decide +kernel
theorem dX4_begin_71 : decode cX4_begin 71 = .ok (.iastore, 1) := by decide +kernel
theorem dX4_begin_72 : decode cX4_begin 72 = .ok (.aload_n 0, 1) := by decide +kernel
theorem dX4_begin_73 : decode cX4_begin 73 = .ok (.getfield 70, 3) := by decide +kernel
theorem dX4_begin_76 : decode cX4_begin 76 = .ok (.ireturn, 1) := by decide +kernel
set_option maxRecDepth 20000 in
theorem ggX4_add_X4_isWork : GoodIn wsX4_add wsX4_isWork := goodIn_r _ [12, 13, 2, 14, 15, 11, 16, 38, 39, 40, 41, 42, 43, 44, 45, 46, 47, 48, 49, 50, 51, 52, 53, 54, 55, 56, 57, 58, 59, 60, 61, 62, 63, 64, 65] (by decide +kernel) (by decide +kernel)
set_option maxRecDepth 20000 in
theorem gX4_add_X4_isWork : GoodIn wsX4_add (wsV RX4 110 RX4 yX4_isWork wsX4_isWork) := goodIn_app (goodIn_of _ (by decide +kernel)) ggX4_add_X4_isWork
set_option maxRecDepth 20000 in
theorem ggX4_add_X4_in : GoodIn wsX4_add wsX4_in := goodIn_r _ [16] (by decide +kernel) (by decide +kernel)
set_option maxRecDepth 20000 in
theorem gX4_add_X4_in : GoodIn wsX4_add (va_wsS RX4 74 yX4_in wsX4_in) := goodIn_app (goodIn_of _ (by decide +kernel)) ggX4_add_X4_in
set_option maxRecDepth 20000 in
theorem ggX4_add_X4_note : GoodIn wsX4_add wsX4_note := goodIn_r _ [20, 21, 22, 23, 24, 25, 4, 5, 6, 26, 38, 39, 40, 41, 42, 43, 44, 45, 46, 47, 48, 49, 50, 51, 52, 53, 54, 55, 56, 57, 58, 59, 60, 61, 62, 63, 64, 65] (by decide +kernel) (by decide +kernel)
set_option maxRecDepth 20000 in
theorem gX4_add_X4_note : GoodIn wsX4_add (wsV RX4 84 RX4 yX4_note wsX4_note) := goodIn_app (goodIn_of _ (by decide +kernel)) ggX4_add_X4_note
set_option maxRecDepth 20000 in
theorem ggX4_add_X4_makeDirty : GoodIn wsX4_add wsX4_makeDirty := goodIn_r _ [30, 31, 38, 39, 40, 41, 42, 43, 44, 45, 46, 47, 48, 49, 50, 51, 52, 53, 54, 55, 56, 57, 58, 59, 60, 61, 62, 63, 64, 65] (by decide +kernel) (by decide +kernel)
set_option maxRecDepth 20000 in
theorem gX4_add_X4_makeDirty : GoodIn wsX4_add (wsV RX4 92 RX4 yX4_makeDirty wsX4_makeDirty) := goodIn_app (goodIn_of _ (by decide +kernel)) ggX4_add_X4_makeDirty
set_option maxRecDepth 20000 in
theorem ggX4_add_X4_apply : GoodIn wsX4_add wsX4_apply := goodIn_r _ [35, 4, 36, 5, 6, 37, 38, 39, 40, 41, 42, 43, 44, 45, 46, 47, 48, 49, 50, 51, 52, 53, 54, 55, 56, 57, 58, 59, 60, 61, 62, 63, 64, 65] (by decide +kernel) (by decide +kernel)
set_option maxRecDepth 20000 in
theorem gX4_add_X4_apply : GoodIn wsX4_add (wsV RX4 96 RX4 yX4_apply wsX4_apply) := goodIn_app (goodIn_of _ (by decide +kernel)) ggX4_add_X4_apply
theorem dX4_add_0 : decode cX4_add 0 = .ok (.aload_n 0, 1) := by decide +kernel
theorem dX4_add_1 : decode cX4_add 1 = .ok (.getfield 103, 3) := by decide +kernel
theorem dX4_add_4 : decode cX4_add 4 = .ok (.ifCond .le 6, 3) := by decide +kernel
theorem dX4_add_7 : decode cX4_add 7 = .ok (.bipush (-105), 2) := by decide +kernel
theorem dX4_add_9 : decode cX4_add 9 = .ok (.ireturn, 1) := by decide +kernel
theorem dX4_add_10 : decode cX4_add 10 = .ok (.aload_n 0, 1) := by decide +kernel
theorem dX4_add_11 : decode cX4_add 11 = .ok (.iload_n 1, 1) := by decide +kernel
theorem dX4_add_12 : decode cX4_add 12 = .ok (.invokevirtual 110, 3) := by decide +kernel
theorem dX4_add_15 : decode cX4_add 15 = .ok (.ifCond .ne 6, 3) := by decide +kernel
theorem dX4_add_18 : decode cX4_add 18 = .ok (.bipush (-101), 2) := by decide +kernel
theorem dX4_add_20 : decode cX4_add 20 = .ok (.ireturn, 1) := by decide +kernel
theorem dX4_add_21 : decode cX4_add 21 = .ok (.iload_n 2, 1) := by decide +kernel
theorem dX4_add_22 : decode cX4_add 22 = .ok (.iconst 0, 1) := by decide +kernel
theorem dX4_add_23 : decode cX4_add 23 = .ok (.bipush 63, 2) := by decide +kernel
theorem dX4_add_25 : decode cX4_add 25 = .ok (.invokestatic 74, 3) := by decide +kernel
theorem dX4_add_28 : decode cX4_add 28 = .ok (.ifCond .eq 13, 3) := by decide +kernel
theorem dX4_add_31 : decode cX4_add 31 = .ok (.iload_n 3, 1) := by decide +kernel
theorem dX4_add_32 : decode cX4_add 32 = .ok (.iconst 0, 1) := by decide +kernel
theorem dX4_add_33 : decode cX4_add 33 = .ok (.bipush 7, 2) := by decide +kernel
theorem dX4_add_35 : decode cX4_add 35 = .ok (.invokestatic 74, 3) := by decide +kernel
theorem dX4_add_38 : decode cX4_add 38 = .ok (.ifCond .ne 6, 3) := by decide +kernel
theorem dX4_add_41 : decode cX4_add 41 = .ok (.bipush (-102), 2) := by decide +kernel
theorem dX4_add_43 : decode cX4_add 43 = .ok (.ireturn, 1) := by decide +kernel
theorem dX4_add_44 : decode cX4_add 44 = .ok (.aload_n 0, 1) := by decide +kernel
theorem dX4_add_45 : decode cX4_add 45 = .ok (.getfield 58, 3) := by decide +kernel
theorem dX4_add_48 : decode cX4_add 48 = .ok (.iload_n 1, 1) := by decide +kernel
theorem dX4_add_49 : decode cX4_add 49 = .ok (.iaload, 1) := by decide +kernel
theorem dX4_add_50 : decode cX4_add 50 = .ok (.iconst 1, 1) := by decide +kernel
theorem dX4_add_51 : decode cX4_add 51 = .ok (.if_icmp .eq 6, 3) := by decide +kernel
theorem dX4_add_54 : decode cX4_add 54 = .ok (.bipush (-103), 2) := by decide +kernel
theorem dX4_add_56 : decode cX4_add 56 = .ok (.ireturn, 1) := by decide +kernel
theorem dX4_add_57 : decode cX4_add 57 = .ok (.aload_n 0, 1) := by decide +kernel
theorem dX4_add_58 : decode cX4_add 58 = .ok (.getfield 114, 3) := by decide +kernel
theorem dX4_add_61 : decode cX4_add 61 = .ok (.sipush 2000, 3) := by decide +kernel
theorem dX4_add_64 : decode cX4_add 64 = .ok (.if_icmp .ne 6, 3) := by decide +kernel
theorem dX4_add_67 : decode cX4_add 67 = .ok (.bipush (-104), 2) := by decide +kernel
theorem dX4_add_69 : decode cX4_add 69 = .ok (.ireturn, 1) := by decide +kernel
theorem dX4_add_70 : decode cX4_add 70 = .ok (.aload_n 0, 1) := by decide +kernel
theorem dX4_add_71 : decode cX4_add 71 = .ok (.iconst 1, 1) := by decide +kernel
theorem dX4_add_72 : decode cX4_add 72 = .ok (.iload_n 1, 1) := by decide +kernel
theorem dX4_add_73 : decode cX4_add 73 = .ok (.invokevirtual 84, 3) := by decide +kernel
theorem dX4_add_76 : decode cX4_add 76 = .ok (.istore 5, 2) := by decide +kernel
theorem dX4_add_78 : decode cX4_add 78 = .ok (.aload_n 0, 1) := by decide +kernel
theorem dX4_add_79 : decode cX4_add 79 = .ok (.dup, 1) := by decide +kernel
theorem dX4_add_80 : decode cX4_add 80 = .ok (.getfield 114, 3) := by decide +kernel
theorem dX4_add_83 : decode cX4_add 83 = .ok (.iconst 1, 1) := by decide +kernel
theorem dX4_add_84 : decode cX4_add 84 = .ok (.iadd, 1) := by decide +kernel
theorem dX4_add_85 : decode cX4_add 85 = .ok (.putfield 114, 3) := by decide +kernel
theorem dX4_add_88 : decode cX4_add 88 = .ok (.aload_n 0, 1) := by decide +kernel
theorem dX4_add_89 : decode cX4_add 89 = .ok (.getfield 19, 3) := by decide +kernel
theorem dX4_add_92 : decode cX4_add 92 = .ok (.iload 5, 2) := by decide +kernel
theorem dX4_add_94 : decode cX4_add 94 = .ok (.iload_n 2, 1) := by decide +kernel
theorem dX4_add_95 : decode cX4_add 95 = .ok (.iastore, 1) := by decide +kernel
theorem dX4_add_96 : decode cX4_add 96 = .ok (.aload_n 0, 1) := by decide +kernel
theorem dX4_add_97 : decode cX4_add 97 = .ok (.getfield 22, 3) := by decide +kernel
theorem dX4_add_100 : decode cX4_add 100 = .ok (.iload 5, 2) := by decide +kernel
theorem dX4_add_102 : decode cX4_add 102 = .ok (.iload_n 3, 1) := by decide +kernel
theorem dX4_add_103 : decode cX4_add 103 = .ok (.iastore, 1) := by decide +kernel
theorem dX4_add_104 : decode cX4_add 104 = .ok (.aload_n 0, 1) := by decide +kernel
theorem dX4_add_105 : decode cX4_add 105 = .ok (.getfield 25, 3) := by decide +kernel
theorem dX4_add_108 : decode cX4_add 108 = .ok (.iload 5, 2) := by decide +kernel
theorem dX4_add_110 : decode cX4_add 110 = .ok (.iload 4, 2) := by decide +kernel
theorem dX4_add_112 : decode cX4_add 112 = .ok (.iastore, 1) := by decide +kernel
theorem dX4_add_113 : decode cX4_add 113 = .ok (.aload_n 0, 1) := by decide +kernel
theorem dX4_add_114 : decode cX4_add 114 = .ok (.getfield 64, 3) := by decide +kernel
theorem dX4_add_117 : decode cX4_add 117 = .ok (.iload_n 1, 1) := by decide +kernel
theorem dX4_add_118 : decode cX4_add 118 = .ok (.iload 5, 2) := by decide +kernel
theorem dX4_add_120 : decode cX4_add 120 = .ok (.iastore, 1) := by decide +kernel
theorem dX4_add_121 : decode cX4_add 121 = .ok (.aload_n 0, 1) := by decide +kernel
theorem dX4_add_122 : decode cX4_add 122 = .ok (.iload_n 2, 1) := by decide +kernel
theorem dX4_add_123 : decode cX4_add 123 = .ok (.iload 5, 2) := by decide +kernel
theorem dX4_add_125 : decode cX4_add 125 = .ok (.invokevirtual 92, 3) := by decide +kernel
theorem dX4_add_128 : decode cX4_add 128 = .ok (.aload_n 0, 1) := by decide +kernel
theorem dX4_add_129 : decode cX4_add 129 = .ok (.iload 5, 2) := by decide +kernel
theorem dX4_add_131 : decode cX4_add 131 = .ok (.invokevirtual 96, 3) := by decide +kernel
theorem dX4_add_134 : decode cX4_add 134 = .ok (.iload 5, 2) := by decide +kernel
theorem dX4_add_136 : decode cX4_add 136 = .ok (.ireturn, 1) := by decide +kernel
set_option maxRecDepth 20000 in
theorem ggX4_back_X4_isWork : GoodIn wsX4_back wsX4_isWork := goodIn_r _ [8, 9, 3, 10, 11, 7, 12, 49, 50, 51, 52, 53, 54, 55, 56, 57, 58, 59, 60, 61, 62, 63, 64, 65, 66, 67, 68, 69, 70, 71, 72, 73, 74, 75, 76] (by decide +kernel) (by decide +kernel)
set_option maxRecDepth 20000 in
theorem gX4_back_X4_isWork : GoodIn wsX4_back (wsV RX4 110 RX4 yX4_isWork wsX4_isWork) := goodIn_app (goodIn_of _ (by decide +kernel)) ggX4_back_X4_isWork
set_option maxRecDepth 20000 in
theorem ggX4_back_X4_in : GoodIn wsX4_back wsX4_in := goodIn_r _ [12] (by decide +kernel) (by decide +kernel)
set_option maxRecDepth 20000 in
theorem gX4_back_X4_in : GoodIn wsX4_back (va_wsS RX4 74 yX4_in wsX4_in) := goodIn_app (goodIn_of _ (by decide +kernel)) ggX4_back_X4_in
set_option maxRecDepth 20000 in
theorem ggX4_back_X4_undoTo : GoodIn wsX4_back wsX4_undoTo := goodIn_r _ [16, 17, 18, 19, 20, 7, 21, 22, 23, 24, 25, 26, 27, 28, 29, 30, 31, 32, 33, 2, 34, 35, 36, 37, 38, 39, 40, 41, 42, 43, 44, 45, 46, 47, 48, 49, 50, 51, 52, 53, 54, 55, 56, 57, 58, 59, 60, 61, 62, 63, 64, 65, 66, 67, 68, 69, 70, 71, 72, 73, 74, 75, 76] (by decide +kernel) (by decide +kernel)
set_option maxRecDepth 20000 in
theorem gX4_back_X4_undoTo : GoodIn wsX4_back (wsV RX4 117 RX4 yX4_undoTo wsX4_undoTo) := goodIn_app (goodIn_of _ (by decide +kernel)) ggX4_back_X4_undoTo
theorem dX4_back_0 : decode cX4_back 0 = .ok (.aload_n 0, 1) := by decide +kernel
theorem dX4_back_1 : decode cX4_back 1 = .ok (.getfield 103, 3) := by decide +kernel
theorem dX4_back_4 : decode cX4_back 4 = .ok (.ifCond .le 6, 3) := by decide +kernel
theorem dX4_back_7 : decode cX4_back 7 = .ok (.bipush (-105), 2) := by decide +kernel
theorem dX4_back_9 : decode cX4_back 9 = .ok (.ireturn, 1) := by decide +kernel
theorem dX4_back_10 : decode cX4_back 10 = .ok (.aload_n 0, 1) := by decide +kernel
theorem dX4_back_11 : decode cX4_back 11 = .ok (.iload_n 1, 1) := by decide +kernel
theorem dX4_back_12 : decode cX4_back 12 = .ok (.invokevirtual 110, 3) := by decide +kernel
theorem dX4_back_15 : decode cX4_back 15 = .ok (.ifCond .ne 6, 3) := by decide +kernel
theorem dX4_back_18 : decode cX4_back 18 = .ok (.bipush (-101), 2) := by decide +kernel
theorem dX4_back_20 : decode cX4_back 20 = .ok (.ireturn, 1) := by decide +kernel
theorem dX4_back_21 : decode cX4_back 21 = .ok (.iload_n 2, 1) := by decide +kernel
theorem dX4_back_22 : decode cX4_back 22 = .ok (.iconst 0, 1) := by decide +kernel
theorem dX4_back_23 : decode cX4_back 23 = .ok (.aload_n 0, 1) := by decide +kernel
theorem dX4_back_24 : decode cX4_back 24 = .ok (.getfield 61, 3) := by decide +kernel
theorem dX4_back_27 : decode cX4_back 27 = .ok (.iload_n 1, 1) := by decide +kernel
theorem dX4_back_28 : decode cX4_back 28 = .ok (.iaload, 1) := by decide +kernel
theorem dX4_back_29 : decode cX4_back 29 = .ok (.invokestatic 74, 3) := by decide +kernel
theorem dX4_back_32 : decode cX4_back 32 = .ok (.ifCond .ne 6, 3) := by decide +kernel
theorem dX4_back_35 : decode cX4_back 35 = .ok (.bipush (-102), 2) := by decide +kernel
theorem dX4_back_37 : decode cX4_back 37 = .ok (.ireturn, 1) := by decide +kernel
theorem dX4_back_38 : decode cX4_back 38 = .ok (.aload_n 0, 1) := by decide +kernel
theorem dX4_back_39 : decode cX4_back 39 = .ok (.getfield 58, 3) := by decide +kernel
theorem dX4_back_42 : decode cX4_back 42 = .ok (.iload_n 1, 1) := by decide +kernel
theorem dX4_back_43 : decode cX4_back 43 = .ok (.iaload, 1) := by decide +kernel
