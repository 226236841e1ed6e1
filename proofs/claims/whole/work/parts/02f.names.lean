theorem dX4_link_10 : decode cX4_link 10 = .ok (.invokevirtual 57, 3) := by decide +kernel
theorem dX4_link_13 : decode cX4_link 13 = .ok (.ifCond .ne 7, 3) := by decide +kernel
theorem dX4_link_16 : decode cX4_link 16 = .ok (.iconst 1, 1) := by decide +kernel
theorem dX4_link_17 : decode cX4_link 17 = .ok (.goto 27, 3) := by decide +kernel
theorem dX4_link_20 : decode cX4_link 20 = .ok (.aload_n 0, 1) := by decide +kernel
theorem dX4_link_21 : decode cX4_link 21 = .ok (.getfield 29, 3) := by decide +kernel
theorem dX4_link_24 : decode cX4_link 24 = .ok (.iload_n 1, 1) := by decide +kernel
theorem dX4_link_25 : decode cX4_link 25 = .ok (.iaload, 1) := by decide +kernel
theorem dX4_link_26 : decode cX4_link 26 = .ok (.ifCond .eq 13, 3) := by decide +kernel
theorem dX4_link_29 : decode cX4_link 29 = .ok (.aload_n 0, 1) := by decide +kernel
theorem dX4_link_30 : decode cX4_link 30 = .ok (.iload_n 1, 1) := by decide +kernel
theorem dX4_link_31 : decode cX4_link 31 = .ok (.iload_n 2, 1) := by decide +kernel
theorem dX4_link_32 : decode cX4_link 32 = .ok (.invokevirtual 88, 3) := by decide +kernel
theorem dX4_link_35 : decode cX4_link 35 = .ok (.iconst (-1), 1) := by decide +kernel
theorem dX4_link_36 : decode cX4_link 36 = .ok (.if_icmp .eq 7, 3) := by decide +kernel
theorem dX4_link_39 : decode cX4_link 39 = .ok (.iconst 2, 1) := by decide +kernel
theorem dX4_link_40 : decode cX4_link 40 = .ok (.goto 4, 3) := by decide +kernel
theorem dX4_link_43 : decode cX4_link 43 = .ok (.iconst 0, 1) := by decide +kernel
theorem dX4_link_44 : decode cX4_link 44 = .ok (.istore_n 3, 1) := by decide +kernel
theorem dX4_link_45 : decode cX4_link 45 = .ok (.aload_n 0, 1) := by decide +kernel
theorem dX4_link_46 : decode cX4_link 46 = .ok (.iload_n 3, 1) := by decide +kernel
theorem dX4_link_47 : decode cX4_link 47 = .ok (.invokevirtual 62, 3) := by decide +kernel
theorem dX4_link_50 : decode cX4_link 50 = .ok (.ifCond .ne 5, 3) := by decide +kernel
theorem dX4_link_53 : decode cX4_link 53 = .ok (.iconst 0, 1) := by decide +kernel
theorem dX4_link_54 : decode cX4_link 54 = .ok (.ireturn, 1) := by decide +kernel
theorem dX4_link_55 : decode cX4_link 55 = .ok (.aload_n 0, 1) := by decide +kernel
theorem dX4_link_56 : decode cX4_link 56 = .ok (.getfield 26, 3) := by decide +kernel
theorem dX4_link_59 : decode cX4_link 59 = .ok (.bipush 12, 2) := by decide +kernel
theorem dX4_link_61 : decode cX4_link 61 = .ok (.iload_n 1, 1) := by decide +kernel
theorem dX4_link_62 : decode cX4_link 62 = .ok (.imul, 1) := by decide +kernel
theorem dX4_link_63 : decode cX4_link 63 = .ok (.aload_n 0, 1) := by decide +kernel
theorem dX4_link_64 : decode cX4_link 64 = .ok (.getfield 29, 3) := by decide +kernel
theorem dX4_link_67 : decode cX4_link 67 = .ok (.iload_n 1, 1) := by decide +kernel
theorem dX4_link_68 : decode cX4_link 68 = .ok (.iaload, 1) := by decide +kernel
theorem dX4_link_69 : decode cX4_link 69 = .ok (.iadd, 1) := by decide +kernel
theorem dX4_link_70 : decode cX4_link 70 = .ok (.iload_n 2, 1) := by decide +kernel
theorem dX4_link_71 : decode cX4_link 71 = .ok (.iastore, 1) := by decide +kernel
theorem dX4_link_72 : decode cX4_link 72 = .ok (.aload_n 0, 1) := by decide +kernel
theorem dX4_link_73 : decode cX4_link 73 = .ok (.getfield 29, 3) := by decide +kernel
theorem dX4_link_76 : decode cX4_link 76 = .ok (.iload_n 1, 1) := by decide +kernel
theorem dX4_link_77 : decode cX4_link 77 = .ok (.dup2, 1) := by decide +kernel
theorem dX4_link_78 : decode cX4_link 78 = .ok (.iaload, 1) := by decide +kernel
theorem dX4_link_79 : decode cX4_link 79 = .ok (.iconst 1, 1) := by decide +kernel
theorem dX4_link_80 : decode cX4_link 80 = .ok (.iadd, 1) := by decide +kernel
theorem dX4_link_81 : decode cX4_link 81 = .ok (.iastore, 1) := by decide +kernel
theorem dX4_link_82 : decode cX4_link 82 = .ok (.aload_n 0, 1) := by decide +kernel
theorem dX4_link_83 : decode cX4_link 83 = .ok (.getfield 29, 3) := by decide +kernel
theorem dX4_link_86 : decode cX4_link 86 = .ok (.iload_n 1, 1) := by decide +kernel
theorem dX4_link_87 : decode cX4_link 87 = .ok (.iaload, 1) := by decide +kernel
theorem dX4_link_88 : decode cX4_link 88 = .ok (.ireturn, 1) := by decide +kernel
set_option maxRecDepth 20000 in
theorem ggX4_unlink_X4_isFile : GoodIn wsX4_unlink wsX4_isFile := goodIn_r _ [11, 12, 13, 14, 10, 15, 30, 31, 32, 33, 34, 35, 36, 37, 38, 39, 40, 41, 42, 43, 44] (by decide +kernel) (by decide +kernel)
set_option maxRecDepth 20000 in
theorem gX4_unlink_X4_isFile : GoodIn wsX4_unlink (wsV RX4 85 RX4 yX4_isFile wsX4_isFile) := goodIn_app (goodIn_of _ (by decide +kernel)) ggX4_unlink_X4_isFile
set_option maxRecDepth 20000 in
theorem ggX4_unlink_X4_isDirectory : GoodIn wsX4_unlink wsX4_isDirectory := goodIn_r _ [19, 20, 13, 14, 10, 15, 30, 31, 32, 33, 34, 35, 36, 37, 38, 39, 40, 41, 42, 43, 44] (by decide +kernel) (by decide +kernel)
set_option maxRecDepth 20000 in
theorem gX4_unlink_X4_isDirectory : GoodIn wsX4_unlink (wsV RX4 57 RX4 yX4_isDirectory wsX4_isDirectory) := goodIn_app (goodIn_of _ (by decide +kernel)) ggX4_unlink_X4_isDirectory
set_option maxRecDepth 20000 in
theorem ggX4_unlink_X4_linkTo : GoodIn wsX4_unlink wsX4_linkTo := goodIn_r _ [24, 1, 2, 30, 31, 32, 33, 34, 35, 36, 37, 38, 39, 40, 41, 42, 43, 44] (by decide +kernel) (by decide +kernel)
set_option maxRecDepth 20000 in
theorem gX4_unlink_X4_linkTo : GoodIn wsX4_unlink (wsV RX4 88 RX4 yX4_linkTo wsX4_linkTo) := goodIn_app (goodIn_of _ (by decide +kernel)) ggX4_unlink_X4_linkTo
set_option maxRecDepth 20000 in
theorem ggX4_unlink_X4_isFine : GoodIn wsX4_unlink wsX4_isFine := goodIn_r _ [28, 29, 30, 31, 32, 33, 34, 35, 36, 37, 38, 39, 40, 41, 42, 43, 44] (by decide +kernel) (by decide +kernel)
set_option maxRecDepth 20000 in
theorem gX4_unlink_X4_isFine : GoodIn wsX4_unlink (wsV RX4 62 RX4 yX4_isFine wsX4_isFine) := goodIn_app (goodIn_of _ (by decide +kernel)) ggX4_unlink_X4_isFine
theorem dX4_unlink_0 : decode cX4_unlink 0 = .ok (.aload_n 0, 1) := by decide +kernel
theorem dX4_unlink_1 : decode cX4_unlink 1 = .ok (.iload_n 1, 1) := by decide +kernel
theorem dX4_unlink_2 : decode cX4_unlink 2 = .ok (.invokevirtual 85, 3) := by decide +kernel
theorem dX4_unlink_5 : decode cX4_unlink 5 = .ok (.ifCond .eq 11, 3) := by decide +kernel
theorem dX4_unlink_8 : decode cX4_unlink 8 = .ok (.aload_n 0, 1) := by decide +kernel
theorem dX4_unlink_9 : decode cX4_unlink 9 = .ok (.iload_n 2, 1) := by decide +kernel
theorem dX4_unlink_10 : decode cX4_unlink 10 = .ok (.invokevirtual 57, 3) := by decide +kernel
theorem dX4_unlink_13 : decode cX4_unlink 13 = .ok (.ifCond .ne 7, 3) := by decide +kernel
theorem dX4_unlink_16 : decode cX4_unlink 16 = .ok (.iconst 1, 1) := by decide +kernel
theorem dX4_unlink_17 : decode cX4_unlink 17 = .ok (.goto 18, 3) := by decide +kernel
theorem dX4_unlink_20 : decode cX4_unlink 20 = .ok (.aload_n 0, 1) := by decide +kernel
theorem dX4_unlink_21 : decode cX4_unlink 21 = .ok (.iload_n 1, 1) := by decide +kernel
theorem dX4_unlink_22 : decode cX4_unlink 22 = .ok (.iload_n 2, 1) := by decide +kernel
theorem dX4_unlink_23 : decode cX4_unlink 23 = .ok (.invokevirtual 88, 3) := by decide +kernel
theorem dX4_unlink_26 : decode cX4_unlink 26 = .ok (.iconst (-1), 1) := by decide +kernel
theorem dX4_unlink_27 : decode cX4_unlink 27 = .ok (.if_icmp .ne 7, 3) := by decide +kernel
theorem dX4_unlink_30 : decode cX4_unlink 30 = .ok (.iconst 2, 1) := by decide +kernel
theorem dX4_unlink_31 : decode cX4_unlink 31 = .ok (.goto 4, 3) := by decide +kernel
theorem dX4_unlink_34 : decode cX4_unlink 34 = .ok (.iconst 0, 1) := by decide +kernel
theorem dX4_unlink_35 : decode cX4_unlink 35 = .ok (.istore_n 3, 1) := by decide +kernel
theorem dX4_unlink_36 : decode cX4_unlink 36 = .ok (.aload_n 0, 1) := by decide +kernel
theorem dX4_unlink_37 : decode cX4_unlink 37 = .ok (.iload_n 3, 1) := by decide +kernel
theorem dX4_unlink_38 : decode cX4_unlink 38 = .ok (.invokevirtual 62, 3) := by decide +kernel
theorem dX4_unlink_41 : decode cX4_unlink 41 = .ok (.ifCond .ne 5, 3) := by decide +kernel
theorem dX4_unlink_44 : decode cX4_unlink 44 = .ok (.iconst 0, 1) := by decide +kernel
theorem dX4_unlink_45 : decode cX4_unlink 45 = .ok (.ireturn, 1) := by decide +kernel
theorem dX4_unlink_46 : decode cX4_unlink 46 = .ok (.aload_n 0, 1) := by decide +kernel
theorem dX4_unlink_47 : decode cX4_unlink 47 = .ok (.iload_n 1, 1) := by decide +kernel
theorem dX4_unlink_48 : decode cX4_unlink 48 = .ok (.iload_n 2, 1) := by decide +kernel
theorem dX4_unlink_49 : decode cX4_unlink 49 = .ok (.invokevirtual 88, 3) := by decide +kernel
theorem dX4_unlink_52 : decode cX4_unlink 52 = .ok (.istore 4, 2) := by decide +kernel
theorem dX4_unlink_54 : decode cX4_unlink 54 = .ok (.aload_n 0, 1) := by decide +kernel
theorem dX4_unlink_55 : decode cX4_unlink 55 = .ok (.getfield 29, 3) := by decide +kernel
theorem dX4_unlink_58 : decode cX4_unlink 58 = .ok (.iload_n 1, 1) := by decide +kernel
theorem dX4_unlink_59 : decode cX4_unlink 59 = .ok (.dup2, 1) := by decide +kernel
theorem dX4_unlink_60 : decode cX4_unlink 60 = .ok (.iaload, 1) := by decide +kernel
theorem dX4_unlink_61 : decode cX4_unlink 61 = .ok (.iconst 1, 1) := by decide +kernel
theorem dX4_unlink_62 : decode cX4_unlink 62 = .ok (.isub, 1) := by decide +kernel
theorem dX4_unlink_63 : decode cX4_unlink 63 = .ok (.iastore, 1) := by decide +kernel
theorem dX4_unlink_64 : decode cX4_unlink 64 = .ok (.iload 4, 2) := by decide +kernel
theorem dX4_unlink_66 : decode cX4_unlink 66 = .ok (.istore 5, 2) := by decide +kernel
theorem dX4_unlink_68 : decode cX4_unlink 68 = .ok (.iload 5, 2) := by decide +kernel
theorem dX4_unlink_70 : decode cX4_unlink 70 = .ok (.aload_n 0, 1) := by decide +kernel
theorem dX4_unlink_71 : decode cX4_unlink 71 = .ok (.getfield 29, 3) := by decide +kernel
theorem dX4_unlink_74 : decode cX4_unlink 74 = .ok (.iload_n 1, 1) := by decide +kernel
theorem dX4_unlink_75 : decode cX4_unlink 75 = .ok (.iaload, 1) := by decide +kernel
theorem dX4_unlink_76 : decode cX4_unlink 76 = .ok (.if_icmp .ge 35, 3) := by decide +kernel
theorem dX4_unlink_79 : decode cX4_unlink 79 = .ok (.aload_n 0, 1) := by decide +kernel
theorem dX4_unlink_80 : decode cX4_unlink 80 = .ok (.getfield 26, 3) := by decide +kernel
theorem dX4_unlink_83 : decode cX4_unlink 83 = .ok (.bipush 12, 2) := by decide +kernel
theorem dX4_unlink_85 : decode cX4_unlink 85 = .ok (.iload_n 1, 1) := by decide +kernel
theorem dX4_unlink_86 : decode cX4_unlink 86 = .ok (.imul, 1) := by decide +kernel
theorem dX4_unlink_87 : decode cX4_unlink 87 = .ok (.iload 5, 2) := by decide +kernel
theorem dX4_unlink_89 : decode cX4_unlink 89 = .ok (.iadd, 1) := by decide +kernel
theorem dX4_unlink_90 : decode cX4_unlink 90 = .ok (.aload_n 0, 1) := by decide +kernel
theorem dX4_unlink_91 : decode cX4_unlink 91 = .ok (.getfield 26, 3) := by decide +kernel
theorem dX4_unlink_94 : decode cX4_unlink 94 = .ok (.bipush 12, 2) := by decide +kernel
theorem dX4_unlink_96 : decode cX4_unlink 96 = .ok (.iload_n 1, 1) := by decide +kernel
theorem dX4_unlink_97 : decode cX4_unlink 97 = .ok (.imul, 1) := by decide +kernel
theorem dX4_unlink_98 : decode cX4_unlink 98 = .ok (.iload 5, 2) := by decide +kernel
theorem dX4_unlink_100 : decode cX4_unlink 100 = .ok (.iadd, 1) := by decide +kernel
theorem dX4_unlink_101 : decode cX4_unlink 101 = .ok (.iconst 1, 1) := by decide +kernel
theorem dX4_unlink_102 : decode cX4_unlink 102 = .ok (.iadd, 1) := by decide +kernel
theorem dX4_unlink_103 : decode cX4_unlink 103 = .ok (.iaload, 1) := by decide +kernel
theorem dX4_unlink_104 : decode cX4_unlink 104 = .ok (.iastore, 1) := by decide +kernel
theorem dX4_unlink_105 : decode cX4_unlink 105 = .ok (.iinc 5 1, 3) := by decide +kernel
theorem dX4_unlink_108 : decode cX4_unlink 108 = .ok (.goto (-40), 3) := by decide +kernel
theorem dX4_unlink_111 : decode cX4_unlink 111 = .ok (.aload_n 0, 1) := by decide +kernel
theorem dX4_unlink_112 : decode cX4_unlink 112 = .ok (.getfield 29, 3) := by decide +kernel
theorem dX4_unlink_115 : decode cX4_unlink 115 = .ok (.iload_n 1, 1) := by decide +kernel
theorem dX4_unlink_116 : decode cX4_unlink 116 = .ok (.iaload, 1) := by decide +kernel
theorem dX4_unlink_117 : decode cX4_unlink 117 = .ok (.ifCond .ne 45, 3) := by decide +kernel
theorem dX4_unlink_120 : decode cX4_unlink 120 = .ok (.aload_n 0, 1) := by decide +kernel
theorem dX4_unlink_121 : decode cX4_unlink 121 = .ok (.getfield 32, 3) := by decide +kernel
theorem dX4_unlink_124 : decode cX4_unlink 124 = .ok (.iload_n 1, 1) := by decide +kernel
theorem dX4_unlink_125 : decode cX4_unlink 125 = .ok (.dup2, 1) := by decide +kernel
theorem dX4_unlink_126 : decode cX4_unlink 126 = .ok (.iaload, 1) := by decide +kernel
theorem dX4_unlink_127 : decode cX4_unlink 127 = .ok (.aload_n 0, 1) := by decide +kernel
theorem dX4_unlink_128 : decode cX4_unlink 128 = .ok (.getfield 35, 3) := by decide +kernel
theorem dX4_unlink_131 : decode cX4_unlink 131 = .ok (.iload_n 1, 1) := by decide +kernel
theorem dX4_unlink_132 : decode cX4_unlink 132 = .ok (.iaload, 1) := by decide +kernel
theorem dX4_unlink_133 : decode cX4_unlink 133 = .ok (.ifCond .ne 7, 3) := by decide +kernel
theorem dX4_unlink_136 : decode cX4_unlink 136 = .ok (.iconst 0, 1) := by decide +kernel
theorem dX4_unlink_137 : decode cX4_unlink 137 = .ok (.goto 9, 3) := by decide +kernel
theorem dX4_unlink_140 : decode cX4_unlink 140 = .ok (.aload_n 0, 1) := by decide +kernel
theorem dX4_unlink_141 : decode cX4_unlink 141 = .ok (.getfield 23, 3) := by decide +kernel
theorem dX4_unlink_144 : decode cX4_unlink 144 = .ok (.iload_n 1, 1) := by decide +kernel
theorem dX4_unlink_145 : decode cX4_unlink 145 = .ok (.iaload, 1) := by decide +kernel
theorem dX4_unlink_146 : decode cX4_unlink 146 = .ok (.iadd, 1) := by decide +kernel
theorem dX4_unlink_147 : decode cX4_unlink 147 = .ok (.iastore, 1) := by decide +kernel
theorem dX4_unlink_148 : decode cX4_unlink 148 = .ok (.aload_n 0, 1) := by decide +kernel
theorem dX4_unlink_149 : decode cX4_unlink 149 = .ok (.getfield 23, 3) := by decide +kernel
theorem dX4_unlink_152 : decode cX4_unlink 152 = .ok (.iload_n 1, 1) := by decide +kernel
theorem dX4_unlink_153 : decode cX4_unlink 153 = .ok (.iconst 0, 1) := by decide +kernel
theorem dX4_unlink_154 : decode cX4_unlink 154 = .ok (.iastore, 1) := by decide +kernel
theorem dX4_unlink_155 : decode cX4_unlink 155 = .ok (.aload_n 0, 1) := by decide +kernel
theorem dX4_unlink_156 : decode cX4_unlink 156 = .ok (.getfield 41, 3) := by decide +kernel
theorem dX4_unlink_159 : decode cX4_unlink 159 = .ok (.iload_n 1, 1) := by decide +kernel
theorem dX4_unlink_160 : decode cX4_unlink 160 = .ok (.iconst (-1), 1) := by decide +kernel
theorem dX4_unlink_161 : decode cX4_unlink 161 = .ok (.iastore, 1) := by decide +kernel
theorem dX4_unlink_162 : decode cX4_unlink 162 = .ok (.aload_n 0, 1) := by decide +kernel
theorem dX4_unlink_163 : decode cX4_unlink 163 = .ok (.getfield 29, 3) := by decide +kernel
theorem dX4_unlink_166 : decode cX4_unlink 166 = .ok (.iload_n 1, 1) := by decide +kernel
theorem dX4_unlink_167 : decode cX4_unlink 167 = .ok (.iaload, 1) := by decide +kernel
theorem dX4_unlink_168 : decode cX4_unlink 168 = .ok (.ireturn, 1) := by decide +kernel
theorem dX4_tierOf_0 : decode cX4_tierOf 0 = .ok (.aload_n 0, 1) := by decide +kernel
theorem dX4_tierOf_1 : decode cX4_tierOf 1 = .ok (.getfield 82, 3) := by decide +kernel
theorem dX4_tierOf_4 : decode cX4_tierOf 4 = .ok (.aload_n 0, 1) := by decide +kernel
theorem dX4_tierOf_5 : decode cX4_tierOf 5 = .ok (.getfield 38, 3) := by decide +kernel
theorem dX4_tierOf_8 : decode cX4_tierOf 8 = .ok (.iload_n 1, 1) := by decide +kernel
theorem dX4_tierOf_9 : decode cX4_tierOf 9 = .ok (.iaload, 1) := by decide +kernel
theorem dX4_tierOf_10 : decode cX4_tierOf 10 = .ok (.isub, 1) := by decide +kernel
theorem dX4_tierOf_11 : decode cX4_tierOf 11 = .ok (.istore_n 2, 1) := by decide +kernel
theorem dX4_tierOf_12 : decode cX4_tierOf 12 = .ok (.aload_n 0, 1) := by decide +kernel
theorem dX4_tierOf_13 : decode cX4_tierOf 13 = .ok (.getfield 29, 3) := by decide +kernel
theorem dX4_tierOf_16 : decode cX4_tierOf 16 = .ok (.iload_n 1, 1) := by decide +kernel
theorem dX4_tierOf_17 : decode cX4_tierOf 17 = .ok (.iaload, 1) := by decide +kernel
theorem dX4_tierOf_18 : decode cX4_tierOf 18 = .ok (.ifCond .ne 7, 3) := by decide +kernel
theorem dX4_tierOf_21 : decode cX4_tierOf 21 = .ok (.iconst (-1), 1) := by decide +kernel
theorem dX4_tierOf_22 : decode cX4_tierOf 22 = .ok (.goto 24, 3) := by decide +kernel
theorem dX4_tierOf_25 : decode cX4_tierOf 25 = .ok (.iload_n 2, 1) := by decide +kernel
theorem dX4_tierOf_26 : decode cX4_tierOf 26 = .ok (.bipush 30, 2) := by decide +kernel
theorem dX4_tierOf_28 : decode cX4_tierOf 28 = .ok (.if_icmp .ge 7, 3) := by decide +kernel
theorem dX4_tierOf_31 : decode cX4_tierOf 31 = .ok (.iconst 0, 1) := by decide +kernel
theorem dX4_tierOf_32 : decode cX4_tierOf 32 = .ok (.goto 14, 3) := by decide +kernel
theorem dX4_tierOf_35 : decode cX4_tierOf 35 = .ok (.iload_n 2, 1) := by decide +kernel
theorem dX4_tierOf_36 : decode cX4_tierOf 36 = .ok (.bipush 90, 2) := by decide +kernel
theorem dX4_tierOf_38 : decode cX4_tierOf 38 = .ok (.if_icmp .ge 7, 3) := by decide +kernel
theorem dX4_tierOf_41 : decode cX4_tierOf 41 = .ok (.iconst 1, 1) := by decide +kernel
theorem dX4_tierOf_42 : decode cX4_tierOf 42 = .ok (.goto 4, 3) := by decide +kernel
theorem dX4_tierOf_45 : decode cX4_tierOf 45 = .ok (.iconst 2, 1) := by decide +kernel
theorem dX4_tierOf_46 : decode cX4_tierOf 46 = .ok (.ireturn, 1) := by decide +kernel
set_option maxRecDepth 20000 in
theorem ggX4_write_X4_isFile : GoodIn wsX4_write wsX4_isFile := goodIn_r _ [12, 13, 14, 15, 11, 16, 46, 47, 48, 49, 50, 51, 52, 53, 54, 55, 56, 57, 58, 59, 60] (by decide +kernel) (by decide +kernel)
set_option maxRecDepth 20000 in
theorem gX4_write_X4_isFile : GoodIn wsX4_write (wsV RX4 85 RX4 yX4_isFile wsX4_isFile) := goodIn_app (goodIn_of _ (by decide +kernel)) ggX4_write_X4_isFile
set_option maxRecDepth 20000 in
theorem ggX4_write_X4_in : GoodIn wsX4_write wsX4_in := goodIn_r _ [16] (by decide +kernel) (by decide +kernel)
set_option maxRecDepth 20000 in
theorem gX4_write_X4_in : GoodIn wsX4_write (va_wsS RX4 50 yX4_in wsX4_in) := goodIn_app (goodIn_of _ (by decide +kernel)) ggX4_write_X4_in
set_option maxRecDepth 20000 in
theorem ggX4_write_X4_tierOf : GoodIn wsX4_write wsX4_tierOf := goodIn_r _ [20, 7, 6, 1, 46, 47, 48, 49, 50, 51, 52, 53, 54, 55, 56, 57, 58, 59, 60] (by decide +kernel) (by decide +kernel)
set_option maxRecDepth 20000 in
theorem gX4_write_X4_tierOf : GoodIn wsX4_write (wsV RX4 92 RX4 yX4_tierOf wsX4_tierOf) := goodIn_app (goodIn_of _ (by decide +kernel)) ggX4_write_X4_tierOf
set_option maxRecDepth 20000 in
theorem ggX4_write_X4_homeOf : GoodIn wsX4_write wsX4_homeOf := goodIn_r _ [24, 1, 25, 46, 47, 48, 49, 50, 51, 52, 53, 54, 55, 56, 57, 58, 59, 60] (by decide +kernel) (by decide +kernel)
set_option maxRecDepth 20000 in
theorem gX4_write_X4_homeOf : GoodIn wsX4_write (wsV RX4 65 RX4 yX4_homeOf wsX4_homeOf) := goodIn_app (goodIn_of _ (by decide +kernel)) ggX4_write_X4_homeOf
set_option maxRecDepth 20000 in
theorem ggX4_write_X4_canGrow : GoodIn wsX4_write wsX4_canGrow := goodIn_r _ [29, 30, 31, 32, 33, 34, 35, 11, 36, 13, 1, 2, 21, 22, 23, 24, 25, 37, 38, 39, 40, 46, 47, 48, 49, 50, 51, 52, 53, 54, 55, 56, 57, 58, 59, 60] (by decide +kernel) (by decide +kernel)
set_option maxRecDepth 20000 in
theorem gX4_write_X4_canGrow : GoodIn wsX4_write (wsV RX4 79 RX4 yX4_canGrow wsX4_canGrow) := goodIn_app (goodIn_of _ (by decide +kernel)) ggX4_write_X4_canGrow
set_option maxRecDepth 20000 in
theorem ggX4_write_X4_isFine : GoodIn wsX4_write wsX4_isFine := goodIn_r _ [44, 45, 46, 47, 48, 49, 50, 51, 52, 53, 54, 55, 56, 57, 58, 59, 60] (by decide +kernel) (by decide +kernel)
set_option maxRecDepth 20000 in
theorem gX4_write_X4_isFine : GoodIn wsX4_write (wsV RX4 62 RX4 yX4_isFine wsX4_isFine) := goodIn_app (goodIn_of _ (by decide +kernel)) ggX4_write_X4_isFine
theorem dX4_write_0 : decode cX4_write 0 = .ok (.aload_n 0, 1) := by decide +kernel
theorem dX4_write_1 : decode cX4_write 1 = .ok (.iload_n 1, 1) := by decide +kernel
theorem dX4_write_2 : decode cX4_write 2 = .ok (.invokevirtual 85, 3) := by decide +kernel
theorem dX4_write_5 : decode cX4_write 5 = .ok (.ifCond .ne 7, 3) := by decide +kernel
theorem dX4_write_8 : decode cX4_write 8 = .ok (.iconst 1, 1) := by decide +kernel
theorem dX4_write_9 : decode cX4_write 9 = .ok (.goto 41, 3) := by decide +kernel
theorem dX4_write_12 : decode cX4_write 12 = .ok (.iload_n 2, 1) := by decide +kernel
theorem dX4_write_13 : decode cX4_write 13 = .ok (.iconst 1, 1) := by decide +kernel
theorem dX4_write_14 : decode cX4_write 14 = .ok (.sipush 1000, 3) := by decide +kernel
theorem dX4_write_17 : decode cX4_write 17 = .ok (.invokestatic 50, 3) := by decide +kernel
theorem dX4_write_20 : decode cX4_write 20 = .ok (.ifCond .ne 7, 3) := by decide +kernel
theorem dX4_write_23 : decode cX4_write 23 = .ok (.iconst 2, 1) := by decide +kernel
theorem dX4_write_24 : decode cX4_write 24 = .ok (.goto 26, 3) := by decide +kernel
theorem dX4_write_27 : decode cX4_write 27 = .ok (.aload_n 0, 1) := by decide +kernel
theorem dX4_write_28 : decode cX4_write 28 = .ok (.getfield 29, 3) := by decide +kernel
theorem dX4_write_31 : decode cX4_write 31 = .ok (.iload_n 1, 1) := by decide +kernel
theorem dX4_write_32 : decode cX4_write 32 = .ok (.iaload, 1) := by decide +kernel
theorem dX4_write_33 : decode cX4_write 33 = .ok (.ifCond .eq 12, 3) := by decide +kernel
theorem dX4_write_36 : decode cX4_write 36 = .ok (.aload_n 0, 1) := by decide +kernel
theorem dX4_write_37 : decode cX4_write 37 = .ok (.iload_n 1, 1) := by decide +kernel
theorem dX4_write_38 : decode cX4_write 38 = .ok (.invokevirtual 92, 3) := by decide +kernel
theorem dX4_write_41 : decode cX4_write 41 = .ok (.iconst 2, 1) := by decide +kernel
theorem dX4_write_42 : decode cX4_write 42 = .ok (.if_icmp .ne 7, 3) := by decide +kernel
theorem dX4_write_45 : decode cX4_write 45 = .ok (.iconst 3, 1) := by decide +kernel
theorem dX4_write_46 : decode cX4_write 46 = .ok (.goto 4, 3) := by decide +kernel
theorem dX4_write_49 : decode cX4_write 49 = .ok (.iconst 0, 1) := by decide +kernel
theorem dX4_write_50 : decode cX4_write 50 = .ok (.istore_n 3, 1) := by decide +kernel
theorem dX4_write_51 : decode cX4_write 51 = .ok (.iload_n 3, 1) := by decide +kernel
theorem dX4_write_52 : decode cX4_write 52 = .ok (.ifCond .ne 41, 3) := by decide +kernel
theorem dX4_write_55 : decode cX4_write 55 = .ok (.iload_n 2, 1) := by decide +kernel
theorem dX4_write_56 : decode cX4_write 56 = .ok (.aload_n 0, 1) := by decide +kernel
theorem dX4_write_57 : decode cX4_write 57 = .ok (.getfield 23, 3) := by decide +kernel
theorem dX4_write_60 : decode cX4_write 60 = .ok (.iload_n 1, 1) := by decide +kernel
theorem dX4_write_61 : decode cX4_write 61 = .ok (.iaload, 1) := by decide +kernel
theorem dX4_write_62 : decode cX4_write 62 = .ok (.if_icmp .le 31, 3) := by decide +kernel
theorem dX4_write_65 : decode cX4_write 65 = .ok (.aload_n 0, 1) := by decide +kernel
theorem dX4_write_66 : decode cX4_write 66 = .ok (.aload_n 0, 1) := by decide +kernel
theorem dX4_write_67 : decode cX4_write 67 = .ok (.getfield 20, 3) := by decide +kernel
theorem dX4_write_70 : decode cX4_write 70 = .ok (.iload_n 1, 1) := by decide +kernel
theorem dX4_write_71 : decode cX4_write 71 = .ok (.iaload, 1) := by decide +kernel
theorem dX4_write_72 : decode cX4_write 72 = .ok (.aload_n 0, 1) := by decide +kernel
theorem dX4_write_73 : decode cX4_write 73 = .ok (.iload_n 1, 1) := by decide +kernel
theorem dX4_write_74 : decode cX4_write 74 = .ok (.invokevirtual 65, 3) := by decide +kernel
theorem dX4_write_77 : decode cX4_write 77 = .ok (.iload_n 2, 1) := by decide +kernel
theorem dX4_write_78 : decode cX4_write 78 = .ok (.aload_n 0, 1) := by decide +kernel
theorem dX4_write_79 : decode cX4_write 79 = .ok (.getfield 23, 3) := by decide +kernel
theorem dX4_write_82 : decode cX4_write 82 = .ok (.iload_n 1, 1) := by decide +kernel
theorem dX4_write_83 : decode cX4_write 83 = .ok (.iaload, 1) := by decide +kernel
theorem dX4_write_84 : decode cX4_write 84 = .ok (.isub, 1) := by decide +kernel
theorem dX4_write_85 : decode cX4_write 85 = .ok (.invokevirtual 79, 3) := by decide +kernel
theorem dX4_write_88 : decode cX4_write 88 = .ok (.ifCond .ne 5, 3) := by decide +kernel
theorem dX4_write_91 : decode cX4_write 91 = .ok (.iconst 3, 1) := by decide +kernel
theorem dX4_write_92 : decode cX4_write 92 = .ok (.istore_n 3, 1) := by decide +kernel
theorem dX4_write_93 : decode cX4_write 93 = .ok (.aload_n 0, 1) := by decide +kernel
theorem dX4_write_94 : decode cX4_write 94 = .ok (.iload_n 3, 1) := by decide +kernel
theorem dX4_write_95 : decode cX4_write 95 = .ok (.invokevirtual 62, 3) := by decide +kernel
theorem dX4_write_98 : decode cX4_write 98 = .ok (.ifCond .ne 5, 3) := by decide +kernel
theorem dX4_write_101 : decode cX4_write 101 = .ok (.iconst 0, 1) := by decide +kernel
theorem dX4_write_102 : decode cX4_write 102 = .ok (.ireturn, 1) := by decide +kernel
theorem dX4_write_103 : decode cX4_write 103 = .ok (.aload_n 0, 1) := by decide +kernel
theorem dX4_write_104 : decode cX4_write 104 = .ok (.getfield 32, 3) := by decide +kernel
theorem dX4_write_107 : decode cX4_write 107 = .ok (.iload_n 1, 1) := by decide +kernel
theorem dX4_write_108 : decode cX4_write 108 = .ok (.dup2, 1) := by decide +kernel
theorem dX4_write_109 : decode cX4_write 109 = .ok (.iaload, 1) := by decide +kernel
theorem dX4_write_110 : decode cX4_write 110 = .ok (.aload_n 0, 1) := by decide +kernel
theorem dX4_write_111 : decode cX4_write 111 = .ok (.getfield 35, 3) := by decide +kernel
theorem dX4_write_114 : decode cX4_write 114 = .ok (.iload_n 1, 1) := by decide +kernel
theorem dX4_write_115 : decode cX4_write 115 = .ok (.iaload, 1) := by decide +kernel
theorem dX4_write_116 : decode cX4_write 116 = .ok (.ifCond .ne 7, 3) := by decide +kernel
theorem dX4_write_119 : decode cX4_write 119 = .ok (.iconst 0, 1) := by decide +kernel
theorem dX4_write_120 : decode cX4_write 120 = .ok (.goto 9, 3) := by decide +kernel
theorem dX4_write_123 : decode cX4_write 123 = .ok (.aload_n 0, 1) := by decide +kernel
theorem dX4_write_124 : decode cX4_write 124 = .ok (.getfield 23, 3) := by decide +kernel
theorem dX4_write_127 : decode cX4_write 127 = .ok (.iload_n 1, 1) := by decide +kernel
theorem dX4_write_128 : decode cX4_write 128 = .ok (.iaload, 1) := by decide +kernel
theorem dX4_write_129 : decode cX4_write 129 = .ok (.iadd, 1) := by decide +kernel
theorem dX4_write_130 : decode cX4_write 130 = .ok (.iastore, 1) := by decide +kernel
theorem dX4_write_131 : decode cX4_write 131 = .ok (.aload_n 0, 1) := by decide +kernel
theorem dX4_write_132 : decode cX4_write 132 = .ok (.getfield 23, 3) := by decide +kernel
theorem dX4_write_135 : decode cX4_write 135 = .ok (.iload_n 1, 1) := by decide +kernel
theorem dX4_write_136 : decode cX4_write 136 = .ok (.iload_n 2, 1) := by decide +kernel
theorem dX4_write_137 : decode cX4_write 137 = .ok (.iastore, 1) := by decide +kernel
theorem dX4_write_138 : decode cX4_write 138 = .ok (.aload_n 0, 1) := by decide +kernel
theorem dX4_write_139 : decode cX4_write 139 = .ok (.getfield 38, 3) := by decide +kernel
theorem dX4_write_142 : decode cX4_write 142 = .ok (.iload_n 1, 1) := by decide +kernel
theorem dX4_write_143 : decode cX4_write 143 = .ok (.aload_n 0, 1) := by decide +kernel
theorem dX4_write_144 : decode cX4_write 144 = .ok (.getfield 82, 3) := by decide +kernel
theorem dX4_write_147 : decode cX4_write 147 = .ok (.iastore, 1) := by decide +kernel
theorem dX4_write_148 : decode cX4_write 148 = .ok (.aload_n 0, 1) := by decide +kernel
theorem dX4_write_149 : decode cX4_write 149 = .ok (.getfield 32, 3) := by decide +kernel
theorem dX4_write_152 : decode cX4_write 152 = .ok (.iload_n 1, 1) := by decide +kernel
theorem dX4_write_153 : decode cX4_write 153 = .ok (.iaload, 1) := by decide +kernel
theorem dX4_write_154 : decode cX4_write 154 = .ok (.ireturn, 1) := by decide +kernel
set_option maxRecDepth 20000 in
theorem ggX4_read_X4_isFile : GoodIn wsX4_read wsX4_isFile := goodIn_r _ [12, 13, 14, 15, 11, 16, 26, 27, 28, 29, 30, 31, 32, 33, 34, 35, 36, 37, 38, 39, 40] (by decide +kernel) (by decide +kernel)
set_option maxRecDepth 20000 in
theorem gX4_read_X4_isFile : GoodIn wsX4_read (wsV RX4 85 RX4 yX4_isFile wsX4_isFile) := goodIn_app (goodIn_of _ (by decide +kernel)) ggX4_read_X4_isFile
set_option maxRecDepth 20000 in
theorem ggX4_read_X4_tierOf : GoodIn wsX4_read wsX4_tierOf := goodIn_r _ [20, 7, 6, 1, 26, 27, 28, 29, 30, 31, 32, 33, 34, 35, 36, 37, 38, 39, 40] (by decide +kernel) (by decide +kernel)
set_option maxRecDepth 20000 in
theorem gX4_read_X4_tierOf : GoodIn wsX4_read (wsV RX4 92 RX4 yX4_tierOf wsX4_tierOf) := goodIn_app (goodIn_of _ (by decide +kernel)) ggX4_read_X4_tierOf
set_option maxRecDepth 20000 in
theorem ggX4_read_X4_isFine : GoodIn wsX4_read wsX4_isFine := goodIn_r _ [24, 25, 26, 27, 28, 29, 30, 31, 32, 33, 34, 35, 36, 37, 38, 39, 40] (by decide +kernel) (by decide +kernel)
set_option maxRecDepth 20000 in
theorem gX4_read_X4_isFine : GoodIn wsX4_read (wsV RX4 62 RX4 yX4_isFine wsX4_isFine) := goodIn_app (goodIn_of _ (by decide +kernel)) ggX4_read_X4_isFine
theorem dX4_read_0 : decode cX4_read 0 = .ok (.aload_n 0, 1) := by decide +kernel
theorem dX4_read_1 : decode cX4_read 1 = .ok (.iload_n 1, 1) := by decide +kernel
theorem dX4_read_2 : decode cX4_read 2 = .ok (.invokevirtual 85, 3) := by decide +kernel
theorem dX4_read_5 : decode cX4_read 5 = .ok (.ifCond .ne 7, 3) := by decide +kernel
theorem dX4_read_8 : decode cX4_read 8 = .ok (.iconst 1, 1) := by decide +kernel
theorem dX4_read_9 : decode cX4_read 9 = .ok (.goto 17, 3) := by decide +kernel
theorem dX4_read_12 : decode cX4_read 12 = .ok (.aload_n 0, 1) := by decide +kernel
theorem dX4_read_13 : decode cX4_read 13 = .ok (.getfield 29, 3) := by decide +kernel
theorem dX4_read_16 : decode cX4_read 16 = .ok (.iload_n 1, 1) := by decide +kernel
theorem dX4_read_17 : decode cX4_read 17 = .ok (.iaload, 1) := by decide +kernel
theorem dX4_read_18 : decode cX4_read 18 = .ok (.ifCond .ne 7, 3) := by decide +kernel
theorem dX4_read_21 : decode cX4_read 21 = .ok (.iconst 2, 1) := by decide +kernel
theorem dX4_read_22 : decode cX4_read 22 = .ok (.goto 4, 3) := by decide +kernel
theorem dX4_read_25 : decode cX4_read 25 = .ok (.iconst 0, 1) := by decide +kernel
theorem dX4_read_26 : decode cX4_read 26 = .ok (.istore_n 2, 1) := by decide +kernel
theorem dX4_read_27 : decode cX4_read 27 = .ok (.iload_n 2, 1) := by decide +kernel
theorem dX4_read_28 : decode cX4_read 28 = .ok (.ifCond .ne 18, 3) := by decide +kernel
theorem dX4_read_31 : decode cX4_read 31 = .ok (.aload_n 0, 1) := by decide +kernel
theorem dX4_read_32 : decode cX4_read 32 = .ok (.getfield 23, 3) := by decide +kernel
theorem dX4_read_35 : decode cX4_read 35 = .ok (.iload_n 1, 1) := by decide +kernel
theorem dX4_read_36 : decode cX4_read 36 = .ok (.iaload, 1) := by decide +kernel
theorem dX4_read_37 : decode cX4_read 37 = .ok (.bipush 9, 2) := by decide +kernel
theorem dX4_read_39 : decode cX4_read 39 = .ok (.iadd, 1) := by decide +kernel
theorem dX4_read_40 : decode cX4_read 40 = .ok (.bipush 10, 2) := by decide +kernel
theorem dX4_read_42 : decode cX4_read 42 = .ok (.idiv, 1) := by decide +kernel
theorem dX4_read_43 : decode cX4_read 43 = .ok (.goto 4, 3) := by decide +kernel
theorem dX4_read_46 : decode cX4_read 46 = .ok (.iconst 0, 1) := by decide +kernel
theorem dX4_read_47 : decode cX4_read 47 = .ok (.istore_n 3, 1) := by decide +kernel
theorem dX4_read_48 : decode cX4_read 48 = .ok (.iload_n 2, 1) := by decide +kernel
theorem dX4_read_49 : decode cX4_read 49 = .ok (.ifCond .ne 39, 3) := by decide +kernel
theorem dX4_read_52 : decode cX4_read 52 = .ok (.aload_n 0, 1) := by decide +kernel
theorem dX4_read_53 : decode cX4_read 53 = .ok (.iload_n 1, 1) := by decide +kernel
theorem dX4_read_54 : decode cX4_read 54 = .ok (.invokevirtual 92, 3) := by decide +kernel
theorem dX4_read_57 : decode cX4_read 57 = .ok (.iconst 2, 1) := by decide +kernel
theorem dX4_read_58 : decode cX4_read 58 = .ok (.if_icmp .ne 30, 3) := by decide +kernel
theorem dX4_read_61 : decode cX4_read 61 = .ok (.aload_n 0, 1) := by decide +kernel
theorem dX4_read_62 : decode cX4_read 62 = .ok (.getfield 41, 3) := by decide +kernel
theorem dX4_read_65 : decode cX4_read 65 = .ok (.iload_n 1, 1) := by decide +kernel
theorem dX4_read_66 : decode cX4_read 66 = .ok (.iaload, 1) := by decide +kernel
theorem dX4_read_67 : decode cX4_read 67 = .ok (.iconst (-1), 1) := by decide +kernel
theorem dX4_read_68 : decode cX4_read 68 = .ok (.if_icmp .ne 20, 3) := by decide +kernel
theorem dX4_read_71 : decode cX4_read 71 = .ok (.aload_n 0, 1) := by decide +kernel
theorem dX4_read_72 : decode cX4_read 72 = .ok (.getfield 44, 3) := by decide +kernel
theorem dX4_read_75 : decode cX4_read 75 = .ok (.aload_n 0, 1) := by decide +kernel
theorem dX4_read_76 : decode cX4_read 76 = .ok (.getfield 20, 3) := by decide +kernel
theorem dX4_read_79 : decode cX4_read 79 = .ok (.iload_n 1, 1) := by decide +kernel
theorem dX4_read_80 : decode cX4_read 80 = .ok (.iaload, 1) := by decide +kernel
theorem dX4_read_81 : decode cX4_read 81 = .ok (.iaload, 1) := by decide +kernel
theorem dX4_read_82 : decode cX4_read 82 = .ok (.iload_n 3, 1) := by decide +kernel
theorem dX4_read_83 : decode cX4_read 83 = .ok (.if_icmp .ge 5, 3) := by decide +kernel
theorem dX4_read_86 : decode cX4_read 86 = .ok (.iconst 2, 1) := by decide +kernel
theorem dX4_read_87 : decode cX4_read 87 = .ok (.istore_n 2, 1) := by decide +kernel
theorem dX4_read_88 : decode cX4_read 88 = .ok (.aload_n 0, 1) := by decide +kernel
theorem dX4_read_89 : decode cX4_read 89 = .ok (.iload_n 2, 1) := by decide +kernel
theorem dX4_read_90 : decode cX4_read 90 = .ok (.invokevirtual 62, 3) := by decide +kernel
theorem dX4_read_93 : decode cX4_read 93 = .ok (.ifCond .ne 5, 3) := by decide +kernel
theorem dX4_read_96 : decode cX4_read 96 = .ok (.iconst 0, 1) := by decide +kernel
theorem dX4_read_97 : decode cX4_read 97 = .ok (.ireturn, 1) := by decide +kernel
theorem dX4_read_98 : decode cX4_read 98 = .ok (.aload_n 0, 1) := by decide +kernel
theorem dX4_read_99 : decode cX4_read 99 = .ok (.iload_n 1, 1) := by decide +kernel
theorem dX4_read_100 : decode cX4_read 100 = .ok (.invokevirtual 92, 3) := by decide +kernel
theorem dX4_read_103 : decode cX4_read 103 = .ok (.iconst 2, 1) := by decide +kernel
theorem dX4_read_104 : decode cX4_read 104 = .ok (.if_icmp .ge 15, 3) := by decide +kernel
theorem dX4_read_107 : decode cX4_read 107 = .ok (.aload_n 0, 1) := by decide +kernel
theorem dX4_read_108 : decode cX4_read 108 = .ok (.getfield 38, 3) := by decide +kernel
theorem dX4_read_111 : decode cX4_read 111 = .ok (.iload_n 1, 1) := by decide +kernel
theorem dX4_read_112 : decode cX4_read 112 = .ok (.aload_n 0, 1) := by decide +kernel
theorem dX4_read_113 : decode cX4_read 113 = .ok (.getfield 82, 3) := by decide +kernel
theorem dX4_read_116 : decode cX4_read 116 = .ok (.iastore, 1) := by decide +kernel
theorem dX4_read_117 : decode cX4_read 117 = .ok (.iconst 0, 1) := by decide +kernel
theorem dX4_read_118 : decode cX4_read 118 = .ok (.ireturn, 1) := by decide +kernel
theorem dX4_read_119 : decode cX4_read 119 = .ok (.aload_n 0, 1) := by decide +kernel
theorem dX4_read_120 : decode cX4_read 120 = .ok (.getfield 41, 3) := by decide +kernel
theorem dX4_read_123 : decode cX4_read 123 = .ok (.iload_n 1, 1) := by decide +kernel
theorem dX4_read_124 : decode cX4_read 124 = .ok (.iaload, 1) := by decide +kernel
theorem dX4_read_125 : decode cX4_read 125 = .ok (.iconst (-1), 1) := by decide +kernel
theorem dX4_read_126 : decode cX4_read 126 = .ok (.if_icmp .ne 30, 3) := by decide +kernel
theorem dX4_read_129 : decode cX4_read 129 = .ok (.aload_n 0, 1) := by decide +kernel
theorem dX4_read_130 : decode cX4_read 130 = .ok (.getfield 44, 3) := by decide +kernel
theorem dX4_read_133 : decode cX4_read 133 = .ok (.aload_n 0, 1) := by decide +kernel
theorem dX4_read_134 : decode cX4_read 134 = .ok (.getfield 20, 3) := by decide +kernel
theorem dX4_read_137 : decode cX4_read 137 = .ok (.iload_n 1, 1) := by decide +kernel
theorem dX4_read_138 : decode cX4_read 138 = .ok (.iaload, 1) := by decide +kernel
theorem dX4_read_139 : decode cX4_read 139 = .ok (.dup2, 1) := by decide +kernel
theorem dX4_read_140 : decode cX4_read 140 = .ok (.iaload, 1) := by decide +kernel
theorem dX4_read_141 : decode cX4_read 141 = .ok (.iload_n 3, 1) := by decide +kernel
theorem dX4_read_142 : decode cX4_read 142 = .ok (.isub, 1) := by decide +kernel
theorem dX4_read_143 : decode cX4_read 143 = .ok (.iastore, 1) := by decide +kernel
theorem dX4_read_144 : decode cX4_read 144 = .ok (.aload_n 0, 1) := by decide +kernel
theorem dX4_read_145 : decode cX4_read 145 = .ok (.getfield 41, 3) := by decide +kernel
theorem dX4_read_148 : decode cX4_read 148 = .ok (.iload_n 1, 1) := by decide +kernel
theorem dX4_read_149 : decode cX4_read 149 = .ok (.aload_n 0, 1) := by decide +kernel
theorem dX4_read_150 : decode cX4_read 150 = .ok (.getfield 82, 3) := by decide +kernel
theorem dX4_read_153 : decode cX4_read 153 = .ok (.iconst 2, 1) := by decide +kernel
theorem dX4_read_154 : decode cX4_read 154 = .ok (.iadd, 1) := by decide +kernel
theorem dX4_read_155 : decode cX4_read 155 = .ok (.iastore, 1) := by decide +kernel
theorem dX4_read_156 : decode cX4_read 156 = .ok (.aload_n 0, 1) := by decide +kernel
theorem dX4_read_157 : decode cX4_read 157 = .ok (.getfield 41, 3) := by decide +kernel
theorem dX4_read_160 : decode cX4_read 160 = .ok (.iload_n 1, 1) := by decide +kernel
theorem dX4_read_161 : decode cX4_read 161 = .ok (.iaload, 1) := by decide +kernel
theorem dX4_read_162 : decode cX4_read 162 = .ok (.aload_n 0, 1) := by decide +kernel
theorem dX4_read_163 : decode cX4_read 163 = .ok (.getfield 82, 3) := by decide +kernel
theorem dX4_read_166 : decode cX4_read 166 = .ok (.isub, 1) := by decide +kernel
theorem dX4_read_167 : decode cX4_read 167 = .ok (.ireturn, 1) := by decide +kernel
theorem dX4_many_0 : decode cX4_many 0 = .ok (.iconst 0, 1) := by decide +kernel
theorem dX4_many_1 : decode cX4_many 1 = .ok (.istore_n 1, 1) := by decide +kernel
theorem dX4_many_2 : decode cX4_many 2 = .ok (.iconst 0, 1) := by decide +kernel
theorem dX4_many_3 : decode cX4_many 3 = .ok (.istore_n 2, 1) := by decide +kernel
theorem dX4_many_4 : decode cX4_many 4 = .ok (.iload_n 2, 1) := by decide +kernel
theorem dX4_many_5 : decode cX4_many 5 = .ok (.iconst 5, 1) := by decide +kernel
theorem dX4_many_6 : decode cX4_many 6 = .ok (.if_icmp .ge 17, 3) := by decide +kernel
theorem dX4_many_9 : decode cX4_many 9 = .ok (.iload_n 1, 1) := by decide +kernel
theorem dX4_many_10 : decode cX4_many 10 = .ok (.iload_n 0, 1) := by decide +kernel
theorem dX4_many_11 : decode cX4_many 11 = .ok (.iload_n 2, 1) := by decide +kernel
theorem dX4_many_12 : decode cX4_many 12 = .ok (.ishr, 1) := by decide +kernel
theorem dX4_many_13 : decode cX4_many 13 = .ok (.iconst 1, 1) := by decide +kernel
theorem dX4_many_14 : decode cX4_many 14 = .ok (.iand, 1) := by decide +kernel
theorem dX4_many_15 : decode cX4_many 15 = .ok (.iadd, 1) := by decide +kernel
theorem dX4_many_16 : decode cX4_many 16 = .ok (.istore_n 1, 1) := by decide +kernel
theorem dX4_many_17 : decode cX4_many 17 = .ok (.iinc 2 1, 3) := by decide +kernel
theorem dX4_many_20 : decode cX4_many 20 = .ok (.goto (-16), 3) := by decide +kernel
theorem dX4_many_23 : decode cX4_many 23 = .ok (.iload_n 1, 1) := by decide +kernel
theorem dX4_many_24 : decode cX4_many 24 = .ok (.ireturn, 1) := by decide +kernel
set_option maxRecDepth 20000 in
theorem ggX4_hold_X4_in : GoodIn wsX4_hold wsX4_in := goodIn_r _ [6] (by decide +kernel) (by decide +kernel)
set_option maxRecDepth 20000 in
theorem gX4_hold_X4_in : GoodIn wsX4_hold (va_wsS RX4 50 yX4_in wsX4_in) := goodIn_app (goodIn_of _ (by decide +kernel)) ggX4_hold_X4_in
set_option maxRecDepth 20000 in
theorem ggX4_hold_X4_isFile : GoodIn wsX4_hold wsX4_isFile := goodIn_r _ [10, 11, 3, 4, 5, 6, 20, 21, 22, 23, 24, 25, 26, 27, 28, 29, 30, 31, 32, 33, 34] (by decide +kernel) (by decide +kernel)
set_option maxRecDepth 20000 in
theorem gX4_hold_X4_isFile : GoodIn wsX4_hold (wsV RX4 85 RX4 yX4_isFile wsX4_isFile) := goodIn_app (goodIn_of _ (by decide +kernel)) ggX4_hold_X4_isFile
set_option maxRecDepth 20000 in
theorem ggX4_hold_X4_isFine : GoodIn wsX4_hold wsX4_isFine := goodIn_r _ [15, 16, 20, 21, 22, 23, 24, 25, 26, 27, 28, 29, 30, 31, 32, 33, 34] (by decide +kernel) (by decide +kernel)
set_option maxRecDepth 20000 in
theorem gX4_hold_X4_isFine : GoodIn wsX4_hold (wsV RX4 62 RX4 yX4_isFine wsX4_isFine) := goodIn_app (goodIn_of _ (by decide +kernel)) ggX4_hold_X4_isFine
set_option maxRecDepth 20000 in
theorem ggX4_hold_X4_many : GoodIn wsX4_hold wsX4_many := goodIn_r _ [19] (by decide +kernel) (by decide +kernel)
set_option maxRecDepth 20000 in
theorem gX4_hold_X4_many : GoodIn wsX4_hold (va_wsS RX4 95 yX4_many wsX4_many) := goodIn_app (goodIn_of _ (by decide +kernel)) ggX4_hold_X4_many
theorem dX4_hold_0 : decode cX4_hold 0 = .ok (.aload_n 0, 1) := by decide +kernel
theorem dX4_hold_1 : decode cX4_hold 1 = .ok (.iload_n 1, 1) := by decide +kernel
theorem dX4_hold_2 : decode cX4_hold 2 = .ok (.iconst 0, 1) := by decide +kernel
theorem dX4_hold_3 : decode cX4_hold 3 = .ok (.iconst 4, 1) := by decide +kernel
theorem dX4_hold_4 : decode cX4_hold 4 = .ok (.invokestatic 50, 3) := by decide +kernel
theorem dX4_hold_7 : decode cX4_hold 7 = .ok (.ifCond .eq 11, 3) := by decide +kernel
theorem dX4_hold_10 : decode cX4_hold 10 = .ok (.aload_n 0, 1) := by decide +kernel
theorem dX4_hold_11 : decode cX4_hold 11 = .ok (.iload_n 2, 1) := by decide +kernel
theorem dX4_hold_12 : decode cX4_hold 12 = .ok (.invokevirtual 85, 3) := by decide +kernel
theorem dX4_hold_15 : decode cX4_hold 15 = .ok (.ifCond .ne 7, 3) := by decide +kernel
theorem dX4_hold_18 : decode cX4_hold 18 = .ok (.iconst 1, 1) := by decide +kernel
theorem dX4_hold_19 : decode cX4_hold 19 = .ok (.goto 17, 3) := by decide +kernel
theorem dX4_hold_22 : decode cX4_hold 22 = .ok (.aload_n 0, 1) := by decide +kernel
theorem dX4_hold_23 : decode cX4_hold 23 = .ok (.getfield 29, 3) := by decide +kernel
theorem dX4_hold_26 : decode cX4_hold 26 = .ok (.iload_n 2, 1) := by decide +kernel
theorem dX4_hold_27 : decode cX4_hold 27 = .ok (.iaload, 1) := by decide +kernel
theorem dX4_hold_28 : decode cX4_hold 28 = .ok (.ifCond .ne 7, 3) := by decide +kernel
theorem dX4_hold_31 : decode cX4_hold 31 = .ok (.iconst 2, 1) := by decide +kernel
theorem dX4_hold_32 : decode cX4_hold 32 = .ok (.goto 4, 3) := by decide +kernel
theorem dX4_hold_35 : decode cX4_hold 35 = .ok (.iconst 0, 1) := by decide +kernel
theorem dX4_hold_36 : decode cX4_hold 36 = .ok (.invokevirtual 62, 3) := by decide +kernel
theorem dX4_hold_39 : decode cX4_hold 39 = .ok (.ifCond .ne 5, 3) := by decide +kernel
theorem dX4_hold_42 : decode cX4_hold 42 = .ok (.iconst 0, 1) := by decide +kernel
theorem dX4_hold_43 : decode cX4_hold 43 = .ok (.ireturn, 1) := by decide +kernel
theorem dX4_hold_44 : decode cX4_hold 44 = .ok (.aload_n 0, 1) := by decide +kernel
theorem dX4_hold_45 : decode cX4_hold 45 = .ok (.getfield 35, 3) := by decide +kernel
theorem dX4_hold_48 : decode cX4_hold 48 = .ok (.iload_n 2, 1) := by decide +kernel
theorem dX4_hold_49 : decode cX4_hold 49 = .ok (.dup2, 1) := by decide +kernel
theorem dX4_hold_50 : decode cX4_hold 50 = .ok (.iaload, 1) := by decide +kernel
theorem dX4_hold_51 : decode cX4_hold 51 = .ok (.iconst 1, 1) := by decide +kernel
theorem dX4_hold_52 : decode cX4_hold 52 = .ok (.iload_n 1, 1) := by decide +kernel
theorem dX4_hold_53 : decode cX4_hold 53 = .ok (.ishl, 1) := by decide +kernel
theorem dX4_hold_54 : decode cX4_hold 54 = .ok (.ior, 1) := by decide +kernel
theorem dX4_hold_55 : decode cX4_hold 55 = .ok (.iastore, 1) := by decide +kernel
theorem dX4_hold_56 : decode cX4_hold 56 = .ok (.aload_n 0, 1) := by decide +kernel
theorem dX4_hold_57 : decode cX4_hold 57 = .ok (.getfield 35, 3) := by decide +kernel
theorem dX4_hold_60 : decode cX4_hold 60 = .ok (.iload_n 2, 1) := by decide +kernel
theorem dX4_hold_61 : decode cX4_hold 61 = .ok (.iaload, 1) := by decide +kernel
theorem dX4_hold_62 : decode cX4_hold 62 = .ok (.invokestatic 95, 3) := by decide +kernel
theorem dX4_hold_65 : decode cX4_hold 65 = .ok (.ireturn, 1) := by decide +kernel
set_option maxRecDepth 20000 in
theorem ggX4_release_X4_in : GoodIn wsX4_release wsX4_in := goodIn_r _ [7] (by decide +kernel) (by decide +kernel)
set_option maxRecDepth 20000 in
theorem gX4_release_X4_in : GoodIn wsX4_release (va_wsS RX4 50 yX4_in wsX4_in) := goodIn_app (goodIn_of _ (by decide +kernel)) ggX4_release_X4_in
set_option maxRecDepth 20000 in
theorem ggX4_release_X4_isFine : GoodIn wsX4_release wsX4_isFine := goodIn_r _ [11, 12, 13, 14, 15, 16, 17, 18, 19, 20, 21, 22, 23, 24, 25, 26, 27] (by decide +kernel) (by decide +kernel)
set_option maxRecDepth 20000 in
theorem gX4_release_X4_isFine : GoodIn wsX4_release (wsV RX4 62 RX4 yX4_isFine wsX4_isFine) := goodIn_app (goodIn_of _ (by decide +kernel)) ggX4_release_X4_isFine
theorem dX4_release_0 : decode cX4_release 0 = .ok (.iconst 0, 1) := by decide +kernel
theorem dX4_release_1 : decode cX4_release 1 = .ok (.istore_n 2, 1) := by decide +kernel
theorem dX4_release_2 : decode cX4_release 2 = .ok (.aload_n 0, 1) := by decide +kernel
theorem dX4_release_3 : decode cX4_release 3 = .ok (.iload_n 1, 1) := by decide +kernel
theorem dX4_release_4 : decode cX4_release 4 = .ok (.iconst 0, 1) := by decide +kernel
theorem dX4_release_5 : decode cX4_release 5 = .ok (.iconst 4, 1) := by decide +kernel
theorem dX4_release_6 : decode cX4_release 6 = .ok (.invokestatic 50, 3) := by decide +kernel
theorem dX4_release_9 : decode cX4_release 9 = .ok (.ifCond .eq 7, 3) := by decide +kernel
theorem dX4_release_12 : decode cX4_release 12 = .ok (.iconst 0, 1) := by decide +kernel
theorem dX4_release_13 : decode cX4_release 13 = .ok (.goto 4, 3) := by decide +kernel
theorem dX4_release_16 : decode cX4_release 16 = .ok (.iconst 1, 1) := by decide +kernel
theorem dX4_release_17 : decode cX4_release 17 = .ok (.invokevirtual 62, 3) := by decide +kernel
theorem dX4_release_20 : decode cX4_release 20 = .ok (.ifCond .eq 80, 3) := by decide +kernel
theorem dX4_release_23 : decode cX4_release 23 = .ok (.iconst 0, 1) := by decide +kernel
theorem dX4_release_24 : decode cX4_release 24 = .ok (.istore_n 3, 1) := by decide +kernel
theorem dX4_release_25 : decode cX4_release 25 = .ok (.iload_n 3, 1) := by decide +kernel
theorem dX4_release_26 : decode cX4_release 26 = .ok (.aload_n 0, 1) := by decide +kernel
theorem dX4_release_27 : decode cX4_release 27 = .ok (.getfield 54, 3) := by decide +kernel
theorem dX4_release_30 : decode cX4_release 30 = .ok (.if_icmp .ge 70, 3) := by decide +kernel
theorem dX4_release_33 : decode cX4_release 33 = .ok (.aload_n 0, 1) := by decide +kernel
theorem dX4_release_34 : decode cX4_release 34 = .ok (.getfield 35, 3) := by decide +kernel
theorem dX4_release_37 : decode cX4_release 37 = .ok (.iload_n 3, 1) := by decide +kernel
theorem dX4_release_38 : decode cX4_release 38 = .ok (.dup2, 1) := by decide +kernel
theorem dX4_release_39 : decode cX4_release 39 = .ok (.iaload, 1) := by decide +kernel
theorem dX4_release_40 : decode cX4_release 40 = .ok (.iconst 1, 1) := by decide +kernel
theorem dX4_release_41 : decode cX4_release 41 = .ok (.iload_n 1, 1) := by decide +kernel
theorem dX4_release_42 : decode cX4_release 42 = .ok (.ishl, 1) := by decide +kernel
theorem dX4_release_43 : decode cX4_release 43 = .ok (.iconst (-1), 1) := by decide +kernel
theorem dX4_release_44 : decode cX4_release 44 = .ok (.ixor, 1) := by decide +kernel
theorem dX4_release_45 : decode cX4_release 45 = .ok (.iand, 1) := by decide +kernel
theorem dX4_release_46 : decode cX4_release 46 = .ok (.iastore, 1) := by decide +kernel
theorem dX4_release_47 : decode cX4_release 47 = .ok (.iload_n 2, 1) := by decide +kernel
theorem dX4_release_48 : decode cX4_release 48 = .ok (.aload_n 0, 1) := by decide +kernel
theorem dX4_release_49 : decode cX4_release 49 = .ok (.getfield 35, 3) := by decide +kernel
theorem dX4_release_52 : decode cX4_release 52 = .ok (.iload_n 3, 1) := by decide +kernel
theorem dX4_release_53 : decode cX4_release 53 = .ok (.iaload, 1) := by decide +kernel
theorem dX4_release_54 : decode cX4_release 54 = .ok (.ifCond .ne 12, 3) := by decide +kernel
theorem dX4_release_57 : decode cX4_release 57 = .ok (.aload_n 0, 1) := by decide +kernel
theorem dX4_release_58 : decode cX4_release 58 = .ok (.getfield 32, 3) := by decide +kernel
theorem dX4_release_61 : decode cX4_release 61 = .ok (.iload_n 3, 1) := by decide +kernel
theorem dX4_release_62 : decode cX4_release 62 = .ok (.iaload, 1) := by decide +kernel
theorem dX4_release_63 : decode cX4_release 63 = .ok (.goto 4, 3) := by decide +kernel
theorem dX4_release_66 : decode cX4_release 66 = .ok (.iconst 0, 1) := by decide +kernel
theorem dX4_release_67 : decode cX4_release 67 = .ok (.iadd, 1) := by decide +kernel
theorem dX4_release_68 : decode cX4_release 68 = .ok (.istore_n 2, 1) := by decide +kernel
theorem dX4_release_69 : decode cX4_release 69 = .ok (.aload_n 0, 1) := by decide +kernel
theorem dX4_release_70 : decode cX4_release 70 = .ok (.getfield 32, 3) := by decide +kernel
theorem dX4_release_73 : decode cX4_release 73 = .ok (.iload_n 3, 1) := by decide +kernel
theorem dX4_release_74 : decode cX4_release 74 = .ok (.aload_n 0, 1) := by decide +kernel
theorem dX4_release_75 : decode cX4_release 75 = .ok (.getfield 35, 3) := by decide +kernel
theorem dX4_release_78 : decode cX4_release 78 = .ok (.iload_n 3, 1) := by decide +kernel
theorem dX4_release_79 : decode cX4_release 79 = .ok (.iaload, 1) := by decide +kernel
theorem dX4_release_80 : decode cX4_release 80 = .ok (.ifCond .ne 7, 3) := by decide +kernel
theorem dX4_release_83 : decode cX4_release 83 = .ok (.iconst 0, 1) := by decide +kernel
theorem dX4_release_84 : decode cX4_release 84 = .ok (.goto 9, 3) := by decide +kernel
theorem dX4_release_87 : decode cX4_release 87 = .ok (.aload_n 0, 1) := by decide +kernel
theorem dX4_release_88 : decode cX4_release 88 = .ok (.getfield 32, 3) := by decide +kernel
theorem dX4_release_91 : decode cX4_release 91 = .ok (.iload_n 3, 1) := by decide +kernel
theorem dX4_release_92 : decode cX4_release 92 = .ok (.iaload, 1) := by decide +kernel
theorem dX4_release_93 : decode cX4_release 93 = .ok (.iastore, 1) := by decide +kernel
theorem dX4_release_94 : decode cX4_release 94 = .ok (.iinc 3 1, 3) := by decide +kernel
theorem dX4_release_97 : decode cX4_release 97 = .ok (.goto (-72), 3) := by decide +kernel
theorem dX4_release_100 : decode cX4_release 100 = .ok (.iload_n 2, 1) := by decide +kernel
theorem dX4_release_101 : decode cX4_release 101 = .ok (.ireturn, 1) := by decide +kernel
set_option maxRecDepth 20000 in
theorem ggX4_fund_X4_isDepartment : GoodIn wsX4_fund wsX4_isDepartment := goodIn_r _ [6, 7, 8, 5, 9] (by decide +kernel) (by decide +kernel)
set_option maxRecDepth 20000 in
theorem gX4_fund_X4_isDepartment : GoodIn wsX4_fund (va_wsS RX4 76 yX4_isDepartment wsX4_isDepartment) := goodIn_app (goodIn_of _ (by decide +kernel)) ggX4_fund_X4_isDepartment
set_option maxRecDepth 20000 in
theorem ggX4_fund_X4_in : GoodIn wsX4_fund wsX4_in := goodIn_r _ [9] (by decide +kernel) (by decide +kernel)
set_option maxRecDepth 20000 in
theorem gX4_fund_X4_in : GoodIn wsX4_fund (va_wsS RX4 50 yX4_in wsX4_in) := goodIn_app (goodIn_of _ (by decide +kernel)) ggX4_fund_X4_in
set_option maxRecDepth 20000 in
theorem ggX4_fund_X4_isFine : GoodIn wsX4_fund wsX4_isFine := goodIn_r _ [13, 14, 15, 16, 17, 18, 19, 20, 21, 22, 23, 24, 25, 26, 27, 28, 29] (by decide +kernel) (by decide +kernel)
set_option maxRecDepth 20000 in
theorem gX4_fund_X4_isFine : GoodIn wsX4_fund (wsV RX4 62 RX4 yX4_isFine wsX4_isFine) := goodIn_app (goodIn_of _ (by decide +kernel)) ggX4_fund_X4_isFine
theorem dX4_fund_0 : decode cX4_fund 0 = .ok (.iload_n 1, 1) := by decide +kernel
theorem dX4_fund_1 : decode cX4_fund 1 = .ok (.invokestatic 76, 3) := by decide +kernel
theorem dX4_fund_4 : decode cX4_fund 4 = .ok (.ifCond .ne 7, 3) := by decide +kernel
theorem dX4_fund_7 : decode cX4_fund 7 = .ok (.iconst 1, 1) := by decide +kernel
theorem dX4_fund_8 : decode cX4_fund 8 = .ok (.goto 19, 3) := by decide +kernel
theorem dX4_fund_11 : decode cX4_fund 11 = .ok (.iload_n 2, 1) := by decide +kernel
theorem dX4_fund_12 : decode cX4_fund 12 = .ok (.iconst 1, 1) := by decide +kernel
theorem dX4_fund_13 : decode cX4_fund 13 = .ok (.sipush 10000, 3) := by decide +kernel
theorem dX4_fund_16 : decode cX4_fund 16 = .ok (.invokestatic 50, 3) := by decide +kernel
theorem dX4_fund_19 : decode cX4_fund 19 = .ok (.ifCond .ne 7, 3) := by decide +kernel
theorem dX4_fund_22 : decode cX4_fund 22 = .ok (.iconst 2, 1) := by decide +kernel
theorem dX4_fund_23 : decode cX4_fund 23 = .ok (.goto 4, 3) := by decide +kernel
theorem dX4_fund_26 : decode cX4_fund 26 = .ok (.iconst 0, 1) := by decide +kernel
theorem dX4_fund_27 : decode cX4_fund 27 = .ok (.istore_n 3, 1) := by decide +kernel
theorem dX4_fund_28 : decode cX4_fund 28 = .ok (.aload_n 0, 1) := by decide +kernel
theorem dX4_fund_29 : decode cX4_fund 29 = .ok (.iload_n 3, 1) := by decide +kernel
theorem dX4_fund_30 : decode cX4_fund 30 = .ok (.ifCond .ne 20, 3) := by decide +kernel
theorem dX4_fund_33 : decode cX4_fund 33 = .ok (.aload_n 0, 1) := by decide +kernel
theorem dX4_fund_34 : decode cX4_fund 34 = .ok (.getfield 44, 3) := by decide +kernel
theorem dX4_fund_37 : decode cX4_fund 37 = .ok (.iload_n 1, 1) := by decide +kernel
theorem dX4_fund_38 : decode cX4_fund 38 = .ok (.iaload, 1) := by decide +kernel
theorem dX4_fund_39 : decode cX4_fund 39 = .ok (.iload_n 2, 1) := by decide +kernel
theorem dX4_fund_40 : decode cX4_fund 40 = .ok (.iadd, 1) := by decide +kernel
theorem dX4_fund_41 : decode cX4_fund 41 = .ok (.ldc 98, 2) := by decide +kernel
theorem dX4_fund_43 : decode cX4_fund 43 = .ok (.if_icmp .le 7, 3) := by decide +kernel
theorem dX4_fund_46 : decode cX4_fund 46 = .ok (.iconst 3, 1) := by decide +kernel
theorem dX4_fund_47 : decode cX4_fund 47 = .ok (.goto 4, 3) := by decide +kernel
theorem dX4_fund_50 : decode cX4_fund 50 = .ok (.iload_n 3, 1) := by decide +kernel
theorem dX4_fund_51 : decode cX4_fund 51 = .ok (.invokevirtual 62, 3) := by decide +kernel
theorem dX4_fund_54 : decode cX4_fund 54 = .ok (.ifCond .ne 5, 3) := by decide +kernel
theorem dX4_fund_57 : decode cX4_fund 57 = .ok (.iconst 0, 1) := by decide +kernel
theorem dX4_fund_58 : decode cX4_fund 58 = .ok (.ireturn, 1) := by decide +kernel
theorem dX4_fund_59 : decode cX4_fund 59 = .ok (.aload_n 0, 1) := by decide +kernel
theorem dX4_fund_60 : decode cX4_fund 60 = .ok (.getfield 44, 3) := by decide +kernel
theorem dX4_fund_63 : decode cX4_fund 63 = .ok (.iload_n 1, 1) := by decide +kernel
theorem dX4_fund_64 : decode cX4_fund 64 = .ok (.dup2, 1) := by decide +kernel
theorem dX4_fund_65 : decode cX4_fund 65 = .ok (.iaload, 1) := by decide +kernel
theorem dX4_fund_66 : decode cX4_fund 66 = .ok (.iload_n 2, 1) := by decide +kernel
theorem dX4_fund_67 : decode cX4_fund 67 = .ok (.iadd, 1) := by decide +kernel
theorem dX4_fund_68 : decode cX4_fund 68 = .ok (.iastore, 1) := by decide +kernel
theorem dX4_fund_69 : decode cX4_fund 69 = .ok (.aload_n 0, 1) := by decide +kernel
theorem dX4_fund_70 : decode cX4_fund 70 = .ok (.getfield 44, 3) := by decide +kernel
theorem dX4_fund_73 : decode cX4_fund 73 = .ok (.iload_n 1, 1) := by decide +kernel
theorem dX4_fund_74 : decode cX4_fund 74 = .ok (.iaload, 1) := by decide +kernel
theorem dX4_fund_75 : decode cX4_fund 75 = .ok (.ireturn, 1) := by decide +kernel
set_option maxRecDepth 20000 in
theorem ggX4_billOf_X4_tierOf : GoodIn wsX4_billOf wsX4_tierOf := goodIn_r _ [10, 11, 12, 4, 13, 14, 15, 16, 17, 18, 19, 20, 21, 22, 23, 24, 25, 26, 27] (by decide +kernel) (by decide +kernel)
set_option maxRecDepth 20000 in
theorem gX4_billOf_X4_tierOf : GoodIn wsX4_billOf (wsV RX4 92 RX4 yX4_tierOf wsX4_tierOf) := goodIn_app (goodIn_of _ (by decide +kernel)) ggX4_billOf_X4_tierOf
theorem dX4_billOf_0 : decode cX4_billOf 0 = .ok (.iconst 0, 1) := by decide +kernel
theorem dX4_billOf_1 : decode cX4_billOf 1 = .ok (.istore_n 2, 1) := by decide +kernel
theorem dX4_billOf_2 : decode cX4_billOf 2 = .ok (.iconst 0, 1) := by decide +kernel
theorem dX4_billOf_3 : decode cX4_billOf 3 = .ok (.istore_n 3, 1) := by decide +kernel
theorem dX4_billOf_4 : decode cX4_billOf 4 = .ok (.iload_n 3, 1) := by decide +kernel
theorem dX4_billOf_5 : decode cX4_billOf 5 = .ok (.aload_n 0, 1) := by decide +kernel
theorem dX4_billOf_6 : decode cX4_billOf 6 = .ok (.getfield 54, 3) := by decide +kernel
theorem dX4_billOf_9 : decode cX4_billOf 9 = .ok (.if_icmp .ge 56, 3) := by decide +kernel
theorem dX4_billOf_12 : decode cX4_billOf 12 = .ok (.aload_n 0, 1) := by decide +kernel
theorem dX4_billOf_13 : decode cX4_billOf 13 = .ok (.getfield 20, 3) := by decide +kernel
theorem dX4_billOf_16 : decode cX4_billOf 16 = .ok (.iload_n 3, 1) := by decide +kernel
theorem dX4_billOf_17 : decode cX4_billOf 17 = .ok (.iaload, 1) := by decide +kernel
theorem dX4_billOf_18 : decode cX4_billOf 18 = .ok (.iload_n 1, 1) := by decide +kernel
theorem dX4_billOf_19 : decode cX4_billOf 19 = .ok (.if_icmp .ne 40, 3) := by decide +kernel
theorem dX4_billOf_22 : decode cX4_billOf 22 = .ok (.iload_n 2, 1) := by decide +kernel
theorem dX4_billOf_23 : decode cX4_billOf 23 = .ok (.aload_n 0, 1) := by decide +kernel
theorem dX4_billOf_24 : decode cX4_billOf 24 = .ok (.getfield 32, 3) := by decide +kernel
theorem dX4_billOf_27 : decode cX4_billOf 27 = .ok (.iload_n 3, 1) := by decide +kernel
theorem dX4_billOf_28 : decode cX4_billOf 28 = .ok (.iaload, 1) := by decide +kernel
theorem dX4_billOf_29 : decode cX4_billOf 29 = .ok (.aload_n 0, 1) := by decide +kernel
theorem dX4_billOf_30 : decode cX4_billOf 30 = .ok (.getfield 29, 3) := by decide +kernel
theorem dX4_billOf_33 : decode cX4_billOf 33 = .ok (.iload_n 3, 1) := by decide +kernel
theorem dX4_billOf_34 : decode cX4_billOf 34 = .ok (.iaload, 1) := by decide +kernel
theorem dX4_billOf_35 : decode cX4_billOf 35 = .ok (.ifCond .ne 7, 3) := by decide +kernel
theorem dX4_billOf_38 : decode cX4_billOf 38 = .ok (.iconst 0, 1) := by decide +kernel
theorem dX4_billOf_39 : decode cX4_billOf 39 = .ok (.goto 17, 3) := by decide +kernel
theorem dX4_billOf_42 : decode cX4_billOf 42 = .ok (.iconst 3, 1) := by decide +kernel
theorem dX4_billOf_43 : decode cX4_billOf 43 = .ok (.aload_n 0, 1) := by decide +kernel
theorem dX4_billOf_44 : decode cX4_billOf 44 = .ok (.iload_n 3, 1) := by decide +kernel
theorem dX4_billOf_45 : decode cX4_billOf 45 = .ok (.invokevirtual 92, 3) := by decide +kernel
theorem dX4_billOf_48 : decode cX4_billOf 48 = .ok (.isub, 1) := by decide +kernel
theorem dX4_billOf_49 : decode cX4_billOf 49 = .ok (.aload_n 0, 1) := by decide +kernel
theorem dX4_billOf_50 : decode cX4_billOf 50 = .ok (.getfield 23, 3) := by decide +kernel
theorem dX4_billOf_53 : decode cX4_billOf 53 = .ok (.iload_n 3, 1) := by decide +kernel
theorem dX4_billOf_54 : decode cX4_billOf 54 = .ok (.iaload, 1) := by decide +kernel
theorem dX4_billOf_55 : decode cX4_billOf 55 = .ok (.imul, 1) := by decide +kernel
theorem dX4_billOf_56 : decode cX4_billOf 56 = .ok (.iadd, 1) := by decide +kernel
theorem dX4_billOf_57 : decode cX4_billOf 57 = .ok (.iadd, 1) := by decide +kernel
theorem dX4_billOf_58 : decode cX4_billOf 58 = .ok (.istore_n 2, 1) := by decide +kernel
theorem dX4_billOf_59 : decode cX4_billOf 59 = .ok (.iinc 3 1, 3) := by decide +kernel
theorem dX4_billOf_62 : decode cX4_billOf 62 = .ok (.goto (-58), 3) := by decide +kernel
theorem dX4_billOf_65 : decode cX4_billOf 65 = .ok (.iload_n 2, 1) := by decide +kernel
theorem dX4_billOf_66 : decode cX4_billOf 66 = .ok (.bipush 99, 2) := by decide +kernel
theorem dX4_billOf_68 : decode cX4_billOf 68 = .ok (.iadd, 1) := by decide +kernel
theorem dX4_billOf_69 : decode cX4_billOf 69 = .ok (.bipush 100, 2) := by decide +kernel
theorem dX4_billOf_71 : decode cX4_billOf 71 = .ok (.idiv, 1) := by decide +kernel
theorem dX4_billOf_72 : decode cX4_billOf 72 = .ok (.ireturn, 1) := by decide +kernel
set_option maxRecDepth 20000 in
theorem ggX4_goesDay_X4_billOf : GoodIn wsX4_goesDay wsX4_billOf := goodIn_r _ [10, 3, 11, 12, 13, 14, 15, 16, 17, 9, 18, 2, 5, 19, 20, 21, 22, 23, 24, 25, 26, 27, 28, 29, 30, 31, 32, 33] (by decide +kernel) (by decide +kernel)
set_option maxRecDepth 20000 in
theorem gX4_goesDay_X4_billOf : GoodIn wsX4_goesDay (wsV RX4 99 RX4 yX4_billOf wsX4_billOf) := goodIn_app (goodIn_of _ (by decide +kernel)) ggX4_goesDay_X4_billOf
theorem dX4_goesDay_0 : decode cX4_goesDay 0 = .ok (.iconst 0, 1) := by decide +kernel
theorem dX4_goesDay_1 : decode cX4_goesDay 1 = .ok (.istore_n 1, 1) := by decide +kernel
theorem dX4_goesDay_2 : decode cX4_goesDay 2 = .ok (.iconst 0, 1) := by decide +kernel
theorem dX4_goesDay_3 : decode cX4_goesDay 3 = .ok (.istore_n 2, 1) := by decide +kernel
theorem dX4_goesDay_4 : decode cX4_goesDay 4 = .ok (.iload_n 2, 1) := by decide +kernel
theorem dX4_goesDay_5 : decode cX4_goesDay 5 = .ok (.iconst 4, 1) := by decide +kernel
theorem dX4_goesDay_6 : decode cX4_goesDay 6 = .ok (.if_icmp .ge 52, 3) := by decide +kernel
theorem dX4_goesDay_9 : decode cX4_goesDay 9 = .ok (.aload_n 0, 1) := by decide +kernel
theorem dX4_goesDay_10 : decode cX4_goesDay 10 = .ok (.iload_n 2, 1) := by decide +kernel
theorem dX4_goesDay_11 : decode cX4_goesDay 11 = .ok (.invokevirtual 99, 3) := by decide +kernel
theorem dX4_goesDay_14 : decode cX4_goesDay 14 = .ok (.aload_n 0, 1) := by decide +kernel
theorem dX4_goesDay_15 : decode cX4_goesDay 15 = .ok (.getfield 44, 3) := by decide +kernel
theorem dX4_goesDay_18 : decode cX4_goesDay 18 = .ok (.iload_n 2, 1) := by decide +kernel
theorem dX4_goesDay_19 : decode cX4_goesDay 19 = .ok (.iaload, 1) := by decide +kernel
theorem dX4_goesDay_20 : decode cX4_goesDay 20 = .ok (.if_icmp .ge 11, 3) := by decide +kernel
theorem dX4_goesDay_23 : decode cX4_goesDay 23 = .ok (.aload_n 0, 1) := by decide +kernel
theorem dX4_goesDay_24 : decode cX4_goesDay 24 = .ok (.iload_n 2, 1) := by decide +kernel
theorem dX4_goesDay_25 : decode cX4_goesDay 25 = .ok (.invokevirtual 99, 3) := by decide +kernel
theorem dX4_goesDay_28 : decode cX4_goesDay 28 = .ok (.goto 9, 3) := by decide +kernel
theorem dX4_goesDay_31 : decode cX4_goesDay 31 = .ok (.aload_n 0, 1) := by decide +kernel
theorem dX4_goesDay_32 : decode cX4_goesDay 32 = .ok (.getfield 44, 3) := by decide +kernel
theorem dX4_goesDay_35 : decode cX4_goesDay 35 = .ok (.iload_n 2, 1) := by decide +kernel
theorem dX4_goesDay_36 : decode cX4_goesDay 36 = .ok (.iaload, 1) := by decide +kernel
theorem dX4_goesDay_37 : decode cX4_goesDay 37 = .ok (.istore_n 3, 1) := by decide +kernel
theorem dX4_goesDay_38 : decode cX4_goesDay 38 = .ok (.aload_n 0, 1) := by decide +kernel
theorem dX4_goesDay_39 : decode cX4_goesDay 39 = .ok (.getfield 44, 3) := by decide +kernel
theorem dX4_goesDay_42 : decode cX4_goesDay 42 = .ok (.iload_n 2, 1) := by decide +kernel
theorem dX4_goesDay_43 : decode cX4_goesDay 43 = .ok (.dup2, 1) := by decide +kernel
theorem dX4_goesDay_44 : decode cX4_goesDay 44 = .ok (.iaload, 1) := by decide +kernel
theorem dX4_goesDay_45 : decode cX4_goesDay 45 = .ok (.iload_n 3, 1) := by decide +kernel
theorem dX4_goesDay_46 : decode cX4_goesDay 46 = .ok (.isub, 1) := by decide +kernel
theorem dX4_goesDay_47 : decode cX4_goesDay 47 = .ok (.iastore, 1) := by decide +kernel
theorem dX4_goesDay_48 : decode cX4_goesDay 48 = .ok (.iload_n 1, 1) := by decide +kernel
theorem dX4_goesDay_49 : decode cX4_goesDay 49 = .ok (.iload_n 3, 1) := by decide +kernel
theorem dX4_goesDay_50 : decode cX4_goesDay 50 = .ok (.iadd, 1) := by decide +kernel
theorem dX4_goesDay_51 : decode cX4_goesDay 51 = .ok (.istore_n 1, 1) := by decide +kernel
theorem dX4_goesDay_52 : decode cX4_goesDay 52 = .ok (.iinc 2 1, 3) := by decide +kernel
theorem dX4_goesDay_55 : decode cX4_goesDay 55 = .ok (.goto (-51), 3) := by decide +kernel
theorem dX4_goesDay_58 : decode cX4_goesDay 58 = .ok (.aload_n 0, 1) := by decide +kernel
theorem dX4_goesDay_59 : decode cX4_goesDay 59 = .ok (.dup, 1) := by decide +kernel
theorem dX4_goesDay_60 : decode cX4_goesDay 60 = .ok (.getfield 82, 3) := by decide +kernel
theorem dX4_goesDay_63 : decode cX4_goesDay 63 = .ok (.iconst 1, 1) := by decide +kernel
theorem dX4_goesDay_64 : decode cX4_goesDay 64 = .ok (.iadd, 1) := by decide +kernel
theorem dX4_goesDay_65 : decode cX4_goesDay 65 = .ok (.putfield 82, 3) := by decide +kernel
theorem dX4_goesDay_68 : decode cX4_goesDay 68 = .ok (.iconst 0, 1) := by decide +kernel
theorem dX4_goesDay_69 : decode cX4_goesDay 69 = .ok (.istore_n 2, 1) := by decide +kernel
theorem dX4_goesDay_70 : decode cX4_goesDay 70 = .ok (.iload_n 2, 1) := by decide +kernel
theorem dX4_goesDay_71 : decode cX4_goesDay 71 = .ok (.aload_n 0, 1) := by decide +kernel
theorem dX4_goesDay_72 : decode cX4_goesDay 72 = .ok (.getfield 54, 3) := by decide +kernel
theorem dX4_goesDay_75 : decode cX4_goesDay 75 = .ok (.if_icmp .ge 39, 3) := by decide +kernel
theorem dX4_goesDay_78 : decode cX4_goesDay 78 = .ok (.aload_n 0, 1) := by decide +kernel
theorem dX4_goesDay_79 : decode cX4_goesDay 79 = .ok (.getfield 41, 3) := by decide +kernel
theorem dX4_goesDay_82 : decode cX4_goesDay 82 = .ok (.iload_n 2, 1) := by decide +kernel
theorem dX4_goesDay_83 : decode cX4_goesDay 83 = .ok (.iaload, 1) := by decide +kernel
theorem dX4_goesDay_84 : decode cX4_goesDay 84 = .ok (.aload_n 0, 1) := by decide +kernel
theorem dX4_goesDay_85 : decode cX4_goesDay 85 = .ok (.getfield 82, 3) := by decide +kernel
theorem dX4_goesDay_88 : decode cX4_goesDay 88 = .ok (.if_icmp .ne 20, 3) := by decide +kernel
theorem dX4_goesDay_91 : decode cX4_goesDay 91 = .ok (.aload_n 0, 1) := by decide +kernel
theorem dX4_goesDay_92 : decode cX4_goesDay 92 = .ok (.getfield 38, 3) := by decide +kernel
theorem dX4_goesDay_95 : decode cX4_goesDay 95 = .ok (.iload_n 2, 1) := by decide +kernel
theorem dX4_goesDay_96 : decode cX4_goesDay 96 = .ok (.aload_n 0, 1) := by decide +kernel
theorem dX4_goesDay_97 : decode cX4_goesDay 97 = .ok (.getfield 82, 3) := by decide +kernel
theorem dX4_goesDay_100 : decode cX4_goesDay 100 = .ok (.iastore, 1) := by decide +kernel
theorem dX4_goesDay_101 : decode cX4_goesDay 101 = .ok (.aload_n 0, 1) := by decide +kernel
theorem dX4_goesDay_102 : decode cX4_goesDay 102 = .ok (.getfield 41, 3) := by decide +kernel
theorem dX4_goesDay_105 : decode cX4_goesDay 105 = .ok (.iload_n 2, 1) := by decide +kernel
theorem dX4_goesDay_106 : decode cX4_goesDay 106 = .ok (.iconst (-1), 1) := by decide +kernel
theorem dX4_goesDay_107 : decode cX4_goesDay 107 = .ok (.iastore, 1) := by decide +kernel
theorem dX4_goesDay_108 : decode cX4_goesDay 108 = .ok (.iinc 2 1, 3) := by decide +kernel
theorem dX4_goesDay_111 : decode cX4_goesDay 111 = .ok (.goto (-41), 3) := by decide +kernel
theorem dX4_goesDay_114 : decode cX4_goesDay 114 = .ok (.iload_n 1, 1) := by decide +kernel
theorem dX4_goesDay_115 : decode cX4_goesDay 115 = .ok (.ireturn, 1) := by decide +kernel
set_option maxRecDepth 20000 in
theorem ggX4_pass_X4_in : GoodIn wsX4_pass wsX4_in := goodIn_r _ [5] (by decide +kernel) (by decide +kernel)
set_option maxRecDepth 20000 in
theorem gX4_pass_X4_in : GoodIn wsX4_pass (va_wsS RX4 50 yX4_in wsX4_in) := goodIn_app (goodIn_of _ (by decide +kernel)) ggX4_pass_X4_in
set_option maxRecDepth 20000 in
theorem ggX4_pass_X4_isFine : GoodIn wsX4_pass wsX4_isFine := goodIn_r _ [9, 10, 31, 32, 33, 34, 35, 36, 37, 38, 39, 40, 41, 42, 43, 44, 45] (by decide +kernel) (by decide +kernel)
set_option maxRecDepth 20000 in
theorem gX4_pass_X4_isFine : GoodIn wsX4_pass (wsV RX4 62 RX4 yX4_isFine wsX4_isFine) := goodIn_app (goodIn_of _ (by decide +kernel)) ggX4_pass_X4_isFine
set_option maxRecDepth 20000 in
theorem ggX4_pass_X4_goesDay : GoodIn wsX4_pass wsX4_goesDay := goodIn_r _ [14, 15, 1, 16, 17, 18, 19, 20, 21, 4, 22, 23, 24, 25, 26, 27, 28, 29, 30, 31, 32, 33, 34, 35, 36, 37, 38, 39, 40, 41, 42, 43, 44, 45] (by decide +kernel) (by decide +kernel)
set_option maxRecDepth 20000 in
theorem gX4_pass_X4_goesDay : GoodIn wsX4_pass (wsV RX4 102 RX4 yX4_goesDay wsX4_goesDay) := goodIn_app (goodIn_of _ (by decide +kernel)) ggX4_pass_X4_goesDay
theorem dX4_pass_0 : decode cX4_pass 0 = .ok (.aload_n 0, 1) := by decide +kernel
theorem dX4_pass_1 : decode cX4_pass 1 = .ok (.iload_n 1, 1) := by decide +kernel
theorem dX4_pass_2 : decode cX4_pass 2 = .ok (.iconst 1, 1) := by decide +kernel
theorem dX4_pass_3 : decode cX4_pass 3 = .ok (.bipush 100, 2) := by decide +kernel
theorem dX4_pass_5 : decode cX4_pass 5 = .ok (.invokestatic 50, 3) := by decide +kernel
theorem dX4_pass_8 : decode cX4_pass 8 = .ok (.ifCond .ne 7, 3) := by decide +kernel
theorem dX4_pass_11 : decode cX4_pass 11 = .ok (.iconst 1, 1) := by decide +kernel
theorem dX4_pass_12 : decode cX4_pass 12 = .ok (.goto 20, 3) := by decide +kernel
theorem dX4_pass_15 : decode cX4_pass 15 = .ok (.aload_n 0, 1) := by decide +kernel
theorem dX4_pass_16 : decode cX4_pass 16 = .ok (.getfield 82, 3) := by decide +kernel
theorem dX4_pass_19 : decode cX4_pass 19 = .ok (.iload_n 1, 1) := by decide +kernel
theorem dX4_pass_20 : decode cX4_pass 20 = .ok (.iadd, 1) := by decide +kernel
theorem dX4_pass_21 : decode cX4_pass 21 = .ok (.sipush 10000, 3) := by decide +kernel
theorem dX4_pass_24 : decode cX4_pass 24 = .ok (.if_icmp .le 7, 3) := by decide +kernel
theorem dX4_pass_27 : decode cX4_pass 27 = .ok (.iconst 2, 1) := by decide +kernel
theorem dX4_pass_28 : decode cX4_pass 28 = .ok (.goto 4, 3) := by decide +kernel
theorem dX4_pass_31 : decode cX4_pass 31 = .ok (.iconst 0, 1) := by decide +kernel
theorem dX4_pass_32 : decode cX4_pass 32 = .ok (.invokevirtual 62, 3) := by decide +kernel
theorem dX4_pass_35 : decode cX4_pass 35 = .ok (.ifCond .ne 5, 3) := by decide +kernel
theorem dX4_pass_38 : decode cX4_pass 38 = .ok (.iconst 0, 1) := by decide +kernel
theorem dX4_pass_39 : decode cX4_pass 39 = .ok (.ireturn, 1) := by decide +kernel
theorem dX4_pass_40 : decode cX4_pass 40 = .ok (.iconst 0, 1) := by decide +kernel
theorem dX4_pass_41 : decode cX4_pass 41 = .ok (.istore_n 2, 1) := by decide +kernel
theorem dX4_pass_42 : decode cX4_pass 42 = .ok (.iconst 0, 1) := by decide +kernel
theorem dX4_pass_43 : decode cX4_pass 43 = .ok (.istore_n 3, 1) := by decide +kernel
theorem dX4_pass_44 : decode cX4_pass 44 = .ok (.iload_n 3, 1) := by decide +kernel
theorem dX4_pass_45 : decode cX4_pass 45 = .ok (.iload_n 1, 1) := by decide +kernel
theorem dX4_pass_46 : decode cX4_pass 46 = .ok (.if_icmp .ge 16, 3) := by decide +kernel
theorem dX4_pass_49 : decode cX4_pass 49 = .ok (.iload_n 2, 1) := by decide +kernel
theorem dX4_pass_50 : decode cX4_pass 50 = .ok (.aload_n 0, 1) := by decide +kernel
theorem dX4_pass_51 : decode cX4_pass 51 = .ok (.invokevirtual 102, 3) := by decide +kernel
theorem dX4_pass_54 : decode cX4_pass 54 = .ok (.iadd, 1) := by decide +kernel
theorem dX4_pass_55 : decode cX4_pass 55 = .ok (.istore_n 2, 1) := by decide +kernel
theorem dX4_pass_56 : decode cX4_pass 56 = .ok (.iinc 3 1, 3) := by decide +kernel
theorem dX4_pass_59 : decode cX4_pass 59 = .ok (.goto (-15), 3) := by decide +kernel
theorem dX4_pass_62 : decode cX4_pass 62 = .ok (.iload_n 2, 1) := by decide +kernel
theorem dX4_pass_63 : decode cX4_pass 63 = .ok (.ireturn, 1) := by decide +kernel
theorem dX4_day_0 : decode cX4_day 0 = .ok (.aload_n 0, 1) := by decide +kernel
theorem dX4_day_1 : decode cX4_day 1 = .ok (.iconst 0, 1) := by decide +kernel
theorem dX4_day_2 : decode cX4_day 2 = .ok (.putfield 47, 3) := by decide +kernel
theorem dX4_day_5 : decode cX4_day 5 = .ok (.aload_n 0, 1) := by decide +kernel
theorem dX4_day_6 : decode cX4_day 6 = .ok (.getfield 82, 3) := by decide +kernel
theorem dX4_day_9 : decode cX4_day 9 = .ok (.ireturn, 1) := by decide +kernel
theorem dX4_directories_0 : decode cX4_directories 0 = .ok (.aload_n 0, 1) := by decide +kernel
theorem dX4_directories_1 : decode cX4_directories 1 = .ok (.iconst 0, 1) := by decide +kernel
theorem dX4_directories_2 : decode cX4_directories 2 = .ok (.putfield 47, 3) := by decide +kernel
theorem dX4_directories_5 : decode cX4_directories 5 = .ok (.aload_n 0, 1) := by decide +kernel
theorem dX4_directories_6 : decode cX4_directories 6 = .ok (.getfield 16, 3) := by decide +kernel
theorem dX4_directories_9 : decode cX4_directories 9 = .ok (.ireturn, 1) := by decide +kernel
theorem dX4_files_0 : decode cX4_files 0 = .ok (.aload_n 0, 1) := by decide +kernel
theorem dX4_files_1 : decode cX4_files 1 = .ok (.iconst 0, 1) := by decide +kernel
theorem dX4_files_2 : decode cX4_files 2 = .ok (.putfield 47, 3) := by decide +kernel
theorem dX4_files_5 : decode cX4_files 5 = .ok (.aload_n 0, 1) := by decide +kernel
theorem dX4_files_6 : decode cX4_files 6 = .ok (.getfield 54, 3) := by decide +kernel
theorem dX4_files_9 : decode cX4_files 9 = .ok (.ireturn, 1) := by decide +kernel
set_option maxRecDepth 20000 in
theorem ggX4_usage_X4_isDirectory : GoodIn wsX4_usage wsX4_isDirectory := goodIn_r _ [5, 6, 7, 8, 4, 9, 32, 33, 34, 35, 36, 37, 38, 39, 40, 41, 42, 43, 44, 45, 46] (by decide +kernel) (by decide +kernel)
set_option maxRecDepth 20000 in
theorem gX4_usage_X4_isDirectory : GoodIn wsX4_usage (wsV RX4 57 RX4 yX4_isDirectory wsX4_isDirectory) := goodIn_app (goodIn_of _ (by decide +kernel)) ggX4_usage_X4_isDirectory
set_option maxRecDepth 20000 in
theorem ggX4_usage_X4_isFine : GoodIn wsX4_usage wsX4_isFine := goodIn_r _ [13, 14, 32, 33, 34, 35, 36, 37, 38, 39, 40, 41, 42, 43, 44, 45, 46] (by decide +kernel) (by decide +kernel)
set_option maxRecDepth 20000 in
theorem gX4_usage_X4_isFine : GoodIn wsX4_usage (wsV RX4 62 RX4 yX4_isFine wsX4_isFine) := goodIn_app (goodIn_of _ (by decide +kernel)) ggX4_usage_X4_isFine
set_option maxRecDepth 20000 in
theorem ggX4_usage_X4_usageOf : GoodIn wsX4_usage wsX4_usageOf := goodIn_r _ [18, 19, 20, 21, 22, 23, 24, 4, 25, 26, 27, 28, 29, 30, 31, 32, 33, 34, 35, 36, 37, 38, 39, 40, 41, 42, 43, 44, 45, 46] (by decide +kernel) (by decide +kernel)
set_option maxRecDepth 20000 in
theorem gX4_usage_X4_usageOf : GoodIn wsX4_usage (wsV RX4 73 RX4 yX4_usageOf wsX4_usageOf) := goodIn_app (goodIn_of _ (by decide +kernel)) ggX4_usage_X4_usageOf
theorem dX4_usage_0 : decode cX4_usage 0 = .ok (.aload_n 0, 1) := by decide +kernel
theorem dX4_usage_1 : decode cX4_usage 1 = .ok (.aload_n 0, 1) := by decide +kernel
theorem dX4_usage_2 : decode cX4_usage 2 = .ok (.iload_n 1, 1) := by decide +kernel
theorem dX4_usage_3 : decode cX4_usage 3 = .ok (.invokevirtual 57, 3) := by decide +kernel
theorem dX4_usage_6 : decode cX4_usage 6 = .ok (.ifCond .eq 7, 3) := by decide +kernel
theorem dX4_usage_9 : decode cX4_usage 9 = .ok (.iconst 0, 1) := by decide +kernel
theorem dX4_usage_10 : decode cX4_usage 10 = .ok (.goto 4, 3) := by decide +kernel
theorem dX4_usage_13 : decode cX4_usage 13 = .ok (.iconst 1, 1) := by decide +kernel
theorem dX4_usage_14 : decode cX4_usage 14 = .ok (.invokevirtual 62, 3) := by decide +kernel
theorem dX4_usage_17 : decode cX4_usage 17 = .ok (.ifCond .eq 11, 3) := by decide +kernel
theorem dX4_usage_20 : decode cX4_usage 20 = .ok (.aload_n 0, 1) := by decide +kernel
theorem dX4_usage_21 : decode cX4_usage 21 = .ok (.iload_n 1, 1) := by decide +kernel
theorem dX4_usage_22 : decode cX4_usage 22 = .ok (.invokevirtual 73, 3) := by decide +kernel
theorem dX4_usage_25 : decode cX4_usage 25 = .ok (.goto 4, 3) := by decide +kernel
theorem dX4_usage_28 : decode cX4_usage 28 = .ok (.iconst 0, 1) := by decide +kernel
theorem dX4_usage_29 : decode cX4_usage 29 = .ok (.ireturn, 1) := by decide +kernel
set_option maxRecDepth 20000 in
theorem ggX4_usageByWalking_X4_isDirectory : GoodIn wsX4_usageByWalking wsX4_isDirectory := goodIn_r _ [5, 6, 7, 8, 4, 9, 32, 33, 34, 35, 36, 37, 38, 39, 40, 41, 42, 43, 44, 45, 46] (by decide +kernel) (by decide +kernel)
set_option maxRecDepth 20000 in
theorem gX4_usageByWalking_X4_isDirectory : GoodIn wsX4_usageByWalking (wsV RX4 57 RX4 yX4_isDirectory wsX4_isDirectory) := goodIn_app (goodIn_of _ (by decide +kernel)) ggX4_usageByWalking_X4_isDirectory
set_option maxRecDepth 20000 in
theorem ggX4_usageByWalking_X4_isFine : GoodIn wsX4_usageByWalking wsX4_isFine := goodIn_r _ [13, 14, 32, 33, 34, 35, 36, 37, 38, 39, 40, 41, 42, 43, 44, 45, 46] (by decide +kernel) (by decide +kernel)
set_option maxRecDepth 20000 in
theorem gX4_usageByWalking_X4_isFine : GoodIn wsX4_usageByWalking (wsV RX4 62 RX4 yX4_isFine wsX4_isFine) := goodIn_app (goodIn_of _ (by decide +kernel)) ggX4_usageByWalking_X4_isFine
set_option maxRecDepth 20000 in
theorem ggX4_usageByWalking_X4_usageOf : GoodIn wsX4_usageByWalking wsX4_usageOf := goodIn_r _ [18, 19, 20, 21, 22, 23, 24, 4, 25, 26, 27, 28, 29, 30, 31, 32, 33, 34, 35, 36, 37, 38, 39, 40, 41, 42, 43, 44, 45, 46] (by decide +kernel) (by decide +kernel)
set_option maxRecDepth 20000 in
theorem gX4_usageByWalking_X4_usageOf : GoodIn wsX4_usageByWalking (wsV RX4 73 RX4 yX4_usageOf wsX4_usageOf) := goodIn_app (goodIn_of _ (by decide +kernel)) ggX4_usageByWalking_X4_usageOf
theorem dX4_usageByWalking_0 : decode cX4_usageByWalking 0 = .ok (.aload_n 0, 1) := by decide +kernel
theorem dX4_usageByWalking_1 : decode cX4_usageByWalking 1 = .ok (.aload_n 0, 1) := by decide +kernel
theorem dX4_usageByWalking_2 : decode cX4_usageByWalking 2 = .ok (.iload_n 1, 1) := by decide +kernel
theorem dX4_usageByWalking_3 : decode cX4_usageByWalking 3 = .ok (.invokevirtual 57, 3) := by decide +kernel
theorem dX4_usageByWalking_6 : decode cX4_usageByWalking 6 = .ok (.ifCond .eq 7, 3) := by decide +kernel
theorem dX4_usageByWalking_9 : decode cX4_usageByWalking 9 = .ok (.iconst 0, 1) := by decide +kernel
theorem dX4_usageByWalking_10 : decode cX4_usageByWalking 10 = .ok (.goto 4, 3) := by decide +kernel
theorem dX4_usageByWalking_13 : decode cX4_usageByWalking 13 = .ok (.iconst 1, 1) := by decide +kernel
theorem dX4_usageByWalking_14 : decode cX4_usageByWalking 14 = .ok (.invokevirtual 62, 3) := by decide +kernel
theorem dX4_usageByWalking_17 : decode cX4_usageByWalking 17 = .ok (.ifCond .eq 11, 3) := by decide +kernel
theorem dX4_usageByWalking_20 : decode cX4_usageByWalking 20 = .ok (.aload_n 0, 1) := by decide +kernel
theorem dX4_usageByWalking_21 : decode cX4_usageByWalking 21 = .ok (.iload_n 1, 1) := by decide +kernel
theorem dX4_usageByWalking_22 : decode cX4_usageByWalking 22 = .ok (.invokevirtual 73, 3) := by decide +kernel
theorem dX4_usageByWalking_25 : decode cX4_usageByWalking 25 = .ok (.goto 4, 3) := by decide +kernel
theorem dX4_usageByWalking_28 : decode cX4_usageByWalking 28 = .ok (.iconst 0, 1) := by decide +kernel
theorem dX4_usageByWalking_29 : decode cX4_usageByWalking 29 = .ok (.ireturn, 1) := by decide +kernel
set_option maxRecDepth 20000 in
theorem ggX4_size_X4_isFile : GoodIn wsX4_size wsX4_isFile := goodIn_r _ [6, 7, 8, 9, 5, 10, 16, 17, 18, 19, 20, 21, 22, 23, 24, 25, 26, 27, 28, 29, 30] (by decide +kernel) (by decide +kernel)
set_option maxRecDepth 20000 in
theorem gX4_size_X4_isFile : GoodIn wsX4_size (wsV RX4 85 RX4 yX4_isFile wsX4_isFile) := goodIn_app (goodIn_of _ (by decide +kernel)) ggX4_size_X4_isFile
set_option maxRecDepth 20000 in
theorem ggX4_size_X4_isFine : GoodIn wsX4_size wsX4_isFine := goodIn_r _ [14, 15, 16, 17, 18, 19, 20, 21, 22, 23, 24, 25, 26, 27, 28, 29, 30] (by decide +kernel) (by decide +kernel)
set_option maxRecDepth 20000 in
theorem gX4_size_X4_isFine : GoodIn wsX4_size (wsV RX4 62 RX4 yX4_isFine wsX4_isFine) := goodIn_app (goodIn_of _ (by decide +kernel)) ggX4_size_X4_isFine
theorem dX4_size_0 : decode cX4_size 0 = .ok (.aload_n 0, 1) := by decide +kernel
theorem dX4_size_1 : decode cX4_size 1 = .ok (.aload_n 0, 1) := by decide +kernel
theorem dX4_size_2 : decode cX4_size 2 = .ok (.iload_n 1, 1) := by decide +kernel
theorem dX4_size_3 : decode cX4_size 3 = .ok (.invokevirtual 85, 3) := by decide +kernel
theorem dX4_size_6 : decode cX4_size 6 = .ok (.ifCond .eq 7, 3) := by decide +kernel
theorem dX4_size_9 : decode cX4_size 9 = .ok (.iconst 0, 1) := by decide +kernel
theorem dX4_size_10 : decode cX4_size 10 = .ok (.goto 4, 3) := by decide +kernel
theorem dX4_size_13 : decode cX4_size 13 = .ok (.iconst 1, 1) := by decide +kernel
theorem dX4_size_14 : decode cX4_size 14 = .ok (.invokevirtual 62, 3) := by decide +kernel
theorem dX4_size_17 : decode cX4_size 17 = .ok (.ifCond .eq 12, 3) := by decide +kernel
theorem dX4_size_20 : decode cX4_size 20 = .ok (.aload_n 0, 1) := by decide +kernel
theorem dX4_size_21 : decode cX4_size 21 = .ok (.getfield 23, 3) := by decide +kernel
theorem dX4_size_24 : decode cX4_size 24 = .ok (.iload_n 1, 1) := by decide +kernel
theorem dX4_size_25 : decode cX4_size 25 = .ok (.iaload, 1) := by decide +kernel
theorem dX4_size_26 : decode cX4_size 26 = .ok (.goto 4, 3) := by decide +kernel
theorem dX4_size_29 : decode cX4_size 29 = .ok (.iconst 0, 1) := by decide +kernel
theorem dX4_size_30 : decode cX4_size 30 = .ok (.ireturn, 1) := by decide +kernel
set_option maxRecDepth 20000 in
theorem ggX4_home_X4_isFile : GoodIn wsX4_home wsX4_isFile := goodIn_r _ [5, 6, 7, 8, 4, 9, 21, 22, 23, 24, 25, 26, 27, 28, 29, 30, 31, 32, 33, 34, 35] (by decide +kernel) (by decide +kernel)
set_option maxRecDepth 20000 in
theorem gX4_home_X4_isFile : GoodIn wsX4_home (wsV RX4 85 RX4 yX4_isFile wsX4_isFile) := goodIn_app (goodIn_of _ (by decide +kernel)) ggX4_home_X4_isFile
set_option maxRecDepth 20000 in
theorem ggX4_home_X4_isFine : GoodIn wsX4_home wsX4_isFine := goodIn_r _ [13, 14, 21, 22, 23, 24, 25, 26, 27, 28, 29, 30, 31, 32, 33, 34, 35] (by decide +kernel) (by decide +kernel)
set_option maxRecDepth 20000 in
theorem gX4_home_X4_isFine : GoodIn wsX4_home (wsV RX4 62 RX4 yX4_isFine wsX4_isFine) := goodIn_app (goodIn_of _ (by decide +kernel)) ggX4_home_X4_isFine
set_option maxRecDepth 20000 in
theorem ggX4_home_X4_homeOf : GoodIn wsX4_home wsX4_homeOf := goodIn_r _ [18, 19, 20, 21, 22, 23, 24, 25, 26, 27, 28, 29, 30, 31, 32, 33, 34, 35] (by decide +kernel) (by decide +kernel)
set_option maxRecDepth 20000 in
theorem gX4_home_X4_homeOf : GoodIn wsX4_home (wsV RX4 65 RX4 yX4_homeOf wsX4_homeOf) := goodIn_app (goodIn_of _ (by decide +kernel)) ggX4_home_X4_homeOf
theorem dX4_home_0 : decode cX4_home 0 = .ok (.aload_n 0, 1) := by decide +kernel
theorem dX4_home_1 : decode cX4_home 1 = .ok (.aload_n 0, 1) := by decide +kernel
theorem dX4_home_2 : decode cX4_home 2 = .ok (.iload_n 1, 1) := by decide +kernel
theorem dX4_home_3 : decode cX4_home 3 = .ok (.invokevirtual 85, 3) := by decide +kernel
theorem dX4_home_6 : decode cX4_home 6 = .ok (.ifCond .eq 7, 3) := by decide +kernel
theorem dX4_home_9 : decode cX4_home 9 = .ok (.iconst 0, 1) := by decide +kernel
theorem dX4_home_10 : decode cX4_home 10 = .ok (.goto 4, 3) := by decide +kernel
theorem dX4_home_13 : decode cX4_home 13 = .ok (.iconst 1, 1) := by decide +kernel
theorem dX4_home_14 : decode cX4_home 14 = .ok (.invokevirtual 62, 3) := by decide +kernel
theorem dX4_home_17 : decode cX4_home 17 = .ok (.ifCond .eq 11, 3) := by decide +kernel
theorem dX4_home_20 : decode cX4_home 20 = .ok (.aload_n 0, 1) := by decide +kernel
theorem dX4_home_21 : decode cX4_home 21 = .ok (.iload_n 1, 1) := by decide +kernel
theorem dX4_home_22 : decode cX4_home 22 = .ok (.invokevirtual 65, 3) := by decide +kernel
theorem dX4_home_25 : decode cX4_home 25 = .ok (.goto 4, 3) := by decide +kernel
theorem dX4_home_28 : decode cX4_home 28 = .ok (.iconst 0, 1) := by decide +kernel
theorem dX4_home_29 : decode cX4_home 29 = .ok (.ireturn, 1) := by decide +kernel
set_option maxRecDepth 20000 in
theorem ggX4_kept_X4_isFile : GoodIn wsX4_kept wsX4_isFile := goodIn_r _ [6, 7, 8, 9, 5, 10, 16, 17, 18, 19, 20, 21, 22, 23, 24, 25, 26, 27, 28, 29, 30] (by decide +kernel) (by decide +kernel)
set_option maxRecDepth 20000 in
theorem gX4_kept_X4_isFile : GoodIn wsX4_kept (wsV RX4 85 RX4 yX4_isFile wsX4_isFile) := goodIn_app (goodIn_of _ (by decide +kernel)) ggX4_kept_X4_isFile
set_option maxRecDepth 20000 in
theorem ggX4_kept_X4_isFine : GoodIn wsX4_kept wsX4_isFine := goodIn_r _ [14, 15, 16, 17, 18, 19, 20, 21, 22, 23, 24, 25, 26, 27, 28, 29, 30] (by decide +kernel) (by decide +kernel)
set_option maxRecDepth 20000 in
theorem gX4_kept_X4_isFine : GoodIn wsX4_kept (wsV RX4 62 RX4 yX4_isFine wsX4_isFine) := goodIn_app (goodIn_of _ (by decide +kernel)) ggX4_kept_X4_isFine
theorem dX4_kept_0 : decode cX4_kept 0 = .ok (.aload_n 0, 1) := by decide +kernel
theorem dX4_kept_1 : decode cX4_kept 1 = .ok (.aload_n 0, 1) := by decide +kernel
theorem dX4_kept_2 : decode cX4_kept 2 = .ok (.iload_n 1, 1) := by decide +kernel
theorem dX4_kept_3 : decode cX4_kept 3 = .ok (.invokevirtual 85, 3) := by decide +kernel
