theorem dX7_reads_84 : decode cX7_reads 84 = .ok (.iinc 2 1, 3) := by decide +kernel
theorem dX7_reads_87 : decode cX7_reads 87 = .ok (.goto (-80), 3) := by decide +kernel
theorem dX7_reads_90 : decode cX7_reads 90 = .ok (.return_, 1) := by decide +kernel
theorem dX7_drops_0 : decode cX7_drops 0 = .ok (.aload_n 0, 1) := by decide +kernel
theorem dX7_drops_1 : decode cX7_drops 1 = .ok (.dup, 1) := by decide +kernel
theorem dX7_drops_2 : decode cX7_drops 2 = .ok (.getfield 87, 3) := by decide +kernel
theorem dX7_drops_5 : decode cX7_drops 5 = .ok (.iconst 1, 1) := by decide +kernel
theorem dX7_drops_6 : decode cX7_drops 6 = .ok (.isub, 1) := by decide +kernel
theorem dX7_drops_7 : decode cX7_drops 7 = .ok (.putfield 87, 3) := by decide +kernel
theorem dX7_drops_10 : decode cX7_drops 10 = .ok (.aload_n 0, 1) := by decide +kernel
theorem dX7_drops_11 : decode cX7_drops 11 = .ok (.getfield 23, 3) := by decide +kernel
theorem dX7_drops_14 : decode cX7_drops 14 = .ok (.iload_n 1, 1) := by decide +kernel
theorem dX7_drops_15 : decode cX7_drops 15 = .ok (.aload_n 0, 1) := by decide +kernel
theorem dX7_drops_16 : decode cX7_drops 16 = .ok (.getfield 23, 3) := by decide +kernel
theorem dX7_drops_19 : decode cX7_drops 19 = .ok (.aload_n 0, 1) := by decide +kernel
theorem dX7_drops_20 : decode cX7_drops 20 = .ok (.getfield 87, 3) := by decide +kernel
theorem dX7_drops_23 : decode cX7_drops 23 = .ok (.iaload, 1) := by decide +kernel
theorem dX7_drops_24 : decode cX7_drops 24 = .ok (.iastore, 1) := by decide +kernel
theorem dX7_drops_25 : decode cX7_drops 25 = .ok (.aload_n 0, 1) := by decide +kernel
theorem dX7_drops_26 : decode cX7_drops 26 = .ok (.getfield 26, 3) := by decide +kernel
theorem dX7_drops_29 : decode cX7_drops 29 = .ok (.iload_n 1, 1) := by decide +kernel
theorem dX7_drops_30 : decode cX7_drops 30 = .ok (.aload_n 0, 1) := by decide +kernel
theorem dX7_drops_31 : decode cX7_drops 31 = .ok (.getfield 26, 3) := by decide +kernel
theorem dX7_drops_34 : decode cX7_drops 34 = .ok (.aload_n 0, 1) := by decide +kernel
theorem dX7_drops_35 : decode cX7_drops 35 = .ok (.getfield 87, 3) := by decide +kernel
theorem dX7_drops_38 : decode cX7_drops 38 = .ok (.iaload, 1) := by decide +kernel
theorem dX7_drops_39 : decode cX7_drops 39 = .ok (.iastore, 1) := by decide +kernel
theorem dX7_drops_40 : decode cX7_drops 40 = .ok (.return_, 1) := by decide +kernel
set_option maxRecDepth 20000 in
theorem ggX7_makes_X7_tight : GoodIn wsX7_makes wsX7_tight := goodIn_r _ [9, 4, 3, 2, 10, 11, 12, 8, 13, 18, 19, 20, 21, 22, 23, 24, 25, 26, 27, 28, 29, 30, 31, 32, 33, 34, 35, 36, 37, 38, 39] (by decide +kernel) (by decide +kernel)
set_option maxRecDepth 20000 in
theorem gX7_makes_X7_tight : GoodIn wsX7_makes (wsV RX7 94 RX7 yX7_tight wsX7_tight) := goodIn_app (goodIn_of _ (by decide +kernel)) ggX7_makes_X7_tight
set_option maxRecDepth 20000 in
theorem ggX7_makes_X7_drops : GoodIn wsX7_makes wsX7_drops := goodIn_r _ [17, 4, 2, 3, 18, 19, 20, 21, 22, 23, 24, 25, 26, 27, 28, 29, 30, 31, 32, 33, 34, 35, 36, 37, 38, 39] (by decide +kernel) (by decide +kernel)
set_option maxRecDepth 20000 in
theorem gX7_makes_X7_drops : GoodIn wsX7_makes (wsV RX7 97 RX7 yX7_drops wsX7_drops) := goodIn_app (goodIn_of _ (by decide +kernel)) ggX7_makes_X7_drops
set_option maxRecDepth 20000 in
theorem ggX7_makes_X7_room : GoodIn wsX7_makes wsX7_room := goodIn_r _ [13, 4, 2, 18, 19, 20, 21, 22, 23, 24, 25, 26, 27, 28, 29, 30, 31, 32, 33, 34, 35, 36, 37, 38, 39] (by decide +kernel) (by decide +kernel)
set_option maxRecDepth 20000 in
theorem gX7_makes_X7_room : GoodIn wsX7_makes (wsV RX7 90 RX7 yX7_room wsX7_room) := goodIn_app (goodIn_of _ (by decide +kernel)) ggX7_makes_X7_room
theorem dX7_makes_0 : decode cX7_makes 0 = .ok (.sipush 239, 3) := by decide +kernel
theorem dX7_makes_3 : decode cX7_makes 3 = .ok (.istore_n 1, 1) := by decide +kernel
theorem dX7_makes_4 : decode cX7_makes 4 = .ok (.iload_n 1, 1) := by decide +kernel
theorem dX7_makes_5 : decode cX7_makes 5 = .ok (.ifCond .lt 83, 3) := by decide +kernel
theorem dX7_makes_8 : decode cX7_makes 8 = .ok (.aload_n 0, 1) := by decide +kernel
theorem dX7_makes_9 : decode cX7_makes 9 = .ok (.iload_n 1, 1) := by decide +kernel
theorem dX7_makes_10 : decode cX7_makes 10 = .ok (.iconst 1, 1) := by decide +kernel
theorem dX7_makes_11 : decode cX7_makes 11 = .ok (.iadd, 1) := by decide +kernel
theorem dX7_makes_12 : decode cX7_makes 12 = .ok (.iconst 0, 1) := by decide +kernel
theorem dX7_makes_13 : decode cX7_makes 13 = .ok (.invokevirtual 94, 3) := by decide +kernel
theorem dX7_makes_16 : decode cX7_makes 16 = .ok (.istore_n 2, 1) := by decide +kernel
theorem dX7_makes_17 : decode cX7_makes 17 = .ok (.aload_n 0, 1) := by decide +kernel
theorem dX7_makes_18 : decode cX7_makes 18 = .ok (.getfield 13, 3) := by decide +kernel
theorem dX7_makes_21 : decode cX7_makes 21 = .ok (.iload_n 1, 1) := by decide +kernel
theorem dX7_makes_22 : decode cX7_makes 22 = .ok (.iload_n 2, 1) := by decide +kernel
theorem dX7_makes_23 : decode cX7_makes 23 = .ok (.iconst (-1), 1) := by decide +kernel
theorem dX7_makes_24 : decode cX7_makes 24 = .ok (.if_icmp .eq 7, 3) := by decide +kernel
theorem dX7_makes_27 : decode cX7_makes 27 = .ok (.iconst 1, 1) := by decide +kernel
theorem dX7_makes_28 : decode cX7_makes 28 = .ok (.goto 4, 3) := by decide +kernel
theorem dX7_makes_31 : decode cX7_makes 31 = .ok (.iconst 0, 1) := by decide +kernel
theorem dX7_makes_32 : decode cX7_makes 32 = .ok (.bastore, 1) := by decide +kernel
theorem dX7_makes_33 : decode cX7_makes 33 = .ok (.iload_n 2, 1) := by decide +kernel
theorem dX7_makes_34 : decode cX7_makes 34 = .ok (.iconst (-1), 1) := by decide +kernel
theorem dX7_makes_35 : decode cX7_makes 35 = .ok (.if_icmp .eq 47, 3) := by decide +kernel
theorem dX7_makes_38 : decode cX7_makes 38 = .ok (.aload_n 0, 1) := by decide +kernel
theorem dX7_makes_39 : decode cX7_makes 39 = .ok (.getfield 23, 3) := by decide +kernel
theorem dX7_makes_42 : decode cX7_makes 42 = .ok (.iload_n 2, 1) := by decide +kernel
theorem dX7_makes_43 : decode cX7_makes 43 = .ok (.dup2, 1) := by decide +kernel
theorem dX7_makes_44 : decode cX7_makes 44 = .ok (.iaload, 1) := by decide +kernel
theorem dX7_makes_45 : decode cX7_makes 45 = .ok (.iconst 1, 1) := by decide +kernel
theorem dX7_makes_46 : decode cX7_makes 46 = .ok (.isub, 1) := by decide +kernel
theorem dX7_makes_47 : decode cX7_makes 47 = .ok (.iastore, 1) := by decide +kernel
theorem dX7_makes_48 : decode cX7_makes 48 = .ok (.aload_n 0, 1) := by decide +kernel
theorem dX7_makes_49 : decode cX7_makes 49 = .ok (.getfield 23, 3) := by decide +kernel
theorem dX7_makes_52 : decode cX7_makes 52 = .ok (.iload_n 2, 1) := by decide +kernel
theorem dX7_makes_53 : decode cX7_makes 53 = .ok (.iaload, 1) := by decide +kernel
theorem dX7_makes_54 : decode cX7_makes 54 = .ok (.ifCond .ne 11, 3) := by decide +kernel
theorem dX7_makes_57 : decode cX7_makes 57 = .ok (.aload_n 0, 1) := by decide +kernel
theorem dX7_makes_58 : decode cX7_makes 58 = .ok (.iload_n 2, 1) := by decide +kernel
theorem dX7_makes_59 : decode cX7_makes 59 = .ok (.invokevirtual 97, 3) := by decide +kernel
theorem dX7_makes_62 : decode cX7_makes 62 = .ok (.goto 20, 3) := by decide +kernel
theorem dX7_makes_65 : decode cX7_makes 65 = .ok (.aload_n 0, 1) := by decide +kernel
theorem dX7_makes_66 : decode cX7_makes 66 = .ok (.getfield 26, 3) := by decide +kernel
theorem dX7_makes_69 : decode cX7_makes 69 = .ok (.iload_n 2, 1) := by decide +kernel
theorem dX7_makes_70 : decode cX7_makes 70 = .ok (.aload_n 0, 1) := by decide +kernel
theorem dX7_makes_71 : decode cX7_makes 71 = .ok (.aload_n 0, 1) := by decide +kernel
theorem dX7_makes_72 : decode cX7_makes 72 = .ok (.getfield 23, 3) := by decide +kernel
theorem dX7_makes_75 : decode cX7_makes 75 = .ok (.iload_n 2, 1) := by decide +kernel
theorem dX7_makes_76 : decode cX7_makes 76 = .ok (.iaload, 1) := by decide +kernel
theorem dX7_makes_77 : decode cX7_makes 77 = .ok (.iload_n 1, 1) := by decide +kernel
theorem dX7_makes_78 : decode cX7_makes 78 = .ok (.invokevirtual 90, 3) := by decide +kernel
theorem dX7_makes_81 : decode cX7_makes 81 = .ok (.iastore, 1) := by decide +kernel
theorem dX7_makes_82 : decode cX7_makes 82 = .ok (.iinc 1 (-1), 3) := by decide +kernel
theorem dX7_makes_85 : decode cX7_makes 85 = .ok (.goto (-81), 3) := by decide +kernel
theorem dX7_makes_88 : decode cX7_makes 88 = .ok (.aload_n 0, 1) := by decide +kernel
theorem dX7_makes_89 : decode cX7_makes 89 = .ok (.getfield 87, 3) := by decide +kernel
theorem dX7_makes_92 : decode cX7_makes 92 = .ok (.ifCond .ne 7, 3) := by decide +kernel
theorem dX7_makes_95 : decode cX7_makes 95 = .ok (.iconst 1, 1) := by decide +kernel
theorem dX7_makes_96 : decode cX7_makes 96 = .ok (.goto 4, 3) := by decide +kernel
theorem dX7_makes_99 : decode cX7_makes 99 = .ok (.iconst 0, 1) := by decide +kernel
theorem dX7_makes_100 : decode cX7_makes 100 = .ok (.ireturn, 1) := by decide +kernel
set_option maxRecDepth 20000 in
theorem ggX7_strings_X7_in : GoodIn wsX7_strings wsX7_in := goodIn_r _ [11] (by decide +kernel) (by decide +kernel)
set_option maxRecDepth 20000 in
theorem gX7_strings_X7_in : GoodIn wsX7_strings (va_wsS RX7 66 yX7_in wsX7_in) := goodIn_app (goodIn_of _ (by decide +kernel)) ggX7_strings_X7_in
set_option maxRecDepth 20000 in
theorem ggX7_strings_X7_reads : GoodIn wsX7_strings wsX7_reads := goodIn_r _ [15, 1, 16, 4, 6, 17, 18, 19, 10, 20, 21, 22, 23, 24, 25, 26, 27, 28, 29, 30, 31, 32, 33, 34, 35, 36, 37, 38, 39, 40, 41, 42, 43, 44, 45, 46] (by decide +kernel) (by decide +kernel)
set_option maxRecDepth 20000 in
theorem gX7_strings_X7_reads : GoodIn wsX7_strings (wsV RX7 101 RX7 yX7_reads wsX7_reads) := goodIn_app (goodIn_of _ (by decide +kernel)) ggX7_strings_X7_reads
set_option maxRecDepth 20000 in
theorem ggX7_strings_X7_room : GoodIn wsX7_strings wsX7_room := goodIn_r _ [24, 1, 4, 25, 26, 27, 28, 29, 30, 31, 32, 33, 34, 35, 36, 37, 38, 39, 40, 41, 42, 43, 44, 45, 46] (by decide +kernel) (by decide +kernel)
set_option maxRecDepth 20000 in
theorem gX7_strings_X7_room : GoodIn wsX7_strings (wsV RX7 90 RX7 yX7_room wsX7_room) := goodIn_app (goodIn_of _ (by decide +kernel)) ggX7_strings_X7_room
theorem dX7_strings_0 : decode cX7_strings 0 = .ok (.iload_n 1, 1) := by decide +kernel
theorem dX7_strings_1 : decode cX7_strings 1 = .ok (.iconst 0, 1) := by decide +kernel
theorem dX7_strings_2 : decode cX7_strings 2 = .ok (.sipush 240, 3) := by decide +kernel
theorem dX7_strings_5 : decode cX7_strings 5 = .ok (.invokestatic 66, 3) := by decide +kernel
theorem dX7_strings_8 : decode cX7_strings 8 = .ok (.ifCond .ne 6, 3) := by decide +kernel
theorem dX7_strings_11 : decode cX7_strings 11 = .ok (.bipush (-2), 2) := by decide +kernel
theorem dX7_strings_13 : decode cX7_strings 13 = .ok (.ireturn, 1) := by decide +kernel
theorem dX7_strings_14 : decode cX7_strings 14 = .ok (.aload_n 0, 1) := by decide +kernel
theorem dX7_strings_15 : decode cX7_strings 15 = .ok (.iload_n 1, 1) := by decide +kernel
theorem dX7_strings_16 : decode cX7_strings 16 = .ok (.invokevirtual 101, 3) := by decide +kernel
theorem dX7_strings_19 : decode cX7_strings 19 = .ok (.aload_n 0, 1) := by decide +kernel
theorem dX7_strings_20 : decode cX7_strings 20 = .ok (.aload_n 0, 1) := by decide +kernel
theorem dX7_strings_21 : decode cX7_strings 21 = .ok (.getfield 87, 3) := by decide +kernel
theorem dX7_strings_24 : decode cX7_strings 24 = .ok (.putfield 104, 3) := by decide +kernel
theorem dX7_strings_27 : decode cX7_strings 27 = .ok (.iconst 0, 1) := by decide +kernel
theorem dX7_strings_28 : decode cX7_strings 28 = .ok (.istore_n 2, 1) := by decide +kernel
theorem dX7_strings_29 : decode cX7_strings 29 = .ok (.iload_n 2, 1) := by decide +kernel
theorem dX7_strings_30 : decode cX7_strings 30 = .ok (.aload_n 0, 1) := by decide +kernel
theorem dX7_strings_31 : decode cX7_strings 31 = .ok (.getfield 87, 3) := by decide +kernel
theorem dX7_strings_34 : decode cX7_strings 34 = .ok (.if_icmp .ge 124, 3) := by decide +kernel
theorem dX7_strings_37 : decode cX7_strings 37 = .ok (.iload_n 2, 1) := by decide +kernel
theorem dX7_strings_38 : decode cX7_strings 38 = .ok (.istore_n 3, 1) := by decide +kernel
theorem dX7_strings_39 : decode cX7_strings 39 = .ok (.iload_n 3, 1) := by decide +kernel
theorem dX7_strings_40 : decode cX7_strings 40 = .ok (.ifCond .le 88, 3) := by decide +kernel
theorem dX7_strings_43 : decode cX7_strings 43 = .ok (.aload_n 0, 1) := by decide +kernel
theorem dX7_strings_44 : decode cX7_strings 44 = .ok (.getfield 29, 3) := by decide +kernel
theorem dX7_strings_47 : decode cX7_strings 47 = .ok (.iload_n 3, 1) := by decide +kernel
theorem dX7_strings_48 : decode cX7_strings 48 = .ok (.iconst 1, 1) := by decide +kernel
theorem dX7_strings_49 : decode cX7_strings 49 = .ok (.isub, 1) := by decide +kernel
theorem dX7_strings_50 : decode cX7_strings 50 = .ok (.iaload, 1) := by decide +kernel
theorem dX7_strings_51 : decode cX7_strings 51 = .ok (.aload_n 0, 1) := by decide +kernel
theorem dX7_strings_52 : decode cX7_strings 52 = .ok (.getfield 23, 3) := by decide +kernel
theorem dX7_strings_55 : decode cX7_strings 55 = .ok (.iload_n 2, 1) := by decide +kernel
theorem dX7_strings_56 : decode cX7_strings 56 = .ok (.iaload, 1) := by decide +kernel
theorem dX7_strings_57 : decode cX7_strings 57 = .ok (.if_icmp .lt 37, 3) := by decide +kernel
theorem dX7_strings_60 : decode cX7_strings 60 = .ok (.aload_n 0, 1) := by decide +kernel
theorem dX7_strings_61 : decode cX7_strings 61 = .ok (.getfield 29, 3) := by decide +kernel
theorem dX7_strings_64 : decode cX7_strings 64 = .ok (.iload_n 3, 1) := by decide +kernel
theorem dX7_strings_65 : decode cX7_strings 65 = .ok (.iconst 1, 1) := by decide +kernel
theorem dX7_strings_66 : decode cX7_strings 66 = .ok (.isub, 1) := by decide +kernel
theorem dX7_strings_67 : decode cX7_strings 67 = .ok (.iaload, 1) := by decide +kernel
theorem dX7_strings_68 : decode cX7_strings 68 = .ok (.aload_n 0, 1) := by decide +kernel
theorem dX7_strings_69 : decode cX7_strings 69 = .ok (.getfield 23, 3) := by decide +kernel
theorem dX7_strings_72 : decode cX7_strings 72 = .ok (.iload_n 2, 1) := by decide +kernel
theorem dX7_strings_73 : decode cX7_strings 73 = .ok (.iaload, 1) := by decide +kernel
theorem dX7_strings_74 : decode cX7_strings 74 = .ok (.if_icmp .ne 54, 3) := by decide +kernel
theorem dX7_strings_77 : decode cX7_strings 77 = .ok (.aload_n 0, 1) := by decide +kernel
theorem dX7_strings_78 : decode cX7_strings 78 = .ok (.getfield 32, 3) := by decide +kernel
theorem dX7_strings_81 : decode cX7_strings 81 = .ok (.iload_n 3, 1) := by decide +kernel
theorem dX7_strings_82 : decode cX7_strings 82 = .ok (.iconst 1, 1) := by decide +kernel
theorem dX7_strings_83 : decode cX7_strings 83 = .ok (.isub, 1) := by decide +kernel
theorem dX7_strings_84 : decode cX7_strings 84 = .ok (.iaload, 1) := by decide +kernel
theorem dX7_strings_85 : decode cX7_strings 85 = .ok (.aload_n 0, 1) := by decide +kernel
theorem dX7_strings_86 : decode cX7_strings 86 = .ok (.getfield 26, 3) := by decide +kernel
theorem dX7_strings_89 : decode cX7_strings 89 = .ok (.iload_n 2, 1) := by decide +kernel
theorem dX7_strings_90 : decode cX7_strings 90 = .ok (.iaload, 1) := by decide +kernel
theorem dX7_strings_91 : decode cX7_strings 91 = .ok (.if_icmp .ge 37, 3) := by decide +kernel
theorem dX7_strings_94 : decode cX7_strings 94 = .ok (.aload_n 0, 1) := by decide +kernel
theorem dX7_strings_95 : decode cX7_strings 95 = .ok (.getfield 29, 3) := by decide +kernel
theorem dX7_strings_98 : decode cX7_strings 98 = .ok (.iload_n 3, 1) := by decide +kernel
theorem dX7_strings_99 : decode cX7_strings 99 = .ok (.aload_n 0, 1) := by decide +kernel
theorem dX7_strings_100 : decode cX7_strings 100 = .ok (.getfield 29, 3) := by decide +kernel
theorem dX7_strings_103 : decode cX7_strings 103 = .ok (.iload_n 3, 1) := by decide +kernel
theorem dX7_strings_104 : decode cX7_strings 104 = .ok (.iconst 1, 1) := by decide +kernel
theorem dX7_strings_105 : decode cX7_strings 105 = .ok (.isub, 1) := by decide +kernel
theorem dX7_strings_106 : decode cX7_strings 106 = .ok (.iaload, 1) := by decide +kernel
theorem dX7_strings_107 : decode cX7_strings 107 = .ok (.iastore, 1) := by decide +kernel
theorem dX7_strings_108 : decode cX7_strings 108 = .ok (.aload_n 0, 1) := by decide +kernel
theorem dX7_strings_109 : decode cX7_strings 109 = .ok (.getfield 32, 3) := by decide +kernel
theorem dX7_strings_112 : decode cX7_strings 112 = .ok (.iload_n 3, 1) := by decide +kernel
theorem dX7_strings_113 : decode cX7_strings 113 = .ok (.aload_n 0, 1) := by decide +kernel
theorem dX7_strings_114 : decode cX7_strings 114 = .ok (.getfield 32, 3) := by decide +kernel
theorem dX7_strings_117 : decode cX7_strings 117 = .ok (.iload_n 3, 1) := by decide +kernel
theorem dX7_strings_118 : decode cX7_strings 118 = .ok (.iconst 1, 1) := by decide +kernel
theorem dX7_strings_119 : decode cX7_strings 119 = .ok (.isub, 1) := by decide +kernel
theorem dX7_strings_120 : decode cX7_strings 120 = .ok (.iaload, 1) := by decide +kernel
theorem dX7_strings_121 : decode cX7_strings 121 = .ok (.iastore, 1) := by decide +kernel
theorem dX7_strings_122 : decode cX7_strings 122 = .ok (.iinc 3 (-1), 3) := by decide +kernel
theorem dX7_strings_125 : decode cX7_strings 125 = .ok (.goto (-86), 3) := by decide +kernel
theorem dX7_strings_128 : decode cX7_strings 128 = .ok (.aload_n 0, 1) := by decide +kernel
theorem dX7_strings_129 : decode cX7_strings 129 = .ok (.getfield 29, 3) := by decide +kernel
theorem dX7_strings_132 : decode cX7_strings 132 = .ok (.iload_n 3, 1) := by decide +kernel
theorem dX7_strings_133 : decode cX7_strings 133 = .ok (.aload_n 0, 1) := by decide +kernel
theorem dX7_strings_134 : decode cX7_strings 134 = .ok (.getfield 23, 3) := by decide +kernel
theorem dX7_strings_137 : decode cX7_strings 137 = .ok (.iload_n 2, 1) := by decide +kernel
theorem dX7_strings_138 : decode cX7_strings 138 = .ok (.iaload, 1) := by decide +kernel
theorem dX7_strings_139 : decode cX7_strings 139 = .ok (.iastore, 1) := by decide +kernel
theorem dX7_strings_140 : decode cX7_strings 140 = .ok (.aload_n 0, 1) := by decide +kernel
theorem dX7_strings_141 : decode cX7_strings 141 = .ok (.getfield 32, 3) := by decide +kernel
theorem dX7_strings_144 : decode cX7_strings 144 = .ok (.iload_n 3, 1) := by decide +kernel
theorem dX7_strings_145 : decode cX7_strings 145 = .ok (.aload_n 0, 1) := by decide +kernel
theorem dX7_strings_146 : decode cX7_strings 146 = .ok (.getfield 26, 3) := by decide +kernel
theorem dX7_strings_149 : decode cX7_strings 149 = .ok (.iload_n 2, 1) := by decide +kernel
theorem dX7_strings_150 : decode cX7_strings 150 = .ok (.iaload, 1) := by decide +kernel
theorem dX7_strings_151 : decode cX7_strings 151 = .ok (.iastore, 1) := by decide +kernel
theorem dX7_strings_152 : decode cX7_strings 152 = .ok (.iinc 2 1, 3) := by decide +kernel
theorem dX7_strings_155 : decode cX7_strings 155 = .ok (.goto (-126), 3) := by decide +kernel
theorem dX7_strings_158 : decode cX7_strings 158 = .ok (.iconst 0, 1) := by decide +kernel
theorem dX7_strings_159 : decode cX7_strings 159 = .ok (.istore_n 2, 1) := by decide +kernel
theorem dX7_strings_160 : decode cX7_strings 160 = .ok (.iload_n 2, 1) := by decide +kernel
theorem dX7_strings_161 : decode cX7_strings 161 = .ok (.aload_n 0, 1) := by decide +kernel
theorem dX7_strings_162 : decode cX7_strings 162 = .ok (.getfield 87, 3) := by decide +kernel
theorem dX7_strings_165 : decode cX7_strings 165 = .ok (.if_icmp .ge 26, 3) := by decide +kernel
theorem dX7_strings_168 : decode cX7_strings 168 = .ok (.aload_n 0, 1) := by decide +kernel
theorem dX7_strings_169 : decode cX7_strings 169 = .ok (.getfield 35, 3) := by decide +kernel
theorem dX7_strings_172 : decode cX7_strings 172 = .ok (.iload_n 2, 1) := by decide +kernel
theorem dX7_strings_173 : decode cX7_strings 173 = .ok (.aload_n 0, 1) := by decide +kernel
theorem dX7_strings_174 : decode cX7_strings 174 = .ok (.aload_n 0, 1) := by decide +kernel
theorem dX7_strings_175 : decode cX7_strings 175 = .ok (.getfield 29, 3) := by decide +kernel
theorem dX7_strings_178 : decode cX7_strings 178 = .ok (.iload_n 2, 1) := by decide +kernel
theorem dX7_strings_179 : decode cX7_strings 179 = .ok (.iaload, 1) := by decide +kernel
theorem dX7_strings_180 : decode cX7_strings 180 = .ok (.iload_n 1, 1) := by decide +kernel
theorem dX7_strings_181 : decode cX7_strings 181 = .ok (.invokevirtual 90, 3) := by decide +kernel
theorem dX7_strings_184 : decode cX7_strings 184 = .ok (.iastore, 1) := by decide +kernel
theorem dX7_strings_185 : decode cX7_strings 185 = .ok (.iinc 2 1, 3) := by decide +kernel
theorem dX7_strings_188 : decode cX7_strings 188 = .ok (.goto (-28), 3) := by decide +kernel
theorem dX7_strings_191 : decode cX7_strings 191 = .ok (.aload_n 0, 1) := by decide +kernel
theorem dX7_strings_192 : decode cX7_strings 192 = .ok (.getfield 87, 3) := by decide +kernel
theorem dX7_strings_195 : decode cX7_strings 195 = .ok (.ireturn, 1) := by decide +kernel
set_option maxRecDepth 20000 in
theorem ggX7_string_X7_in : GoodIn wsX7_string wsX7_in := goodIn_r _ [8] (by decide +kernel) (by decide +kernel)
set_option maxRecDepth 20000 in
theorem gX7_string_X7_in : GoodIn wsX7_string (va_wsS RX7 66 yX7_in wsX7_in) := goodIn_app (goodIn_of _ (by decide +kernel)) ggX7_string_X7_in
theorem dX7_string_0 : decode cX7_string 0 = .ok (.iload_n 1, 1) := by decide +kernel
theorem dX7_string_1 : decode cX7_string 1 = .ok (.iconst 0, 1) := by decide +kernel
theorem dX7_string_2 : decode cX7_string 2 = .ok (.aload_n 0, 1) := by decide +kernel
theorem dX7_string_3 : decode cX7_string 3 = .ok (.getfield 104, 3) := by decide +kernel
theorem dX7_string_6 : decode cX7_string 6 = .ok (.iconst 1, 1) := by decide +kernel
theorem dX7_string_7 : decode cX7_string 7 = .ok (.isub, 1) := by decide +kernel
theorem dX7_string_8 : decode cX7_string 8 = .ok (.invokestatic 66, 3) := by decide +kernel
theorem dX7_string_11 : decode cX7_string 11 = .ok (.ifCond .eq 12, 3) := by decide +kernel
theorem dX7_string_14 : decode cX7_string 14 = .ok (.iload_n 2, 1) := by decide +kernel
theorem dX7_string_15 : decode cX7_string 15 = .ok (.iconst 0, 1) := by decide +kernel
theorem dX7_string_16 : decode cX7_string 16 = .ok (.iconst 2, 1) := by decide +kernel
theorem dX7_string_17 : decode cX7_string 17 = .ok (.invokestatic 66, 3) := by decide +kernel
theorem dX7_string_20 : decode cX7_string 20 = .ok (.ifCond .ne 7, 3) := by decide +kernel
theorem dX7_string_23 : decode cX7_string 23 = .ok (.sipush (-1000), 3) := by decide +kernel
theorem dX7_string_26 : decode cX7_string 26 = .ok (.ireturn, 1) := by decide +kernel
theorem dX7_string_27 : decode cX7_string 27 = .ok (.iload_n 2, 1) := by decide +kernel
theorem dX7_string_28 : decode cX7_string 28 = .ok (.ifCond .ne 12, 3) := by decide +kernel
theorem dX7_string_31 : decode cX7_string 31 = .ok (.aload_n 0, 1) := by decide +kernel
theorem dX7_string_32 : decode cX7_string 32 = .ok (.getfield 29, 3) := by decide +kernel
theorem dX7_string_35 : decode cX7_string 35 = .ok (.iload_n 1, 1) := by decide +kernel
theorem dX7_string_36 : decode cX7_string 36 = .ok (.iaload, 1) := by decide +kernel
theorem dX7_string_37 : decode cX7_string 37 = .ok (.goto 23, 3) := by decide +kernel
theorem dX7_string_40 : decode cX7_string 40 = .ok (.iload_n 2, 1) := by decide +kernel
theorem dX7_string_41 : decode cX7_string 41 = .ok (.iconst 1, 1) := by decide +kernel
theorem dX7_string_42 : decode cX7_string 42 = .ok (.if_icmp .ne 12, 3) := by decide +kernel
theorem dX7_string_45 : decode cX7_string 45 = .ok (.aload_n 0, 1) := by decide +kernel
theorem dX7_string_46 : decode cX7_string 46 = .ok (.getfield 32, 3) := by decide +kernel
theorem dX7_string_49 : decode cX7_string 49 = .ok (.iload_n 1, 1) := by decide +kernel
theorem dX7_string_50 : decode cX7_string 50 = .ok (.iaload, 1) := by decide +kernel
theorem dX7_string_51 : decode cX7_string 51 = .ok (.goto 9, 3) := by decide +kernel
theorem dX7_string_54 : decode cX7_string 54 = .ok (.aload_n 0, 1) := by decide +kernel
theorem dX7_string_55 : decode cX7_string 55 = .ok (.getfield 35, 3) := by decide +kernel
theorem dX7_string_58 : decode cX7_string 58 = .ok (.iload_n 1, 1) := by decide +kernel
theorem dX7_string_59 : decode cX7_string 59 = .ok (.iaload, 1) := by decide +kernel
theorem dX7_string_60 : decode cX7_string 60 = .ok (.ireturn, 1) := by decide +kernel
set_option maxRecDepth 20000 in
theorem ggX7_leap_X7_in : GoodIn wsX7_leap wsX7_in := goodIn_r _ [7] (by decide +kernel) (by decide +kernel)
set_option maxRecDepth 20000 in
theorem gX7_leap_X7_in : GoodIn wsX7_leap (va_wsS RX7 66 yX7_in wsX7_in) := goodIn_app (goodIn_of _ (by decide +kernel)) ggX7_leap_X7_in
set_option maxRecDepth 20000 in
theorem ggX7_leap_X7_reads : GoodIn wsX7_leap wsX7_reads := goodIn_r _ [11, 1, 12, 3, 2, 13, 14, 15, 6, 16, 17, 18, 19, 20, 35, 36, 37, 38, 39, 40, 41, 42, 43, 44, 45, 46, 47, 48, 49, 50, 51, 52, 53, 54, 55, 56] (by decide +kernel) (by decide +kernel)
set_option maxRecDepth 20000 in
theorem gX7_leap_X7_reads : GoodIn wsX7_leap (wsV RX7 101 RX7 yX7_reads wsX7_reads) := goodIn_app (goodIn_of _ (by decide +kernel)) ggX7_leap_X7_reads
set_option maxRecDepth 20000 in
theorem ggX7_leap_X7_room : GoodIn wsX7_leap wsX7_room := goodIn_r _ [20, 1, 3, 35, 36, 37, 38, 39, 40, 41, 42, 43, 44, 45, 46, 47, 48, 49, 50, 51, 52, 53, 54, 55, 56] (by decide +kernel) (by decide +kernel)
set_option maxRecDepth 20000 in
theorem gX7_leap_X7_room : GoodIn wsX7_leap (wsV RX7 90 RX7 yX7_room wsX7_room) := goodIn_app (goodIn_of _ (by decide +kernel)) ggX7_leap_X7_room
set_option maxRecDepth 20000 in
theorem ggX7_leap_X7_makes : GoodIn wsX7_leap wsX7_makes := goodIn_r _ [24, 25, 3, 2, 1, 13, 14, 15, 6, 16, 17, 18, 19, 20, 26, 27, 28, 29, 35, 36, 37, 38, 39, 40, 41, 42, 43, 44, 45, 46, 47, 48, 49, 50, 51, 52, 53, 54, 55, 56] (by decide +kernel) (by decide +kernel)
set_option maxRecDepth 20000 in
theorem gX7_leap_X7_makes : GoodIn wsX7_leap (wsV RX7 107 RX7 yX7_makes wsX7_makes) := goodIn_app (goodIn_of _ (by decide +kernel)) ggX7_leap_X7_makes
set_option maxRecDepth 20000 in
theorem ggX7_leap_X7_takes : GoodIn wsX7_leap wsX7_takes := goodIn_r _ [33, 12, 25, 34, 35, 36, 37, 38, 39, 40, 41, 42, 43, 44, 45, 46, 47, 48, 49, 50, 51, 52, 53, 54, 55, 56] (by decide +kernel) (by decide +kernel)
set_option maxRecDepth 20000 in
theorem gX7_leap_X7_takes : GoodIn wsX7_leap (wsV RX7 77 RX7 yX7_takes wsX7_takes) := goodIn_app (goodIn_of _ (by decide +kernel)) ggX7_leap_X7_takes
theorem dX7_leap_0 : decode cX7_leap 0 = .ok (.iload_n 1, 1) := by decide +kernel
theorem dX7_leap_1 : decode cX7_leap 1 = .ok (.iconst 1, 1) := by decide +kernel
theorem dX7_leap_2 : decode cX7_leap 2 = .ok (.bipush 50, 2) := by decide +kernel
theorem dX7_leap_4 : decode cX7_leap 4 = .ok (.invokestatic 66, 3) := by decide +kernel
theorem dX7_leap_7 : decode cX7_leap 7 = .ok (.ifCond .eq 16, 3) := by decide +kernel
theorem dX7_leap_10 : decode cX7_leap 10 = .ok (.iload_n 2, 1) := by decide +kernel
theorem dX7_leap_11 : decode cX7_leap 11 = .ok (.sipush (-1000), 3) := by decide +kernel
theorem dX7_leap_14 : decode cX7_leap 14 = .ok (.sipush 1000, 3) := by decide +kernel
theorem dX7_leap_17 : decode cX7_leap 17 = .ok (.invokestatic 66, 3) := by decide +kernel
theorem dX7_leap_20 : decode cX7_leap 20 = .ok (.ifCond .ne 6, 3) := by decide +kernel
theorem dX7_leap_23 : decode cX7_leap 23 = .ok (.bipush (-2), 2) := by decide +kernel
theorem dX7_leap_25 : decode cX7_leap 25 = .ok (.ireturn, 1) := by decide +kernel
theorem dX7_leap_26 : decode cX7_leap 26 = .ok (.aload_n 0, 1) := by decide +kernel
theorem dX7_leap_27 : decode cX7_leap 27 = .ok (.sipush 240, 3) := by decide +kernel
theorem dX7_leap_30 : decode cX7_leap 30 = .ok (.invokevirtual 101, 3) := by decide +kernel
theorem dX7_leap_33 : decode cX7_leap 33 = .ok (.iconst 1, 1) := by decide +kernel
theorem dX7_leap_34 : decode cX7_leap 34 = .ok (.istore_n 3, 1) := by decide +kernel
theorem dX7_leap_35 : decode cX7_leap 35 = .ok (.iconst 0, 1) := by decide +kernel
theorem dX7_leap_36 : decode cX7_leap 36 = .ok (.istore 4, 2) := by decide +kernel
theorem dX7_leap_38 : decode cX7_leap 38 = .ok (.iload 4, 2) := by decide +kernel
theorem dX7_leap_40 : decode cX7_leap 40 = .ok (.aload_n 0, 1) := by decide +kernel
theorem dX7_leap_41 : decode cX7_leap 41 = .ok (.getfield 87, 3) := by decide +kernel
theorem dX7_leap_44 : decode cX7_leap 44 = .ok (.if_icmp .ge 75, 3) := by decide +kernel
theorem dX7_leap_47 : decode cX7_leap 47 = .ok (.aload_n 0, 1) := by decide +kernel
theorem dX7_leap_48 : decode cX7_leap 48 = .ok (.getfield 26, 3) := by decide +kernel
theorem dX7_leap_51 : decode cX7_leap 51 = .ok (.iload 4, 2) := by decide +kernel
theorem dX7_leap_53 : decode cX7_leap 53 = .ok (.dup2, 1) := by decide +kernel
theorem dX7_leap_54 : decode cX7_leap 54 = .ok (.iaload, 1) := by decide +kernel
theorem dX7_leap_55 : decode cX7_leap 55 = .ok (.iload_n 2, 1) := by decide +kernel
theorem dX7_leap_56 : decode cX7_leap 56 = .ok (.iload_n 1, 1) := by decide +kernel
theorem dX7_leap_57 : decode cX7_leap 57 = .ok (.aload_n 0, 1) := by decide +kernel
theorem dX7_leap_58 : decode cX7_leap 58 = .ok (.getfield 23, 3) := by decide +kernel
theorem dX7_leap_61 : decode cX7_leap 61 = .ok (.iload 4, 2) := by decide +kernel
theorem dX7_leap_63 : decode cX7_leap 63 = .ok (.iaload, 1) := by decide +kernel
theorem dX7_leap_64 : decode cX7_leap 64 = .ok (.if_icmp .ge 7, 3) := by decide +kernel
theorem dX7_leap_67 : decode cX7_leap 67 = .ok (.iload_n 1, 1) := by decide +kernel
theorem dX7_leap_68 : decode cX7_leap 68 = .ok (.goto 10, 3) := by decide +kernel
theorem dX7_leap_71 : decode cX7_leap 71 = .ok (.aload_n 0, 1) := by decide +kernel
theorem dX7_leap_72 : decode cX7_leap 72 = .ok (.getfield 23, 3) := by decide +kernel
theorem dX7_leap_75 : decode cX7_leap 75 = .ok (.iload 4, 2) := by decide +kernel
theorem dX7_leap_77 : decode cX7_leap 77 = .ok (.iaload, 1) := by decide +kernel
theorem dX7_leap_78 : decode cX7_leap 78 = .ok (.imul, 1) := by decide +kernel
theorem dX7_leap_79 : decode cX7_leap 79 = .ok (.iadd, 1) := by decide +kernel
theorem dX7_leap_80 : decode cX7_leap 80 = .ok (.iastore, 1) := by decide +kernel
theorem dX7_leap_81 : decode cX7_leap 81 = .ok (.iload_n 3, 1) := by decide +kernel
theorem dX7_leap_82 : decode cX7_leap 82 = .ok (.aload_n 0, 1) := by decide +kernel
theorem dX7_leap_83 : decode cX7_leap 83 = .ok (.getfield 26, 3) := by decide +kernel
theorem dX7_leap_86 : decode cX7_leap 86 = .ok (.iload 4, 2) := by decide +kernel
theorem dX7_leap_88 : decode cX7_leap 88 = .ok (.iaload, 1) := by decide +kernel
theorem dX7_leap_89 : decode cX7_leap 89 = .ok (.aload_n 0, 1) := by decide +kernel
theorem dX7_leap_90 : decode cX7_leap 90 = .ok (.aload_n 0, 1) := by decide +kernel
theorem dX7_leap_91 : decode cX7_leap 91 = .ok (.getfield 23, 3) := by decide +kernel
theorem dX7_leap_94 : decode cX7_leap 94 = .ok (.iload 4, 2) := by decide +kernel
theorem dX7_leap_96 : decode cX7_leap 96 = .ok (.iaload, 1) := by decide +kernel
theorem dX7_leap_97 : decode cX7_leap 97 = .ok (.sipush 240, 3) := by decide +kernel
theorem dX7_leap_100 : decode cX7_leap 100 = .ok (.invokevirtual 90, 3) := by decide +kernel
theorem dX7_leap_103 : decode cX7_leap 103 = .ok (.if_icmp .gt 7, 3) := by decide +kernel
theorem dX7_leap_106 : decode cX7_leap 106 = .ok (.iconst 1, 1) := by decide +kernel
theorem dX7_leap_107 : decode cX7_leap 107 = .ok (.goto 4, 3) := by decide +kernel
theorem dX7_leap_110 : decode cX7_leap 110 = .ok (.iconst 0, 1) := by decide +kernel
theorem dX7_leap_111 : decode cX7_leap 111 = .ok (.iand, 1) := by decide +kernel
theorem dX7_leap_112 : decode cX7_leap 112 = .ok (.istore_n 3, 1) := by decide +kernel
theorem dX7_leap_113 : decode cX7_leap 113 = .ok (.iinc 4 1, 3) := by decide +kernel
theorem dX7_leap_116 : decode cX7_leap 116 = .ok (.goto (-78), 3) := by decide +kernel
theorem dX7_leap_119 : decode cX7_leap 119 = .ok (.iload_n 3, 1) := by decide +kernel
theorem dX7_leap_120 : decode cX7_leap 120 = .ok (.ifCond .eq 17, 3) := by decide +kernel
theorem dX7_leap_123 : decode cX7_leap 123 = .ok (.aload_n 0, 1) := by decide +kernel
theorem dX7_leap_124 : decode cX7_leap 124 = .ok (.invokevirtual 107, 3) := by decide +kernel
theorem dX7_leap_127 : decode cX7_leap 127 = .ok (.ifCond .eq 10, 3) := by decide +kernel
theorem dX7_leap_130 : decode cX7_leap 130 = .ok (.aload_n 0, 1) := by decide +kernel
theorem dX7_leap_131 : decode cX7_leap 131 = .ok (.invokevirtual 77, 3) := by decide +kernel
theorem dX7_leap_134 : decode cX7_leap 134 = .ok (.goto 5, 3) := by decide +kernel
theorem dX7_leap_137 : decode cX7_leap 137 = .ok (.bipush (-4), 2) := by decide +kernel
theorem dX7_leap_139 : decode cX7_leap 139 = .ok (.ireturn, 1) := by decide +kernel
theorem dX7_ringBalls_0 : decode cX7_ringBalls 0 = .ok (.iconst 0, 1) := by decide +kernel
theorem dX7_ringBalls_1 : decode cX7_ringBalls 1 = .ok (.istore_n 1, 1) := by decide +kernel
theorem dX7_ringBalls_2 : decode cX7_ringBalls 2 = .ok (.iconst 0, 1) := by decide +kernel
theorem dX7_ringBalls_3 : decode cX7_ringBalls 3 = .ok (.istore_n 2, 1) := by decide +kernel
theorem dX7_ringBalls_4 : decode cX7_ringBalls 4 = .ok (.iload_n 2, 1) := by decide +kernel
theorem dX7_ringBalls_5 : decode cX7_ringBalls 5 = .ok (.aload_n 0, 1) := by decide +kernel
theorem dX7_ringBalls_6 : decode cX7_ringBalls 6 = .ok (.getfield 38, 3) := by decide +kernel
theorem dX7_ringBalls_9 : decode cX7_ringBalls 9 = .ok (.if_icmp .ge 26, 3) := by decide +kernel
theorem dX7_ringBalls_12 : decode cX7_ringBalls 12 = .ok (.iload_n 1, 1) := by decide +kernel
theorem dX7_ringBalls_13 : decode cX7_ringBalls 13 = .ok (.aload_n 0, 1) := by decide +kernel
theorem dX7_ringBalls_14 : decode cX7_ringBalls 14 = .ok (.getfield 42, 3) := by decide +kernel
theorem dX7_ringBalls_17 : decode cX7_ringBalls 17 = .ok (.iload_n 2, 1) := by decide +kernel
theorem dX7_ringBalls_18 : decode cX7_ringBalls 18 = .ok (.baload, 1) := by decide +kernel
theorem dX7_ringBalls_19 : decode cX7_ringBalls 19 = .ok (.ifCond .eq 7, 3) := by decide +kernel
theorem dX7_ringBalls_22 : decode cX7_ringBalls 22 = .ok (.iconst 1, 1) := by decide +kernel
theorem dX7_ringBalls_23 : decode cX7_ringBalls 23 = .ok (.goto 4, 3) := by decide +kernel
theorem dX7_ringBalls_26 : decode cX7_ringBalls 26 = .ok (.iconst 0, 1) := by decide +kernel
theorem dX7_ringBalls_27 : decode cX7_ringBalls 27 = .ok (.iadd, 1) := by decide +kernel
theorem dX7_ringBalls_28 : decode cX7_ringBalls 28 = .ok (.istore_n 1, 1) := by decide +kernel
theorem dX7_ringBalls_29 : decode cX7_ringBalls 29 = .ok (.iinc 2 1, 3) := by decide +kernel
theorem dX7_ringBalls_32 : decode cX7_ringBalls 32 = .ok (.goto (-28), 3) := by decide +kernel
theorem dX7_ringBalls_35 : decode cX7_ringBalls 35 = .ok (.iload_n 1, 1) := by decide +kernel
theorem dX7_ringBalls_36 : decode cX7_ringBalls 36 = .ok (.ireturn, 1) := by decide +kernel
set_option maxRecDepth 20000 in
theorem ggX7_ring_X7_in : GoodIn wsX7_ring wsX7_in := goodIn_r _ [7] (by decide +kernel) (by decide +kernel)
set_option maxRecDepth 20000 in
theorem gX7_ring_X7_in : GoodIn wsX7_ring (va_wsS RX7 66 yX7_in wsX7_in) := goodIn_app (goodIn_of _ (by decide +kernel)) ggX7_ring_X7_in
theorem dX7_ring_0 : decode cX7_ring 0 = .ok (.iload_n 2, 1) := by decide +kernel
theorem dX7_ring_1 : decode cX7_ring 1 = .ok (.iconst 1, 1) := by decide +kernel
theorem dX7_ring_2 : decode cX7_ring 2 = .ok (.bipush 40, 2) := by decide +kernel
theorem dX7_ring_4 : decode cX7_ring 4 = .ok (.invokestatic 66, 3) := by decide +kernel
theorem dX7_ring_7 : decode cX7_ring 7 = .ok (.ifCond .eq 16, 3) := by decide +kernel
theorem dX7_ring_10 : decode cX7_ring 10 = .ok (.iload_n 1, 1) := by decide +kernel
theorem dX7_ring_11 : decode cX7_ring 11 = .ok (.iconst 0, 1) := by decide +kernel
theorem dX7_ring_12 : decode cX7_ring 12 = .ok (.sipush 240, 3) := by decide +kernel
theorem dX7_ring_15 : decode cX7_ring 15 = .ok (.iload_n 2, 1) := by decide +kernel
theorem dX7_ring_16 : decode cX7_ring 16 = .ok (.isub, 1) := by decide +kernel
theorem dX7_ring_17 : decode cX7_ring 17 = .ok (.invokestatic 66, 3) := by decide +kernel
theorem dX7_ring_20 : decode cX7_ring 20 = .ok (.ifCond .ne 6, 3) := by decide +kernel
theorem dX7_ring_23 : decode cX7_ring 23 = .ok (.bipush (-2), 2) := by decide +kernel
theorem dX7_ring_25 : decode cX7_ring 25 = .ok (.ireturn, 1) := by decide +kernel
theorem dX7_ring_26 : decode cX7_ring 26 = .ok (.iconst 0, 1) := by decide +kernel
theorem dX7_ring_27 : decode cX7_ring 27 = .ok (.istore_n 3, 1) := by decide +kernel
theorem dX7_ring_28 : decode cX7_ring 28 = .ok (.iconst 0, 1) := by decide +kernel
theorem dX7_ring_29 : decode cX7_ring 29 = .ok (.istore 4, 2) := by decide +kernel
theorem dX7_ring_31 : decode cX7_ring 31 = .ok (.iload 4, 2) := by decide +kernel
theorem dX7_ring_33 : decode cX7_ring 33 = .ok (.iload_n 2, 1) := by decide +kernel
theorem dX7_ring_34 : decode cX7_ring 34 = .ok (.if_icmp .ge 29, 3) := by decide +kernel
theorem dX7_ring_37 : decode cX7_ring 37 = .ok (.iload_n 3, 1) := by decide +kernel
theorem dX7_ring_38 : decode cX7_ring 38 = .ok (.aload_n 0, 1) := by decide +kernel
theorem dX7_ring_39 : decode cX7_ring 39 = .ok (.getfield 7, 3) := by decide +kernel
theorem dX7_ring_42 : decode cX7_ring 42 = .ok (.iload_n 1, 1) := by decide +kernel
theorem dX7_ring_43 : decode cX7_ring 43 = .ok (.iload 4, 2) := by decide +kernel
theorem dX7_ring_45 : decode cX7_ring 45 = .ok (.iadd, 1) := by decide +kernel
theorem dX7_ring_46 : decode cX7_ring 46 = .ok (.baload, 1) := by decide +kernel
theorem dX7_ring_47 : decode cX7_ring 47 = .ok (.ifCond .eq 7, 3) := by decide +kernel
theorem dX7_ring_50 : decode cX7_ring 50 = .ok (.iconst 1, 1) := by decide +kernel
theorem dX7_ring_51 : decode cX7_ring 51 = .ok (.goto 4, 3) := by decide +kernel
theorem dX7_ring_54 : decode cX7_ring 54 = .ok (.iconst 0, 1) := by decide +kernel
theorem dX7_ring_55 : decode cX7_ring 55 = .ok (.iadd, 1) := by decide +kernel
theorem dX7_ring_56 : decode cX7_ring 56 = .ok (.istore_n 3, 1) := by decide +kernel
theorem dX7_ring_57 : decode cX7_ring 57 = .ok (.iinc 4 1, 3) := by decide +kernel
theorem dX7_ring_60 : decode cX7_ring 60 = .ok (.goto (-29), 3) := by decide +kernel
theorem dX7_ring_63 : decode cX7_ring 63 = .ok (.iconst 2, 1) := by decide +kernel
theorem dX7_ring_64 : decode cX7_ring 64 = .ok (.iload_n 3, 1) := by decide +kernel
theorem dX7_ring_65 : decode cX7_ring 65 = .ok (.imul, 1) := by decide +kernel
theorem dX7_ring_66 : decode cX7_ring 66 = .ok (.iload_n 2, 1) := by decide +kernel
theorem dX7_ring_67 : decode cX7_ring 67 = .ok (.if_icmp .lt 6, 3) := by decide +kernel
theorem dX7_ring_70 : decode cX7_ring 70 = .ok (.bipush (-3), 2) := by decide +kernel
theorem dX7_ring_72 : decode cX7_ring 72 = .ok (.ireturn, 1) := by decide +kernel
theorem dX7_ring_73 : decode cX7_ring 73 = .ok (.aload_n 0, 1) := by decide +kernel
theorem dX7_ring_74 : decode cX7_ring 74 = .ok (.iload_n 2, 1) := by decide +kernel
theorem dX7_ring_75 : decode cX7_ring 75 = .ok (.putfield 38, 3) := by decide +kernel
theorem dX7_ring_78 : decode cX7_ring 78 = .ok (.iconst 0, 1) := by decide +kernel
theorem dX7_ring_79 : decode cX7_ring 79 = .ok (.istore 4, 2) := by decide +kernel
theorem dX7_ring_81 : decode cX7_ring 81 = .ok (.iload 4, 2) := by decide +kernel
theorem dX7_ring_83 : decode cX7_ring 83 = .ok (.iload_n 2, 1) := by decide +kernel
theorem dX7_ring_84 : decode cX7_ring 84 = .ok (.if_icmp .ge 25, 3) := by decide +kernel
theorem dX7_ring_87 : decode cX7_ring 87 = .ok (.aload_n 0, 1) := by decide +kernel
theorem dX7_ring_88 : decode cX7_ring 88 = .ok (.getfield 42, 3) := by decide +kernel
theorem dX7_ring_91 : decode cX7_ring 91 = .ok (.iload 4, 2) := by decide +kernel
theorem dX7_ring_93 : decode cX7_ring 93 = .ok (.aload_n 0, 1) := by decide +kernel
theorem dX7_ring_94 : decode cX7_ring 94 = .ok (.getfield 7, 3) := by decide +kernel
theorem dX7_ring_97 : decode cX7_ring 97 = .ok (.iload_n 1, 1) := by decide +kernel
theorem dX7_ring_98 : decode cX7_ring 98 = .ok (.iload 4, 2) := by decide +kernel
theorem dX7_ring_100 : decode cX7_ring 100 = .ok (.iadd, 1) := by decide +kernel
theorem dX7_ring_101 : decode cX7_ring 101 = .ok (.baload, 1) := by decide +kernel
theorem dX7_ring_102 : decode cX7_ring 102 = .ok (.bastore, 1) := by decide +kernel
theorem dX7_ring_103 : decode cX7_ring 103 = .ok (.iinc 4 1, 3) := by decide +kernel
theorem dX7_ring_106 : decode cX7_ring 106 = .ok (.goto (-25), 3) := by decide +kernel
theorem dX7_ring_109 : decode cX7_ring 109 = .ok (.iload_n 3, 1) := by decide +kernel
theorem dX7_ring_110 : decode cX7_ring 110 = .ok (.ireturn, 1) := by decide +kernel
set_option maxRecDepth 20000 in
theorem ggX7_ringAt_X7_in : GoodIn wsX7_ringAt wsX7_in := goodIn_r _ [6] (by decide +kernel) (by decide +kernel)
set_option maxRecDepth 20000 in
theorem gX7_ringAt_X7_in : GoodIn wsX7_ringAt (va_wsS RX7 66 yX7_in wsX7_in) := goodIn_app (goodIn_of _ (by decide +kernel)) ggX7_ringAt_X7_in
theorem dX7_ringAt_0 : decode cX7_ringAt 0 = .ok (.iload_n 1, 1) := by decide +kernel
theorem dX7_ringAt_1 : decode cX7_ringAt 1 = .ok (.iconst 0, 1) := by decide +kernel
theorem dX7_ringAt_2 : decode cX7_ringAt 2 = .ok (.aload_n 0, 1) := by decide +kernel
theorem dX7_ringAt_3 : decode cX7_ringAt 3 = .ok (.getfield 38, 3) := by decide +kernel
theorem dX7_ringAt_6 : decode cX7_ringAt 6 = .ok (.iconst 1, 1) := by decide +kernel
theorem dX7_ringAt_7 : decode cX7_ringAt 7 = .ok (.isub, 1) := by decide +kernel
theorem dX7_ringAt_8 : decode cX7_ringAt 8 = .ok (.invokestatic 66, 3) := by decide +kernel
theorem dX7_ringAt_11 : decode cX7_ringAt 11 = .ok (.ifCond .eq 20, 3) := by decide +kernel
theorem dX7_ringAt_14 : decode cX7_ringAt 14 = .ok (.aload_n 0, 1) := by decide +kernel
theorem dX7_ringAt_15 : decode cX7_ringAt 15 = .ok (.getfield 42, 3) := by decide +kernel
theorem dX7_ringAt_18 : decode cX7_ringAt 18 = .ok (.iload_n 1, 1) := by decide +kernel
theorem dX7_ringAt_19 : decode cX7_ringAt 19 = .ok (.baload, 1) := by decide +kernel
theorem dX7_ringAt_20 : decode cX7_ringAt 20 = .ok (.ifCond .eq 7, 3) := by decide +kernel
theorem dX7_ringAt_23 : decode cX7_ringAt 23 = .ok (.iconst 1, 1) := by decide +kernel
theorem dX7_ringAt_24 : decode cX7_ringAt 24 = .ok (.goto 9, 3) := by decide +kernel
theorem dX7_ringAt_27 : decode cX7_ringAt 27 = .ok (.iconst 0, 1) := by decide +kernel
theorem dX7_ringAt_28 : decode cX7_ringAt 28 = .ok (.goto 5, 3) := by decide +kernel
theorem dX7_ringAt_31 : decode cX7_ringAt 31 = .ok (.bipush (-2), 2) := by decide +kernel
theorem dX7_ringAt_33 : decode cX7_ringAt 33 = .ok (.ireturn, 1) := by decide +kernel
theorem dX7_turns_0 : decode cX7_turns 0 = .ok (.iconst 0, 1) := by decide +kernel
theorem dX7_turns_1 : decode cX7_turns 1 = .ok (.istore_n 2, 1) := by decide +kernel
theorem dX7_turns_2 : decode cX7_turns 2 = .ok (.iconst 0, 1) := by decide +kernel
theorem dX7_turns_3 : decode cX7_turns 3 = .ok (.istore_n 3, 1) := by decide +kernel
theorem dX7_turns_4 : decode cX7_turns 4 = .ok (.iload_n 3, 1) := by decide +kernel
theorem dX7_turns_5 : decode cX7_turns 5 = .ok (.aload_n 0, 1) := by decide +kernel
theorem dX7_turns_6 : decode cX7_turns 6 = .ok (.getfield 38, 3) := by decide +kernel
theorem dX7_turns_9 : decode cX7_turns 9 = .ok (.if_icmp .ge 43, 3) := by decide +kernel
theorem dX7_turns_12 : decode cX7_turns 12 = .ok (.iload_n 2, 1) := by decide +kernel
theorem dX7_turns_13 : decode cX7_turns 13 = .ok (.aload_n 0, 1) := by decide +kernel
theorem dX7_turns_14 : decode cX7_turns 14 = .ok (.getfield 42, 3) := by decide +kernel
theorem dX7_turns_17 : decode cX7_turns 17 = .ok (.iload_n 3, 1) := by decide +kernel
theorem dX7_turns_18 : decode cX7_turns 18 = .ok (.baload, 1) := by decide +kernel
theorem dX7_turns_19 : decode cX7_turns 19 = .ok (.ifCond .eq 16, 3) := by decide +kernel
theorem dX7_turns_22 : decode cX7_turns 22 = .ok (.iload_n 2, 1) := by decide +kernel
theorem dX7_turns_23 : decode cX7_turns 23 = .ok (.iload_n 1, 1) := by decide +kernel
theorem dX7_turns_24 : decode cX7_turns 24 = .ok (.if_icmp .ge 7, 3) := by decide +kernel
theorem dX7_turns_27 : decode cX7_turns 27 = .ok (.iconst 1, 1) := by decide +kernel
theorem dX7_turns_28 : decode cX7_turns 28 = .ok (.goto 16, 3) := by decide +kernel
theorem dX7_turns_31 : decode cX7_turns 31 = .ok (.iconst 0, 1) := by decide +kernel
theorem dX7_turns_32 : decode cX7_turns 32 = .ok (.goto 12, 3) := by decide +kernel
theorem dX7_turns_35 : decode cX7_turns 35 = .ok (.iload_n 2, 1) := by decide +kernel
theorem dX7_turns_36 : decode cX7_turns 36 = .ok (.ifCond .le 7, 3) := by decide +kernel
theorem dX7_turns_39 : decode cX7_turns 39 = .ok (.iconst (-1), 1) := by decide +kernel
theorem dX7_turns_40 : decode cX7_turns 40 = .ok (.goto 4, 3) := by decide +kernel
theorem dX7_turns_43 : decode cX7_turns 43 = .ok (.iconst 0, 1) := by decide +kernel
theorem dX7_turns_44 : decode cX7_turns 44 = .ok (.iadd, 1) := by decide +kernel
theorem dX7_turns_45 : decode cX7_turns 45 = .ok (.istore_n 2, 1) := by decide +kernel
theorem dX7_turns_46 : decode cX7_turns 46 = .ok (.iinc 3 1, 3) := by decide +kernel
theorem dX7_turns_49 : decode cX7_turns 49 = .ok (.goto (-45), 3) := by decide +kernel
theorem dX7_turns_52 : decode cX7_turns 52 = .ok (.iload_n 2, 1) := by decide +kernel
theorem dX7_turns_53 : decode cX7_turns 53 = .ok (.istore_n 3, 1) := by decide +kernel
theorem dX7_turns_54 : decode cX7_turns 54 = .ok (.iconst 0, 1) := by decide +kernel
theorem dX7_turns_55 : decode cX7_turns 55 = .ok (.istore 4, 2) := by decide +kernel
theorem dX7_turns_57 : decode cX7_turns 57 = .ok (.iload 4, 2) := by decide +kernel
theorem dX7_turns_59 : decode cX7_turns 59 = .ok (.aload_n 0, 1) := by decide +kernel
theorem dX7_turns_60 : decode cX7_turns 60 = .ok (.getfield 38, 3) := by decide +kernel
theorem dX7_turns_63 : decode cX7_turns 63 = .ok (.if_icmp .ge 63, 3) := by decide +kernel
theorem dX7_turns_66 : decode cX7_turns 66 = .ok (.aload_n 0, 1) := by decide +kernel
theorem dX7_turns_67 : decode cX7_turns 67 = .ok (.getfield 42, 3) := by decide +kernel
theorem dX7_turns_70 : decode cX7_turns 70 = .ok (.iload 4, 2) := by decide +kernel
theorem dX7_turns_72 : decode cX7_turns 72 = .ok (.baload, 1) := by decide +kernel
theorem dX7_turns_73 : decode cX7_turns 73 = .ok (.ifCond .eq 22, 3) := by decide +kernel
theorem dX7_turns_76 : decode cX7_turns 76 = .ok (.iload_n 2, 1) := by decide +kernel
theorem dX7_turns_77 : decode cX7_turns 77 = .ok (.iload_n 1, 1) := by decide +kernel
theorem dX7_turns_78 : decode cX7_turns 78 = .ok (.if_icmp .ge 17, 3) := by decide +kernel
theorem dX7_turns_81 : decode cX7_turns 81 = .ok (.aload_n 0, 1) := by decide +kernel
theorem dX7_turns_82 : decode cX7_turns 82 = .ok (.getfield 42, 3) := by decide +kernel
theorem dX7_turns_85 : decode cX7_turns 85 = .ok (.iload 4, 2) := by decide +kernel
theorem dX7_turns_87 : decode cX7_turns 87 = .ok (.iconst 0, 1) := by decide +kernel
theorem dX7_turns_88 : decode cX7_turns 88 = .ok (.bastore, 1) := by decide +kernel
theorem dX7_turns_89 : decode cX7_turns 89 = .ok (.iinc 2 1, 3) := by decide +kernel
theorem dX7_turns_92 : decode cX7_turns 92 = .ok (.goto 28, 3) := by decide +kernel
theorem dX7_turns_95 : decode cX7_turns 95 = .ok (.aload_n 0, 1) := by decide +kernel
theorem dX7_turns_96 : decode cX7_turns 96 = .ok (.getfield 42, 3) := by decide +kernel
theorem dX7_turns_99 : decode cX7_turns 99 = .ok (.iload 4, 2) := by decide +kernel
theorem dX7_turns_101 : decode cX7_turns 101 = .ok (.baload, 1) := by decide +kernel
theorem dX7_turns_102 : decode cX7_turns 102 = .ok (.ifCond .ne 18, 3) := by decide +kernel
theorem dX7_turns_105 : decode cX7_turns 105 = .ok (.iload_n 2, 1) := by decide +kernel
theorem dX7_turns_106 : decode cX7_turns 106 = .ok (.ifCond .le 14, 3) := by decide +kernel
theorem dX7_turns_109 : decode cX7_turns 109 = .ok (.aload_n 0, 1) := by decide +kernel
theorem dX7_turns_110 : decode cX7_turns 110 = .ok (.getfield 42, 3) := by decide +kernel
theorem dX7_turns_113 : decode cX7_turns 113 = .ok (.iload 4, 2) := by decide +kernel
theorem dX7_turns_115 : decode cX7_turns 115 = .ok (.iconst 1, 1) := by decide +kernel
theorem dX7_turns_116 : decode cX7_turns 116 = .ok (.bastore, 1) := by decide +kernel
theorem dX7_turns_117 : decode cX7_turns 117 = .ok (.iinc 2 (-1), 3) := by decide +kernel
theorem dX7_turns_120 : decode cX7_turns 120 = .ok (.iinc 4 1, 3) := by decide +kernel
theorem dX7_turns_123 : decode cX7_turns 123 = .ok (.goto (-66), 3) := by decide +kernel
theorem dX7_turns_126 : decode cX7_turns 126 = .ok (.iload_n 3, 1) := by decide +kernel
theorem dX7_turns_127 : decode cX7_turns 127 = .ok (.ireturn, 1) := by decide +kernel
set_option maxRecDepth 20000 in
theorem ggX7_turn_X7_in : GoodIn wsX7_turn wsX7_in := goodIn_r _ [4] (by decide +kernel) (by decide +kernel)
set_option maxRecDepth 20000 in
theorem gX7_turn_X7_in : GoodIn wsX7_turn (va_wsS RX7 66 yX7_in wsX7_in) := goodIn_app (goodIn_of _ (by decide +kernel)) ggX7_turn_X7_in
set_option maxRecDepth 20000 in
theorem ggX7_turn_X7_turns : GoodIn wsX7_turn wsX7_turns := goodIn_r _ [8, 9, 10, 11, 12, 13, 14, 15, 16, 17, 18, 19, 20, 21, 22, 23, 24, 25, 26, 27, 28, 29, 30, 31, 32] (by decide +kernel) (by decide +kernel)
set_option maxRecDepth 20000 in
theorem gX7_turn_X7_turns : GoodIn wsX7_turn (wsV RX7 111 RX7 yX7_turns wsX7_turns) := goodIn_app (goodIn_of _ (by decide +kernel)) ggX7_turn_X7_turns
theorem dX7_turn_0 : decode cX7_turn 0 = .ok (.iload_n 1, 1) := by decide +kernel
theorem dX7_turn_1 : decode cX7_turn 1 = .ok (.iconst 1, 1) := by decide +kernel
theorem dX7_turn_2 : decode cX7_turn 2 = .ok (.bipush 50, 2) := by decide +kernel
theorem dX7_turn_4 : decode cX7_turn 4 = .ok (.invokestatic 66, 3) := by decide +kernel
theorem dX7_turn_7 : decode cX7_turn 7 = .ok (.ifCond .eq 11, 3) := by decide +kernel
theorem dX7_turn_10 : decode cX7_turn 10 = .ok (.aload_n 0, 1) := by decide +kernel
theorem dX7_turn_11 : decode cX7_turn 11 = .ok (.iload_n 1, 1) := by decide +kernel
theorem dX7_turn_12 : decode cX7_turn 12 = .ok (.invokevirtual 111, 3) := by decide +kernel
theorem dX7_turn_15 : decode cX7_turn 15 = .ok (.goto 5, 3) := by decide +kernel
theorem dX7_turn_18 : decode cX7_turn 18 = .ok (.bipush (-2), 2) := by decide +kernel
theorem dX7_turn_20 : decode cX7_turn 20 = .ok (.ireturn, 1) := by decide +kernel
theorem dX7_isAsWas_0 : decode cX7_isAsWas 0 = .ok (.iconst 0, 1) := by decide +kernel
theorem dX7_isAsWas_1 : decode cX7_isAsWas 1 = .ok (.istore_n 1, 1) := by decide +kernel
theorem dX7_isAsWas_2 : decode cX7_isAsWas 2 = .ok (.iload_n 1, 1) := by decide +kernel
theorem dX7_isAsWas_3 : decode cX7_isAsWas 3 = .ok (.aload_n 0, 1) := by decide +kernel
theorem dX7_isAsWas_4 : decode cX7_isAsWas 4 = .ok (.getfield 38, 3) := by decide +kernel
theorem dX7_isAsWas_7 : decode cX7_isAsWas 7 = .ok (.if_icmp .ge 26, 3) := by decide +kernel
theorem dX7_isAsWas_10 : decode cX7_isAsWas 10 = .ok (.aload_n 0, 1) := by decide +kernel
theorem dX7_isAsWas_11 : decode cX7_isAsWas 11 = .ok (.getfield 42, 3) := by decide +kernel
theorem dX7_isAsWas_14 : decode cX7_isAsWas 14 = .ok (.iload_n 1, 1) := by decide +kernel
theorem dX7_isAsWas_15 : decode cX7_isAsWas 15 = .ok (.baload, 1) := by decide +kernel
theorem dX7_isAsWas_16 : decode cX7_isAsWas 16 = .ok (.aload_n 0, 1) := by decide +kernel
theorem dX7_isAsWas_17 : decode cX7_isAsWas 17 = .ok (.getfield 45, 3) := by decide +kernel
theorem dX7_isAsWas_20 : decode cX7_isAsWas 20 = .ok (.iload_n 1, 1) := by decide +kernel
theorem dX7_isAsWas_21 : decode cX7_isAsWas 21 = .ok (.baload, 1) := by decide +kernel
theorem dX7_isAsWas_22 : decode cX7_isAsWas 22 = .ok (.if_icmp .eq 5, 3) := by decide +kernel
theorem dX7_isAsWas_25 : decode cX7_isAsWas 25 = .ok (.iconst 0, 1) := by decide +kernel
theorem dX7_isAsWas_26 : decode cX7_isAsWas 26 = .ok (.ireturn, 1) := by decide +kernel
theorem dX7_isAsWas_27 : decode cX7_isAsWas 27 = .ok (.iinc 1 1, 3) := by decide +kernel
theorem dX7_isAsWas_30 : decode cX7_isAsWas 30 = .ok (.goto (-28), 3) := by decide +kernel
theorem dX7_isAsWas_33 : decode cX7_isAsWas 33 = .ok (.iconst 1, 1) := by decide +kernel
theorem dX7_isAsWas_34 : decode cX7_isAsWas 34 = .ok (.ireturn, 1) := by decide +kernel
set_option maxRecDepth 20000 in
theorem ggX7_periodOf_X7_turns : GoodIn wsX7_periodOf wsX7_turns := goodIn_r _ [8, 1, 3, 13, 14, 15, 16, 17, 18, 19, 20, 21, 22, 23, 24, 25, 26, 27, 28, 29, 30, 31, 32, 33, 34] (by decide +kernel) (by decide +kernel)
set_option maxRecDepth 20000 in
theorem gX7_periodOf_X7_turns : GoodIn wsX7_periodOf (wsV RX7 111 RX7 yX7_turns wsX7_turns) := goodIn_app (goodIn_of _ (by decide +kernel)) ggX7_periodOf_X7_turns
set_option maxRecDepth 20000 in
theorem ggX7_periodOf_X7_isAsWas : GoodIn wsX7_periodOf wsX7_isAsWas := goodIn_r _ [12, 1, 3, 2, 13, 14, 15, 16, 17, 18, 19, 20, 21, 22, 23, 24, 25, 26, 27, 28, 29, 30, 31, 32, 33, 34] (by decide +kernel) (by decide +kernel)
set_option maxRecDepth 20000 in
theorem gX7_periodOf_X7_isAsWas : GoodIn wsX7_periodOf (wsV RX7 115 RX7 yX7_isAsWas wsX7_isAsWas) := goodIn_app (goodIn_of _ (by decide +kernel)) ggX7_periodOf_X7_isAsWas
theorem dX7_periodOf_0 : decode cX7_periodOf 0 = .ok (.iconst 0, 1) := by decide +kernel
theorem dX7_periodOf_1 : decode cX7_periodOf 1 = .ok (.istore_n 2, 1) := by decide +kernel
theorem dX7_periodOf_2 : decode cX7_periodOf 2 = .ok (.iload_n 2, 1) := by decide +kernel
theorem dX7_periodOf_3 : decode cX7_periodOf 3 = .ok (.aload_n 0, 1) := by decide +kernel
theorem dX7_periodOf_4 : decode cX7_periodOf 4 = .ok (.getfield 38, 3) := by decide +kernel
theorem dX7_periodOf_7 : decode cX7_periodOf 7 = .ok (.if_icmp .ge 21, 3) := by decide +kernel
theorem dX7_periodOf_10 : decode cX7_periodOf 10 = .ok (.aload_n 0, 1) := by decide +kernel
theorem dX7_periodOf_11 : decode cX7_periodOf 11 = .ok (.getfield 45, 3) := by decide +kernel
theorem dX7_periodOf_14 : decode cX7_periodOf 14 = .ok (.iload_n 2, 1) := by decide +kernel
theorem dX7_periodOf_15 : decode cX7_periodOf 15 = .ok (.aload_n 0, 1) := by decide +kernel
theorem dX7_periodOf_16 : decode cX7_periodOf 16 = .ok (.getfield 42, 3) := by decide +kernel
theorem dX7_periodOf_19 : decode cX7_periodOf 19 = .ok (.iload_n 2, 1) := by decide +kernel
theorem dX7_periodOf_20 : decode cX7_periodOf 20 = .ok (.baload, 1) := by decide +kernel
theorem dX7_periodOf_21 : decode cX7_periodOf 21 = .ok (.bastore, 1) := by decide +kernel
theorem dX7_periodOf_22 : decode cX7_periodOf 22 = .ok (.iinc 2 1, 3) := by decide +kernel
theorem dX7_periodOf_25 : decode cX7_periodOf 25 = .ok (.goto (-23), 3) := by decide +kernel
theorem dX7_periodOf_28 : decode cX7_periodOf 28 = .ok (.iconst 1, 1) := by decide +kernel
theorem dX7_periodOf_29 : decode cX7_periodOf 29 = .ok (.istore_n 2, 1) := by decide +kernel
theorem dX7_periodOf_30 : decode cX7_periodOf 30 = .ok (.iload_n 2, 1) := by decide +kernel
theorem dX7_periodOf_31 : decode cX7_periodOf 31 = .ok (.sipush 20000, 3) := by decide +kernel
theorem dX7_periodOf_34 : decode cX7_periodOf 34 = .ok (.if_icmp .gt 24, 3) := by decide +kernel
theorem dX7_periodOf_37 : decode cX7_periodOf 37 = .ok (.aload_n 0, 1) := by decide +kernel
theorem dX7_periodOf_38 : decode cX7_periodOf 38 = .ok (.iload_n 1, 1) := by decide +kernel
theorem dX7_periodOf_39 : decode cX7_periodOf 39 = .ok (.invokevirtual 111, 3) := by decide +kernel
theorem dX7_periodOf_42 : decode cX7_periodOf 42 = .ok (.istore_n 3, 1) := by decide +kernel
theorem dX7_periodOf_43 : decode cX7_periodOf 43 = .ok (.aload_n 0, 1) := by decide +kernel
theorem dX7_periodOf_44 : decode cX7_periodOf 44 = .ok (.invokevirtual 115, 3) := by decide +kernel
theorem dX7_periodOf_47 : decode cX7_periodOf 47 = .ok (.ifCond .eq 5, 3) := by decide +kernel
theorem dX7_periodOf_50 : decode cX7_periodOf 50 = .ok (.iload_n 2, 1) := by decide +kernel
theorem dX7_periodOf_51 : decode cX7_periodOf 51 = .ok (.ireturn, 1) := by decide +kernel
theorem dX7_periodOf_52 : decode cX7_periodOf 52 = .ok (.iinc 2 1, 3) := by decide +kernel
theorem dX7_periodOf_55 : decode cX7_periodOf 55 = .ok (.goto (-25), 3) := by decide +kernel
theorem dX7_periodOf_58 : decode cX7_periodOf 58 = .ok (.iconst 0, 1) := by decide +kernel
theorem dX7_periodOf_59 : decode cX7_periodOf 59 = .ok (.istore_n 2, 1) := by decide +kernel
theorem dX7_periodOf_60 : decode cX7_periodOf 60 = .ok (.iload_n 2, 1) := by decide +kernel
theorem dX7_periodOf_61 : decode cX7_periodOf 61 = .ok (.aload_n 0, 1) := by decide +kernel
theorem dX7_periodOf_62 : decode cX7_periodOf 62 = .ok (.getfield 38, 3) := by decide +kernel
theorem dX7_periodOf_65 : decode cX7_periodOf 65 = .ok (.if_icmp .ge 21, 3) := by decide +kernel
theorem dX7_periodOf_68 : decode cX7_periodOf 68 = .ok (.aload_n 0, 1) := by decide +kernel
theorem dX7_periodOf_69 : decode cX7_periodOf 69 = .ok (.getfield 42, 3) := by decide +kernel
theorem dX7_periodOf_72 : decode cX7_periodOf 72 = .ok (.iload_n 2, 1) := by decide +kernel
theorem dX7_periodOf_73 : decode cX7_periodOf 73 = .ok (.aload_n 0, 1) := by decide +kernel
theorem dX7_periodOf_74 : decode cX7_periodOf 74 = .ok (.getfield 45, 3) := by decide +kernel
theorem dX7_periodOf_77 : decode cX7_periodOf 77 = .ok (.iload_n 2, 1) := by decide +kernel
theorem dX7_periodOf_78 : decode cX7_periodOf 78 = .ok (.baload, 1) := by decide +kernel
theorem dX7_periodOf_79 : decode cX7_periodOf 79 = .ok (.bastore, 1) := by decide +kernel
theorem dX7_periodOf_80 : decode cX7_periodOf 80 = .ok (.iinc 2 1, 3) := by decide +kernel
theorem dX7_periodOf_83 : decode cX7_periodOf 83 = .ok (.goto (-23), 3) := by decide +kernel
theorem dX7_periodOf_86 : decode cX7_periodOf 86 = .ok (.bipush (-5), 2) := by decide +kernel
theorem dX7_periodOf_88 : decode cX7_periodOf 88 = .ok (.ireturn, 1) := by decide +kernel
set_option maxRecDepth 20000 in
theorem ggX7_period_X7_in : GoodIn wsX7_period wsX7_in := goodIn_r _ [4] (by decide +kernel) (by decide +kernel)
set_option maxRecDepth 20000 in
theorem gX7_period_X7_in : GoodIn wsX7_period (va_wsS RX7 66 yX7_in wsX7_in) := goodIn_app (goodIn_of _ (by decide +kernel)) ggX7_period_X7_in
set_option maxRecDepth 20000 in
theorem ggX7_period_X7_periodOf : GoodIn wsX7_period wsX7_periodOf := goodIn_r _ [8, 9, 10, 11, 12, 13, 14, 3, 15, 16, 17, 18, 19, 20, 21, 22, 23, 24, 25, 26, 27, 28, 29, 30, 31, 32, 33, 34, 35, 36, 37, 38, 39, 40, 41] (by decide +kernel) (by decide +kernel)
set_option maxRecDepth 20000 in
theorem gX7_period_X7_periodOf : GoodIn wsX7_period (wsV RX7 118 RX7 yX7_periodOf wsX7_periodOf) := goodIn_app (goodIn_of _ (by decide +kernel)) ggX7_period_X7_periodOf
theorem dX7_period_0 : decode cX7_period 0 = .ok (.iload_n 1, 1) := by decide +kernel
theorem dX7_period_1 : decode cX7_period 1 = .ok (.iconst 1, 1) := by decide +kernel
theorem dX7_period_2 : decode cX7_period 2 = .ok (.bipush 50, 2) := by decide +kernel
theorem dX7_period_4 : decode cX7_period 4 = .ok (.invokestatic 66, 3) := by decide +kernel
theorem dX7_period_7 : decode cX7_period 7 = .ok (.ifCond .eq 11, 3) := by decide +kernel
theorem dX7_period_10 : decode cX7_period 10 = .ok (.aload_n 0, 1) := by decide +kernel
theorem dX7_period_11 : decode cX7_period 11 = .ok (.iload_n 1, 1) := by decide +kernel
theorem dX7_period_12 : decode cX7_period 12 = .ok (.invokevirtual 118, 3) := by decide +kernel
theorem dX7_period_15 : decode cX7_period 15 = .ok (.goto 5, 3) := by decide +kernel
theorem dX7_period_18 : decode cX7_period 18 = .ok (.bipush (-2), 2) := by decide +kernel
theorem dX7_period_20 : decode cX7_period 20 = .ok (.ireturn, 1) := by decide +kernel
set_option maxRecDepth 20000 in
theorem ggX7_rings_X7_in : GoodIn wsX7_rings wsX7_in := goodIn_r _ [8] (by decide +kernel) (by decide +kernel)
set_option maxRecDepth 20000 in
theorem gX7_rings_X7_in : GoodIn wsX7_rings (va_wsS RX7 66 yX7_in wsX7_in) := goodIn_app (goodIn_of _ (by decide +kernel)) ggX7_rings_X7_in
set_option maxRecDepth 20000 in
theorem ggX7_rings_X7_periodOf : GoodIn wsX7_rings wsX7_periodOf := goodIn_r _ [12, 2, 13, 4, 14, 15, 16, 7, 17, 18, 19, 20, 21, 22, 23, 24, 25, 26, 27, 28, 29, 30, 31, 32, 33, 34, 35, 36, 37, 38, 39, 40, 41, 42, 43] (by decide +kernel) (by decide +kernel)
set_option maxRecDepth 20000 in
theorem gX7_rings_X7_periodOf : GoodIn wsX7_rings (wsV RX7 118 RX7 yX7_periodOf wsX7_periodOf) := goodIn_app (goodIn_of _ (by decide +kernel)) ggX7_rings_X7_periodOf
theorem dX7_rings_0 : decode cX7_rings 0 = .ok (.iload_n 1, 1) := by decide +kernel
theorem dX7_rings_1 : decode cX7_rings 1 = .ok (.iconst 1, 1) := by decide +kernel
theorem dX7_rings_2 : decode cX7_rings 2 = .ok (.bipush 12, 2) := by decide +kernel
theorem dX7_rings_4 : decode cX7_rings 4 = .ok (.invokestatic 66, 3) := by decide +kernel
theorem dX7_rings_7 : decode cX7_rings 7 = .ok (.ifCond .eq 34, 3) := by decide +kernel
theorem dX7_rings_10 : decode cX7_rings 10 = .ok (.iload_n 2, 1) := by decide +kernel
theorem dX7_rings_11 : decode cX7_rings 11 = .ok (.ifCond .lt 30, 3) := by decide +kernel
theorem dX7_rings_14 : decode cX7_rings 14 = .ok (.ldc2_w 121, 3) := by decide +kernel
theorem dX7_rings_17 : decode cX7_rings 17 = .ok (.iload_n 2, 1) := by decide +kernel
theorem dX7_rings_18 : decode cX7_rings 18 = .ok (.i2l, 1) := by decide +kernel
theorem dX7_rings_19 : decode cX7_rings 19 = .ok (.lmul, 1) := by decide +kernel
theorem dX7_rings_20 : decode cX7_rings 20 = .ok (.iload_n 1, 1) := by decide +kernel
theorem dX7_rings_21 : decode cX7_rings 21 = .ok (.i2l, 1) := by decide +kernel
theorem dX7_rings_22 : decode cX7_rings 22 = .ok (.lcmp, 1) := by decide +kernel
theorem dX7_rings_23 : decode cX7_rings 23 = .ok (.ifCond .ge 18, 3) := by decide +kernel
theorem dX7_rings_26 : decode cX7_rings 26 = .ok (.iload_n 3, 1) := by decide +kernel
theorem dX7_rings_27 : decode cX7_rings 27 = .ok (.iconst 1, 1) := by decide +kernel
theorem dX7_rings_28 : decode cX7_rings 28 = .ok (.bipush 50, 2) := by decide +kernel
theorem dX7_rings_30 : decode cX7_rings 30 = .ok (.invokestatic 66, 3) := by decide +kernel
theorem dX7_rings_33 : decode cX7_rings 33 = .ok (.ifCond .eq 8, 3) := by decide +kernel
theorem dX7_rings_36 : decode cX7_rings 36 = .ok (.iload 4, 2) := by decide +kernel
theorem dX7_rings_38 : decode cX7_rings 38 = .ok (.ifCond .ge 6, 3) := by decide +kernel
theorem dX7_rings_41 : decode cX7_rings 41 = .ok (.bipush (-2), 2) := by decide +kernel
theorem dX7_rings_43 : decode cX7_rings 43 = .ok (.ireturn, 1) := by decide +kernel
theorem dX7_rings_44 : decode cX7_rings 44 = .ok (.aload_n 0, 1) := by decide +kernel
theorem dX7_rings_45 : decode cX7_rings 45 = .ok (.getfield 38, 3) := by decide +kernel
theorem dX7_rings_48 : decode cX7_rings 48 = .ok (.istore 5, 2) := by decide +kernel
theorem dX7_rings_50 : decode cX7_rings 50 = .ok (.iconst 0, 1) := by decide +kernel
theorem dX7_rings_51 : decode cX7_rings 51 = .ok (.istore 6, 2) := by decide +kernel
theorem dX7_rings_53 : decode cX7_rings 53 = .ok (.iload 6, 2) := by decide +kernel
theorem dX7_rings_55 : decode cX7_rings 55 = .ok (.bipush 40, 2) := by decide +kernel
theorem dX7_rings_57 : decode cX7_rings 57 = .ok (.if_icmp .ge 23, 3) := by decide +kernel
theorem dX7_rings_60 : decode cX7_rings 60 = .ok (.aload_n 0, 1) := by decide +kernel
theorem dX7_rings_61 : decode cX7_rings 61 = .ok (.getfield 48, 3) := by decide +kernel
theorem dX7_rings_64 : decode cX7_rings 64 = .ok (.iload 6, 2) := by decide +kernel
theorem dX7_rings_66 : decode cX7_rings 66 = .ok (.aload_n 0, 1) := by decide +kernel
theorem dX7_rings_67 : decode cX7_rings 67 = .ok (.getfield 42, 3) := by decide +kernel
theorem dX7_rings_70 : decode cX7_rings 70 = .ok (.iload 6, 2) := by decide +kernel
theorem dX7_rings_72 : decode cX7_rings 72 = .ok (.baload, 1) := by decide +kernel
theorem dX7_rings_73 : decode cX7_rings 73 = .ok (.bastore, 1) := by decide +kernel
theorem dX7_rings_74 : decode cX7_rings 74 = .ok (.iinc 6 1, 3) := by decide +kernel
theorem dX7_rings_77 : decode cX7_rings 77 = .ok (.goto (-24), 3) := by decide +kernel
theorem dX7_rings_80 : decode cX7_rings 80 = .ok (.aload_n 0, 1) := by decide +kernel
theorem dX7_rings_81 : decode cX7_rings 81 = .ok (.iload_n 1, 1) := by decide +kernel
theorem dX7_rings_82 : decode cX7_rings 82 = .ok (.putfield 38, 3) := by decide +kernel
theorem dX7_rings_85 : decode cX7_rings 85 = .ok (.iconst 0, 1) := by decide +kernel
theorem dX7_rings_86 : decode cX7_rings 86 = .ok (.istore 6, 2) := by decide +kernel
theorem dX7_rings_88 : decode cX7_rings 88 = .ok (.iconst 0, 1) := by decide +kernel
theorem dX7_rings_89 : decode cX7_rings 89 = .ok (.istore 7, 2) := by decide +kernel
theorem dX7_rings_91 : decode cX7_rings 91 = .ok (.iload 7, 2) := by decide +kernel
theorem dX7_rings_93 : decode cX7_rings 93 = .ok (.iconst 1, 1) := by decide +kernel
theorem dX7_rings_94 : decode cX7_rings 94 = .ok (.iload_n 1, 1) := by decide +kernel
theorem dX7_rings_95 : decode cX7_rings 95 = .ok (.ishl, 1) := by decide +kernel
theorem dX7_rings_96 : decode cX7_rings 96 = .ok (.if_icmp .ge 101, 3) := by decide +kernel
theorem dX7_rings_99 : decode cX7_rings 99 = .ok (.iconst 0, 1) := by decide +kernel
theorem dX7_rings_100 : decode cX7_rings 100 = .ok (.istore 8, 2) := by decide +kernel
theorem dX7_rings_102 : decode cX7_rings 102 = .ok (.iconst 0, 1) := by decide +kernel
theorem dX7_rings_103 : decode cX7_rings 103 = .ok (.istore 9, 2) := by decide +kernel
theorem dX7_rings_105 : decode cX7_rings 105 = .ok (.iload 9, 2) := by decide +kernel
theorem dX7_rings_107 : decode cX7_rings 107 = .ok (.iload_n 1, 1) := by decide +kernel
theorem dX7_rings_108 : decode cX7_rings 108 = .ok (.if_icmp .ge 52, 3) := by decide +kernel
theorem dX7_rings_111 : decode cX7_rings 111 = .ok (.aload_n 0, 1) := by decide +kernel
theorem dX7_rings_112 : decode cX7_rings 112 = .ok (.getfield 42, 3) := by decide +kernel
theorem dX7_rings_115 : decode cX7_rings 115 = .ok (.iload 9, 2) := by decide +kernel
theorem dX7_rings_117 : decode cX7_rings 117 = .ok (.iload 7, 2) := by decide +kernel
theorem dX7_rings_119 : decode cX7_rings 119 = .ok (.iload 9, 2) := by decide +kernel
theorem dX7_rings_121 : decode cX7_rings 121 = .ok (.ishr, 1) := by decide +kernel
theorem dX7_rings_122 : decode cX7_rings 122 = .ok (.iconst 1, 1) := by decide +kernel
theorem dX7_rings_123 : decode cX7_rings 123 = .ok (.iand, 1) := by decide +kernel
theorem dX7_rings_124 : decode cX7_rings 124 = .ok (.iconst 1, 1) := by decide +kernel
theorem dX7_rings_125 : decode cX7_rings 125 = .ok (.if_icmp .ne 7, 3) := by decide +kernel
theorem dX7_rings_128 : decode cX7_rings 128 = .ok (.iconst 1, 1) := by decide +kernel
theorem dX7_rings_129 : decode cX7_rings 129 = .ok (.goto 4, 3) := by decide +kernel
theorem dX7_rings_132 : decode cX7_rings 132 = .ok (.iconst 0, 1) := by decide +kernel
theorem dX7_rings_133 : decode cX7_rings 133 = .ok (.bastore, 1) := by decide +kernel
theorem dX7_rings_134 : decode cX7_rings 134 = .ok (.iload 8, 2) := by decide +kernel
theorem dX7_rings_136 : decode cX7_rings 136 = .ok (.aload_n 0, 1) := by decide +kernel
theorem dX7_rings_137 : decode cX7_rings 137 = .ok (.getfield 42, 3) := by decide +kernel
theorem dX7_rings_140 : decode cX7_rings 140 = .ok (.iload 9, 2) := by decide +kernel
theorem dX7_rings_142 : decode cX7_rings 142 = .ok (.baload, 1) := by decide +kernel
theorem dX7_rings_143 : decode cX7_rings 143 = .ok (.ifCond .eq 7, 3) := by decide +kernel
theorem dX7_rings_146 : decode cX7_rings 146 = .ok (.iconst 1, 1) := by decide +kernel
theorem dX7_rings_147 : decode cX7_rings 147 = .ok (.goto 4, 3) := by decide +kernel
theorem dX7_rings_150 : decode cX7_rings 150 = .ok (.iconst 0, 1) := by decide +kernel
theorem dX7_rings_151 : decode cX7_rings 151 = .ok (.iadd, 1) := by decide +kernel
theorem dX7_rings_152 : decode cX7_rings 152 = .ok (.istore 8, 2) := by decide +kernel
theorem dX7_rings_154 : decode cX7_rings 154 = .ok (.iinc 9 1, 3) := by decide +kernel
theorem dX7_rings_157 : decode cX7_rings 157 = .ok (.goto (-52), 3) := by decide +kernel
theorem dX7_rings_160 : decode cX7_rings 160 = .ok (.iload 8, 2) := by decide +kernel
theorem dX7_rings_162 : decode cX7_rings 162 = .ok (.iload_n 2, 1) := by decide +kernel
theorem dX7_rings_163 : decode cX7_rings 163 = .ok (.if_icmp .ne 28, 3) := by decide +kernel
theorem dX7_rings_166 : decode cX7_rings 166 = .ok (.iload 6, 2) := by decide +kernel
theorem dX7_rings_168 : decode cX7_rings 168 = .ok (.iload 4, 2) := by decide +kernel
theorem dX7_rings_170 : decode cX7_rings 170 = .ok (.ifCond .eq 13, 3) := by decide +kernel
theorem dX7_rings_173 : decode cX7_rings 173 = .ok (.aload_n 0, 1) := by decide +kernel
theorem dX7_rings_174 : decode cX7_rings 174 = .ok (.iload_n 3, 1) := by decide +kernel
theorem dX7_rings_175 : decode cX7_rings 175 = .ok (.invokevirtual 118, 3) := by decide +kernel
theorem dX7_rings_178 : decode cX7_rings 178 = .ok (.iload 4, 2) := by decide +kernel
theorem dX7_rings_180 : decode cX7_rings 180 = .ok (.if_icmp .ne 7, 3) := by decide +kernel
theorem dX7_rings_183 : decode cX7_rings 183 = .ok (.iconst 1, 1) := by decide +kernel
theorem dX7_rings_184 : decode cX7_rings 184 = .ok (.goto 4, 3) := by decide +kernel
theorem dX7_rings_187 : decode cX7_rings 187 = .ok (.iconst 0, 1) := by decide +kernel
theorem dX7_rings_188 : decode cX7_rings 188 = .ok (.iadd, 1) := by decide +kernel
theorem dX7_rings_189 : decode cX7_rings 189 = .ok (.istore 6, 2) := by decide +kernel
theorem dX7_rings_191 : decode cX7_rings 191 = .ok (.iinc 7 1, 3) := by decide +kernel
theorem dX7_rings_194 : decode cX7_rings 194 = .ok (.goto (-103), 3) := by decide +kernel
theorem dX7_rings_197 : decode cX7_rings 197 = .ok (.aload_n 0, 1) := by decide +kernel
theorem dX7_rings_198 : decode cX7_rings 198 = .ok (.iload 5, 2) := by decide +kernel
theorem dX7_rings_200 : decode cX7_rings 200 = .ok (.putfield 38, 3) := by decide +kernel
theorem dX7_rings_203 : decode cX7_rings 203 = .ok (.iconst 0, 1) := by decide +kernel
theorem dX7_rings_204 : decode cX7_rings 204 = .ok (.istore 7, 2) := by decide +kernel
theorem dX7_rings_206 : decode cX7_rings 206 = .ok (.iload 7, 2) := by decide +kernel
theorem dX7_rings_208 : decode cX7_rings 208 = .ok (.bipush 40, 2) := by decide +kernel
theorem dX7_rings_210 : decode cX7_rings 210 = .ok (.if_icmp .ge 23, 3) := by decide +kernel
theorem dX7_rings_213 : decode cX7_rings 213 = .ok (.aload_n 0, 1) := by decide +kernel
theorem dX7_rings_214 : decode cX7_rings 214 = .ok (.getfield 42, 3) := by decide +kernel
theorem dX7_rings_217 : decode cX7_rings 217 = .ok (.iload 7, 2) := by decide +kernel
theorem dX7_rings_219 : decode cX7_rings 219 = .ok (.aload_n 0, 1) := by decide +kernel
theorem dX7_rings_220 : decode cX7_rings 220 = .ok (.getfield 48, 3) := by decide +kernel
theorem dX7_rings_223 : decode cX7_rings 223 = .ok (.iload 7, 2) := by decide +kernel
theorem dX7_rings_225 : decode cX7_rings 225 = .ok (.baload, 1) := by decide +kernel
theorem dX7_rings_226 : decode cX7_rings 226 = .ok (.bastore, 1) := by decide +kernel
theorem dX7_rings_227 : decode cX7_rings 227 = .ok (.iinc 7 1, 3) := by decide +kernel
theorem dX7_rings_230 : decode cX7_rings 230 = .ok (.goto (-24), 3) := by decide +kernel
theorem dX7_rings_233 : decode cX7_rings 233 = .ok (.iload 6, 2) := by decide +kernel
theorem dX7_rings_235 : decode cX7_rings 235 = .ok (.ireturn, 1) := by decide +kernel
theorem dX7_meets_0 : decode cX7_meets 0 = .ok (.aload_n 0, 1) := by decide +kernel
theorem dX7_meets_1 : decode cX7_meets 1 = .ok (.iload_n 1, 1) := by decide +kernel
theorem dX7_meets_2 : decode cX7_meets 2 = .ok (.putfield 123, 3) := by decide +kernel
theorem dX7_meets_5 : decode cX7_meets 5 = .ok (.bipush (-10), 2) := by decide +kernel
theorem dX7_meets_7 : decode cX7_meets 7 = .ok (.iload_n 1, 1) := by decide +kernel
theorem dX7_meets_8 : decode cX7_meets 8 = .ok (.isub, 1) := by decide +kernel
theorem dX7_meets_9 : decode cX7_meets 9 = .ok (.ireturn, 1) := by decide +kernel
set_option maxRecDepth 20000 in
theorem ggX7_isSheet_X7_in : GoodIn wsX7_isSheet wsX7_in := goodIn_r _ [4] (by decide +kernel) (by decide +kernel)
set_option maxRecDepth 20000 in
theorem gX7_isSheet_X7_in : GoodIn wsX7_isSheet (va_wsS RX7 66 yX7_in wsX7_in) := goodIn_app (goodIn_of _ (by decide +kernel)) ggX7_isSheet_X7_in
theorem dX7_isSheet_0 : decode cX7_isSheet 0 = .ok (.iload_n 0, 1) := by decide +kernel
theorem dX7_isSheet_1 : decode cX7_isSheet 1 = .ok (.iconst 0, 1) := by decide +kernel
theorem dX7_isSheet_2 : decode cX7_isSheet 2 = .ok (.iconst 3, 1) := by decide +kernel
theorem dX7_isSheet_3 : decode cX7_isSheet 3 = .ok (.invokestatic 66, 3) := by decide +kernel
theorem dX7_isSheet_6 : decode cX7_isSheet 6 = .ok (.ireturn, 1) := by decide +kernel
set_option maxRecDepth 20000 in
theorem ggX7_sheet_X7_isSheet : GoodIn wsX7_sheet wsX7_isSheet := goodIn_r _ [8, 9, 10, 7, 11] (by decide +kernel) (by decide +kernel)
set_option maxRecDepth 20000 in
theorem gX7_sheet_X7_isSheet : GoodIn wsX7_sheet (va_wsS RX7 126 yX7_isSheet wsX7_isSheet) := goodIn_app (goodIn_of _ (by decide +kernel)) ggX7_sheet_X7_isSheet
set_option maxRecDepth 20000 in
theorem ggX7_sheet_X7_in : GoodIn wsX7_sheet wsX7_in := goodIn_r _ [11] (by decide +kernel) (by decide +kernel)
set_option maxRecDepth 20000 in
theorem gX7_sheet_X7_in : GoodIn wsX7_sheet (va_wsS RX7 66 yX7_in wsX7_in) := goodIn_app (goodIn_of _ (by decide +kernel)) ggX7_sheet_X7_in
set_option maxRecDepth 20000 in
theorem ggX7_sheet_X7_meets : GoodIn wsX7_sheet wsX7_meets := goodIn_r _ [15, 16, 17, 18, 19, 20, 21, 22, 23, 24, 25, 26, 27, 28, 29, 30, 31, 32, 33, 34, 35, 36, 37, 38] (by decide +kernel) (by decide +kernel)
set_option maxRecDepth 20000 in
theorem gX7_sheet_X7_meets : GoodIn wsX7_sheet (wsV RX7 130 RX7 yX7_meets wsX7_meets) := goodIn_app (goodIn_of _ (by decide +kernel)) ggX7_sheet_X7_meets
theorem dX7_sheet_0 : decode cX7_sheet 0 = .ok (.iload_n 1, 1) := by decide +kernel
theorem dX7_sheet_1 : decode cX7_sheet 1 = .ok (.invokestatic 126, 3) := by decide +kernel
theorem dX7_sheet_4 : decode cX7_sheet 4 = .ok (.ifCond .eq 18, 3) := by decide +kernel
theorem dX7_sheet_7 : decode cX7_sheet 7 = .ok (.iload_n 2, 1) := by decide +kernel
theorem dX7_sheet_8 : decode cX7_sheet 8 = .ok (.iconst 0, 1) := by decide +kernel
theorem dX7_sheet_9 : decode cX7_sheet 9 = .ok (.iconst 2, 1) := by decide +kernel
theorem dX7_sheet_10 : decode cX7_sheet 10 = .ok (.invokestatic 66, 3) := by decide +kernel
theorem dX7_sheet_13 : decode cX7_sheet 13 = .ok (.ifCond .eq 9, 3) := by decide +kernel
theorem dX7_sheet_16 : decode cX7_sheet 16 = .ok (.iload_n 3, 1) := by decide +kernel
theorem dX7_sheet_17 : decode cX7_sheet 17 = .ok (.bipush 100, 2) := by decide +kernel
theorem dX7_sheet_19 : decode cX7_sheet 19 = .ok (.if_icmp .le 6, 3) := by decide +kernel
theorem dX7_sheet_22 : decode cX7_sheet 22 = .ok (.bipush (-2), 2) := by decide +kernel
theorem dX7_sheet_24 : decode cX7_sheet 24 = .ok (.ireturn, 1) := by decide +kernel
theorem dX7_sheet_25 : decode cX7_sheet 25 = .ok (.iload_n 3, 1) := by decide +kernel
theorem dX7_sheet_26 : decode cX7_sheet 26 = .ok (.ifCond .ge 9, 3) := by decide +kernel
theorem dX7_sheet_29 : decode cX7_sheet 29 = .ok (.aload_n 0, 1) := by decide +kernel
theorem dX7_sheet_30 : decode cX7_sheet 30 = .ok (.iconst 5, 1) := by decide +kernel
theorem dX7_sheet_31 : decode cX7_sheet 31 = .ok (.invokevirtual 130, 3) := by decide +kernel
theorem dX7_sheet_34 : decode cX7_sheet 34 = .ok (.ireturn, 1) := by decide +kernel
theorem dX7_sheet_35 : decode cX7_sheet 35 = .ok (.aload_n 0, 1) := by decide +kernel
theorem dX7_sheet_36 : decode cX7_sheet 36 = .ok (.getfield 51, 3) := by decide +kernel
theorem dX7_sheet_39 : decode cX7_sheet 39 = .ok (.iload_n 1, 1) := by decide +kernel
theorem dX7_sheet_40 : decode cX7_sheet 40 = .ok (.iconst 1, 1) := by decide +kernel
theorem dX7_sheet_41 : decode cX7_sheet 41 = .ok (.bastore, 1) := by decide +kernel
theorem dX7_sheet_42 : decode cX7_sheet 42 = .ok (.aload_n 0, 1) := by decide +kernel
theorem dX7_sheet_43 : decode cX7_sheet 43 = .ok (.getfield 54, 3) := by decide +kernel
theorem dX7_sheet_46 : decode cX7_sheet 46 = .ok (.iload_n 1, 1) := by decide +kernel
theorem dX7_sheet_47 : decode cX7_sheet 47 = .ok (.iload_n 2, 1) := by decide +kernel
theorem dX7_sheet_48 : decode cX7_sheet 48 = .ok (.iastore, 1) := by decide +kernel
theorem dX7_sheet_49 : decode cX7_sheet 49 = .ok (.aload_n 0, 1) := by decide +kernel
theorem dX7_sheet_50 : decode cX7_sheet 50 = .ok (.getfield 57, 3) := by decide +kernel
theorem dX7_sheet_53 : decode cX7_sheet 53 = .ok (.iload_n 1, 1) := by decide +kernel
theorem dX7_sheet_54 : decode cX7_sheet 54 = .ok (.iload_n 3, 1) := by decide +kernel
theorem dX7_sheet_55 : decode cX7_sheet 55 = .ok (.iastore, 1) := by decide +kernel
theorem dX7_sheet_56 : decode cX7_sheet 56 = .ok (.iconst 0, 1) := by decide +kernel
theorem dX7_sheet_57 : decode cX7_sheet 57 = .ok (.istore 4, 2) := by decide +kernel
theorem dX7_sheet_59 : decode cX7_sheet 59 = .ok (.iload 4, 2) := by decide +kernel
theorem dX7_sheet_61 : decode cX7_sheet 61 = .ok (.bipush 100, 2) := by decide +kernel
theorem dX7_sheet_63 : decode cX7_sheet 63 = .ok (.if_icmp .ge 22, 3) := by decide +kernel
theorem dX7_sheet_66 : decode cX7_sheet 66 = .ok (.aload_n 0, 1) := by decide +kernel
theorem dX7_sheet_67 : decode cX7_sheet 67 = .ok (.getfield 60, 3) := by decide +kernel
theorem dX7_sheet_70 : decode cX7_sheet 70 = .ok (.bipush 100, 2) := by decide +kernel
theorem dX7_sheet_72 : decode cX7_sheet 72 = .ok (.iload_n 1, 1) := by decide +kernel
theorem dX7_sheet_73 : decode cX7_sheet 73 = .ok (.imul, 1) := by decide +kernel
theorem dX7_sheet_74 : decode cX7_sheet 74 = .ok (.iload 4, 2) := by decide +kernel
theorem dX7_sheet_76 : decode cX7_sheet 76 = .ok (.iadd, 1) := by decide +kernel
theorem dX7_sheet_77 : decode cX7_sheet 77 = .ok (.iconst 0, 1) := by decide +kernel
theorem dX7_sheet_78 : decode cX7_sheet 78 = .ok (.iastore, 1) := by decide +kernel
theorem dX7_sheet_79 : decode cX7_sheet 79 = .ok (.iinc 4 1, 3) := by decide +kernel
theorem dX7_sheet_82 : decode cX7_sheet 82 = .ok (.goto (-23), 3) := by decide +kernel
theorem dX7_sheet_85 : decode cX7_sheet 85 = .ok (.iload_n 3, 1) := by decide +kernel
theorem dX7_sheet_86 : decode cX7_sheet 86 = .ok (.ireturn, 1) := by decide +kernel
set_option maxRecDepth 20000 in
theorem ggX7_lose_X7_isSheet : GoodIn wsX7_lose wsX7_isSheet := goodIn_r _ [6, 7, 8, 5, 9] (by decide +kernel) (by decide +kernel)
set_option maxRecDepth 20000 in
theorem gX7_lose_X7_isSheet : GoodIn wsX7_lose (va_wsS RX7 126 yX7_isSheet wsX7_isSheet) := goodIn_app (goodIn_of _ (by decide +kernel)) ggX7_lose_X7_isSheet
set_option maxRecDepth 20000 in
theorem ggX7_lose_X7_meets : GoodIn wsX7_lose wsX7_meets := goodIn_r _ [13, 14, 15, 16, 17, 18, 19, 20, 21, 22, 23, 24, 25, 26, 27, 28, 29, 30, 31, 32, 33, 34, 35, 36] (by decide +kernel) (by decide +kernel)
set_option maxRecDepth 20000 in
theorem gX7_lose_X7_meets : GoodIn wsX7_lose (wsV RX7 130 RX7 yX7_meets wsX7_meets) := goodIn_app (goodIn_of _ (by decide +kernel)) ggX7_lose_X7_meets
theorem dX7_lose_0 : decode cX7_lose 0 = .ok (.iload_n 1, 1) := by decide +kernel
theorem dX7_lose_1 : decode cX7_lose 1 = .ok (.invokestatic 126, 3) := by decide +kernel
theorem dX7_lose_4 : decode cX7_lose 4 = .ok (.ifCond .ne 6, 3) := by decide +kernel
theorem dX7_lose_7 : decode cX7_lose 7 = .ok (.bipush (-2), 2) := by decide +kernel
theorem dX7_lose_9 : decode cX7_lose 9 = .ok (.ireturn, 1) := by decide +kernel
theorem dX7_lose_10 : decode cX7_lose 10 = .ok (.aload_n 0, 1) := by decide +kernel
theorem dX7_lose_11 : decode cX7_lose 11 = .ok (.getfield 51, 3) := by decide +kernel
theorem dX7_lose_14 : decode cX7_lose 14 = .ok (.iload_n 1, 1) := by decide +kernel
theorem dX7_lose_15 : decode cX7_lose 15 = .ok (.baload, 1) := by decide +kernel
theorem dX7_lose_16 : decode cX7_lose 16 = .ok (.ifCond .ne 9, 3) := by decide +kernel
theorem dX7_lose_19 : decode cX7_lose 19 = .ok (.aload_n 0, 1) := by decide +kernel
theorem dX7_lose_20 : decode cX7_lose 20 = .ok (.iconst 1, 1) := by decide +kernel
theorem dX7_lose_21 : decode cX7_lose 21 = .ok (.invokevirtual 130, 3) := by decide +kernel
theorem dX7_lose_24 : decode cX7_lose 24 = .ok (.ireturn, 1) := by decide +kernel
theorem dX7_lose_25 : decode cX7_lose 25 = .ok (.aload_n 0, 1) := by decide +kernel
theorem dX7_lose_26 : decode cX7_lose 26 = .ok (.getfield 51, 3) := by decide +kernel
theorem dX7_lose_29 : decode cX7_lose 29 = .ok (.iload_n 1, 1) := by decide +kernel
theorem dX7_lose_30 : decode cX7_lose 30 = .ok (.iconst 0, 1) := by decide +kernel
theorem dX7_lose_31 : decode cX7_lose 31 = .ok (.bastore, 1) := by decide +kernel
theorem dX7_lose_32 : decode cX7_lose 32 = .ok (.aload_n 0, 1) := by decide +kernel
theorem dX7_lose_33 : decode cX7_lose 33 = .ok (.getfield 57, 3) := by decide +kernel
theorem dX7_lose_36 : decode cX7_lose 36 = .ok (.iload_n 1, 1) := by decide +kernel
theorem dX7_lose_37 : decode cX7_lose 37 = .ok (.iaload, 1) := by decide +kernel
theorem dX7_lose_38 : decode cX7_lose 38 = .ok (.ireturn, 1) := by decide +kernel
set_option maxRecDepth 20000 in
theorem ggX7_lacks_X7_in : GoodIn wsX7_lacks wsX7_in := goodIn_r _ [7] (by decide +kernel) (by decide +kernel)
set_option maxRecDepth 20000 in
theorem gX7_lacks_X7_in : GoodIn wsX7_lacks (va_wsS RX7 66 yX7_in wsX7_in) := goodIn_app (goodIn_of _ (by decide +kernel)) ggX7_lacks_X7_in
theorem dX7_lacks_0 : decode cX7_lacks 0 = .ok (.aload_n 0, 1) := by decide +kernel
theorem dX7_lacks_1 : decode cX7_lacks 1 = .ok (.getfield 51, 3) := by decide +kernel
theorem dX7_lacks_4 : decode cX7_lacks 4 = .ok (.iload_n 1, 1) := by decide +kernel
theorem dX7_lacks_5 : decode cX7_lacks 5 = .ok (.baload, 1) := by decide +kernel
theorem dX7_lacks_6 : decode cX7_lacks 6 = .ok (.ifCond .ne 7, 3) := by decide +kernel
theorem dX7_lacks_9 : decode cX7_lacks 9 = .ok (.iconst 1, 1) := by decide +kernel
theorem dX7_lacks_10 : decode cX7_lacks 10 = .ok (.goto 38, 3) := by decide +kernel
theorem dX7_lacks_13 : decode cX7_lacks 13 = .ok (.aload_n 0, 1) := by decide +kernel
theorem dX7_lacks_14 : decode cX7_lacks 14 = .ok (.getfield 54, 3) := by decide +kernel
theorem dX7_lacks_17 : decode cX7_lacks 17 = .ok (.iload_n 1, 1) := by decide +kernel
theorem dX7_lacks_18 : decode cX7_lacks 18 = .ok (.iaload, 1) := by decide +kernel
theorem dX7_lacks_19 : decode cX7_lacks 19 = .ok (.iload_n 2, 1) := by decide +kernel
theorem dX7_lacks_20 : decode cX7_lacks 20 = .ok (.if_icmp .eq 7, 3) := by decide +kernel
theorem dX7_lacks_23 : decode cX7_lacks 23 = .ok (.iconst 3, 1) := by decide +kernel
theorem dX7_lacks_24 : decode cX7_lacks 24 = .ok (.goto 24, 3) := by decide +kernel
theorem dX7_lacks_27 : decode cX7_lacks 27 = .ok (.iload_n 3, 1) := by decide +kernel
theorem dX7_lacks_28 : decode cX7_lacks 28 = .ok (.iconst 0, 1) := by decide +kernel
theorem dX7_lacks_29 : decode cX7_lacks 29 = .ok (.aload_n 0, 1) := by decide +kernel
theorem dX7_lacks_30 : decode cX7_lacks 30 = .ok (.getfield 57, 3) := by decide +kernel
theorem dX7_lacks_33 : decode cX7_lacks 33 = .ok (.iload_n 1, 1) := by decide +kernel
theorem dX7_lacks_34 : decode cX7_lacks 34 = .ok (.iaload, 1) := by decide +kernel
theorem dX7_lacks_35 : decode cX7_lacks 35 = .ok (.iconst 1, 1) := by decide +kernel
theorem dX7_lacks_36 : decode cX7_lacks 36 = .ok (.isub, 1) := by decide +kernel
theorem dX7_lacks_37 : decode cX7_lacks 37 = .ok (.invokestatic 66, 3) := by decide +kernel
theorem dX7_lacks_40 : decode cX7_lacks 40 = .ok (.ifCond .eq 7, 3) := by decide +kernel
theorem dX7_lacks_43 : decode cX7_lacks 43 = .ok (.iconst 0, 1) := by decide +kernel
theorem dX7_lacks_44 : decode cX7_lacks 44 = .ok (.goto 4, 3) := by decide +kernel
theorem dX7_lacks_47 : decode cX7_lacks 47 = .ok (.iconst 2, 1) := by decide +kernel
theorem dX7_lacks_48 : decode cX7_lacks 48 = .ok (.ireturn, 1) := by decide +kernel
set_option maxRecDepth 20000 in
theorem ggX7_put_X7_isSheet : GoodIn wsX7_put wsX7_isSheet := goodIn_r _ [5, 6, 7, 4, 8] (by decide +kernel) (by decide +kernel)
set_option maxRecDepth 20000 in
theorem gX7_put_X7_isSheet : GoodIn wsX7_put (va_wsS RX7 126 yX7_isSheet wsX7_isSheet) := goodIn_app (goodIn_of _ (by decide +kernel)) ggX7_put_X7_isSheet
set_option maxRecDepth 20000 in
theorem ggX7_put_X7_in : GoodIn wsX7_put wsX7_in := goodIn_r _ [8] (by decide +kernel) (by decide +kernel)
set_option maxRecDepth 20000 in
theorem gX7_put_X7_in : GoodIn wsX7_put (va_wsS RX7 66 yX7_in wsX7_in) := goodIn_app (goodIn_of _ (by decide +kernel)) ggX7_put_X7_in
set_option maxRecDepth 20000 in
theorem ggX7_put_X7_lacks : GoodIn wsX7_put wsX7_lacks := goodIn_r _ [12, 13, 14, 15, 6, 7, 4, 8, 21, 22, 23, 24, 25, 26, 27, 28, 29, 30, 31, 32, 33, 34, 35, 36, 37, 38, 39, 40, 41, 42] (by decide +kernel) (by decide +kernel)
set_option maxRecDepth 20000 in
theorem gX7_put_X7_lacks : GoodIn wsX7_put (wsV RX7 133 RX7 yX7_lacks wsX7_lacks) := goodIn_app (goodIn_of _ (by decide +kernel)) ggX7_put_X7_lacks
set_option maxRecDepth 20000 in
theorem ggX7_put_X7_meets : GoodIn wsX7_put wsX7_meets := goodIn_r _ [19, 20, 21, 22, 23, 24, 25, 26, 27, 28, 29, 30, 31, 32, 33, 34, 35, 36, 37, 38, 39, 40, 41, 42] (by decide +kernel) (by decide +kernel)
set_option maxRecDepth 20000 in
theorem gX7_put_X7_meets : GoodIn wsX7_put (wsV RX7 130 RX7 yX7_meets wsX7_meets) := goodIn_app (goodIn_of _ (by decide +kernel)) ggX7_put_X7_meets
theorem dX7_put_0 : decode cX7_put 0 = .ok (.iload_n 1, 1) := by decide +kernel
theorem dX7_put_1 : decode cX7_put 1 = .ok (.invokestatic 126, 3) := by decide +kernel
theorem dX7_put_4 : decode cX7_put 4 = .ok (.ifCond .eq 12, 3) := by decide +kernel
theorem dX7_put_7 : decode cX7_put 7 = .ok (.iload_n 2, 1) := by decide +kernel
theorem dX7_put_8 : decode cX7_put 8 = .ok (.iconst 0, 1) := by decide +kernel
theorem dX7_put_9 : decode cX7_put 9 = .ok (.iconst 2, 1) := by decide +kernel
theorem dX7_put_10 : decode cX7_put 10 = .ok (.invokestatic 66, 3) := by decide +kernel
theorem dX7_put_13 : decode cX7_put 13 = .ok (.ifCond .ne 6, 3) := by decide +kernel
theorem dX7_put_16 : decode cX7_put 16 = .ok (.bipush (-2), 2) := by decide +kernel
theorem dX7_put_18 : decode cX7_put 18 = .ok (.ireturn, 1) := by decide +kernel
theorem dX7_put_19 : decode cX7_put 19 = .ok (.aload_n 0, 1) := by decide +kernel
theorem dX7_put_20 : decode cX7_put 20 = .ok (.iload_n 1, 1) := by decide +kernel
theorem dX7_put_21 : decode cX7_put 21 = .ok (.iload_n 2, 1) := by decide +kernel
theorem dX7_put_22 : decode cX7_put 22 = .ok (.iload_n 3, 1) := by decide +kernel
theorem dX7_put_23 : decode cX7_put 23 = .ok (.invokevirtual 133, 3) := by decide +kernel
theorem dX7_put_26 : decode cX7_put 26 = .ok (.istore 5, 2) := by decide +kernel
theorem dX7_put_28 : decode cX7_put 28 = .ok (.iload 5, 2) := by decide +kernel
theorem dX7_put_30 : decode cX7_put 30 = .ok (.ifCond .le 10, 3) := by decide +kernel
theorem dX7_put_33 : decode cX7_put 33 = .ok (.aload_n 0, 1) := by decide +kernel
theorem dX7_put_34 : decode cX7_put 34 = .ok (.iload 5, 2) := by decide +kernel
theorem dX7_put_36 : decode cX7_put 36 = .ok (.invokevirtual 130, 3) := by decide +kernel
theorem dX7_put_39 : decode cX7_put 39 = .ok (.ireturn, 1) := by decide +kernel
theorem dX7_put_40 : decode cX7_put 40 = .ok (.aload_n 0, 1) := by decide +kernel
theorem dX7_put_41 : decode cX7_put 41 = .ok (.getfield 60, 3) := by decide +kernel
theorem dX7_put_44 : decode cX7_put 44 = .ok (.bipush 100, 2) := by decide +kernel
theorem dX7_put_46 : decode cX7_put 46 = .ok (.iload_n 1, 1) := by decide +kernel
theorem dX7_put_47 : decode cX7_put 47 = .ok (.imul, 1) := by decide +kernel
theorem dX7_put_48 : decode cX7_put 48 = .ok (.iload_n 3, 1) := by decide +kernel
theorem dX7_put_49 : decode cX7_put 49 = .ok (.iadd, 1) := by decide +kernel
theorem dX7_put_50 : decode cX7_put 50 = .ok (.iload_n 2, 1) := by decide +kernel
theorem dX7_put_51 : decode cX7_put 51 = .ok (.ifCond .ne 9, 3) := by decide +kernel
theorem dX7_put_54 : decode cX7_put 54 = .ok (.iload 4, 2) := by decide +kernel
theorem dX7_put_56 : decode cX7_put 56 = .ok (.i2b, 1) := by decide +kernel
theorem dX7_put_57 : decode cX7_put 57 = .ok (.goto 16, 3) := by decide +kernel
theorem dX7_put_60 : decode cX7_put 60 = .ok (.iload_n 2, 1) := by decide +kernel
theorem dX7_put_61 : decode cX7_put 61 = .ok (.iconst 1, 1) := by decide +kernel
theorem dX7_put_62 : decode cX7_put 62 = .ok (.if_icmp .ne 9, 3) := by decide +kernel
theorem dX7_put_65 : decode cX7_put 65 = .ok (.iload 4, 2) := by decide +kernel
theorem dX7_put_67 : decode cX7_put 67 = .ok (.i2s, 1) := by decide +kernel
theorem dX7_put_68 : decode cX7_put 68 = .ok (.goto 5, 3) := by decide +kernel
theorem dX7_put_71 : decode cX7_put 71 = .ok (.iload 4, 2) := by decide +kernel
theorem dX7_put_73 : decode cX7_put 73 = .ok (.iastore, 1) := by decide +kernel
theorem dX7_put_74 : decode cX7_put 74 = .ok (.iconst 1, 1) := by decide +kernel
theorem dX7_put_75 : decode cX7_put 75 = .ok (.ireturn, 1) := by decide +kernel
set_option maxRecDepth 20000 in
theorem ggX7_get_X7_isSheet : GoodIn wsX7_get wsX7_isSheet := goodIn_r _ [7, 8, 9, 6, 10] (by decide +kernel) (by decide +kernel)
set_option maxRecDepth 20000 in
theorem gX7_get_X7_isSheet : GoodIn wsX7_get (va_wsS RX7 126 yX7_isSheet wsX7_isSheet) := goodIn_app (goodIn_of _ (by decide +kernel)) ggX7_get_X7_isSheet
set_option maxRecDepth 20000 in
theorem ggX7_get_X7_in : GoodIn wsX7_get wsX7_in := goodIn_r _ [10] (by decide +kernel) (by decide +kernel)
set_option maxRecDepth 20000 in
theorem gX7_get_X7_in : GoodIn wsX7_get (va_wsS RX7 66 yX7_in wsX7_in) := goodIn_app (goodIn_of _ (by decide +kernel)) ggX7_get_X7_in
set_option maxRecDepth 20000 in
theorem ggX7_get_X7_lacks : GoodIn wsX7_get wsX7_lacks := goodIn_r _ [14, 15, 16, 17, 8, 9, 6, 10, 18, 19, 20, 21, 22, 23, 24, 25, 26, 27, 28, 29, 30, 31, 32, 33, 34, 35, 36, 37, 38, 39] (by decide +kernel) (by decide +kernel)
set_option maxRecDepth 20000 in
theorem gX7_get_X7_lacks : GoodIn wsX7_get (wsV RX7 133 RX7 yX7_lacks wsX7_lacks) := goodIn_app (goodIn_of _ (by decide +kernel)) ggX7_get_X7_lacks
theorem dX7_get_0 : decode cX7_get 0 = .ok (.iload_n 1, 1) := by decide +kernel
theorem dX7_get_1 : decode cX7_get 1 = .ok (.invokestatic 126, 3) := by decide +kernel
theorem dX7_get_4 : decode cX7_get 4 = .ok (.ifCond .eq 12, 3) := by decide +kernel
theorem dX7_get_7 : decode cX7_get 7 = .ok (.iload_n 2, 1) := by decide +kernel
theorem dX7_get_8 : decode cX7_get 8 = .ok (.iconst 0, 1) := by decide +kernel
theorem dX7_get_9 : decode cX7_get 9 = .ok (.iconst 2, 1) := by decide +kernel
theorem dX7_get_10 : decode cX7_get 10 = .ok (.invokestatic 66, 3) := by decide +kernel
theorem dX7_get_13 : decode cX7_get 13 = .ok (.ifCond .ne 6, 3) := by decide +kernel
theorem dX7_get_16 : decode cX7_get 16 = .ok (.ldc 137, 2) := by decide +kernel
theorem dX7_get_18 : decode cX7_get 18 = .ok (.ireturn, 1) := by decide +kernel
theorem dX7_get_19 : decode cX7_get 19 = .ok (.aload_n 0, 1) := by decide +kernel
theorem dX7_get_20 : decode cX7_get 20 = .ok (.iload_n 1, 1) := by decide +kernel
theorem dX7_get_21 : decode cX7_get 21 = .ok (.iload_n 2, 1) := by decide +kernel
theorem dX7_get_22 : decode cX7_get 22 = .ok (.iload_n 3, 1) := by decide +kernel
theorem dX7_get_23 : decode cX7_get 23 = .ok (.invokevirtual 133, 3) := by decide +kernel
theorem dX7_get_26 : decode cX7_get 26 = .ok (.istore 4, 2) := by decide +kernel
theorem dX7_get_28 : decode cX7_get 28 = .ok (.iload 4, 2) := by decide +kernel
theorem dX7_get_30 : decode cX7_get 30 = .ok (.ifCond .le 12, 3) := by decide +kernel
theorem dX7_get_33 : decode cX7_get 33 = .ok (.aload_n 0, 1) := by decide +kernel
theorem dX7_get_34 : decode cX7_get 34 = .ok (.iload 4, 2) := by decide +kernel
theorem dX7_get_36 : decode cX7_get 36 = .ok (.putfield 123, 3) := by decide +kernel
theorem dX7_get_39 : decode cX7_get 39 = .ok (.ldc 137, 2) := by decide +kernel
theorem dX7_get_41 : decode cX7_get 41 = .ok (.ireturn, 1) := by decide +kernel
theorem dX7_get_42 : decode cX7_get 42 = .ok (.aload_n 0, 1) := by decide +kernel
theorem dX7_get_43 : decode cX7_get 43 = .ok (.getfield 60, 3) := by decide +kernel
theorem dX7_get_46 : decode cX7_get 46 = .ok (.bipush 100, 2) := by decide +kernel
theorem dX7_get_48 : decode cX7_get 48 = .ok (.iload_n 1, 1) := by decide +kernel
theorem dX7_get_49 : decode cX7_get 49 = .ok (.imul, 1) := by decide +kernel
theorem dX7_get_50 : decode cX7_get 50 = .ok (.iload_n 3, 1) := by decide +kernel
theorem dX7_get_51 : decode cX7_get 51 = .ok (.iadd, 1) := by decide +kernel
theorem dX7_get_52 : decode cX7_get 52 = .ok (.iaload, 1) := by decide +kernel
theorem dX7_get_53 : decode cX7_get 53 = .ok (.ireturn, 1) := by decide +kernel
set_option maxRecDepth 20000 in
theorem ggX7_copy_X7_isSheet : GoodIn wsX7_copy wsX7_isSheet := goodIn_r _ [9, 10, 11, 8, 12] (by decide +kernel) (by decide +kernel)
set_option maxRecDepth 20000 in
theorem gX7_copy_X7_isSheet : GoodIn wsX7_copy (va_wsS RX7 126 yX7_isSheet wsX7_isSheet) := goodIn_app (goodIn_of _ (by decide +kernel)) ggX7_copy_X7_isSheet
set_option maxRecDepth 20000 in
theorem ggX7_copy_X7_meets : GoodIn wsX7_copy wsX7_meets := goodIn_r _ [16, 17, 18, 19, 20, 21, 22, 23, 24, 25, 26, 27, 28, 29, 30, 31, 32, 33, 34, 35, 36, 37, 38, 39] (by decide +kernel) (by decide +kernel)
set_option maxRecDepth 20000 in
theorem gX7_copy_X7_meets : GoodIn wsX7_copy (wsV RX7 130 RX7 yX7_meets wsX7_meets) := goodIn_app (goodIn_of _ (by decide +kernel)) ggX7_copy_X7_meets
theorem dX7_copy_0 : decode cX7_copy 0 = .ok (.iload_n 1, 1) := by decide +kernel
theorem dX7_copy_1 : decode cX7_copy 1 = .ok (.invokestatic 126, 3) := by decide +kernel
theorem dX7_copy_4 : decode cX7_copy 4 = .ok (.ifCond .eq 10, 3) := by decide +kernel
theorem dX7_copy_7 : decode cX7_copy 7 = .ok (.iload_n 3, 1) := by decide +kernel
theorem dX7_copy_8 : decode cX7_copy 8 = .ok (.invokestatic 126, 3) := by decide +kernel
theorem dX7_copy_11 : decode cX7_copy 11 = .ok (.ifCond .ne 6, 3) := by decide +kernel
theorem dX7_copy_14 : decode cX7_copy 14 = .ok (.bipush (-2), 2) := by decide +kernel
theorem dX7_copy_16 : decode cX7_copy 16 = .ok (.ireturn, 1) := by decide +kernel
theorem dX7_copy_17 : decode cX7_copy 17 = .ok (.aload_n 0, 1) := by decide +kernel
theorem dX7_copy_18 : decode cX7_copy 18 = .ok (.getfield 51, 3) := by decide +kernel
theorem dX7_copy_21 : decode cX7_copy 21 = .ok (.iload_n 1, 1) := by decide +kernel
theorem dX7_copy_22 : decode cX7_copy 22 = .ok (.baload, 1) := by decide +kernel
theorem dX7_copy_23 : decode cX7_copy 23 = .ok (.ifCond .eq 12, 3) := by decide +kernel
theorem dX7_copy_26 : decode cX7_copy 26 = .ok (.aload_n 0, 1) := by decide +kernel
theorem dX7_copy_27 : decode cX7_copy 27 = .ok (.getfield 51, 3) := by decide +kernel
theorem dX7_copy_30 : decode cX7_copy 30 = .ok (.iload_n 3, 1) := by decide +kernel
theorem dX7_copy_31 : decode cX7_copy 31 = .ok (.baload, 1) := by decide +kernel
theorem dX7_copy_32 : decode cX7_copy 32 = .ok (.ifCond .ne 9, 3) := by decide +kernel
theorem dX7_copy_35 : decode cX7_copy 35 = .ok (.aload_n 0, 1) := by decide +kernel
theorem dX7_copy_36 : decode cX7_copy 36 = .ok (.iconst 1, 1) := by decide +kernel
theorem dX7_copy_37 : decode cX7_copy 37 = .ok (.invokevirtual 130, 3) := by decide +kernel
theorem dX7_copy_40 : decode cX7_copy 40 = .ok (.ireturn, 1) := by decide +kernel
theorem dX7_copy_41 : decode cX7_copy 41 = .ok (.aload_n 0, 1) := by decide +kernel
theorem dX7_copy_42 : decode cX7_copy 42 = .ok (.getfield 54, 3) := by decide +kernel
theorem dX7_copy_45 : decode cX7_copy 45 = .ok (.iload_n 1, 1) := by decide +kernel
theorem dX7_copy_46 : decode cX7_copy 46 = .ok (.iaload, 1) := by decide +kernel
theorem dX7_copy_47 : decode cX7_copy 47 = .ok (.aload_n 0, 1) := by decide +kernel
theorem dX7_copy_48 : decode cX7_copy 48 = .ok (.getfield 54, 3) := by decide +kernel
theorem dX7_copy_51 : decode cX7_copy 51 = .ok (.iload_n 3, 1) := by decide +kernel
theorem dX7_copy_52 : decode cX7_copy 52 = .ok (.iaload, 1) := by decide +kernel
theorem dX7_copy_53 : decode cX7_copy 53 = .ok (.if_icmp .eq 9, 3) := by decide +kernel
theorem dX7_copy_56 : decode cX7_copy 56 = .ok (.aload_n 0, 1) := by decide +kernel
theorem dX7_copy_57 : decode cX7_copy 57 = .ok (.iconst 4, 1) := by decide +kernel
theorem dX7_copy_58 : decode cX7_copy 58 = .ok (.invokevirtual 130, 3) := by decide +kernel
theorem dX7_copy_61 : decode cX7_copy 61 = .ok (.ireturn, 1) := by decide +kernel
theorem dX7_copy_62 : decode cX7_copy 62 = .ok (.iload_n 2, 1) := by decide +kernel
theorem dX7_copy_63 : decode cX7_copy 63 = .ok (.ifCond .lt 48, 3) := by decide +kernel
theorem dX7_copy_66 : decode cX7_copy 66 = .ok (.iload 4, 2) := by decide +kernel
theorem dX7_copy_68 : decode cX7_copy 68 = .ok (.ifCond .lt 43, 3) := by decide +kernel
theorem dX7_copy_71 : decode cX7_copy 71 = .ok (.iload 5, 2) := by decide +kernel
theorem dX7_copy_73 : decode cX7_copy 73 = .ok (.ifCond .lt 38, 3) := by decide +kernel
theorem dX7_copy_76 : decode cX7_copy 76 = .ok (.iload_n 2, 1) := by decide +kernel
theorem dX7_copy_77 : decode cX7_copy 77 = .ok (.i2l, 1) := by decide +kernel
theorem dX7_copy_78 : decode cX7_copy 78 = .ok (.iload 5, 2) := by decide +kernel
theorem dX7_copy_80 : decode cX7_copy 80 = .ok (.i2l, 1) := by decide +kernel
theorem dX7_copy_81 : decode cX7_copy 81 = .ok (.ladd, 1) := by decide +kernel
theorem dX7_copy_82 : decode cX7_copy 82 = .ok (.aload_n 0, 1) := by decide +kernel
theorem dX7_copy_83 : decode cX7_copy 83 = .ok (.getfield 57, 3) := by decide +kernel
theorem dX7_copy_86 : decode cX7_copy 86 = .ok (.iload_n 1, 1) := by decide +kernel
theorem dX7_copy_87 : decode cX7_copy 87 = .ok (.iaload, 1) := by decide +kernel
theorem dX7_copy_88 : decode cX7_copy 88 = .ok (.i2l, 1) := by decide +kernel
theorem dX7_copy_89 : decode cX7_copy 89 = .ok (.lcmp, 1) := by decide +kernel
theorem dX7_copy_90 : decode cX7_copy 90 = .ok (.ifCond .gt 21, 3) := by decide +kernel
theorem dX7_copy_93 : decode cX7_copy 93 = .ok (.iload 4, 2) := by decide +kernel
theorem dX7_copy_95 : decode cX7_copy 95 = .ok (.i2l, 1) := by decide +kernel
theorem dX7_copy_96 : decode cX7_copy 96 = .ok (.iload 5, 2) := by decide +kernel
theorem dX7_copy_98 : decode cX7_copy 98 = .ok (.i2l, 1) := by decide +kernel
theorem dX7_copy_99 : decode cX7_copy 99 = .ok (.ladd, 1) := by decide +kernel
theorem dX7_copy_100 : decode cX7_copy 100 = .ok (.aload_n 0, 1) := by decide +kernel
theorem dX7_copy_101 : decode cX7_copy 101 = .ok (.getfield 57, 3) := by decide +kernel
theorem dX7_copy_104 : decode cX7_copy 104 = .ok (.iload_n 3, 1) := by decide +kernel
theorem dX7_copy_105 : decode cX7_copy 105 = .ok (.iaload, 1) := by decide +kernel
theorem dX7_copy_106 : decode cX7_copy 106 = .ok (.i2l, 1) := by decide +kernel
theorem dX7_copy_107 : decode cX7_copy 107 = .ok (.lcmp, 1) := by decide +kernel
theorem dX7_copy_108 : decode cX7_copy 108 = .ok (.ifCond .le 9, 3) := by decide +kernel
theorem dX7_copy_111 : decode cX7_copy 111 = .ok (.aload_n 0, 1) := by decide +kernel
theorem dX7_copy_112 : decode cX7_copy 112 = .ok (.iconst 2, 1) := by decide +kernel
theorem dX7_copy_113 : decode cX7_copy 113 = .ok (.invokevirtual 130, 3) := by decide +kernel
theorem dX7_copy_116 : decode cX7_copy 116 = .ok (.ireturn, 1) := by decide +kernel
theorem dX7_copy_117 : decode cX7_copy 117 = .ok (.iconst 0, 1) := by decide +kernel
theorem dX7_copy_118 : decode cX7_copy 118 = .ok (.istore 6, 2) := by decide +kernel
theorem dX7_copy_120 : decode cX7_copy 120 = .ok (.iload 6, 2) := by decide +kernel
theorem dX7_copy_122 : decode cX7_copy 122 = .ok (.iload 5, 2) := by decide +kernel
theorem dX7_copy_124 : decode cX7_copy 124 = .ok (.if_icmp .ge 30, 3) := by decide +kernel
theorem dX7_copy_127 : decode cX7_copy 127 = .ok (.aload_n 0, 1) := by decide +kernel
theorem dX7_copy_128 : decode cX7_copy 128 = .ok (.getfield 63, 3) := by decide +kernel
theorem dX7_copy_131 : decode cX7_copy 131 = .ok (.iload 6, 2) := by decide +kernel
theorem dX7_copy_133 : decode cX7_copy 133 = .ok (.aload_n 0, 1) := by decide +kernel
theorem dX7_copy_134 : decode cX7_copy 134 = .ok (.getfield 60, 3) := by decide +kernel
theorem dX7_copy_137 : decode cX7_copy 137 = .ok (.bipush 100, 2) := by decide +kernel
theorem dX7_copy_139 : decode cX7_copy 139 = .ok (.iload_n 1, 1) := by decide +kernel
theorem dX7_copy_140 : decode cX7_copy 140 = .ok (.imul, 1) := by decide +kernel
theorem dX7_copy_141 : decode cX7_copy 141 = .ok (.iload_n 2, 1) := by decide +kernel
theorem dX7_copy_142 : decode cX7_copy 142 = .ok (.iadd, 1) := by decide +kernel
theorem dX7_copy_143 : decode cX7_copy 143 = .ok (.iload 6, 2) := by decide +kernel
theorem dX7_copy_145 : decode cX7_copy 145 = .ok (.iadd, 1) := by decide +kernel
theorem dX7_copy_146 : decode cX7_copy 146 = .ok (.iaload, 1) := by decide +kernel
theorem dX7_copy_147 : decode cX7_copy 147 = .ok (.iastore, 1) := by decide +kernel
theorem dX7_copy_148 : decode cX7_copy 148 = .ok (.iinc 6 1, 3) := by decide +kernel
theorem dX7_copy_151 : decode cX7_copy 151 = .ok (.goto (-31), 3) := by decide +kernel
theorem dX7_copy_154 : decode cX7_copy 154 = .ok (.iconst 0, 1) := by decide +kernel
theorem dX7_copy_155 : decode cX7_copy 155 = .ok (.istore 6, 2) := by decide +kernel
theorem dX7_copy_157 : decode cX7_copy 157 = .ok (.iload 6, 2) := by decide +kernel
theorem dX7_copy_159 : decode cX7_copy 159 = .ok (.iload 5, 2) := by decide +kernel
theorem dX7_copy_161 : decode cX7_copy 161 = .ok (.if_icmp .ge 31, 3) := by decide +kernel
theorem dX7_copy_164 : decode cX7_copy 164 = .ok (.aload_n 0, 1) := by decide +kernel
theorem dX7_copy_165 : decode cX7_copy 165 = .ok (.getfield 60, 3) := by decide +kernel
theorem dX7_copy_168 : decode cX7_copy 168 = .ok (.bipush 100, 2) := by decide +kernel
theorem dX7_copy_170 : decode cX7_copy 170 = .ok (.iload_n 3, 1) := by decide +kernel
theorem dX7_copy_171 : decode cX7_copy 171 = .ok (.imul, 1) := by decide +kernel
theorem dX7_copy_172 : decode cX7_copy 172 = .ok (.iload 4, 2) := by decide +kernel
theorem dX7_copy_174 : decode cX7_copy 174 = .ok (.iadd, 1) := by decide +kernel
theorem dX7_copy_175 : decode cX7_copy 175 = .ok (.iload 6, 2) := by decide +kernel
theorem dX7_copy_177 : decode cX7_copy 177 = .ok (.iadd, 1) := by decide +kernel
theorem dX7_copy_178 : decode cX7_copy 178 = .ok (.aload_n 0, 1) := by decide +kernel
theorem dX7_copy_179 : decode cX7_copy 179 = .ok (.getfield 63, 3) := by decide +kernel
theorem dX7_copy_182 : decode cX7_copy 182 = .ok (.iload 6, 2) := by decide +kernel
theorem dX7_copy_184 : decode cX7_copy 184 = .ok (.iaload, 1) := by decide +kernel
theorem dX7_copy_185 : decode cX7_copy 185 = .ok (.iastore, 1) := by decide +kernel
theorem dX7_copy_186 : decode cX7_copy 186 = .ok (.iinc 6 1, 3) := by decide +kernel
theorem dX7_copy_189 : decode cX7_copy 189 = .ok (.goto (-32), 3) := by decide +kernel
theorem dX7_copy_192 : decode cX7_copy 192 = .ok (.iconst 1, 1) := by decide +kernel
theorem dX7_copy_193 : decode cX7_copy 193 = .ok (.ireturn, 1) := by decide +kernel
set_option maxRecDepth 20000 in
theorem ggX7_load_X7_isSheet : GoodIn wsX7_load wsX7_isSheet := goodIn_r _ [8, 9, 10, 7, 11] (by decide +kernel) (by decide +kernel)
set_option maxRecDepth 20000 in
theorem gX7_load_X7_isSheet : GoodIn wsX7_load (va_wsS RX7 126 yX7_isSheet wsX7_isSheet) := goodIn_app (goodIn_of _ (by decide +kernel)) ggX7_load_X7_isSheet
set_option maxRecDepth 20000 in
theorem ggX7_load_X7_in : GoodIn wsX7_load wsX7_in := goodIn_r _ [11] (by decide +kernel) (by decide +kernel)
set_option maxRecDepth 20000 in
theorem gX7_load_X7_in : GoodIn wsX7_load (va_wsS RX7 66 yX7_in wsX7_in) := goodIn_app (goodIn_of _ (by decide +kernel)) ggX7_load_X7_in
set_option maxRecDepth 20000 in
theorem ggX7_load_X7_meets : GoodIn wsX7_load wsX7_meets := goodIn_r _ [15, 16, 17, 18, 19, 20, 21, 22, 23, 24, 25, 26, 27, 28, 29, 30, 31, 32, 33, 34, 35, 36, 37, 38] (by decide +kernel) (by decide +kernel)
set_option maxRecDepth 20000 in
theorem gX7_load_X7_meets : GoodIn wsX7_load (wsV RX7 130 RX7 yX7_meets wsX7_meets) := goodIn_app (goodIn_of _ (by decide +kernel)) ggX7_load_X7_meets
theorem dX7_load_0 : decode cX7_load 0 = .ok (.iload_n 1, 1) := by decide +kernel
theorem dX7_load_1 : decode cX7_load 1 = .ok (.invokestatic 126, 3) := by decide +kernel
theorem dX7_load_4 : decode cX7_load 4 = .ok (.ifCond .eq 14, 3) := by decide +kernel
theorem dX7_load_7 : decode cX7_load 7 = .ok (.iload_n 2, 1) := by decide +kernel
theorem dX7_load_8 : decode cX7_load 8 = .ok (.iconst 0, 1) := by decide +kernel
theorem dX7_load_9 : decode cX7_load 9 = .ok (.sipush 239, 3) := by decide +kernel
theorem dX7_load_12 : decode cX7_load 12 = .ok (.invokestatic 66, 3) := by decide +kernel
theorem dX7_load_15 : decode cX7_load 15 = .ok (.ifCond .ne 6, 3) := by decide +kernel
theorem dX7_load_18 : decode cX7_load 18 = .ok (.bipush (-2), 2) := by decide +kernel
theorem dX7_load_20 : decode cX7_load 20 = .ok (.ireturn, 1) := by decide +kernel
theorem dX7_load_21 : decode cX7_load 21 = .ok (.aload_n 0, 1) := by decide +kernel
theorem dX7_load_22 : decode cX7_load 22 = .ok (.getfield 51, 3) := by decide +kernel
theorem dX7_load_25 : decode cX7_load 25 = .ok (.iload_n 1, 1) := by decide +kernel
theorem dX7_load_26 : decode cX7_load 26 = .ok (.baload, 1) := by decide +kernel
theorem dX7_load_27 : decode cX7_load 27 = .ok (.ifCond .ne 9, 3) := by decide +kernel
theorem dX7_load_30 : decode cX7_load 30 = .ok (.aload_n 0, 1) := by decide +kernel
theorem dX7_load_31 : decode cX7_load 31 = .ok (.iconst 1, 1) := by decide +kernel
theorem dX7_load_32 : decode cX7_load 32 = .ok (.invokevirtual 130, 3) := by decide +kernel
theorem dX7_load_35 : decode cX7_load 35 = .ok (.ireturn, 1) := by decide +kernel
theorem dX7_load_36 : decode cX7_load 36 = .ok (.iload_n 2, 1) := by decide +kernel
theorem dX7_load_37 : decode cX7_load 37 = .ok (.aload_n 0, 1) := by decide +kernel
theorem dX7_load_38 : decode cX7_load 38 = .ok (.getfield 57, 3) := by decide +kernel
theorem dX7_load_41 : decode cX7_load 41 = .ok (.iload_n 1, 1) := by decide +kernel
theorem dX7_load_42 : decode cX7_load 42 = .ok (.iaload, 1) := by decide +kernel
theorem dX7_load_43 : decode cX7_load 43 = .ok (.iadd, 1) := by decide +kernel
theorem dX7_load_44 : decode cX7_load 44 = .ok (.sipush 240, 3) := by decide +kernel
theorem dX7_load_47 : decode cX7_load 47 = .ok (.if_icmp .le 9, 3) := by decide +kernel
theorem dX7_load_50 : decode cX7_load 50 = .ok (.aload_n 0, 1) := by decide +kernel
theorem dX7_load_51 : decode cX7_load 51 = .ok (.iconst 2, 1) := by decide +kernel
theorem dX7_load_52 : decode cX7_load 52 = .ok (.invokevirtual 130, 3) := by decide +kernel
theorem dX7_load_55 : decode cX7_load 55 = .ok (.ireturn, 1) := by decide +kernel
theorem dX7_load_56 : decode cX7_load 56 = .ok (.iconst 0, 1) := by decide +kernel
theorem dX7_load_57 : decode cX7_load 57 = .ok (.istore_n 3, 1) := by decide +kernel
theorem dX7_load_58 : decode cX7_load 58 = .ok (.iload_n 3, 1) := by decide +kernel
theorem dX7_load_59 : decode cX7_load 59 = .ok (.aload_n 0, 1) := by decide +kernel
theorem dX7_load_60 : decode cX7_load 60 = .ok (.getfield 57, 3) := by decide +kernel
theorem dX7_load_63 : decode cX7_load 63 = .ok (.iload_n 1, 1) := by decide +kernel
theorem dX7_load_64 : decode cX7_load 64 = .ok (.iaload, 1) := by decide +kernel
theorem dX7_load_65 : decode cX7_load 65 = .ok (.if_icmp .ge 36, 3) := by decide +kernel
theorem dX7_load_68 : decode cX7_load 68 = .ok (.aload_n 0, 1) := by decide +kernel
theorem dX7_load_69 : decode cX7_load 69 = .ok (.getfield 7, 3) := by decide +kernel
theorem dX7_load_72 : decode cX7_load 72 = .ok (.iload_n 2, 1) := by decide +kernel
theorem dX7_load_73 : decode cX7_load 73 = .ok (.iload_n 3, 1) := by decide +kernel
theorem dX7_load_74 : decode cX7_load 74 = .ok (.iadd, 1) := by decide +kernel
theorem dX7_load_75 : decode cX7_load 75 = .ok (.aload_n 0, 1) := by decide +kernel
theorem dX7_load_76 : decode cX7_load 76 = .ok (.getfield 60, 3) := by decide +kernel
theorem dX7_load_79 : decode cX7_load 79 = .ok (.bipush 100, 2) := by decide +kernel
theorem dX7_load_81 : decode cX7_load 81 = .ok (.iload_n 1, 1) := by decide +kernel
theorem dX7_load_82 : decode cX7_load 82 = .ok (.imul, 1) := by decide +kernel
theorem dX7_load_83 : decode cX7_load 83 = .ok (.iload_n 3, 1) := by decide +kernel
theorem dX7_load_84 : decode cX7_load 84 = .ok (.iadd, 1) := by decide +kernel
theorem dX7_load_85 : decode cX7_load 85 = .ok (.iaload, 1) := by decide +kernel
theorem dX7_load_86 : decode cX7_load 86 = .ok (.ifCond .le 7, 3) := by decide +kernel
theorem dX7_load_89 : decode cX7_load 89 = .ok (.iconst 1, 1) := by decide +kernel
theorem dX7_load_90 : decode cX7_load 90 = .ok (.goto 4, 3) := by decide +kernel
theorem dX7_load_93 : decode cX7_load 93 = .ok (.iconst 0, 1) := by decide +kernel
theorem dX7_load_94 : decode cX7_load 94 = .ok (.bastore, 1) := by decide +kernel
theorem dX7_load_95 : decode cX7_load 95 = .ok (.iinc 3 1, 3) := by decide +kernel
theorem dX7_load_98 : decode cX7_load 98 = .ok (.goto (-40), 3) := by decide +kernel
theorem dX7_load_101 : decode cX7_load 101 = .ok (.aload_n 0, 1) := by decide +kernel
theorem dX7_load_102 : decode cX7_load 102 = .ok (.getfield 57, 3) := by decide +kernel
theorem dX7_load_105 : decode cX7_load 105 = .ok (.iload_n 1, 1) := by decide +kernel
theorem dX7_load_106 : decode cX7_load 106 = .ok (.iaload, 1) := by decide +kernel
theorem dX7_load_107 : decode cX7_load 107 = .ok (.ireturn, 1) := by decide +kernel
set_option maxRecDepth 20000 in
theorem ggX7_write_X7_isSheet : GoodIn wsX7_write wsX7_isSheet := goodIn_r _ [8, 9, 10, 7, 11] (by decide +kernel) (by decide +kernel)
set_option maxRecDepth 20000 in
theorem gX7_write_X7_isSheet : GoodIn wsX7_write (va_wsS RX7 126 yX7_isSheet wsX7_isSheet) := goodIn_app (goodIn_of _ (by decide +kernel)) ggX7_write_X7_isSheet
set_option maxRecDepth 20000 in
theorem ggX7_write_X7_in : GoodIn wsX7_write wsX7_in := goodIn_r _ [11] (by decide +kernel) (by decide +kernel)
set_option maxRecDepth 20000 in
theorem gX7_write_X7_in : GoodIn wsX7_write (va_wsS RX7 66 yX7_in wsX7_in) := goodIn_app (goodIn_of _ (by decide +kernel)) ggX7_write_X7_in
set_option maxRecDepth 20000 in
theorem ggX7_write_X7_meets : GoodIn wsX7_write wsX7_meets := goodIn_r _ [15, 16, 17, 18, 19, 20, 21, 22, 23, 24, 25, 26, 27, 28, 29, 30, 31, 32, 33, 34, 35, 36, 37, 38] (by decide +kernel) (by decide +kernel)
set_option maxRecDepth 20000 in
theorem gX7_write_X7_meets : GoodIn wsX7_write (wsV RX7 130 RX7 yX7_meets wsX7_meets) := goodIn_app (goodIn_of _ (by decide +kernel)) ggX7_write_X7_meets
theorem dX7_write_0 : decode cX7_write 0 = .ok (.iload_n 1, 1) := by decide +kernel
theorem dX7_write_1 : decode cX7_write 1 = .ok (.invokestatic 126, 3) := by decide +kernel
theorem dX7_write_4 : decode cX7_write 4 = .ok (.ifCond .eq 14, 3) := by decide +kernel
theorem dX7_write_7 : decode cX7_write 7 = .ok (.iload_n 2, 1) := by decide +kernel
theorem dX7_write_8 : decode cX7_write 8 = .ok (.iconst 0, 1) := by decide +kernel
theorem dX7_write_9 : decode cX7_write 9 = .ok (.sipush 239, 3) := by decide +kernel
theorem dX7_write_12 : decode cX7_write 12 = .ok (.invokestatic 66, 3) := by decide +kernel
theorem dX7_write_15 : decode cX7_write 15 = .ok (.ifCond .ne 6, 3) := by decide +kernel
theorem dX7_write_18 : decode cX7_write 18 = .ok (.bipush (-2), 2) := by decide +kernel
theorem dX7_write_20 : decode cX7_write 20 = .ok (.ireturn, 1) := by decide +kernel
theorem dX7_write_21 : decode cX7_write 21 = .ok (.aload_n 0, 1) := by decide +kernel
theorem dX7_write_22 : decode cX7_write 22 = .ok (.getfield 51, 3) := by decide +kernel
theorem dX7_write_25 : decode cX7_write 25 = .ok (.iload_n 1, 1) := by decide +kernel
theorem dX7_write_26 : decode cX7_write 26 = .ok (.baload, 1) := by decide +kernel
theorem dX7_write_27 : decode cX7_write 27 = .ok (.ifCond .ne 9, 3) := by decide +kernel
theorem dX7_write_30 : decode cX7_write 30 = .ok (.aload_n 0, 1) := by decide +kernel
theorem dX7_write_31 : decode cX7_write 31 = .ok (.iconst 1, 1) := by decide +kernel
theorem dX7_write_32 : decode cX7_write 32 = .ok (.invokevirtual 130, 3) := by decide +kernel
theorem dX7_write_35 : decode cX7_write 35 = .ok (.ireturn, 1) := by decide +kernel
theorem dX7_write_36 : decode cX7_write 36 = .ok (.aload_n 0, 1) := by decide +kernel
theorem dX7_write_37 : decode cX7_write 37 = .ok (.getfield 57, 3) := by decide +kernel
theorem dX7_write_40 : decode cX7_write 40 = .ok (.iload_n 1, 1) := by decide +kernel
theorem dX7_write_41 : decode cX7_write 41 = .ok (.iaload, 1) := by decide +kernel
theorem dX7_write_42 : decode cX7_write 42 = .ok (.sipush 240, 3) := by decide +kernel
theorem dX7_write_45 : decode cX7_write 45 = .ok (.iload_n 2, 1) := by decide +kernel
theorem dX7_write_46 : decode cX7_write 46 = .ok (.isub, 1) := by decide +kernel
theorem dX7_write_47 : decode cX7_write 47 = .ok (.if_icmp .ge 12, 3) := by decide +kernel
theorem dX7_write_50 : decode cX7_write 50 = .ok (.aload_n 0, 1) := by decide +kernel
theorem dX7_write_51 : decode cX7_write 51 = .ok (.getfield 57, 3) := by decide +kernel
