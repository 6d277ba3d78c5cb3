theorem dX3_makeByCarrier_50 : decode cX3_makeByCarrier 50 = .ok (.iload 6, 2) := by decide +kernel
theorem dX3_makeByCarrier_52 : decode cX3_makeByCarrier 52 = .ok (.iload_n 3, 1) := by decide +kernel
theorem dX3_makeByCarrier_53 : decode cX3_makeByCarrier 53 = .ok (.iadd, 1) := by decide +kernel
theorem dX3_makeByCarrier_54 : decode cX3_makeByCarrier 54 = .ok (.iload 7, 2) := by decide +kernel
theorem dX3_makeByCarrier_56 : decode cX3_makeByCarrier 56 = .ok (.isub, 1) := by decide +kernel
theorem dX3_makeByCarrier_57 : decode cX3_makeByCarrier 57 = .ok (.invokevirtual 30, 3) := by decide +kernel
theorem dX3_makeByCarrier_60 : decode cX3_makeByCarrier 60 = .ok (.iload 7, 2) := by decide +kernel
theorem dX3_makeByCarrier_62 : decode cX3_makeByCarrier 62 = .ok (.istore_n 3, 1) := by decide +kernel
theorem dX3_makeByCarrier_63 : decode cX3_makeByCarrier 63 = .ok (.iinc 4 1, 3) := by decide +kernel
theorem dX3_makeByCarrier_66 : decode cX3_makeByCarrier 66 = .ok (.goto (-61), 3) := by decide +kernel
theorem dX3_makeByCarrier_69 : decode cX3_makeByCarrier 69 = .ok (.iload_n 3, 1) := by decide +kernel
theorem dX3_makeByCarrier_70 : decode cX3_makeByCarrier 70 = .ok (.ireturn, 1) := by decide +kernel
theorem dX3_becomeMade_0 : decode cX3_becomeMade 0 = .ok (.iconst 0, 1) := by decide +kernel
theorem dX3_becomeMade_1 : decode cX3_becomeMade 1 = .ok (.istore_n 1, 1) := by decide +kernel
theorem dX3_becomeMade_2 : decode cX3_becomeMade 2 = .ok (.iconst 0, 1) := by decide +kernel
theorem dX3_becomeMade_3 : decode cX3_becomeMade 3 = .ok (.istore_n 2, 1) := by decide +kernel
theorem dX3_becomeMade_4 : decode cX3_becomeMade 4 = .ok (.iload_n 2, 1) := by decide +kernel
theorem dX3_becomeMade_5 : decode cX3_becomeMade 5 = .ok (.sipush 240, 3) := by decide +kernel
theorem dX3_becomeMade_8 : decode cX3_becomeMade 8 = .ok (.if_icmp .ge 39, 3) := by decide +kernel
theorem dX3_becomeMade_11 : decode cX3_becomeMade 11 = .ok (.aload_n 0, 1) := by decide +kernel
theorem dX3_becomeMade_12 : decode cX3_becomeMade 12 = .ok (.getfield 9, 3) := by decide +kernel
theorem dX3_becomeMade_15 : decode cX3_becomeMade 15 = .ok (.iload_n 2, 1) := by decide +kernel
theorem dX3_becomeMade_16 : decode cX3_becomeMade 16 = .ok (.iaload, 1) := by decide +kernel
theorem dX3_becomeMade_17 : decode cX3_becomeMade 17 = .ok (.aload_n 0, 1) := by decide +kernel
theorem dX3_becomeMade_18 : decode cX3_becomeMade 18 = .ok (.getfield 15, 3) := by decide +kernel
theorem dX3_becomeMade_21 : decode cX3_becomeMade 21 = .ok (.iload_n 2, 1) := by decide +kernel
theorem dX3_becomeMade_22 : decode cX3_becomeMade 22 = .ok (.iaload, 1) := by decide +kernel
theorem dX3_becomeMade_23 : decode cX3_becomeMade 23 = .ok (.if_icmp .eq 6, 3) := by decide +kernel
theorem dX3_becomeMade_26 : decode cX3_becomeMade 26 = .ok (.iinc 1 1, 3) := by decide +kernel
theorem dX3_becomeMade_29 : decode cX3_becomeMade 29 = .ok (.aload_n 0, 1) := by decide +kernel
theorem dX3_becomeMade_30 : decode cX3_becomeMade 30 = .ok (.getfield 9, 3) := by decide +kernel
theorem dX3_becomeMade_33 : decode cX3_becomeMade 33 = .ok (.iload_n 2, 1) := by decide +kernel
theorem dX3_becomeMade_34 : decode cX3_becomeMade 34 = .ok (.aload_n 0, 1) := by decide +kernel
theorem dX3_becomeMade_35 : decode cX3_becomeMade 35 = .ok (.getfield 15, 3) := by decide +kernel
theorem dX3_becomeMade_38 : decode cX3_becomeMade 38 = .ok (.iload_n 2, 1) := by decide +kernel
theorem dX3_becomeMade_39 : decode cX3_becomeMade 39 = .ok (.iaload, 1) := by decide +kernel
theorem dX3_becomeMade_40 : decode cX3_becomeMade 40 = .ok (.iastore, 1) := by decide +kernel
theorem dX3_becomeMade_41 : decode cX3_becomeMade 41 = .ok (.iinc 2 1, 3) := by decide +kernel
theorem dX3_becomeMade_44 : decode cX3_becomeMade 44 = .ok (.goto (-40), 3) := by decide +kernel
theorem dX3_becomeMade_47 : decode cX3_becomeMade 47 = .ok (.iload_n 1, 1) := by decide +kernel
theorem dX3_becomeMade_48 : decode cX3_becomeMade 48 = .ok (.ireturn, 1) := by decide +kernel
theorem dX4_init_0 : decode cX4_init 0 = .ok (.aload_n 0, 1) := by decide +kernel
theorem dX4_init_1 : decode cX4_init 1 = .ok (.invokespecial 3, 3) := by decide +kernel
theorem dX4_init_4 : decode cX4_init 4 = .ok (.aload_n 0, 1) := by decide +kernel
theorem dX4_init_5 : decode cX4_init 5 = .ok (.bipush 100, 2) := by decide +kernel
theorem dX4_init_7 : decode cX4_init 7 = .ok (.newarray .int, 2) := by decide +kernel
theorem dX4_init_9 : decode cX4_init 9 = .ok (.putfield 9, 3) := by decide +kernel
theorem dX4_init_12 : decode cX4_init 12 = .ok (.aload_n 0, 1) := by decide +kernel
theorem dX4_init_13 : decode cX4_init 13 = .ok (.iconst 1, 1) := by decide +kernel
theorem dX4_init_14 : decode cX4_init 14 = .ok (.putfield 15, 3) := by decide +kernel
theorem dX4_init_17 : decode cX4_init 17 = .ok (.return_, 1) := by decide +kernel
theorem dX4_begin_0 : decode cX4_begin 0 = .ok (.aload_n 0, 1) := by decide +kernel
theorem dX4_begin_1 : decode cX4_begin 1 = .ok (.iconst 0, 1) := by decide +kernel
theorem dX4_begin_2 : decode cX4_begin 2 = .ok (.putfield 15, 3) := by decide +kernel
theorem dX4_begin_5 : decode cX4_begin 5 = .ok (.aload_n 0, 1) := by decide +kernel
theorem dX4_begin_6 : decode cX4_begin 6 = .ok (.iload_n 1, 1) := by decide +kernel
theorem dX4_begin_7 : decode cX4_begin 7 = .ok (.putfield 19, 3) := by decide +kernel
theorem dX4_begin_10 : decode cX4_begin 10 = .ok (.aload_n 0, 1) := by decide +kernel
theorem dX4_begin_11 : decode cX4_begin 11 = .ok (.iload_n 2, 1) := by decide +kernel
theorem dX4_begin_12 : decode cX4_begin 12 = .ok (.putfield 23, 3) := by decide +kernel
theorem dX4_begin_15 : decode cX4_begin 15 = .ok (.iconst 0, 1) := by decide +kernel
theorem dX4_begin_16 : decode cX4_begin 16 = .ok (.istore_n 3, 1) := by decide +kernel
theorem dX4_begin_17 : decode cX4_begin 17 = .ok (.iload_n 3, 1) := by decide +kernel
theorem dX4_begin_18 : decode cX4_begin 18 = .ok (.bipush 100, 2) := by decide +kernel
theorem dX4_begin_20 : decode cX4_begin 20 = .ok (.if_icmp .ge 16, 3) := by decide +kernel
theorem dX4_begin_23 : decode cX4_begin 23 = .ok (.aload_n 0, 1) := by decide +kernel
theorem dX4_begin_24 : decode cX4_begin 24 = .ok (.getfield 9, 3) := by decide +kernel
theorem dX4_begin_27 : decode cX4_begin 27 = .ok (.iload_n 3, 1) := by decide +kernel
theorem dX4_begin_28 : decode cX4_begin 28 = .ok (.iconst 0, 1) := by decide +kernel
theorem dX4_begin_29 : decode cX4_begin 29 = .ok (.iastore, 1) := by decide +kernel
theorem dX4_begin_30 : decode cX4_begin 30 = .ok (.iinc 3 1, 3) := by decide +kernel
theorem dX4_begin_33 : decode cX4_begin 33 = .ok (.goto (-16), 3) := by decide +kernel
theorem dX4_begin_36 : decode cX4_begin 36 = .ok (.return_, 1) := by decide +kernel
set_option maxRecDepth 20000 in
theorem ggX4_findingAt_X4_isItem : GoodIn wsX4_findingAt wsX4_isItem := goodIn_r _ [7, 8, 9, 10, 11, 12] (by decide +kernel) (by decide +kernel)
set_option maxRecDepth 20000 in
theorem gX4_findingAt_X4_isItem : GoodIn wsX4_findingAt (wsV RX4 26 RX4 yX4_isItem wsX4_isItem) := goodIn_app (goodIn_of _ (by decide +kernel)) ggX4_findingAt_X4_isItem
theorem dX4_findingAt_0 : decode cX4_findingAt 0 = .ok (.aload_n 0, 1) := by decide +kernel
theorem dX4_findingAt_1 : decode cX4_findingAt 1 = .ok (.getfield 15, 3) := by decide +kernel
theorem dX4_findingAt_4 : decode cX4_findingAt 4 = .ok (.ifCond .eq 5, 3) := by decide +kernel
theorem dX4_findingAt_7 : decode cX4_findingAt 7 = .ok (.iconst 1, 1) := by decide +kernel
theorem dX4_findingAt_8 : decode cX4_findingAt 8 = .ok (.ireturn, 1) := by decide +kernel
theorem dX4_findingAt_9 : decode cX4_findingAt 9 = .ok (.aload_n 0, 1) := by decide +kernel
theorem dX4_findingAt_10 : decode cX4_findingAt 10 = .ok (.getfield 19, 3) := by decide +kernel
theorem dX4_findingAt_13 : decode cX4_findingAt 13 = .ok (.iload_n 1, 1) := by decide +kernel
theorem dX4_findingAt_14 : decode cX4_findingAt 14 = .ok (.if_icmp .eq 5, 3) := by decide +kernel
theorem dX4_findingAt_17 : decode cX4_findingAt 17 = .ok (.iconst 3, 1) := by decide +kernel
theorem dX4_findingAt_18 : decode cX4_findingAt 18 = .ok (.ireturn, 1) := by decide +kernel
theorem dX4_findingAt_19 : decode cX4_findingAt 19 = .ok (.aload_n 0, 1) := by decide +kernel
theorem dX4_findingAt_20 : decode cX4_findingAt 20 = .ok (.iload_n 2, 1) := by decide +kernel
theorem dX4_findingAt_21 : decode cX4_findingAt 21 = .ok (.invokevirtual 26, 3) := by decide +kernel
theorem dX4_findingAt_24 : decode cX4_findingAt 24 = .ok (.ifCond .eq 7, 3) := by decide +kernel
theorem dX4_findingAt_27 : decode cX4_findingAt 27 = .ok (.iconst 0, 1) := by decide +kernel
theorem dX4_findingAt_28 : decode cX4_findingAt 28 = .ok (.goto 4, 3) := by decide +kernel
theorem dX4_findingAt_31 : decode cX4_findingAt 31 = .ok (.iconst 2, 1) := by decide +kernel
theorem dX4_findingAt_32 : decode cX4_findingAt 32 = .ok (.ireturn, 1) := by decide +kernel
theorem dX4_hasItems_0 : decode cX4_hasItems 0 = .ok (.iload_n 1, 1) := by decide +kernel
theorem dX4_hasItems_1 : decode cX4_hasItems 1 = .ok (.ifCond .lt 29, 3) := by decide +kernel
theorem dX4_hasItems_4 : decode cX4_hasItems 4 = .ok (.iload_n 2, 1) := by decide +kernel
theorem dX4_hasItems_5 : decode cX4_hasItems 5 = .ok (.ifCond .lt 25, 3) := by decide +kernel
theorem dX4_hasItems_8 : decode cX4_hasItems 8 = .ok (.iload_n 1, 1) := by decide +kernel
theorem dX4_hasItems_9 : decode cX4_hasItems 9 = .ok (.aload_n 0, 1) := by decide +kernel
theorem dX4_hasItems_10 : decode cX4_hasItems 10 = .ok (.getfield 23, 3) := by decide +kernel
theorem dX4_hasItems_13 : decode cX4_hasItems 13 = .ok (.if_icmp .gt 17, 3) := by decide +kernel
theorem dX4_hasItems_16 : decode cX4_hasItems 16 = .ok (.iload_n 2, 1) := by decide +kernel
theorem dX4_hasItems_17 : decode cX4_hasItems 17 = .ok (.aload_n 0, 1) := by decide +kernel
theorem dX4_hasItems_18 : decode cX4_hasItems 18 = .ok (.getfield 23, 3) := by decide +kernel
theorem dX4_hasItems_21 : decode cX4_hasItems 21 = .ok (.iload_n 1, 1) := by decide +kernel
theorem dX4_hasItems_22 : decode cX4_hasItems 22 = .ok (.isub, 1) := by decide +kernel
theorem dX4_hasItems_23 : decode cX4_hasItems 23 = .ok (.if_icmp .gt 7, 3) := by decide +kernel
theorem dX4_hasItems_26 : decode cX4_hasItems 26 = .ok (.iconst 1, 1) := by decide +kernel
theorem dX4_hasItems_27 : decode cX4_hasItems 27 = .ok (.goto 4, 3) := by decide +kernel
theorem dX4_hasItems_30 : decode cX4_hasItems 30 = .ok (.iconst 0, 1) := by decide +kernel
theorem dX4_hasItems_31 : decode cX4_hasItems 31 = .ok (.ireturn, 1) := by decide +kernel
set_option maxRecDepth 20000 in
theorem ggX4_itemAt_X4_isItem : GoodIn wsX4_itemAt wsX4_isItem := goodIn_r _ [6, 7, 8, 9, 10, 11] (by decide +kernel) (by decide +kernel)
set_option maxRecDepth 20000 in
theorem gX4_itemAt_X4_isItem : GoodIn wsX4_itemAt (wsV RX4 26 RX4 yX4_isItem wsX4_isItem) := goodIn_app (goodIn_of _ (by decide +kernel)) ggX4_itemAt_X4_isItem
theorem dX4_itemAt_0 : decode cX4_itemAt 0 = .ok (.aload_n 0, 1) := by decide +kernel
theorem dX4_itemAt_1 : decode cX4_itemAt 1 = .ok (.iload_n 1, 1) := by decide +kernel
theorem dX4_itemAt_2 : decode cX4_itemAt 2 = .ok (.invokevirtual 26, 3) := by decide +kernel
theorem dX4_itemAt_5 : decode cX4_itemAt 5 = .ok (.ifCond .eq 12, 3) := by decide +kernel
theorem dX4_itemAt_8 : decode cX4_itemAt 8 = .ok (.aload_n 0, 1) := by decide +kernel
theorem dX4_itemAt_9 : decode cX4_itemAt 9 = .ok (.getfield 9, 3) := by decide +kernel
theorem dX4_itemAt_12 : decode cX4_itemAt 12 = .ok (.iload_n 1, 1) := by decide +kernel
theorem dX4_itemAt_13 : decode cX4_itemAt 13 = .ok (.iaload, 1) := by decide +kernel
theorem dX4_itemAt_14 : decode cX4_itemAt 14 = .ok (.goto 4, 3) := by decide +kernel
theorem dX4_itemAt_17 : decode cX4_itemAt 17 = .ok (.iconst 0, 1) := by decide +kernel
theorem dX4_itemAt_18 : decode cX4_itemAt 18 = .ok (.ireturn, 1) := by decide +kernel
set_option maxRecDepth 20000 in
theorem ggX4_place_X4_isItem : GoodIn wsX4_place wsX4_isItem := goodIn_r _ [6, 7, 13, 14, 15, 16] (by decide +kernel) (by decide +kernel)
set_option maxRecDepth 20000 in
theorem gX4_place_X4_isItem : GoodIn wsX4_place (wsV RX4 26 RX4 yX4_isItem wsX4_isItem) := goodIn_app (goodIn_of _ (by decide +kernel)) ggX4_place_X4_isItem
set_option maxRecDepth 20000 in
theorem ggX4_place_X4_cut : GoodIn wsX4_place wsX4_cut := goodIn_r _ [11, 12, 13, 14, 15, 16] (by decide +kernel) (by decide +kernel)
set_option maxRecDepth 20000 in
theorem gX4_place_X4_cut : GoodIn wsX4_place (wsV RX4 30 RX4 yX4_cut wsX4_cut) := goodIn_app (goodIn_of _ (by decide +kernel)) ggX4_place_X4_cut
theorem dX4_place_0 : decode cX4_place 0 = .ok (.aload_n 0, 1) := by decide +kernel
theorem dX4_place_1 : decode cX4_place 1 = .ok (.iload_n 1, 1) := by decide +kernel
theorem dX4_place_2 : decode cX4_place 2 = .ok (.invokevirtual 26, 3) := by decide +kernel
theorem dX4_place_5 : decode cX4_place 5 = .ok (.ifCond .eq 14, 3) := by decide +kernel
theorem dX4_place_8 : decode cX4_place 8 = .ok (.aload_n 0, 1) := by decide +kernel
theorem dX4_place_9 : decode cX4_place 9 = .ok (.getfield 9, 3) := by decide +kernel
theorem dX4_place_12 : decode cX4_place 12 = .ok (.iload_n 1, 1) := by decide +kernel
theorem dX4_place_13 : decode cX4_place 13 = .ok (.aload_n 0, 1) := by decide +kernel
theorem dX4_place_14 : decode cX4_place 14 = .ok (.iload_n 2, 1) := by decide +kernel
theorem dX4_place_15 : decode cX4_place 15 = .ok (.invokevirtual 30, 3) := by decide +kernel
theorem dX4_place_18 : decode cX4_place 18 = .ok (.iastore, 1) := by decide +kernel
theorem dX4_place_19 : decode cX4_place 19 = .ok (.return_, 1) := by decide +kernel
theorem dX4_isItem_0 : decode cX4_isItem 0 = .ok (.iload_n 1, 1) := by decide +kernel
theorem dX4_isItem_1 : decode cX4_isItem 1 = .ok (.ifCond .lt 21, 3) := by decide +kernel
theorem dX4_isItem_4 : decode cX4_isItem 4 = .ok (.iload_n 1, 1) := by decide +kernel
theorem dX4_isItem_5 : decode cX4_isItem 5 = .ok (.aload_n 0, 1) := by decide +kernel
theorem dX4_isItem_6 : decode cX4_isItem 6 = .ok (.getfield 23, 3) := by decide +kernel
theorem dX4_isItem_9 : decode cX4_isItem 9 = .ok (.if_icmp .ge 13, 3) := by decide +kernel
theorem dX4_isItem_12 : decode cX4_isItem 12 = .ok (.iload_n 1, 1) := by decide +kernel
theorem dX4_isItem_13 : decode cX4_isItem 13 = .ok (.bipush 100, 2) := by decide +kernel
theorem dX4_isItem_15 : decode cX4_isItem 15 = .ok (.if_icmp .ge 7, 3) := by decide +kernel
theorem dX4_isItem_18 : decode cX4_isItem 18 = .ok (.iconst 1, 1) := by decide +kernel
theorem dX4_isItem_19 : decode cX4_isItem 19 = .ok (.goto 4, 3) := by decide +kernel
theorem dX4_isItem_22 : decode cX4_isItem 22 = .ok (.iconst 0, 1) := by decide +kernel
theorem dX4_isItem_23 : decode cX4_isItem 23 = .ok (.ireturn, 1) := by decide +kernel
theorem dX4_cut_0 : decode cX4_cut 0 = .ok (.aload_n 0, 1) := by decide +kernel
theorem dX4_cut_1 : decode cX4_cut 1 = .ok (.getfield 19, 3) := by decide +kernel
theorem dX4_cut_4 : decode cX4_cut 4 = .ok (.ifCond .ne 6, 3) := by decide +kernel
theorem dX4_cut_7 : decode cX4_cut 7 = .ok (.iload_n 1, 1) := by decide +kernel
theorem dX4_cut_8 : decode cX4_cut 8 = .ok (.i2b, 1) := by decide +kernel
theorem dX4_cut_9 : decode cX4_cut 9 = .ok (.ireturn, 1) := by decide +kernel
theorem dX4_cut_10 : decode cX4_cut 10 = .ok (.aload_n 0, 1) := by decide +kernel
theorem dX4_cut_11 : decode cX4_cut 11 = .ok (.getfield 19, 3) := by decide +kernel
theorem dX4_cut_14 : decode cX4_cut 14 = .ok (.iconst 1, 1) := by decide +kernel
theorem dX4_cut_15 : decode cX4_cut 15 = .ok (.if_icmp .ne 8, 3) := by decide +kernel
theorem dX4_cut_18 : decode cX4_cut 18 = .ok (.iload_n 1, 1) := by decide +kernel
theorem dX4_cut_19 : decode cX4_cut 19 = .ok (.i2s, 1) := by decide +kernel
theorem dX4_cut_20 : decode cX4_cut 20 = .ok (.goto 4, 3) := by decide +kernel
theorem dX4_cut_23 : decode cX4_cut 23 = .ok (.iload_n 1, 1) := by decide +kernel
theorem dX4_cut_24 : decode cX4_cut 24 = .ok (.ireturn, 1) := by decide +kernel
theorem dX5_init_0 : decode cX5_init 0 = .ok (.aload_n 0, 1) := by decide +kernel
theorem dX5_init_1 : decode cX5_init 1 = .ok (.invokespecial 3, 3) := by decide +kernel
theorem dX5_init_4 : decode cX5_init 4 = .ok (.aload_n 0, 1) := by decide +kernel
theorem dX5_init_5 : decode cX5_init 5 = .ok (.sipush 240, 3) := by decide +kernel
theorem dX5_init_8 : decode cX5_init 8 = .ok (.newarray .int, 2) := by decide +kernel
theorem dX5_init_10 : decode cX5_init 10 = .ok (.putfield 9, 3) := by decide +kernel
theorem dX5_init_13 : decode cX5_init 13 = .ok (.aload_n 0, 1) := by decide +kernel
theorem dX5_init_14 : decode cX5_init 14 = .ok (.sipush 240, 3) := by decide +kernel
theorem dX5_init_17 : decode cX5_init 17 = .ok (.newarray .int, 2) := by decide +kernel
theorem dX5_init_19 : decode cX5_init 19 = .ok (.putfield 15, 3) := by decide +kernel
theorem dX5_init_22 : decode cX5_init 22 = .ok (.aload_n 0, 1) := by decide +kernel
theorem dX5_init_23 : decode cX5_init 23 = .ok (.sipush 241, 3) := by decide +kernel
theorem dX5_init_26 : decode cX5_init 26 = .ok (.newarray .int, 2) := by decide +kernel
theorem dX5_init_28 : decode cX5_init 28 = .ok (.putfield 18, 3) := by decide +kernel
theorem dX5_init_31 : decode cX5_init 31 = .ok (.return_, 1) := by decide +kernel
theorem dX5_isString_0 : decode cX5_isString 0 = .ok (.iload_n 1, 1) := by decide +kernel
theorem dX5_isString_1 : decode cX5_isString 1 = .ok (.ifCond .lt 22, 3) := by decide +kernel
theorem dX5_isString_4 : decode cX5_isString 4 = .ok (.iload_n 1, 1) := by decide +kernel
theorem dX5_isString_5 : decode cX5_isString 5 = .ok (.aload_n 0, 1) := by decide +kernel
theorem dX5_isString_6 : decode cX5_isString 6 = .ok (.getfield 21, 3) := by decide +kernel
theorem dX5_isString_9 : decode cX5_isString 9 = .ok (.if_icmp .ge 14, 3) := by decide +kernel
theorem dX5_isString_12 : decode cX5_isString 12 = .ok (.iload_n 1, 1) := by decide +kernel
theorem dX5_isString_13 : decode cX5_isString 13 = .ok (.sipush 240, 3) := by decide +kernel
theorem dX5_isString_16 : decode cX5_isString 16 = .ok (.if_icmp .ge 7, 3) := by decide +kernel
theorem dX5_isString_19 : decode cX5_isString 19 = .ok (.iconst 1, 1) := by decide +kernel
theorem dX5_isString_20 : decode cX5_isString 20 = .ok (.goto 4, 3) := by decide +kernel
theorem dX5_isString_23 : decode cX5_isString 23 = .ok (.iconst 0, 1) := by decide +kernel
theorem dX5_isString_24 : decode cX5_isString 24 = .ok (.ireturn, 1) := by decide +kernel
set_option maxRecDepth 20000 in
theorem ggX5_lengthOf_X5_isString : GoodIn wsX5_lengthOf wsX5_isString := goodIn_r _ [6, 7, 8, 9, 10, 11, 12] (by decide +kernel) (by decide +kernel)
set_option maxRecDepth 20000 in
theorem gX5_lengthOf_X5_isString : GoodIn wsX5_lengthOf (wsV RX5 25 RX5 yX5_isString wsX5_isString) := goodIn_app (goodIn_of _ (by decide +kernel)) ggX5_lengthOf_X5_isString
theorem dX5_lengthOf_0 : decode cX5_lengthOf 0 = .ok (.aload_n 0, 1) := by decide +kernel
theorem dX5_lengthOf_1 : decode cX5_lengthOf 1 = .ok (.iload_n 1, 1) := by decide +kernel
theorem dX5_lengthOf_2 : decode cX5_lengthOf 2 = .ok (.invokevirtual 25, 3) := by decide +kernel
theorem dX5_lengthOf_5 : decode cX5_lengthOf 5 = .ok (.ifCond .eq 12, 3) := by decide +kernel
theorem dX5_lengthOf_8 : decode cX5_lengthOf 8 = .ok (.aload_n 0, 1) := by decide +kernel
theorem dX5_lengthOf_9 : decode cX5_lengthOf 9 = .ok (.getfield 9, 3) := by decide +kernel
theorem dX5_lengthOf_12 : decode cX5_lengthOf 12 = .ok (.iload_n 1, 1) := by decide +kernel
theorem dX5_lengthOf_13 : decode cX5_lengthOf 13 = .ok (.iaload, 1) := by decide +kernel
theorem dX5_lengthOf_14 : decode cX5_lengthOf 14 = .ok (.goto 4, 3) := by decide +kernel
theorem dX5_lengthOf_17 : decode cX5_lengthOf 17 = .ok (.iconst 0, 1) := by decide +kernel
theorem dX5_lengthOf_18 : decode cX5_lengthOf 18 = .ok (.ireturn, 1) := by decide +kernel
set_option maxRecDepth 20000 in
theorem ggX5_riggingOf_X5_isString : GoodIn wsX5_riggingOf wsX5_isString := goodIn_r _ [6, 7, 8, 9, 10, 11, 12] (by decide +kernel) (by decide +kernel)
set_option maxRecDepth 20000 in
theorem gX5_riggingOf_X5_isString : GoodIn wsX5_riggingOf (wsV RX5 25 RX5 yX5_isString wsX5_isString) := goodIn_app (goodIn_of _ (by decide +kernel)) ggX5_riggingOf_X5_isString
theorem dX5_riggingOf_0 : decode cX5_riggingOf 0 = .ok (.aload_n 0, 1) := by decide +kernel
theorem dX5_riggingOf_1 : decode cX5_riggingOf 1 = .ok (.iload_n 1, 1) := by decide +kernel
theorem dX5_riggingOf_2 : decode cX5_riggingOf 2 = .ok (.invokevirtual 25, 3) := by decide +kernel
theorem dX5_riggingOf_5 : decode cX5_riggingOf 5 = .ok (.ifCond .eq 12, 3) := by decide +kernel
theorem dX5_riggingOf_8 : decode cX5_riggingOf 8 = .ok (.aload_n 0, 1) := by decide +kernel
theorem dX5_riggingOf_9 : decode cX5_riggingOf 9 = .ok (.getfield 15, 3) := by decide +kernel
theorem dX5_riggingOf_12 : decode cX5_riggingOf 12 = .ok (.iload_n 1, 1) := by decide +kernel
theorem dX5_riggingOf_13 : decode cX5_riggingOf 13 = .ok (.iaload, 1) := by decide +kernel
theorem dX5_riggingOf_14 : decode cX5_riggingOf 14 = .ok (.goto 4, 3) := by decide +kernel
theorem dX5_riggingOf_17 : decode cX5_riggingOf 17 = .ok (.iconst 0, 1) := by decide +kernel
theorem dX5_riggingOf_18 : decode cX5_riggingOf 18 = .ok (.ireturn, 1) := by decide +kernel
theorem dX5_roomLeft_0 : decode cX5_roomLeft 0 = .ok (.iload_n 1, 1) := by decide +kernel
theorem dX5_roomLeft_1 : decode cX5_roomLeft 1 = .ok (.ifCond .lt 10, 3) := by decide +kernel
theorem dX5_roomLeft_4 : decode cX5_roomLeft 4 = .ok (.iload_n 1, 1) := by decide +kernel
theorem dX5_roomLeft_5 : decode cX5_roomLeft 5 = .ok (.sipush 240, 3) := by decide +kernel
theorem dX5_roomLeft_8 : decode cX5_roomLeft 8 = .ok (.if_icmp .le 5, 3) := by decide +kernel
theorem dX5_roomLeft_11 : decode cX5_roomLeft 11 = .ok (.iconst 0, 1) := by decide +kernel
theorem dX5_roomLeft_12 : decode cX5_roomLeft 12 = .ok (.ireturn, 1) := by decide +kernel
theorem dX5_roomLeft_13 : decode cX5_roomLeft 13 = .ok (.iload_n 2, 1) := by decide +kernel
theorem dX5_roomLeft_14 : decode cX5_roomLeft 14 = .ok (.iconst 2, 1) := by decide +kernel
theorem dX5_roomLeft_15 : decode cX5_roomLeft 15 = .ok (.aload_n 0, 1) := by decide +kernel
theorem dX5_roomLeft_16 : decode cX5_roomLeft 16 = .ok (.getfield 18, 3) := by decide +kernel
theorem dX5_roomLeft_19 : decode cX5_roomLeft 19 = .ok (.iload_n 1, 1) := by decide +kernel
theorem dX5_roomLeft_20 : decode cX5_roomLeft 20 = .ok (.iaload, 1) := by decide +kernel
theorem dX5_roomLeft_21 : decode cX5_roomLeft 21 = .ok (.imul, 1) := by decide +kernel
theorem dX5_roomLeft_22 : decode cX5_roomLeft 22 = .ok (.isub, 1) := by decide +kernel
theorem dX5_roomLeft_23 : decode cX5_roomLeft 23 = .ok (.ireturn, 1) := by decide +kernel
set_option maxRecDepth 20000 in
theorem ggX5_readFrom_X5_clear : GoodIn wsX5_readFrom wsX5_clear := goodIn_r _ [6, 7, 8, 60, 61, 62, 63, 64] (by decide +kernel) (by decide +kernel)
set_option maxRecDepth 20000 in
theorem gX5_readFrom_X5_clear : GoodIn wsX5_readFrom (wsV RX5 29 RX5 yX5_clear wsX5_clear) := goodIn_app (goodIn_of _ (by decide +kernel)) ggX5_readFrom_X5_clear
set_option maxRecDepth 20000 in
theorem ggX5_readFrom_X3_ballAt : GoodIn wsX5_readFrom wsX3_ballAt := goodIn_r _ [13, 14, 15, 16, 17, 65, 66] (by decide +kernel) (by decide +kernel)
set_option maxRecDepth 20000 in
theorem gX5_readFrom_X3_ballAt : GoodIn wsX5_readFrom (wsV RX5 32 RX3 yX3_ballAt wsX3_ballAt) := goodIn_app (goodIn_of _ (by decide +kernel)) ggX5_readFrom_X3_ballAt
set_option maxRecDepth 20000 in
theorem ggX5_readFrom_X5_takeBall : GoodIn wsX5_readFrom wsX5_takeBall := goodIn_r _ [21, 22, 23, 24, 25, 26, 5, 27, 7, 28, 29, 30, 31, 32, 33, 34, 35, 36, 37, 38, 39, 40, 41, 42, 43, 44, 45, 46, 47, 8, 48, 49, 50, 51, 52, 53, 54, 55, 56, 57, 58, 59, 60, 61, 62, 63, 64] (by decide +kernel) (by decide +kernel)
set_option maxRecDepth 20000 in
theorem gX5_readFrom_X5_takeBall : GoodIn wsX5_readFrom (wsV RX5 38 RX5 yX5_takeBall wsX5_takeBall) := goodIn_app (goodIn_of _ (by decide +kernel)) ggX5_readFrom_X5_takeBall
theorem dX5_readFrom_0 : decode cX5_readFrom 0 = .ok (.aload_n 0, 1) := by decide +kernel
theorem dX5_readFrom_1 : decode cX5_readFrom 1 = .ok (.invokevirtual 29, 3) := by decide +kernel
theorem dX5_readFrom_4 : decode cX5_readFrom 4 = .ok (.iconst 0, 1) := by decide +kernel
theorem dX5_readFrom_5 : decode cX5_readFrom 5 = .ok (.istore_n 3, 1) := by decide +kernel
theorem dX5_readFrom_6 : decode cX5_readFrom 6 = .ok (.iload_n 3, 1) := by decide +kernel
theorem dX5_readFrom_7 : decode cX5_readFrom 7 = .ok (.iload_n 2, 1) := by decide +kernel
theorem dX5_readFrom_8 : decode cX5_readFrom 8 = .ok (.if_icmp .ge 22, 3) := by decide +kernel
theorem dX5_readFrom_11 : decode cX5_readFrom 11 = .ok (.aload_n 1, 1) := by decide +kernel
theorem dX5_readFrom_12 : decode cX5_readFrom 12 = .ok (.iload_n 3, 1) := by decide +kernel
theorem dX5_readFrom_13 : decode cX5_readFrom 13 = .ok (.invokevirtual 32, 3) := by decide +kernel
theorem dX5_readFrom_16 : decode cX5_readFrom 16 = .ok (.ifCond .eq 8, 3) := by decide +kernel
theorem dX5_readFrom_19 : decode cX5_readFrom 19 = .ok (.aload_n 0, 1) := by decide +kernel
theorem dX5_readFrom_20 : decode cX5_readFrom 20 = .ok (.iload_n 3, 1) := by decide +kernel
theorem dX5_readFrom_21 : decode cX5_readFrom 21 = .ok (.invokevirtual 38, 3) := by decide +kernel
theorem dX5_readFrom_24 : decode cX5_readFrom 24 = .ok (.iinc 3 1, 3) := by decide +kernel
theorem dX5_readFrom_27 : decode cX5_readFrom 27 = .ok (.goto (-21), 3) := by decide +kernel
theorem dX5_readFrom_30 : decode cX5_readFrom 30 = .ok (.aload_n 0, 1) := by decide +kernel
theorem dX5_readFrom_31 : decode cX5_readFrom 31 = .ok (.iload_n 2, 1) := by decide +kernel
theorem dX5_readFrom_32 : decode cX5_readFrom 32 = .ok (.putfield 42, 3) := by decide +kernel
theorem dX5_readFrom_35 : decode cX5_readFrom 35 = .ok (.return_, 1) := by decide +kernel
set_option maxRecDepth 20000 in
theorem ggX5_makeInto_X5_giveBall : GoodIn wsX5_makeInto wsX5_giveBall := goodIn_r _ [6, 7, 8, 9, 10, 11, 5, 12, 1, 13, 14, 15, 16, 17, 18, 19, 20, 21, 22, 23, 24, 25, 26, 27, 28, 29, 30, 31, 32, 33, 34, 35, 36, 37, 38, 39, 40, 41, 42, 43, 44, 45, 46, 47, 48, 49, 59, 60, 61, 62, 63] (by decide +kernel) (by decide +kernel)
set_option maxRecDepth 20000 in
theorem gX5_makeInto_X5_giveBall : GoodIn wsX5_makeInto (wsV RX5 45 RX5 yX5_giveBall wsX5_giveBall) := goodIn_app (goodIn_of _ (by decide +kernel)) ggX5_makeInto_X5_giveBall
set_option maxRecDepth 20000 in
theorem ggX5_makeInto_X3_makeBox : GoodIn wsX5_makeInto wsX3_makeBox := goodIn_r _ [54, 55, 56, 57, 58, 64, 65] (by decide +kernel) (by decide +kernel)
set_option maxRecDepth 20000 in
theorem gX5_makeInto_X3_makeBox : GoodIn wsX5_makeInto (wsV RX5 48 RX3 yX3_makeBox wsX3_makeBox) := goodIn_app (goodIn_of _ (by decide +kernel)) ggX5_makeInto_X3_makeBox
theorem dX5_makeInto_0 : decode cX5_makeInto 0 = .ok (.sipush 239, 3) := by decide +kernel
theorem dX5_makeInto_3 : decode cX5_makeInto 3 = .ok (.istore_n 2, 1) := by decide +kernel
theorem dX5_makeInto_4 : decode cX5_makeInto 4 = .ok (.iload_n 2, 1) := by decide +kernel
theorem dX5_makeInto_5 : decode cX5_makeInto 5 = .ok (.ifCond .lt 19, 3) := by decide +kernel
theorem dX5_makeInto_8 : decode cX5_makeInto 8 = .ok (.aload_n 1, 1) := by decide +kernel
theorem dX5_makeInto_9 : decode cX5_makeInto 9 = .ok (.iload_n 2, 1) := by decide +kernel
theorem dX5_makeInto_10 : decode cX5_makeInto 10 = .ok (.aload_n 0, 1) := by decide +kernel
theorem dX5_makeInto_11 : decode cX5_makeInto 11 = .ok (.iload_n 2, 1) := by decide +kernel
theorem dX5_makeInto_12 : decode cX5_makeInto 12 = .ok (.invokevirtual 45, 3) := by decide +kernel
theorem dX5_makeInto_15 : decode cX5_makeInto 15 = .ok (.invokevirtual 48, 3) := by decide +kernel
theorem dX5_makeInto_18 : decode cX5_makeInto 18 = .ok (.iinc 2 (-1), 3) := by decide +kernel
theorem dX5_makeInto_21 : decode cX5_makeInto 21 = .ok (.goto (-17), 3) := by decide +kernel
theorem dX5_makeInto_24 : decode cX5_makeInto 24 = .ok (.aload_n 0, 1) := by decide +kernel
theorem dX5_makeInto_25 : decode cX5_makeInto 25 = .ok (.getfield 21, 3) := by decide +kernel
theorem dX5_makeInto_28 : decode cX5_makeInto 28 = .ok (.ifCond .ne 7, 3) := by decide +kernel
theorem dX5_makeInto_31 : decode cX5_makeInto 31 = .ok (.iconst 1, 1) := by decide +kernel
theorem dX5_makeInto_32 : decode cX5_makeInto 32 = .ok (.goto 4, 3) := by decide +kernel
theorem dX5_makeInto_35 : decode cX5_makeInto 35 = .ok (.iconst 0, 1) := by decide +kernel
theorem dX5_makeInto_36 : decode cX5_makeInto 36 = .ok (.ireturn, 1) := by decide +kernel
theorem dX5_addToRiggings_0 : decode cX5_addToRiggings 0 = .ok (.iconst 0, 1) := by decide +kernel
theorem dX5_addToRiggings_1 : decode cX5_addToRiggings 1 = .ok (.istore_n 3, 1) := by decide +kernel
theorem dX5_addToRiggings_2 : decode cX5_addToRiggings 2 = .ok (.iload_n 3, 1) := by decide +kernel
theorem dX5_addToRiggings_3 : decode cX5_addToRiggings 3 = .ok (.aload_n 0, 1) := by decide +kernel
theorem dX5_addToRiggings_4 : decode cX5_addToRiggings 4 = .ok (.getfield 21, 3) := by decide +kernel
theorem dX5_addToRiggings_7 : decode cX5_addToRiggings 7 = .ok (.if_icmp .ge 37, 3) := by decide +kernel
theorem dX5_addToRiggings_10 : decode cX5_addToRiggings 10 = .ok (.iload_n 3, 1) := by decide +kernel
theorem dX5_addToRiggings_11 : decode cX5_addToRiggings 11 = .ok (.sipush 240, 3) := by decide +kernel
theorem dX5_addToRiggings_14 : decode cX5_addToRiggings 14 = .ok (.if_icmp .ge 30, 3) := by decide +kernel
theorem dX5_addToRiggings_17 : decode cX5_addToRiggings 17 = .ok (.aload_n 0, 1) := by decide +kernel
theorem dX5_addToRiggings_18 : decode cX5_addToRiggings 18 = .ok (.getfield 15, 3) := by decide +kernel
theorem dX5_addToRiggings_21 : decode cX5_addToRiggings 21 = .ok (.iload_n 3, 1) := by decide +kernel
theorem dX5_addToRiggings_22 : decode cX5_addToRiggings 22 = .ok (.dup2, 1) := by decide +kernel
theorem dX5_addToRiggings_23 : decode cX5_addToRiggings 23 = .ok (.iaload, 1) := by decide +kernel
theorem dX5_addToRiggings_24 : decode cX5_addToRiggings 24 = .ok (.iload_n 2, 1) := by decide +kernel
theorem dX5_addToRiggings_25 : decode cX5_addToRiggings 25 = .ok (.iload_n 1, 1) := by decide +kernel
theorem dX5_addToRiggings_26 : decode cX5_addToRiggings 26 = .ok (.aload_n 0, 1) := by decide +kernel
theorem dX5_addToRiggings_27 : decode cX5_addToRiggings 27 = .ok (.getfield 9, 3) := by decide +kernel
theorem dX5_addToRiggings_30 : decode cX5_addToRiggings 30 = .ok (.iload_n 3, 1) := by decide +kernel
theorem dX5_addToRiggings_31 : decode cX5_addToRiggings 31 = .ok (.iaload, 1) := by decide +kernel
theorem dX5_addToRiggings_32 : decode cX5_addToRiggings 32 = .ok (.invokestatic 52, 3) := by decide +kernel
theorem dX5_addToRiggings_35 : decode cX5_addToRiggings 35 = .ok (.imul, 1) := by decide +kernel
theorem dX5_addToRiggings_36 : decode cX5_addToRiggings 36 = .ok (.iadd, 1) := by decide +kernel
theorem dX5_addToRiggings_37 : decode cX5_addToRiggings 37 = .ok (.iastore, 1) := by decide +kernel
theorem dX5_addToRiggings_38 : decode cX5_addToRiggings 38 = .ok (.iinc 3 1, 3) := by decide +kernel
theorem dX5_addToRiggings_41 : decode cX5_addToRiggings 41 = .ok (.goto (-39), 3) := by decide +kernel
theorem dX5_addToRiggings_44 : decode cX5_addToRiggings 44 = .ok (.return_, 1) := by decide +kernel
set_option maxRecDepth 20000 in
theorem ggX5_haveRoomBehind_X5_roomLeft : GoodIn wsX5_haveRoomBehind wsX5_roomLeft := goodIn_r _ [8, 9, 10, 11, 12, 13, 14] (by decide +kernel) (by decide +kernel)
set_option maxRecDepth 20000 in
theorem gX5_haveRoomBehind_X5_roomLeft : GoodIn wsX5_haveRoomBehind (wsV RX5 58 RX5 yX5_roomLeft wsX5_roomLeft) := goodIn_app (goodIn_of _ (by decide +kernel)) ggX5_haveRoomBehind_X5_roomLeft
theorem dX5_haveRoomBehind_0 : decode cX5_haveRoomBehind 0 = .ok (.iconst 0, 1) := by decide +kernel
theorem dX5_haveRoomBehind_1 : decode cX5_haveRoomBehind 1 = .ok (.istore_n 2, 1) := by decide +kernel
theorem dX5_haveRoomBehind_2 : decode cX5_haveRoomBehind 2 = .ok (.iload_n 2, 1) := by decide +kernel
theorem dX5_haveRoomBehind_3 : decode cX5_haveRoomBehind 3 = .ok (.aload_n 0, 1) := by decide +kernel
theorem dX5_haveRoomBehind_4 : decode cX5_haveRoomBehind 4 = .ok (.getfield 21, 3) := by decide +kernel
theorem dX5_haveRoomBehind_7 : decode cX5_haveRoomBehind 7 = .ok (.if_icmp .ge 38, 3) := by decide +kernel
theorem dX5_haveRoomBehind_10 : decode cX5_haveRoomBehind 10 = .ok (.iload_n 2, 1) := by decide +kernel
theorem dX5_haveRoomBehind_11 : decode cX5_haveRoomBehind 11 = .ok (.sipush 240, 3) := by decide +kernel
theorem dX5_haveRoomBehind_14 : decode cX5_haveRoomBehind 14 = .ok (.if_icmp .ge 31, 3) := by decide +kernel
theorem dX5_haveRoomBehind_17 : decode cX5_haveRoomBehind 17 = .ok (.aload_n 0, 1) := by decide +kernel
theorem dX5_haveRoomBehind_18 : decode cX5_haveRoomBehind 18 = .ok (.getfield 15, 3) := by decide +kernel
theorem dX5_haveRoomBehind_21 : decode cX5_haveRoomBehind 21 = .ok (.iload_n 2, 1) := by decide +kernel
theorem dX5_haveRoomBehind_22 : decode cX5_haveRoomBehind 22 = .ok (.iaload, 1) := by decide +kernel
theorem dX5_haveRoomBehind_23 : decode cX5_haveRoomBehind 23 = .ok (.aload_n 0, 1) := by decide +kernel
theorem dX5_haveRoomBehind_24 : decode cX5_haveRoomBehind 24 = .ok (.aload_n 0, 1) := by decide +kernel
theorem dX5_haveRoomBehind_25 : decode cX5_haveRoomBehind 25 = .ok (.getfield 9, 3) := by decide +kernel
theorem dX5_haveRoomBehind_28 : decode cX5_haveRoomBehind 28 = .ok (.iload_n 2, 1) := by decide +kernel
theorem dX5_haveRoomBehind_29 : decode cX5_haveRoomBehind 29 = .ok (.iaload, 1) := by decide +kernel
theorem dX5_haveRoomBehind_30 : decode cX5_haveRoomBehind 30 = .ok (.iload_n 1, 1) := by decide +kernel
theorem dX5_haveRoomBehind_31 : decode cX5_haveRoomBehind 31 = .ok (.invokevirtual 58, 3) := by decide +kernel
theorem dX5_haveRoomBehind_34 : decode cX5_haveRoomBehind 34 = .ok (.if_icmp .le 5, 3) := by decide +kernel
theorem dX5_haveRoomBehind_37 : decode cX5_haveRoomBehind 37 = .ok (.iconst 0, 1) := by decide +kernel
theorem dX5_haveRoomBehind_38 : decode cX5_haveRoomBehind 38 = .ok (.ireturn, 1) := by decide +kernel
theorem dX5_haveRoomBehind_39 : decode cX5_haveRoomBehind 39 = .ok (.iinc 2 1, 3) := by decide +kernel
theorem dX5_haveRoomBehind_42 : decode cX5_haveRoomBehind 42 = .ok (.goto (-40), 3) := by decide +kernel
theorem dX5_haveRoomBehind_45 : decode cX5_haveRoomBehind 45 = .ok (.iconst 1, 1) := by decide +kernel
theorem dX5_haveRoomBehind_46 : decode cX5_haveRoomBehind 46 = .ok (.ireturn, 1) := by decide +kernel
set_option maxRecDepth 20000 in
theorem ggX5_sort_X5_isBehind : GoodIn wsX5_sort wsX5_isBehind := goodIn_r _ [6, 7, 8, 9, 5, 10, 11, 12, 13, 14, 15, 1, 16, 17, 18, 19, 20, 25, 26, 27, 28, 29] (by decide +kernel) (by decide +kernel)
set_option maxRecDepth 20000 in
theorem gX5_sort_X5_isBehind : GoodIn wsX5_sort (wsV RX5 61 RX5 yX5_isBehind wsX5_isBehind) := goodIn_app (goodIn_of _ (by decide +kernel)) ggX5_sort_X5_isBehind
set_option maxRecDepth 20000 in
theorem ggX5_sort_X5_swap : GoodIn wsX5_sort wsX5_swap := goodIn_r _ [24, 11, 20, 12, 13, 14, 5, 15, 1, 25, 26, 27, 28, 29] (by decide +kernel) (by decide +kernel)
set_option maxRecDepth 20000 in
theorem gX5_sort_X5_swap : GoodIn wsX5_sort (wsV RX5 65 RX5 yX5_swap wsX5_swap) := goodIn_app (goodIn_of _ (by decide +kernel)) ggX5_sort_X5_swap
theorem dX5_sort_0 : decode cX5_sort 0 = .ok (.iconst 1, 1) := by decide +kernel
theorem dX5_sort_1 : decode cX5_sort 1 = .ok (.istore_n 1, 1) := by decide +kernel
theorem dX5_sort_2 : decode cX5_sort 2 = .ok (.iload_n 1, 1) := by decide +kernel
theorem dX5_sort_3 : decode cX5_sort 3 = .ok (.aload_n 0, 1) := by decide +kernel
theorem dX5_sort_4 : decode cX5_sort 4 = .ok (.getfield 21, 3) := by decide +kernel
theorem dX5_sort_7 : decode cX5_sort 7 = .ok (.if_icmp .ge 40, 3) := by decide +kernel
theorem dX5_sort_10 : decode cX5_sort 10 = .ok (.iload_n 1, 1) := by decide +kernel
theorem dX5_sort_11 : decode cX5_sort 11 = .ok (.istore_n 2, 1) := by decide +kernel
theorem dX5_sort_12 : decode cX5_sort 12 = .ok (.iload_n 2, 1) := by decide +kernel
theorem dX5_sort_13 : decode cX5_sort 13 = .ok (.ifCond .le 28, 3) := by decide +kernel
theorem dX5_sort_16 : decode cX5_sort 16 = .ok (.aload_n 0, 1) := by decide +kernel
theorem dX5_sort_17 : decode cX5_sort 17 = .ok (.iload_n 2, 1) := by decide +kernel
theorem dX5_sort_18 : decode cX5_sort 18 = .ok (.iconst 1, 1) := by decide +kernel
theorem dX5_sort_19 : decode cX5_sort 19 = .ok (.isub, 1) := by decide +kernel
theorem dX5_sort_20 : decode cX5_sort 20 = .ok (.iload_n 2, 1) := by decide +kernel
theorem dX5_sort_21 : decode cX5_sort 21 = .ok (.invokevirtual 61, 3) := by decide +kernel
theorem dX5_sort_24 : decode cX5_sort 24 = .ok (.ifCond .eq 17, 3) := by decide +kernel
theorem dX5_sort_27 : decode cX5_sort 27 = .ok (.aload_n 0, 1) := by decide +kernel
theorem dX5_sort_28 : decode cX5_sort 28 = .ok (.iload_n 2, 1) := by decide +kernel
theorem dX5_sort_29 : decode cX5_sort 29 = .ok (.iconst 1, 1) := by decide +kernel
theorem dX5_sort_30 : decode cX5_sort 30 = .ok (.isub, 1) := by decide +kernel
theorem dX5_sort_31 : decode cX5_sort 31 = .ok (.iload_n 2, 1) := by decide +kernel
theorem dX5_sort_32 : decode cX5_sort 32 = .ok (.invokevirtual 65, 3) := by decide +kernel
theorem dX5_sort_35 : decode cX5_sort 35 = .ok (.iinc 2 (-1), 3) := by decide +kernel
theorem dX5_sort_38 : decode cX5_sort 38 = .ok (.goto (-26), 3) := by decide +kernel
theorem dX5_sort_41 : decode cX5_sort 41 = .ok (.iinc 1 1, 3) := by decide +kernel
theorem dX5_sort_44 : decode cX5_sort 44 = .ok (.goto (-42), 3) := by decide +kernel
theorem dX5_sort_47 : decode cX5_sort 47 = .ok (.return_, 1) := by decide +kernel
theorem dX5_clear_0 : decode cX5_clear 0 = .ok (.aload_n 0, 1) := by decide +kernel
theorem dX5_clear_1 : decode cX5_clear 1 = .ok (.iconst 0, 1) := by decide +kernel
theorem dX5_clear_2 : decode cX5_clear 2 = .ok (.putfield 21, 3) := by decide +kernel
theorem dX5_clear_5 : decode cX5_clear 5 = .ok (.iconst 0, 1) := by decide +kernel
theorem dX5_clear_6 : decode cX5_clear 6 = .ok (.istore_n 1, 1) := by decide +kernel
theorem dX5_clear_7 : decode cX5_clear 7 = .ok (.iload_n 1, 1) := by decide +kernel
theorem dX5_clear_8 : decode cX5_clear 8 = .ok (.sipush 240, 3) := by decide +kernel
theorem dX5_clear_11 : decode cX5_clear 11 = .ok (.if_icmp .gt 16, 3) := by decide +kernel
theorem dX5_clear_14 : decode cX5_clear 14 = .ok (.aload_n 0, 1) := by decide +kernel
theorem dX5_clear_15 : decode cX5_clear 15 = .ok (.getfield 18, 3) := by decide +kernel
theorem dX5_clear_18 : decode cX5_clear 18 = .ok (.iload_n 1, 1) := by decide +kernel
theorem dX5_clear_19 : decode cX5_clear 19 = .ok (.iconst 0, 1) := by decide +kernel
theorem dX5_clear_20 : decode cX5_clear 20 = .ok (.iastore, 1) := by decide +kernel
theorem dX5_clear_21 : decode cX5_clear 21 = .ok (.iinc 1 1, 3) := by decide +kernel
theorem dX5_clear_24 : decode cX5_clear 24 = .ok (.goto (-17), 3) := by decide +kernel
theorem dX5_clear_27 : decode cX5_clear 27 = .ok (.return_, 1) := by decide +kernel
set_option maxRecDepth 20000 in
theorem ggX5_takeBall_X5_longestTight : GoodIn wsX5_takeBall wsX5_longestTight := goodIn_r _ [7, 8, 1, 9, 10, 11, 6, 12, 13, 14, 15, 16, 2, 17, 18, 19, 20, 21, 22, 23, 24, 25, 26, 27, 28, 29, 42, 43, 44, 45, 46] (by decide +kernel) (by decide +kernel)
set_option maxRecDepth 20000 in
theorem gX5_takeBall_X5_longestTight : GoodIn wsX5_takeBall (wsV RX5 68 RX5 yX5_longestTight wsX5_longestTight) := goodIn_app (goodIn_of _ (by decide +kernel)) ggX5_takeBall_X5_longestTight
set_option maxRecDepth 20000 in
theorem ggX5_takeBall_X5_addString : GoodIn wsX5_takeBall wsX5_addString := goodIn_r _ [33, 8, 1, 42, 43, 44, 45, 46] (by decide +kernel) (by decide +kernel)
set_option maxRecDepth 20000 in
theorem gX5_takeBall_X5_addString : GoodIn wsX5_takeBall (wsV RX5 71 RX5 yX5_addString wsX5_addString) := goodIn_app (goodIn_of _ (by decide +kernel)) ggX5_takeBall_X5_addString
set_option maxRecDepth 20000 in
theorem ggX5_takeBall_X5_isString : GoodIn wsX5_takeBall wsX5_isString := goodIn_r _ [20, 8, 42, 43, 44, 45, 46] (by decide +kernel) (by decide +kernel)
set_option maxRecDepth 20000 in
theorem gX5_takeBall_X5_isString : GoodIn wsX5_takeBall (wsV RX5 25 RX5 yX5_isString wsX5_isString) := goodIn_app (goodIn_of _ (by decide +kernel)) ggX5_takeBall_X5_isString
set_option maxRecDepth 20000 in
theorem ggX5_takeBall_X5_addToSums : GoodIn wsX5_takeBall wsX5_addToSums := goodIn_r _ [37, 38, 39, 40, 41, 29, 42, 43, 44, 45, 46] (by decide +kernel) (by decide +kernel)
set_option maxRecDepth 20000 in
theorem gX5_takeBall_X5_addToSums : GoodIn wsX5_takeBall (wsV RX5 75 RX5 yX5_addToSums wsX5_addToSums) := goodIn_app (goodIn_of _ (by decide +kernel)) ggX5_takeBall_X5_addToSums
set_option maxRecDepth 20000 in
theorem ggX5_takeBall_X5_roomLeft : GoodIn wsX5_takeBall wsX5_roomLeft := goodIn_r _ [28, 29, 42, 43, 44, 45, 46] (by decide +kernel) (by decide +kernel)
set_option maxRecDepth 20000 in
theorem gX5_takeBall_X5_roomLeft : GoodIn wsX5_takeBall (wsV RX5 58 RX5 yX5_roomLeft wsX5_roomLeft) := goodIn_app (goodIn_of _ (by decide +kernel)) ggX5_takeBall_X5_roomLeft
theorem dX5_takeBall_0 : decode cX5_takeBall 0 = .ok (.aload_n 0, 1) := by decide +kernel
theorem dX5_takeBall_1 : decode cX5_takeBall 1 = .ok (.iload_n 1, 1) := by decide +kernel
theorem dX5_takeBall_2 : decode cX5_takeBall 2 = .ok (.invokevirtual 68, 3) := by decide +kernel
theorem dX5_takeBall_5 : decode cX5_takeBall 5 = .ok (.istore_n 2, 1) := by decide +kernel
theorem dX5_takeBall_6 : decode cX5_takeBall 6 = .ok (.iload_n 2, 1) := by decide +kernel
theorem dX5_takeBall_7 : decode cX5_takeBall 7 = .ok (.iconst (-1), 1) := by decide +kernel
theorem dX5_takeBall_8 : decode cX5_takeBall 8 = .ok (.if_icmp .ne 8, 3) := by decide +kernel
theorem dX5_takeBall_11 : decode cX5_takeBall 11 = .ok (.aload_n 0, 1) := by decide +kernel
theorem dX5_takeBall_12 : decode cX5_takeBall 12 = .ok (.invokevirtual 71, 3) := by decide +kernel
theorem dX5_takeBall_15 : decode cX5_takeBall 15 = .ok (.istore_n 2, 1) := by decide +kernel
theorem dX5_takeBall_16 : decode cX5_takeBall 16 = .ok (.aload_n 0, 1) := by decide +kernel
theorem dX5_takeBall_17 : decode cX5_takeBall 17 = .ok (.iload_n 2, 1) := by decide +kernel
theorem dX5_takeBall_18 : decode cX5_takeBall 18 = .ok (.invokevirtual 25, 3) := by decide +kernel
theorem dX5_takeBall_21 : decode cX5_takeBall 21 = .ok (.ifCond .ne 4, 3) := by decide +kernel
theorem dX5_takeBall_24 : decode cX5_takeBall 24 = .ok (.return_, 1) := by decide +kernel
theorem dX5_takeBall_25 : decode cX5_takeBall 25 = .ok (.aload_n 0, 1) := by decide +kernel
theorem dX5_takeBall_26 : decode cX5_takeBall 26 = .ok (.getfield 9, 3) := by decide +kernel
theorem dX5_takeBall_29 : decode cX5_takeBall 29 = .ok (.iload_n 2, 1) := by decide +kernel
theorem dX5_takeBall_30 : decode cX5_takeBall 30 = .ok (.dup2, 1) := by decide +kernel
theorem dX5_takeBall_31 : decode cX5_takeBall 31 = .ok (.iaload, 1) := by decide +kernel
theorem dX5_takeBall_32 : decode cX5_takeBall 32 = .ok (.iconst 1, 1) := by decide +kernel
theorem dX5_takeBall_33 : decode cX5_takeBall 33 = .ok (.iadd, 1) := by decide +kernel
theorem dX5_takeBall_34 : decode cX5_takeBall 34 = .ok (.iastore, 1) := by decide +kernel
theorem dX5_takeBall_35 : decode cX5_takeBall 35 = .ok (.aload_n 0, 1) := by decide +kernel
theorem dX5_takeBall_36 : decode cX5_takeBall 36 = .ok (.aload_n 0, 1) := by decide +kernel
theorem dX5_takeBall_37 : decode cX5_takeBall 37 = .ok (.getfield 9, 3) := by decide +kernel
theorem dX5_takeBall_40 : decode cX5_takeBall 40 = .ok (.iload_n 2, 1) := by decide +kernel
theorem dX5_takeBall_41 : decode cX5_takeBall 41 = .ok (.iaload, 1) := by decide +kernel
theorem dX5_takeBall_42 : decode cX5_takeBall 42 = .ok (.iconst 1, 1) := by decide +kernel
theorem dX5_takeBall_43 : decode cX5_takeBall 43 = .ok (.invokevirtual 75, 3) := by decide +kernel
theorem dX5_takeBall_46 : decode cX5_takeBall 46 = .ok (.aload_n 0, 1) := by decide +kernel
theorem dX5_takeBall_47 : decode cX5_takeBall 47 = .ok (.getfield 15, 3) := by decide +kernel
theorem dX5_takeBall_50 : decode cX5_takeBall 50 = .ok (.iload_n 2, 1) := by decide +kernel
theorem dX5_takeBall_51 : decode cX5_takeBall 51 = .ok (.aload_n 0, 1) := by decide +kernel
theorem dX5_takeBall_52 : decode cX5_takeBall 52 = .ok (.aload_n 0, 1) := by decide +kernel
theorem dX5_takeBall_53 : decode cX5_takeBall 53 = .ok (.getfield 9, 3) := by decide +kernel
theorem dX5_takeBall_56 : decode cX5_takeBall 56 = .ok (.iload_n 2, 1) := by decide +kernel
theorem dX5_takeBall_57 : decode cX5_takeBall 57 = .ok (.iaload, 1) := by decide +kernel
theorem dX5_takeBall_58 : decode cX5_takeBall 58 = .ok (.iload_n 1, 1) := by decide +kernel
theorem dX5_takeBall_59 : decode cX5_takeBall 59 = .ok (.iconst 1, 1) := by decide +kernel
theorem dX5_takeBall_60 : decode cX5_takeBall 60 = .ok (.iadd, 1) := by decide +kernel
theorem dX5_takeBall_61 : decode cX5_takeBall 61 = .ok (.invokevirtual 58, 3) := by decide +kernel
theorem dX5_takeBall_64 : decode cX5_takeBall 64 = .ok (.iastore, 1) := by decide +kernel
theorem dX5_takeBall_65 : decode cX5_takeBall 65 = .ok (.return_, 1) := by decide +kernel
set_option maxRecDepth 20000 in
theorem ggX5_giveBall_X5_shortestTight : GoodIn wsX5_giveBall wsX5_shortestTight := goodIn_r _ [7, 8, 1, 9, 10, 11, 6, 12, 13, 14, 15, 16, 2, 17, 18, 19, 20, 21, 22, 23, 24, 25, 26, 27, 28, 29, 46, 47, 48, 49, 50] (by decide +kernel) (by decide +kernel)
set_option maxRecDepth 20000 in
theorem gX5_giveBall_X5_shortestTight : GoodIn wsX5_giveBall (wsV RX5 78 RX5 yX5_shortestTight wsX5_shortestTight) := goodIn_app (goodIn_of _ (by decide +kernel)) ggX5_giveBall_X5_shortestTight
set_option maxRecDepth 20000 in
theorem ggX5_giveBall_X5_isString : GoodIn wsX5_giveBall wsX5_isString := goodIn_r _ [20, 8, 46, 47, 48, 49, 50] (by decide +kernel) (by decide +kernel)
set_option maxRecDepth 20000 in
theorem gX5_giveBall_X5_isString : GoodIn wsX5_giveBall (wsV RX5 25 RX5 yX5_isString wsX5_isString) := goodIn_app (goodIn_of _ (by decide +kernel)) ggX5_giveBall_X5_isString
set_option maxRecDepth 20000 in
theorem ggX5_giveBall_X5_addToSums : GoodIn wsX5_giveBall wsX5_addToSums := goodIn_r _ [33, 34, 35, 36, 37, 29, 46, 47, 48, 49, 50] (by decide +kernel) (by decide +kernel)
set_option maxRecDepth 20000 in
theorem gX5_giveBall_X5_addToSums : GoodIn wsX5_giveBall (wsV RX5 75 RX5 yX5_addToSums wsX5_addToSums) := goodIn_app (goodIn_of _ (by decide +kernel)) ggX5_giveBall_X5_addToSums
set_option maxRecDepth 20000 in
theorem ggX5_giveBall_X5_removeString : GoodIn wsX5_giveBall wsX5_removeString := goodIn_r _ [41, 8, 42, 43, 44, 6, 45, 1, 2, 17, 18, 19, 20, 46, 47, 48, 49, 50] (by decide +kernel) (by decide +kernel)
set_option maxRecDepth 20000 in
theorem gX5_giveBall_X5_removeString : GoodIn wsX5_giveBall (wsV RX5 81 RX5 yX5_removeString wsX5_removeString) := goodIn_app (goodIn_of _ (by decide +kernel)) ggX5_giveBall_X5_removeString
set_option maxRecDepth 20000 in
theorem ggX5_giveBall_X5_roomLeft : GoodIn wsX5_giveBall wsX5_roomLeft := goodIn_r _ [28, 29, 46, 47, 48, 49, 50] (by decide +kernel) (by decide +kernel)
set_option maxRecDepth 20000 in
theorem gX5_giveBall_X5_roomLeft : GoodIn wsX5_giveBall (wsV RX5 58 RX5 yX5_roomLeft wsX5_roomLeft) := goodIn_app (goodIn_of _ (by decide +kernel)) ggX5_giveBall_X5_roomLeft
theorem dX5_giveBall_0 : decode cX5_giveBall 0 = .ok (.aload_n 0, 1) := by decide +kernel
theorem dX5_giveBall_1 : decode cX5_giveBall 1 = .ok (.iload_n 1, 1) := by decide +kernel
theorem dX5_giveBall_2 : decode cX5_giveBall 2 = .ok (.iconst 1, 1) := by decide +kernel
theorem dX5_giveBall_3 : decode cX5_giveBall 3 = .ok (.iadd, 1) := by decide +kernel
theorem dX5_giveBall_4 : decode cX5_giveBall 4 = .ok (.invokevirtual 78, 3) := by decide +kernel
theorem dX5_giveBall_7 : decode cX5_giveBall 7 = .ok (.istore_n 2, 1) := by decide +kernel
theorem dX5_giveBall_8 : decode cX5_giveBall 8 = .ok (.aload_n 0, 1) := by decide +kernel
theorem dX5_giveBall_9 : decode cX5_giveBall 9 = .ok (.iload_n 2, 1) := by decide +kernel
theorem dX5_giveBall_10 : decode cX5_giveBall 10 = .ok (.invokevirtual 25, 3) := by decide +kernel
theorem dX5_giveBall_13 : decode cX5_giveBall 13 = .ok (.ifCond .ne 5, 3) := by decide +kernel
theorem dX5_giveBall_16 : decode cX5_giveBall 16 = .ok (.iconst 0, 1) := by decide +kernel
theorem dX5_giveBall_17 : decode cX5_giveBall 17 = .ok (.ireturn, 1) := by decide +kernel
theorem dX5_giveBall_18 : decode cX5_giveBall 18 = .ok (.aload_n 0, 1) := by decide +kernel
theorem dX5_giveBall_19 : decode cX5_giveBall 19 = .ok (.aload_n 0, 1) := by decide +kernel
theorem dX5_giveBall_20 : decode cX5_giveBall 20 = .ok (.getfield 9, 3) := by decide +kernel
theorem dX5_giveBall_23 : decode cX5_giveBall 23 = .ok (.iload_n 2, 1) := by decide +kernel
theorem dX5_giveBall_24 : decode cX5_giveBall 24 = .ok (.iaload, 1) := by decide +kernel
theorem dX5_giveBall_25 : decode cX5_giveBall 25 = .ok (.iconst (-1), 1) := by decide +kernel
theorem dX5_giveBall_26 : decode cX5_giveBall 26 = .ok (.invokevirtual 75, 3) := by decide +kernel
theorem dX5_giveBall_29 : decode cX5_giveBall 29 = .ok (.aload_n 0, 1) := by decide +kernel
theorem dX5_giveBall_30 : decode cX5_giveBall 30 = .ok (.getfield 9, 3) := by decide +kernel
theorem dX5_giveBall_33 : decode cX5_giveBall 33 = .ok (.iload_n 2, 1) := by decide +kernel
theorem dX5_giveBall_34 : decode cX5_giveBall 34 = .ok (.dup2, 1) := by decide +kernel
theorem dX5_giveBall_35 : decode cX5_giveBall 35 = .ok (.iaload, 1) := by decide +kernel
theorem dX5_giveBall_36 : decode cX5_giveBall 36 = .ok (.iconst 1, 1) := by decide +kernel
theorem dX5_giveBall_37 : decode cX5_giveBall 37 = .ok (.isub, 1) := by decide +kernel
theorem dX5_giveBall_38 : decode cX5_giveBall 38 = .ok (.iastore, 1) := by decide +kernel
theorem dX5_giveBall_39 : decode cX5_giveBall 39 = .ok (.aload_n 0, 1) := by decide +kernel
theorem dX5_giveBall_40 : decode cX5_giveBall 40 = .ok (.getfield 9, 3) := by decide +kernel
theorem dX5_giveBall_43 : decode cX5_giveBall 43 = .ok (.iload_n 2, 1) := by decide +kernel
theorem dX5_giveBall_44 : decode cX5_giveBall 44 = .ok (.iaload, 1) := by decide +kernel
theorem dX5_giveBall_45 : decode cX5_giveBall 45 = .ok (.ifCond .ne 11, 3) := by decide +kernel
theorem dX5_giveBall_48 : decode cX5_giveBall 48 = .ok (.aload_n 0, 1) := by decide +kernel
theorem dX5_giveBall_49 : decode cX5_giveBall 49 = .ok (.iload_n 2, 1) := by decide +kernel
theorem dX5_giveBall_50 : decode cX5_giveBall 50 = .ok (.invokevirtual 81, 3) := by decide +kernel
theorem dX5_giveBall_53 : decode cX5_giveBall 53 = .ok (.goto 20, 3) := by decide +kernel
theorem dX5_giveBall_56 : decode cX5_giveBall 56 = .ok (.aload_n 0, 1) := by decide +kernel
theorem dX5_giveBall_57 : decode cX5_giveBall 57 = .ok (.getfield 15, 3) := by decide +kernel
theorem dX5_giveBall_60 : decode cX5_giveBall 60 = .ok (.iload_n 2, 1) := by decide +kernel
theorem dX5_giveBall_61 : decode cX5_giveBall 61 = .ok (.aload_n 0, 1) := by decide +kernel
theorem dX5_giveBall_62 : decode cX5_giveBall 62 = .ok (.aload_n 0, 1) := by decide +kernel
theorem dX5_giveBall_63 : decode cX5_giveBall 63 = .ok (.getfield 9, 3) := by decide +kernel
theorem dX5_giveBall_66 : decode cX5_giveBall 66 = .ok (.iload_n 2, 1) := by decide +kernel
theorem dX5_giveBall_67 : decode cX5_giveBall 67 = .ok (.iaload, 1) := by decide +kernel
theorem dX5_giveBall_68 : decode cX5_giveBall 68 = .ok (.iload_n 1, 1) := by decide +kernel
theorem dX5_giveBall_69 : decode cX5_giveBall 69 = .ok (.invokevirtual 58, 3) := by decide +kernel
theorem dX5_giveBall_72 : decode cX5_giveBall 72 = .ok (.iastore, 1) := by decide +kernel
theorem dX5_giveBall_73 : decode cX5_giveBall 73 = .ok (.iconst 1, 1) := by decide +kernel
theorem dX5_giveBall_74 : decode cX5_giveBall 74 = .ok (.ireturn, 1) := by decide +kernel
theorem dX5_addToSums_0 : decode cX5_addToSums 0 = .ok (.iload_n 1, 1) := by decide +kernel
theorem dX5_addToSums_1 : decode cX5_addToSums 1 = .ok (.iconst 0, 1) := by decide +kernel
theorem dX5_addToSums_2 : decode cX5_addToSums 2 = .ok (.invokestatic 84, 3) := by decide +kernel
theorem dX5_addToSums_5 : decode cX5_addToSums 5 = .ok (.istore_n 3, 1) := by decide +kernel
theorem dX5_addToSums_6 : decode cX5_addToSums 6 = .ok (.iload_n 3, 1) := by decide +kernel
theorem dX5_addToSums_7 : decode cX5_addToSums 7 = .ok (.sipush 240, 3) := by decide +kernel
theorem dX5_addToSums_10 : decode cX5_addToSums 10 = .ok (.if_icmp .gt 19, 3) := by decide +kernel
theorem dX5_addToSums_13 : decode cX5_addToSums 13 = .ok (.aload_n 0, 1) := by decide +kernel
theorem dX5_addToSums_14 : decode cX5_addToSums 14 = .ok (.getfield 18, 3) := by decide +kernel
theorem dX5_addToSums_17 : decode cX5_addToSums 17 = .ok (.iload_n 3, 1) := by decide +kernel
theorem dX5_addToSums_18 : decode cX5_addToSums 18 = .ok (.dup2, 1) := by decide +kernel
theorem dX5_addToSums_19 : decode cX5_addToSums 19 = .ok (.iaload, 1) := by decide +kernel
theorem dX5_addToSums_20 : decode cX5_addToSums 20 = .ok (.iload_n 2, 1) := by decide +kernel
theorem dX5_addToSums_21 : decode cX5_addToSums 21 = .ok (.iadd, 1) := by decide +kernel
theorem dX5_addToSums_22 : decode cX5_addToSums 22 = .ok (.iastore, 1) := by decide +kernel
theorem dX5_addToSums_23 : decode cX5_addToSums 23 = .ok (.iinc 3 1, 3) := by decide +kernel
theorem dX5_addToSums_26 : decode cX5_addToSums 26 = .ok (.goto (-20), 3) := by decide +kernel
theorem dX5_addToSums_29 : decode cX5_addToSums 29 = .ok (.return_, 1) := by decide +kernel
set_option maxRecDepth 20000 in
theorem ggX5_isTight_X5_riggingOf : GoodIn wsX5_isTight wsX5_riggingOf := goodIn_r _ [5, 6, 7, 8, 9, 4, 10, 11, 22, 23, 24, 25, 26] (by decide +kernel) (by decide +kernel)
set_option maxRecDepth 20000 in
theorem gX5_isTight_X5_riggingOf : GoodIn wsX5_isTight (wsV RX5 87 RX5 yX5_riggingOf wsX5_riggingOf) := goodIn_app (goodIn_of _ (by decide +kernel)) ggX5_isTight_X5_riggingOf
set_option maxRecDepth 20000 in
theorem ggX5_isTight_X5_lengthOf : GoodIn wsX5_isTight wsX5_lengthOf := goodIn_r _ [15, 16, 7, 8, 9, 4, 10, 11, 22, 23, 24, 25, 26] (by decide +kernel) (by decide +kernel)
set_option maxRecDepth 20000 in
theorem gX5_isTight_X5_lengthOf : GoodIn wsX5_isTight (wsV RX5 90 RX5 yX5_lengthOf wsX5_lengthOf) := goodIn_app (goodIn_of _ (by decide +kernel)) ggX5_isTight_X5_lengthOf
set_option maxRecDepth 20000 in
theorem ggX5_isTight_X5_roomLeft : GoodIn wsX5_isTight wsX5_roomLeft := goodIn_r _ [20, 21, 22, 23, 24, 25, 26] (by decide +kernel) (by decide +kernel)
set_option maxRecDepth 20000 in
theorem gX5_isTight_X5_roomLeft : GoodIn wsX5_isTight (wsV RX5 58 RX5 yX5_roomLeft wsX5_roomLeft) := goodIn_app (goodIn_of _ (by decide +kernel)) ggX5_isTight_X5_roomLeft
theorem dX5_isTight_0 : decode cX5_isTight 0 = .ok (.aload_n 0, 1) := by decide +kernel
theorem dX5_isTight_1 : decode cX5_isTight 1 = .ok (.iload_n 1, 1) := by decide +kernel
theorem dX5_isTight_2 : decode cX5_isTight 2 = .ok (.invokevirtual 87, 3) := by decide +kernel
theorem dX5_isTight_5 : decode cX5_isTight 5 = .ok (.aload_n 0, 1) := by decide +kernel
theorem dX5_isTight_6 : decode cX5_isTight 6 = .ok (.aload_n 0, 1) := by decide +kernel
theorem dX5_isTight_7 : decode cX5_isTight 7 = .ok (.iload_n 1, 1) := by decide +kernel
theorem dX5_isTight_8 : decode cX5_isTight 8 = .ok (.invokevirtual 90, 3) := by decide +kernel
theorem dX5_isTight_11 : decode cX5_isTight 11 = .ok (.iload_n 2, 1) := by decide +kernel
theorem dX5_isTight_12 : decode cX5_isTight 12 = .ok (.invokevirtual 58, 3) := by decide +kernel
theorem dX5_isTight_15 : decode cX5_isTight 15 = .ok (.if_icmp .ne 7, 3) := by decide +kernel
theorem dX5_isTight_18 : decode cX5_isTight 18 = .ok (.iconst 1, 1) := by decide +kernel
theorem dX5_isTight_19 : decode cX5_isTight 19 = .ok (.goto 4, 3) := by decide +kernel
theorem dX5_isTight_22 : decode cX5_isTight 22 = .ok (.iconst 0, 1) := by decide +kernel
theorem dX5_isTight_23 : decode cX5_isTight 23 = .ok (.ireturn, 1) := by decide +kernel
set_option maxRecDepth 20000 in
theorem ggX5_longestTight_X5_isTight : GoodIn wsX5_longestTight wsX5_isTight := goodIn_r _ [7, 8, 9, 10, 6, 11, 12, 13, 14, 15, 16, 1, 17, 18, 19, 20, 2, 21, 22, 23, 24, 25, 26, 27, 28, 29, 30] (by decide +kernel) (by decide +kernel)
set_option maxRecDepth 20000 in
theorem gX5_longestTight_X5_isTight : GoodIn wsX5_longestTight (wsV RX5 93 RX5 yX5_isTight wsX5_isTight) := goodIn_app (goodIn_of _ (by decide +kernel)) ggX5_longestTight_X5_isTight
set_option maxRecDepth 20000 in
theorem ggX5_longestTight_X5_lengthOf : GoodIn wsX5_longestTight wsX5_lengthOf := goodIn_r _ [20, 2, 13, 14, 15, 6, 16, 1, 26, 27, 28, 29, 30] (by decide +kernel) (by decide +kernel)
set_option maxRecDepth 20000 in
theorem gX5_longestTight_X5_lengthOf : GoodIn wsX5_longestTight (wsV RX5 90 RX5 yX5_lengthOf wsX5_lengthOf) := goodIn_app (goodIn_of _ (by decide +kernel)) ggX5_longestTight_X5_lengthOf
theorem dX5_longestTight_0 : decode cX5_longestTight 0 = .ok (.iconst (-1), 1) := by decide +kernel
theorem dX5_longestTight_1 : decode cX5_longestTight 1 = .ok (.istore_n 2, 1) := by decide +kernel
theorem dX5_longestTight_2 : decode cX5_longestTight 2 = .ok (.iconst 0, 1) := by decide +kernel
theorem dX5_longestTight_3 : decode cX5_longestTight 3 = .ok (.istore_n 3, 1) := by decide +kernel
theorem dX5_longestTight_4 : decode cX5_longestTight 4 = .ok (.iload_n 3, 1) := by decide +kernel
theorem dX5_longestTight_5 : decode cX5_longestTight 5 = .ok (.aload_n 0, 1) := by decide +kernel
theorem dX5_longestTight_6 : decode cX5_longestTight 6 = .ok (.getfield 21, 3) := by decide +kernel
theorem dX5_longestTight_9 : decode cX5_longestTight 9 = .ok (.if_icmp .ge 46, 3) := by decide +kernel
theorem dX5_longestTight_12 : decode cX5_longestTight 12 = .ok (.iload_n 3, 1) := by decide +kernel
theorem dX5_longestTight_13 : decode cX5_longestTight 13 = .ok (.sipush 240, 3) := by decide +kernel
theorem dX5_longestTight_16 : decode cX5_longestTight 16 = .ok (.if_icmp .ge 39, 3) := by decide +kernel
theorem dX5_longestTight_19 : decode cX5_longestTight 19 = .ok (.aload_n 0, 1) := by decide +kernel
theorem dX5_longestTight_20 : decode cX5_longestTight 20 = .ok (.iload_n 3, 1) := by decide +kernel
theorem dX5_longestTight_21 : decode cX5_longestTight 21 = .ok (.iload_n 1, 1) := by decide +kernel
theorem dX5_longestTight_22 : decode cX5_longestTight 22 = .ok (.invokevirtual 93, 3) := by decide +kernel
theorem dX5_longestTight_25 : decode cX5_longestTight 25 = .ok (.ifCond .eq 24, 3) := by decide +kernel
theorem dX5_longestTight_28 : decode cX5_longestTight 28 = .ok (.iload_n 2, 1) := by decide +kernel
theorem dX5_longestTight_29 : decode cX5_longestTight 29 = .ok (.iconst (-1), 1) := by decide +kernel
theorem dX5_longestTight_30 : decode cX5_longestTight 30 = .ok (.if_icmp .eq 17, 3) := by decide +kernel
theorem dX5_longestTight_33 : decode cX5_longestTight 33 = .ok (.aload_n 0, 1) := by decide +kernel
theorem dX5_longestTight_34 : decode cX5_longestTight 34 = .ok (.getfield 9, 3) := by decide +kernel
theorem dX5_longestTight_37 : decode cX5_longestTight 37 = .ok (.iload_n 3, 1) := by decide +kernel
theorem dX5_longestTight_38 : decode cX5_longestTight 38 = .ok (.iaload, 1) := by decide +kernel
theorem dX5_longestTight_39 : decode cX5_longestTight 39 = .ok (.aload_n 0, 1) := by decide +kernel
theorem dX5_longestTight_40 : decode cX5_longestTight 40 = .ok (.iload_n 2, 1) := by decide +kernel
theorem dX5_longestTight_41 : decode cX5_longestTight 41 = .ok (.invokevirtual 90, 3) := by decide +kernel
theorem dX5_longestTight_44 : decode cX5_longestTight 44 = .ok (.if_icmp .le 5, 3) := by decide +kernel
theorem dX5_longestTight_47 : decode cX5_longestTight 47 = .ok (.iload_n 3, 1) := by decide +kernel
theorem dX5_longestTight_48 : decode cX5_longestTight 48 = .ok (.istore_n 2, 1) := by decide +kernel
theorem dX5_longestTight_49 : decode cX5_longestTight 49 = .ok (.iinc 3 1, 3) := by decide +kernel
theorem dX5_longestTight_52 : decode cX5_longestTight 52 = .ok (.goto (-48), 3) := by decide +kernel
theorem dX5_longestTight_55 : decode cX5_longestTight 55 = .ok (.iload_n 2, 1) := by decide +kernel
theorem dX5_longestTight_56 : decode cX5_longestTight 56 = .ok (.ireturn, 1) := by decide +kernel
set_option maxRecDepth 20000 in
theorem ggX5_shortestTight_X5_isTight : GoodIn wsX5_shortestTight wsX5_isTight := goodIn_r _ [7, 8, 9, 10, 6, 11, 12, 13, 14, 15, 16, 1, 17, 18, 19, 20, 2, 21, 22, 23, 24, 25, 26, 27, 28, 29, 30] (by decide +kernel) (by decide +kernel)
set_option maxRecDepth 20000 in
theorem gX5_shortestTight_X5_isTight : GoodIn wsX5_shortestTight (wsV RX5 93 RX5 yX5_isTight wsX5_isTight) := goodIn_app (goodIn_of _ (by decide +kernel)) ggX5_shortestTight_X5_isTight
set_option maxRecDepth 20000 in
theorem ggX5_shortestTight_X5_lengthOf : GoodIn wsX5_shortestTight wsX5_lengthOf := goodIn_r _ [20, 2, 13, 14, 15, 6, 16, 1, 26, 27, 28, 29, 30] (by decide +kernel) (by decide +kernel)
set_option maxRecDepth 20000 in
theorem gX5_shortestTight_X5_lengthOf : GoodIn wsX5_shortestTight (wsV RX5 90 RX5 yX5_lengthOf wsX5_lengthOf) := goodIn_app (goodIn_of _ (by decide +kernel)) ggX5_shortestTight_X5_lengthOf
theorem dX5_shortestTight_0 : decode cX5_shortestTight 0 = .ok (.iconst (-1), 1) := by decide +kernel
theorem dX5_shortestTight_1 : decode cX5_shortestTight 1 = .ok (.istore_n 2, 1) := by decide +kernel
theorem dX5_shortestTight_2 : decode cX5_shortestTight 2 = .ok (.iconst 0, 1) := by decide +kernel
theorem dX5_shortestTight_3 : decode cX5_shortestTight 3 = .ok (.istore_n 3, 1) := by decide +kernel
theorem dX5_shortestTight_4 : decode cX5_shortestTight 4 = .ok (.iload_n 3, 1) := by decide +kernel
theorem dX5_shortestTight_5 : decode cX5_shortestTight 5 = .ok (.aload_n 0, 1) := by decide +kernel
theorem dX5_shortestTight_6 : decode cX5_shortestTight 6 = .ok (.getfield 21, 3) := by decide +kernel
theorem dX5_shortestTight_9 : decode cX5_shortestTight 9 = .ok (.if_icmp .ge 46, 3) := by decide +kernel
theorem dX5_shortestTight_12 : decode cX5_shortestTight 12 = .ok (.iload_n 3, 1) := by decide +kernel
theorem dX5_shortestTight_13 : decode cX5_shortestTight 13 = .ok (.sipush 240, 3) := by decide +kernel
theorem dX5_shortestTight_16 : decode cX5_shortestTight 16 = .ok (.if_icmp .ge 39, 3) := by decide +kernel
theorem dX5_shortestTight_19 : decode cX5_shortestTight 19 = .ok (.aload_n 0, 1) := by decide +kernel
theorem dX5_shortestTight_20 : decode cX5_shortestTight 20 = .ok (.iload_n 3, 1) := by decide +kernel
theorem dX5_shortestTight_21 : decode cX5_shortestTight 21 = .ok (.iload_n 1, 1) := by decide +kernel
theorem dX5_shortestTight_22 : decode cX5_shortestTight 22 = .ok (.invokevirtual 93, 3) := by decide +kernel
theorem dX5_shortestTight_25 : decode cX5_shortestTight 25 = .ok (.ifCond .eq 24, 3) := by decide +kernel
theorem dX5_shortestTight_28 : decode cX5_shortestTight 28 = .ok (.iload_n 2, 1) := by decide +kernel
theorem dX5_shortestTight_29 : decode cX5_shortestTight 29 = .ok (.iconst (-1), 1) := by decide +kernel
theorem dX5_shortestTight_30 : decode cX5_shortestTight 30 = .ok (.if_icmp .eq 17, 3) := by decide +kernel
theorem dX5_shortestTight_33 : decode cX5_shortestTight 33 = .ok (.aload_n 0, 1) := by decide +kernel
theorem dX5_shortestTight_34 : decode cX5_shortestTight 34 = .ok (.getfield 9, 3) := by decide +kernel
theorem dX5_shortestTight_37 : decode cX5_shortestTight 37 = .ok (.iload_n 3, 1) := by decide +kernel
theorem dX5_shortestTight_38 : decode cX5_shortestTight 38 = .ok (.iaload, 1) := by decide +kernel
theorem dX5_shortestTight_39 : decode cX5_shortestTight 39 = .ok (.aload_n 0, 1) := by decide +kernel
theorem dX5_shortestTight_40 : decode cX5_shortestTight 40 = .ok (.iload_n 2, 1) := by decide +kernel
theorem dX5_shortestTight_41 : decode cX5_shortestTight 41 = .ok (.invokevirtual 90, 3) := by decide +kernel
theorem dX5_shortestTight_44 : decode cX5_shortestTight 44 = .ok (.if_icmp .ge 5, 3) := by decide +kernel
theorem dX5_shortestTight_47 : decode cX5_shortestTight 47 = .ok (.iload_n 3, 1) := by decide +kernel
theorem dX5_shortestTight_48 : decode cX5_shortestTight 48 = .ok (.istore_n 2, 1) := by decide +kernel
theorem dX5_shortestTight_49 : decode cX5_shortestTight 49 = .ok (.iinc 3 1, 3) := by decide +kernel
theorem dX5_shortestTight_52 : decode cX5_shortestTight 52 = .ok (.goto (-48), 3) := by decide +kernel
theorem dX5_shortestTight_55 : decode cX5_shortestTight 55 = .ok (.iload_n 2, 1) := by decide +kernel
theorem dX5_shortestTight_56 : decode cX5_shortestTight 56 = .ok (.ireturn, 1) := by decide +kernel
theorem dX5_addString_0 : decode cX5_addString 0 = .ok (.aload_n 0, 1) := by decide +kernel
theorem dX5_addString_1 : decode cX5_addString 1 = .ok (.getfield 21, 3) := by decide +kernel
theorem dX5_addString_4 : decode cX5_addString 4 = .ok (.sipush 240, 3) := by decide +kernel
theorem dX5_addString_7 : decode cX5_addString 7 = .ok (.if_icmp .lt 5, 3) := by decide +kernel
theorem dX5_addString_10 : decode cX5_addString 10 = .ok (.iconst (-1), 1) := by decide +kernel
theorem dX5_addString_11 : decode cX5_addString 11 = .ok (.ireturn, 1) := by decide +kernel
theorem dX5_addString_12 : decode cX5_addString 12 = .ok (.aload_n 0, 1) := by decide +kernel
theorem dX5_addString_13 : decode cX5_addString 13 = .ok (.getfield 9, 3) := by decide +kernel
theorem dX5_addString_16 : decode cX5_addString 16 = .ok (.aload_n 0, 1) := by decide +kernel
theorem dX5_addString_17 : decode cX5_addString 17 = .ok (.getfield 21, 3) := by decide +kernel
theorem dX5_addString_20 : decode cX5_addString 20 = .ok (.iconst 0, 1) := by decide +kernel
theorem dX5_addString_21 : decode cX5_addString 21 = .ok (.iastore, 1) := by decide +kernel
theorem dX5_addString_22 : decode cX5_addString 22 = .ok (.aload_n 0, 1) := by decide +kernel
theorem dX5_addString_23 : decode cX5_addString 23 = .ok (.dup, 1) := by decide +kernel
theorem dX5_addString_24 : decode cX5_addString 24 = .ok (.getfield 21, 3) := by decide +kernel
theorem dX5_addString_27 : decode cX5_addString 27 = .ok (.iconst 1, 1) := by decide +kernel
theorem dX5_addString_28 : decode cX5_addString 28 = .ok (.iadd, 1) := by decide +kernel
theorem dX5_addString_29 : decode cX5_addString 29 = .ok (.putfield 21, 3) := by decide +kernel
theorem dX5_addString_32 : decode cX5_addString 32 = .ok (.aload_n 0, 1) := by decide +kernel
theorem dX5_addString_33 : decode cX5_addString 33 = .ok (.getfield 21, 3) := by decide +kernel
theorem dX5_addString_36 : decode cX5_addString 36 = .ok (.iconst 1, 1) := by decide +kernel
theorem dX5_addString_37 : decode cX5_addString 37 = .ok (.isub, 1) := by decide +kernel
theorem dX5_addString_38 : decode cX5_addString 38 = .ok (.ireturn, 1) := by decide +kernel
set_option maxRecDepth 20000 in
theorem ggX5_removeString_X5_swap : GoodIn wsX5_removeString wsX5_swap := goodIn_r _ [6, 7, 8, 9, 10, 11, 5, 12, 1, 13, 14, 15, 16, 17] (by decide +kernel) (by decide +kernel)
set_option maxRecDepth 20000 in
theorem gX5_removeString_X5_swap : GoodIn wsX5_removeString (wsV RX5 65 RX5 yX5_swap wsX5_swap) := goodIn_app (goodIn_of _ (by decide +kernel)) ggX5_removeString_X5_swap
theorem dX5_removeString_0 : decode cX5_removeString 0 = .ok (.aload_n 0, 1) := by decide +kernel
theorem dX5_removeString_1 : decode cX5_removeString 1 = .ok (.iload_n 1, 1) := by decide +kernel
theorem dX5_removeString_2 : decode cX5_removeString 2 = .ok (.aload_n 0, 1) := by decide +kernel
theorem dX5_removeString_3 : decode cX5_removeString 3 = .ok (.getfield 21, 3) := by decide +kernel
theorem dX5_removeString_6 : decode cX5_removeString 6 = .ok (.iconst 1, 1) := by decide +kernel
theorem dX5_removeString_7 : decode cX5_removeString 7 = .ok (.isub, 1) := by decide +kernel
theorem dX5_removeString_8 : decode cX5_removeString 8 = .ok (.invokevirtual 65, 3) := by decide +kernel
theorem dX5_removeString_11 : decode cX5_removeString 11 = .ok (.aload_n 0, 1) := by decide +kernel
theorem dX5_removeString_12 : decode cX5_removeString 12 = .ok (.dup, 1) := by decide +kernel
theorem dX5_removeString_13 : decode cX5_removeString 13 = .ok (.getfield 21, 3) := by decide +kernel
theorem dX5_removeString_16 : decode cX5_removeString 16 = .ok (.iconst 1, 1) := by decide +kernel
theorem dX5_removeString_17 : decode cX5_removeString 17 = .ok (.isub, 1) := by decide +kernel
theorem dX5_removeString_18 : decode cX5_removeString 18 = .ok (.putfield 21, 3) := by decide +kernel
theorem dX5_removeString_21 : decode cX5_removeString 21 = .ok (.return_, 1) := by decide +kernel
set_option maxRecDepth 20000 in
theorem ggX5_isBehind_X5_lengthOf : GoodIn wsX5_isBehind wsX5_lengthOf := goodIn_r _ [5, 6, 7, 8, 9, 4, 10, 11, 17, 18, 19, 20, 21] (by decide +kernel) (by decide +kernel)
set_option maxRecDepth 20000 in
theorem gX5_isBehind_X5_lengthOf : GoodIn wsX5_isBehind (wsV RX5 90 RX5 yX5_lengthOf wsX5_lengthOf) := goodIn_app (goodIn_of _ (by decide +kernel)) ggX5_isBehind_X5_lengthOf
set_option maxRecDepth 20000 in
theorem ggX5_isBehind_X5_riggingOf : GoodIn wsX5_isBehind wsX5_riggingOf := goodIn_r _ [15, 16, 7, 8, 9, 4, 10, 11, 17, 18, 19, 20, 21] (by decide +kernel) (by decide +kernel)
set_option maxRecDepth 20000 in
theorem gX5_isBehind_X5_riggingOf : GoodIn wsX5_isBehind (wsV RX5 87 RX5 yX5_riggingOf wsX5_riggingOf) := goodIn_app (goodIn_of _ (by decide +kernel)) ggX5_isBehind_X5_riggingOf
theorem dX5_isBehind_0 : decode cX5_isBehind 0 = .ok (.aload_n 0, 1) := by decide +kernel
theorem dX5_isBehind_1 : decode cX5_isBehind 1 = .ok (.iload_n 1, 1) := by decide +kernel
theorem dX5_isBehind_2 : decode cX5_isBehind 2 = .ok (.invokevirtual 90, 3) := by decide +kernel
theorem dX5_isBehind_5 : decode cX5_isBehind 5 = .ok (.aload_n 0, 1) := by decide +kernel
theorem dX5_isBehind_6 : decode cX5_isBehind 6 = .ok (.iload_n 2, 1) := by decide +kernel
theorem dX5_isBehind_7 : decode cX5_isBehind 7 = .ok (.invokevirtual 90, 3) := by decide +kernel
theorem dX5_isBehind_10 : decode cX5_isBehind 10 = .ok (.if_icmp .eq 22, 3) := by decide +kernel
theorem dX5_isBehind_13 : decode cX5_isBehind 13 = .ok (.aload_n 0, 1) := by decide +kernel
theorem dX5_isBehind_14 : decode cX5_isBehind 14 = .ok (.iload_n 1, 1) := by decide +kernel
theorem dX5_isBehind_15 : decode cX5_isBehind 15 = .ok (.invokevirtual 90, 3) := by decide +kernel
theorem dX5_isBehind_18 : decode cX5_isBehind 18 = .ok (.aload_n 0, 1) := by decide +kernel
theorem dX5_isBehind_19 : decode cX5_isBehind 19 = .ok (.iload_n 2, 1) := by decide +kernel
theorem dX5_isBehind_20 : decode cX5_isBehind 20 = .ok (.invokevirtual 90, 3) := by decide +kernel
theorem dX5_isBehind_23 : decode cX5_isBehind 23 = .ok (.if_icmp .ge 7, 3) := by decide +kernel
theorem dX5_isBehind_26 : decode cX5_isBehind 26 = .ok (.iconst 1, 1) := by decide +kernel
theorem dX5_isBehind_27 : decode cX5_isBehind 27 = .ok (.goto 4, 3) := by decide +kernel
theorem dX5_isBehind_30 : decode cX5_isBehind 30 = .ok (.iconst 0, 1) := by decide +kernel
theorem dX5_isBehind_31 : decode cX5_isBehind 31 = .ok (.ireturn, 1) := by decide +kernel
theorem dX5_isBehind_32 : decode cX5_isBehind 32 = .ok (.aload_n 0, 1) := by decide +kernel
theorem dX5_isBehind_33 : decode cX5_isBehind 33 = .ok (.iload_n 1, 1) := by decide +kernel
theorem dX5_isBehind_34 : decode cX5_isBehind 34 = .ok (.invokevirtual 87, 3) := by decide +kernel
theorem dX5_isBehind_37 : decode cX5_isBehind 37 = .ok (.aload_n 0, 1) := by decide +kernel
theorem dX5_isBehind_38 : decode cX5_isBehind 38 = .ok (.iload_n 2, 1) := by decide +kernel
theorem dX5_isBehind_39 : decode cX5_isBehind 39 = .ok (.invokevirtual 87, 3) := by decide +kernel
theorem dX5_isBehind_42 : decode cX5_isBehind 42 = .ok (.if_icmp .ge 7, 3) := by decide +kernel
theorem dX5_isBehind_45 : decode cX5_isBehind 45 = .ok (.iconst 1, 1) := by decide +kernel
theorem dX5_isBehind_46 : decode cX5_isBehind 46 = .ok (.goto 4, 3) := by decide +kernel
theorem dX5_isBehind_49 : decode cX5_isBehind 49 = .ok (.iconst 0, 1) := by decide +kernel
theorem dX5_isBehind_50 : decode cX5_isBehind 50 = .ok (.ireturn, 1) := by decide +kernel
set_option maxRecDepth 20000 in
theorem ggX5_swap_X5_isString : GoodIn wsX5_swap wsX5_isString := goodIn_r _ [7, 8, 9, 10, 11, 12, 13] (by decide +kernel) (by decide +kernel)
set_option maxRecDepth 20000 in
theorem gX5_swap_X5_isString : GoodIn wsX5_swap (wsV RX5 25 RX5 yX5_isString wsX5_isString) := goodIn_app (goodIn_of _ (by decide +kernel)) ggX5_swap_X5_isString
theorem dX5_swap_0 : decode cX5_swap 0 = .ok (.aload_n 0, 1) := by decide +kernel
theorem dX5_swap_1 : decode cX5_swap 1 = .ok (.iload_n 1, 1) := by decide +kernel
theorem dX5_swap_2 : decode cX5_swap 2 = .ok (.invokevirtual 25, 3) := by decide +kernel
theorem dX5_swap_5 : decode cX5_swap 5 = .ok (.ifCond .eq 11, 3) := by decide +kernel
theorem dX5_swap_8 : decode cX5_swap 8 = .ok (.aload_n 0, 1) := by decide +kernel
theorem dX5_swap_9 : decode cX5_swap 9 = .ok (.iload_n 2, 1) := by decide +kernel
theorem dX5_swap_10 : decode cX5_swap 10 = .ok (.invokevirtual 25, 3) := by decide +kernel
theorem dX5_swap_13 : decode cX5_swap 13 = .ok (.ifCond .ne 4, 3) := by decide +kernel
theorem dX5_swap_16 : decode cX5_swap 16 = .ok (.return_, 1) := by decide +kernel
theorem dX5_swap_17 : decode cX5_swap 17 = .ok (.aload_n 0, 1) := by decide +kernel
theorem dX5_swap_18 : decode cX5_swap 18 = .ok (.getfield 9, 3) := by decide +kernel
theorem dX5_swap_21 : decode cX5_swap 21 = .ok (.iload_n 1, 1) := by decide +kernel
theorem dX5_swap_22 : decode cX5_swap 22 = .ok (.iaload, 1) := by decide +kernel
theorem dX5_swap_23 : decode cX5_swap 23 = .ok (.istore_n 3, 1) := by decide +kernel
theorem dX5_swap_24 : decode cX5_swap 24 = .ok (.aload_n 0, 1) := by decide +kernel
theorem dX5_swap_25 : decode cX5_swap 25 = .ok (.getfield 15, 3) := by decide +kernel
theorem dX5_swap_28 : decode cX5_swap 28 = .ok (.iload_n 1, 1) := by decide +kernel
theorem dX5_swap_29 : decode cX5_swap 29 = .ok (.iaload, 1) := by decide +kernel
theorem dX5_swap_30 : decode cX5_swap 30 = .ok (.istore 4, 2) := by decide +kernel
theorem dX5_swap_32 : decode cX5_swap 32 = .ok (.aload_n 0, 1) := by decide +kernel
theorem dX5_swap_33 : decode cX5_swap 33 = .ok (.getfield 9, 3) := by decide +kernel
theorem dX5_swap_36 : decode cX5_swap 36 = .ok (.iload_n 1, 1) := by decide +kernel
theorem dX5_swap_37 : decode cX5_swap 37 = .ok (.aload_n 0, 1) := by decide +kernel
theorem dX5_swap_38 : decode cX5_swap 38 = .ok (.getfield 9, 3) := by decide +kernel
theorem dX5_swap_41 : decode cX5_swap 41 = .ok (.iload_n 2, 1) := by decide +kernel
theorem dX5_swap_42 : decode cX5_swap 42 = .ok (.iaload, 1) := by decide +kernel
theorem dX5_swap_43 : decode cX5_swap 43 = .ok (.iastore, 1) := by decide +kernel
theorem dX5_swap_44 : decode cX5_swap 44 = .ok (.aload_n 0, 1) := by decide +kernel
theorem dX5_swap_45 : decode cX5_swap 45 = .ok (.getfield 15, 3) := by decide +kernel
theorem dX5_swap_48 : decode cX5_swap 48 = .ok (.iload_n 1, 1) := by decide +kernel
theorem dX5_swap_49 : decode cX5_swap 49 = .ok (.aload_n 0, 1) := by decide +kernel
theorem dX5_swap_50 : decode cX5_swap 50 = .ok (.getfield 15, 3) := by decide +kernel
theorem dX5_swap_53 : decode cX5_swap 53 = .ok (.iload_n 2, 1) := by decide +kernel
theorem dX5_swap_54 : decode cX5_swap 54 = .ok (.iaload, 1) := by decide +kernel
theorem dX5_swap_55 : decode cX5_swap 55 = .ok (.iastore, 1) := by decide +kernel
theorem dX5_swap_56 : decode cX5_swap 56 = .ok (.aload_n 0, 1) := by decide +kernel
theorem dX5_swap_57 : decode cX5_swap 57 = .ok (.getfield 9, 3) := by decide +kernel
theorem dX5_swap_60 : decode cX5_swap 60 = .ok (.iload_n 2, 1) := by decide +kernel
theorem dX5_swap_61 : decode cX5_swap 61 = .ok (.iload_n 3, 1) := by decide +kernel
theorem dX5_swap_62 : decode cX5_swap 62 = .ok (.iastore, 1) := by decide +kernel
theorem dX5_swap_63 : decode cX5_swap 63 = .ok (.aload_n 0, 1) := by decide +kernel
theorem dX5_swap_64 : decode cX5_swap 64 = .ok (.getfield 15, 3) := by decide +kernel
theorem dX5_swap_67 : decode cX5_swap 67 = .ok (.iload_n 2, 1) := by decide +kernel
theorem dX5_swap_68 : decode cX5_swap 68 = .ok (.iload 4, 2) := by decide +kernel
theorem dX5_swap_70 : decode cX5_swap 70 = .ok (.iastore, 1) := by decide +kernel
theorem dX5_swap_71 : decode cX5_swap 71 = .ok (.return_, 1) := by decide +kernel
set_option maxRecDepth 20000 in
theorem ggX6_init_X3_init : GoodIn wsX6_init wsX3_init := goodIn_r _ [30, 31, 2, 3, 32, 33, 34, 61, 62] (by decide +kernel) (by decide +kernel)
set_option maxRecDepth 20000 in
theorem gX6_init_X3_init_n9 : GoodIn wsX6_init (wsX3_init) := ggX6_init_X3_init
set_option maxRecDepth 20000 in
theorem ggX6_init_X0_init : GoodIn wsX6_init wsX0_init := goodIn_r _ [36, 37, 2, 3, 32, 38, 72, 73] (by decide +kernel) (by decide +kernel)
set_option maxRecDepth 20000 in
theorem gX6_init_X0_init_n18 : GoodIn wsX6_init (wsX0_init) := ggX6_init_X0_init
set_option maxRecDepth 20000 in
theorem ggX6_init_X5_init : GoodIn wsX6_init wsX5_init := goodIn_r _ [40, 41, 2, 3, 32, 42, 43, 44, 74, 75, 76, 77, 78] (by decide +kernel) (by decide +kernel)
set_option maxRecDepth 20000 in
theorem gX6_init_X5_init_n25 : GoodIn wsX6_init (wsX5_init) := ggX6_init_X5_init
set_option maxRecDepth 20000 in
theorem ggX6_init_X1_init : GoodIn wsX6_init wsX1_init := goodIn_r _ [46, 47, 2, 3, 48, 79, 80, 81, 82] (by decide +kernel) (by decide +kernel)
set_option maxRecDepth 20000 in
theorem gX6_init_X1_init_n35 : GoodIn wsX6_init (wsX1_init) := ggX6_init_X1_init
set_option maxRecDepth 20000 in
theorem ggX6_init_X2_init : GoodIn wsX6_init wsX2_init := goodIn_r _ [50, 51, 2, 3, 52, 18, 19, 53, 54, 55, 45, 46, 47, 48, 79, 80, 81, 82, 83, 84] (by decide +kernel) (by decide +kernel)
set_option maxRecDepth 20000 in
theorem gX6_init_X2_init_n42 : GoodIn wsX6_init (wsX2_init) := ggX6_init_X2_init
set_option maxRecDepth 20000 in
theorem ggX6_init_X4_init : GoodIn wsX6_init wsX4_init := goodIn_r _ [57, 58, 2, 3, 32, 59, 60, 85, 86, 87, 88] (by decide +kernel) (by decide +kernel)
set_option maxRecDepth 20000 in
theorem gX6_init_X4_init_n53 : GoodIn wsX6_init (wsX4_init) := ggX6_init_X4_init
theorem dX6_init_0 : decode cX6_init 0 = .ok (.aload_n 0, 1) := by decide +kernel
theorem dX6_init_1 : decode cX6_init 1 = .ok (.invokespecial 1, 3) := by decide +kernel
theorem dX6_init_4 : decode cX6_init 4 = .ok (.aload_n 0, 1) := by decide +kernel
theorem dX6_init_5 : decode cX6_init 5 = .ok (.new 7, 3) := by decide +kernel
theorem dX6_init_8 : decode cX6_init 8 = .ok (.dup, 1) := by decide +kernel
theorem dX6_init_9 : decode cX6_init 9 = .ok (.invokespecial 9, 3) := by decide +kernel
theorem dX6_init_12 : decode cX6_init 12 = .ok (.putfield 10, 3) := by decide +kernel
theorem dX6_init_15 : decode cX6_init 15 = .ok (.aload_n 0, 1) := by decide +kernel
theorem dX6_init_16 : decode cX6_init 16 = .ok (.new 16, 3) := by decide +kernel
theorem dX6_init_19 : decode cX6_init 19 = .ok (.dup, 1) := by decide +kernel
theorem dX6_init_20 : decode cX6_init 20 = .ok (.invokespecial 18, 3) := by decide +kernel
theorem dX6_init_23 : decode cX6_init 23 = .ok (.putfield 19, 3) := by decide +kernel
theorem dX6_init_26 : decode cX6_init 26 = .ok (.aload_n 0, 1) := by decide +kernel
theorem dX6_init_27 : decode cX6_init 27 = .ok (.new 23, 3) := by decide +kernel
theorem dX6_init_30 : decode cX6_init 30 = .ok (.dup, 1) := by decide +kernel
theorem dX6_init_31 : decode cX6_init 31 = .ok (.invokespecial 25, 3) := by decide +kernel
theorem dX6_init_34 : decode cX6_init 34 = .ok (.putfield 26, 3) := by decide +kernel
theorem dX6_init_37 : decode cX6_init 37 = .ok (.aload_n 0, 1) := by decide +kernel
theorem dX6_init_38 : decode cX6_init 38 = .ok (.new 23, 3) := by decide +kernel
theorem dX6_init_41 : decode cX6_init 41 = .ok (.dup, 1) := by decide +kernel
theorem dX6_init_42 : decode cX6_init 42 = .ok (.invokespecial 25, 3) := by decide +kernel
theorem dX6_init_45 : decode cX6_init 45 = .ok (.putfield 30, 3) := by decide +kernel
theorem dX6_init_48 : decode cX6_init 48 = .ok (.aload_n 0, 1) := by decide +kernel
theorem dX6_init_49 : decode cX6_init 49 = .ok (.new 33, 3) := by decide +kernel
theorem dX6_init_52 : decode cX6_init 52 = .ok (.dup, 1) := by decide +kernel
theorem dX6_init_53 : decode cX6_init 53 = .ok (.invokespecial 35, 3) := by decide +kernel
theorem dX6_init_56 : decode cX6_init 56 = .ok (.putfield 36, 3) := by decide +kernel
theorem dX6_init_59 : decode cX6_init 59 = .ok (.aload_n 0, 1) := by decide +kernel
theorem dX6_init_60 : decode cX6_init 60 = .ok (.new 40, 3) := by decide +kernel
theorem dX6_init_63 : decode cX6_init 63 = .ok (.dup, 1) := by decide +kernel
theorem dX6_init_64 : decode cX6_init 64 = .ok (.invokespecial 42, 3) := by decide +kernel
theorem dX6_init_67 : decode cX6_init 67 = .ok (.putfield 43, 3) := by decide +kernel
theorem dX6_init_70 : decode cX6_init 70 = .ok (.aload_n 0, 1) := by decide +kernel
theorem dX6_init_71 : decode cX6_init 71 = .ok (.iconst 4, 1) := by decide +kernel
theorem dX6_init_72 : decode cX6_init 72 = .ok (.anewarray 47, 3) := by decide +kernel
theorem dX6_init_75 : decode cX6_init 75 = .ok (.putfield 49, 3) := by decide +kernel
theorem dX6_init_78 : decode cX6_init 78 = .ok (.iconst 0, 1) := by decide +kernel
theorem dX6_init_79 : decode cX6_init 79 = .ok (.istore_n 1, 1) := by decide +kernel
theorem dX6_init_80 : decode cX6_init 80 = .ok (.iload_n 1, 1) := by decide +kernel
theorem dX6_init_81 : decode cX6_init 81 = .ok (.aload_n 0, 1) := by decide +kernel
theorem dX6_init_82 : decode cX6_init 82 = .ok (.getfield 49, 3) := by decide +kernel
theorem dX6_init_85 : decode cX6_init 85 = .ok (.arraylength, 1) := by decide +kernel
theorem dX6_init_86 : decode cX6_init 86 = .ok (.if_icmp .ge 22, 3) := by decide +kernel
theorem dX6_init_89 : decode cX6_init 89 = .ok (.aload_n 0, 1) := by decide +kernel
theorem dX6_init_90 : decode cX6_init 90 = .ok (.getfield 49, 3) := by decide +kernel
theorem dX6_init_93 : decode cX6_init 93 = .ok (.iload_n 1, 1) := by decide +kernel
theorem dX6_init_94 : decode cX6_init 94 = .ok (.new 47, 3) := by decide +kernel
theorem dX6_init_97 : decode cX6_init 97 = .ok (.dup, 1) := by decide +kernel
theorem dX6_init_98 : decode cX6_init 98 = .ok (.invokespecial 53, 3) := by decide +kernel
theorem dX6_init_101 : decode cX6_init 101 = .ok (.aastore, 1) := by decide +kernel
theorem dX6_init_102 : decode cX6_init 102 = .ok (.iinc 1 1, 3) := by decide +kernel
theorem dX6_init_105 : decode cX6_init 105 = .ok (.goto (-25), 3) := by decide +kernel
theorem dX6_init_108 : decode cX6_init 108 = .ok (.return_, 1) := by decide +kernel
set_option maxRecDepth 20000 in
theorem ggX6_set_X6_isBox : GoodIn wsX6_set wsX6_isBox := goodIn_r _ [5] (by decide +kernel) (by decide +kernel)
set_option maxRecDepth 20000 in
theorem gX6_set_X6_isBox : GoodIn wsX6_set (va_wsS RX6 54 yX6_isBox wsX6_isBox) := goodIn_app (goodIn_of _ (by decide +kernel)) ggX6_set_X6_isBox
set_option maxRecDepth 20000 in
theorem ggX6_set_X3_ballAt : GoodIn wsX6_set wsX3_ballAt := goodIn_r _ [10, 11, 3, 4, 5, 25, 26] (by decide +kernel) (by decide +kernel)
set_option maxRecDepth 20000 in
theorem gX6_set_X3_ballAt : GoodIn wsX6_set (wsV RX6 58 RX3 yX3_ballAt wsX3_ballAt) := goodIn_app (goodIn_of _ (by decide +kernel)) ggX6_set_X3_ballAt
set_option maxRecDepth 20000 in
theorem ggX6_set_X3_place : GoodIn wsX6_set wsX3_place := goodIn_r _ [15, 11, 3, 4, 5, 25, 26] (by decide +kernel) (by decide +kernel)
set_option maxRecDepth 20000 in
theorem gX6_set_X3_place : GoodIn wsX6_set (wsV RX6 62 RX3 yX3_place wsX3_place) := goodIn_app (goodIn_of _ (by decide +kernel)) ggX6_set_X3_place
theorem dX6_set_0 : decode cX6_set 0 = .ok (.iload_n 1, 1) := by decide +kernel
theorem dX6_set_1 : decode cX6_set 1 = .ok (.invokestatic 54, 3) := by decide +kernel
theorem dX6_set_4 : decode cX6_set 4 = .ok (.ifCond .ne 6, 3) := by decide +kernel
theorem dX6_set_7 : decode cX6_set 7 = .ok (.bipush (-2), 2) := by decide +kernel
theorem dX6_set_9 : decode cX6_set 9 = .ok (.ireturn, 1) := by decide +kernel
theorem dX6_set_10 : decode cX6_set 10 = .ok (.iload_n 2, 1) := by decide +kernel
theorem dX6_set_11 : decode cX6_set 11 = .ok (.ifCond .eq 7, 3) := by decide +kernel
theorem dX6_set_14 : decode cX6_set 14 = .ok (.iconst 1, 1) := by decide +kernel
theorem dX6_set_15 : decode cX6_set 15 = .ok (.goto 4, 3) := by decide +kernel
theorem dX6_set_18 : decode cX6_set 18 = .ok (.iconst 0, 1) := by decide +kernel
theorem dX6_set_19 : decode cX6_set 19 = .ok (.istore_n 3, 1) := by decide +kernel
theorem dX6_set_20 : decode cX6_set 20 = .ok (.aload_n 0, 1) := by decide +kernel
theorem dX6_set_21 : decode cX6_set 21 = .ok (.getfield 10, 3) := by decide +kernel
theorem dX6_set_24 : decode cX6_set 24 = .ok (.iload_n 1, 1) := by decide +kernel
theorem dX6_set_25 : decode cX6_set 25 = .ok (.invokevirtual 58, 3) := by decide +kernel
theorem dX6_set_28 : decode cX6_set 28 = .ok (.iload_n 3, 1) := by decide +kernel
theorem dX6_set_29 : decode cX6_set 29 = .ok (.if_icmp .ne 5, 3) := by decide +kernel
theorem dX6_set_32 : decode cX6_set 32 = .ok (.iconst 0, 1) := by decide +kernel
theorem dX6_set_33 : decode cX6_set 33 = .ok (.ireturn, 1) := by decide +kernel
theorem dX6_set_34 : decode cX6_set 34 = .ok (.aload_n 0, 1) := by decide +kernel
theorem dX6_set_35 : decode cX6_set 35 = .ok (.getfield 10, 3) := by decide +kernel
theorem dX6_set_38 : decode cX6_set 38 = .ok (.iload_n 1, 1) := by decide +kernel
theorem dX6_set_39 : decode cX6_set 39 = .ok (.iload_n 3, 1) := by decide +kernel
theorem dX6_set_40 : decode cX6_set 40 = .ok (.invokevirtual 62, 3) := by decide +kernel
theorem dX6_set_43 : decode cX6_set 43 = .ok (.iconst 1, 1) := by decide +kernel
theorem dX6_set_44 : decode cX6_set 44 = .ok (.ireturn, 1) := by decide +kernel
set_option maxRecDepth 20000 in
theorem ggX6_at_X6_isBox : GoodIn wsX6_at wsX6_isBox := goodIn_r _ [5] (by decide +kernel) (by decide +kernel)
set_option maxRecDepth 20000 in
theorem gX6_at_X6_isBox : GoodIn wsX6_at (va_wsS RX6 54 yX6_isBox wsX6_isBox) := goodIn_app (goodIn_of _ (by decide +kernel)) ggX6_at_X6_isBox
set_option maxRecDepth 20000 in
theorem ggX6_at_X3_ballAt : GoodIn wsX6_at wsX3_ballAt := goodIn_r _ [10, 11, 3, 4, 5, 21, 22] (by decide +kernel) (by decide +kernel)
set_option maxRecDepth 20000 in
theorem gX6_at_X3_ballAt : GoodIn wsX6_at (wsV RX6 58 RX3 yX3_ballAt wsX3_ballAt) := goodIn_app (goodIn_of _ (by decide +kernel)) ggX6_at_X3_ballAt
theorem dX6_at_0 : decode cX6_at 0 = .ok (.iload_n 1, 1) := by decide +kernel
theorem dX6_at_1 : decode cX6_at 1 = .ok (.invokestatic 54, 3) := by decide +kernel
theorem dX6_at_4 : decode cX6_at 4 = .ok (.ifCond .eq 14, 3) := by decide +kernel
theorem dX6_at_7 : decode cX6_at 7 = .ok (.aload_n 0, 1) := by decide +kernel
theorem dX6_at_8 : decode cX6_at 8 = .ok (.getfield 10, 3) := by decide +kernel
theorem dX6_at_11 : decode cX6_at 11 = .ok (.iload_n 1, 1) := by decide +kernel
theorem dX6_at_12 : decode cX6_at 12 = .ok (.invokevirtual 58, 3) := by decide +kernel
theorem dX6_at_15 : decode cX6_at 15 = .ok (.goto 5, 3) := by decide +kernel
theorem dX6_at_18 : decode cX6_at 18 = .ok (.bipush (-2), 2) := by decide +kernel
theorem dX6_at_20 : decode cX6_at 20 = .ok (.ireturn, 1) := by decide +kernel
set_option maxRecDepth 20000 in
theorem ggX6_empty_X3_balls : GoodIn wsX6_empty wsX3_balls := goodIn_r _ [6, 7, 21, 22] (by decide +kernel) (by decide +kernel)
set_option maxRecDepth 20000 in
theorem gX6_empty_X3_balls : GoodIn wsX6_empty (wsV RX6 66 RX3 yX3_balls wsX3_balls) := goodIn_app (goodIn_of _ (by decide +kernel)) ggX6_empty_X3_balls
set_option maxRecDepth 20000 in
theorem ggX6_empty_X3_clear : GoodIn wsX6_empty wsX3_clear := goodIn_r _ [11, 7, 21, 22] (by decide +kernel) (by decide +kernel)
set_option maxRecDepth 20000 in
theorem gX6_empty_X3_clear : GoodIn wsX6_empty (wsV RX6 70 RX3 yX3_clear wsX3_clear) := goodIn_app (goodIn_of _ (by decide +kernel)) ggX6_empty_X3_clear
theorem dX6_empty_0 : decode cX6_empty 0 = .ok (.aload_n 0, 1) := by decide +kernel
theorem dX6_empty_1 : decode cX6_empty 1 = .ok (.getfield 10, 3) := by decide +kernel
theorem dX6_empty_4 : decode cX6_empty 4 = .ok (.invokevirtual 66, 3) := by decide +kernel
theorem dX6_empty_7 : decode cX6_empty 7 = .ok (.istore_n 1, 1) := by decide +kernel
theorem dX6_empty_8 : decode cX6_empty 8 = .ok (.aload_n 0, 1) := by decide +kernel
theorem dX6_empty_9 : decode cX6_empty 9 = .ok (.getfield 10, 3) := by decide +kernel
theorem dX6_empty_12 : decode cX6_empty 12 = .ok (.invokevirtual 70, 3) := by decide +kernel
theorem dX6_empty_15 : decode cX6_empty 15 = .ok (.iload_n 1, 1) := by decide +kernel
theorem dX6_empty_16 : decode cX6_empty 16 = .ok (.ireturn, 1) := by decide +kernel
set_option maxRecDepth 20000 in
theorem ggX6_step_X6_isRoom : GoodIn wsX6_step wsX6_isRoom := goodIn_r _ [4] (by decide +kernel) (by decide +kernel)
set_option maxRecDepth 20000 in
theorem gX6_step_X6_isRoom : GoodIn wsX6_step (va_wsS RX6 73 yX6_isRoom wsX6_isRoom) := goodIn_app (goodIn_of _ (by decide +kernel)) ggX6_step_X6_isRoom
set_option maxRecDepth 20000 in
theorem ggX6_step_X6_carry : GoodIn wsX6_step wsX6_carry := goodIn_r _ [8, 9, 10, 11, 12, 13, 14, 15, 16, 17, 18, 19, 20, 21, 3, 22, 23, 24, 25, 26, 27, 28, 29, 30, 31, 32, 33, 34, 35, 36, 37, 38, 39, 40, 41, 42, 43, 44] (by decide +kernel) (by decide +kernel)
set_option maxRecDepth 20000 in
theorem gX6_step_X6_carry : GoodIn wsX6_step (wsV RX6 76 RX6 yX6_carry wsX6_carry) := goodIn_app (goodIn_of _ (by decide +kernel)) ggX6_step_X6_carry
theorem dX6_step_0 : decode cX6_step 0 = .ok (.iload_n 1, 1) := by decide +kernel
theorem dX6_step_1 : decode cX6_step 1 = .ok (.invokestatic 73, 3) := by decide +kernel
theorem dX6_step_4 : decode cX6_step 4 = .ok (.ifCond .eq 12, 3) := by decide +kernel
theorem dX6_step_7 : decode cX6_step 7 = .ok (.aload_n 0, 1) := by decide +kernel
theorem dX6_step_8 : decode cX6_step 8 = .ok (.iload_n 1, 1) := by decide +kernel
theorem dX6_step_9 : decode cX6_step 9 = .ok (.iconst 1, 1) := by decide +kernel
theorem dX6_step_10 : decode cX6_step 10 = .ok (.invokevirtual 76, 3) := by decide +kernel
theorem dX6_step_13 : decode cX6_step 13 = .ok (.goto 5, 3) := by decide +kernel
theorem dX6_step_16 : decode cX6_step 16 = .ok (.bipush (-2), 2) := by decide +kernel
theorem dX6_step_18 : decode cX6_step 18 = .ok (.ireturn, 1) := by decide +kernel
set_option maxRecDepth 20000 in
theorem ggX6_back_X6_isRoom : GoodIn wsX6_back wsX6_isRoom := goodIn_r _ [4] (by decide +kernel) (by decide +kernel)
set_option maxRecDepth 20000 in
theorem gX6_back_X6_isRoom : GoodIn wsX6_back (va_wsS RX6 73 yX6_isRoom wsX6_isRoom) := goodIn_app (goodIn_of _ (by decide +kernel)) ggX6_back_X6_isRoom
set_option maxRecDepth 20000 in
theorem ggX6_back_X6_carry : GoodIn wsX6_back wsX6_carry := goodIn_r _ [8, 9, 10, 11, 12, 13, 14, 15, 16, 17, 18, 19, 20, 21, 3, 22, 23, 24, 25, 26, 27, 28, 29, 30, 31, 32, 33, 34, 35, 36, 37, 38, 39, 40, 41, 42, 43, 44] (by decide +kernel) (by decide +kernel)
set_option maxRecDepth 20000 in
theorem gX6_back_X6_carry : GoodIn wsX6_back (wsV RX6 76 RX6 yX6_carry wsX6_carry) := goodIn_app (goodIn_of _ (by decide +kernel)) ggX6_back_X6_carry
theorem dX6_back_0 : decode cX6_back 0 = .ok (.iload_n 1, 1) := by decide +kernel
theorem dX6_back_1 : decode cX6_back 1 = .ok (.invokestatic 73, 3) := by decide +kernel
theorem dX6_back_4 : decode cX6_back 4 = .ok (.ifCond .eq 12, 3) := by decide +kernel
theorem dX6_back_7 : decode cX6_back 7 = .ok (.aload_n 0, 1) := by decide +kernel
theorem dX6_back_8 : decode cX6_back 8 = .ok (.iload_n 1, 1) := by decide +kernel
theorem dX6_back_9 : decode cX6_back 9 = .ok (.iconst 0, 1) := by decide +kernel
theorem dX6_back_10 : decode cX6_back 10 = .ok (.invokevirtual 76, 3) := by decide +kernel
theorem dX6_back_13 : decode cX6_back 13 = .ok (.goto 5, 3) := by decide +kernel
theorem dX6_back_16 : decode cX6_back 16 = .ok (.bipush (-2), 2) := by decide +kernel
theorem dX6_back_18 : decode cX6_back 18 = .ok (.ireturn, 1) := by decide +kernel
set_option maxRecDepth 20000 in
theorem ggX6_kept_X6_isRoom : GoodIn wsX6_kept wsX6_isRoom := goodIn_r _ [5] (by decide +kernel) (by decide +kernel)
set_option maxRecDepth 20000 in
theorem gX6_kept_X6_isRoom : GoodIn wsX6_kept (va_wsS RX6 73 yX6_isRoom wsX6_isRoom) := goodIn_app (goodIn_of _ (by decide +kernel)) ggX6_kept_X6_isRoom
set_option maxRecDepth 20000 in
theorem ggX6_kept_X3_takenBy : GoodIn wsX6_kept wsX3_takenBy := goodIn_r _ [10, 11, 12, 4, 13, 23, 24] (by decide +kernel) (by decide +kernel)
set_option maxRecDepth 20000 in
theorem gX6_kept_X3_takenBy : GoodIn wsX6_kept (wsV RX6 80 RX3 yX3_takenBy wsX3_takenBy) := goodIn_app (goodIn_of _ (by decide +kernel)) ggX6_kept_X3_takenBy
theorem dX6_kept_0 : decode cX6_kept 0 = .ok (.iload_n 1, 1) := by decide +kernel
theorem dX6_kept_1 : decode cX6_kept 1 = .ok (.invokestatic 73, 3) := by decide +kernel
theorem dX6_kept_4 : decode cX6_kept 4 = .ok (.ifCond .eq 14, 3) := by decide +kernel
theorem dX6_kept_7 : decode cX6_kept 7 = .ok (.aload_n 0, 1) := by decide +kernel
theorem dX6_kept_8 : decode cX6_kept 8 = .ok (.getfield 10, 3) := by decide +kernel
theorem dX6_kept_11 : decode cX6_kept 11 = .ok (.iload_n 1, 1) := by decide +kernel
theorem dX6_kept_12 : decode cX6_kept 12 = .ok (.invokevirtual 80, 3) := by decide +kernel
theorem dX6_kept_15 : decode cX6_kept 15 = .ok (.goto 5, 3) := by decide +kernel
theorem dX6_kept_18 : decode cX6_kept 18 = .ok (.bipush (-2), 2) := by decide +kernel
theorem dX6_kept_20 : decode cX6_kept 20 = .ok (.ireturn, 1) := by decide +kernel
set_option maxRecDepth 20000 in
theorem ggX6_row_X3_balls : GoodIn wsX6_row wsX3_balls := goodIn_r _ [7, 8, 48, 49] (by decide +kernel) (by decide +kernel)
set_option maxRecDepth 20000 in
theorem gX6_row_X3_balls : GoodIn wsX6_row (wsV RX6 66 RX3 yX3_balls wsX3_balls) := goodIn_app (goodIn_of _ (by decide +kernel)) ggX6_row_X3_balls
set_option maxRecDepth 20000 in
theorem ggX6_row_X3_firstBall : GoodIn wsX6_row wsX3_firstBall := goodIn_r _ [12, 8, 48, 49] (by decide +kernel) (by decide +kernel)
set_option maxRecDepth 20000 in
theorem gX6_row_X3_firstBall : GoodIn wsX6_row (wsV RX6 83 RX3 yX3_firstBall wsX3_firstBall) := goodIn_app (goodIn_of _ (by decide +kernel)) ggX6_row_X3_firstBall
set_option maxRecDepth 20000 in
theorem ggX6_row_X3_lastBall : GoodIn wsX6_row wsX3_lastBall := goodIn_r _ [16, 8, 48, 49] (by decide +kernel) (by decide +kernel)
set_option maxRecDepth 20000 in
theorem gX6_row_X3_lastBall : GoodIn wsX6_row (wsV RX6 86 RX3 yX3_lastBall wsX3_lastBall) := goodIn_app (goodIn_of _ (by decide +kernel)) ggX6_row_X3_lastBall
set_option maxRecDepth 20000 in
theorem ggX6_row_X0_heapsOf : GoodIn wsX6_row wsX0_heapsOf := goodIn_r _ [21, 22, 23, 24, 20, 25, 26, 27, 28, 29, 30, 6, 31, 8, 32, 33, 34, 35, 36, 37, 38, 50, 51, 48, 49] (by decide +kernel) (by decide +kernel)
set_option maxRecDepth 20000 in
theorem gX6_row_X0_heapsOf : GoodIn wsX6_row (wsV RX6 89 RX0 yX0_heapsOf wsX0_heapsOf) := goodIn_app (goodIn_of _ (by decide +kernel)) ggX6_row_X0_heapsOf
theorem dX6_row_0 : decode cX6_row 0 = .ok (.iload_n 1, 1) := by decide +kernel
theorem dX6_row_1 : decode cX6_row 1 = .ok (.tableswitch 67 0 3 #[31, 39, 47, 55], 31) := by decide +kernel
theorem dX6_row_32 : decode cX6_row 32 = .ok (.aload_n 0, 1) := by decide +kernel
theorem dX6_row_33 : decode cX6_row 33 = .ok (.getfield 10, 3) := by decide +kernel
theorem dX6_row_36 : decode cX6_row 36 = .ok (.invokevirtual 66, 3) := by decide +kernel
theorem dX6_row_39 : decode cX6_row 39 = .ok (.ireturn, 1) := by decide +kernel
theorem dX6_row_40 : decode cX6_row 40 = .ok (.aload_n 0, 1) := by decide +kernel
theorem dX6_row_41 : decode cX6_row 41 = .ok (.getfield 10, 3) := by decide +kernel
theorem dX6_row_44 : decode cX6_row 44 = .ok (.invokevirtual 83, 3) := by decide +kernel
theorem dX6_row_47 : decode cX6_row 47 = .ok (.ireturn, 1) := by decide +kernel
theorem dX6_row_48 : decode cX6_row 48 = .ok (.aload_n 0, 1) := by decide +kernel
theorem dX6_row_49 : decode cX6_row 49 = .ok (.getfield 10, 3) := by decide +kernel
theorem dX6_row_52 : decode cX6_row 52 = .ok (.invokevirtual 86, 3) := by decide +kernel
theorem dX6_row_55 : decode cX6_row 55 = .ok (.ireturn, 1) := by decide +kernel
theorem dX6_row_56 : decode cX6_row 56 = .ok (.aload_n 0, 1) := by decide +kernel
theorem dX6_row_57 : decode cX6_row 57 = .ok (.getfield 19, 3) := by decide +kernel
theorem dX6_row_60 : decode cX6_row 60 = .ok (.aload_n 0, 1) := by decide +kernel
theorem dX6_row_61 : decode cX6_row 61 = .ok (.getfield 10, 3) := by decide +kernel
theorem dX6_row_64 : decode cX6_row 64 = .ok (.invokevirtual 89, 3) := by decide +kernel
theorem dX6_row_67 : decode cX6_row 67 = .ok (.ireturn, 1) := by decide +kernel
theorem dX6_row_68 : decode cX6_row 68 = .ok (.bipush (-2), 2) := by decide +kernel
theorem dX6_row_70 : decode cX6_row 70 = .ok (.ireturn, 1) := by decide +kernel
set_option maxRecDepth 20000 in
theorem ggX6_heap_X0_countsAbove : GoodIn wsX6_heap wsX0_countsAbove := goodIn_r _ [7, 8, 9, 10, 6, 11, 12, 13, 14, 15, 16, 17, 18, 19, 20, 21, 22, 23, 24, 25, 26, 36, 37, 38, 39] (by decide +kernel) (by decide +kernel)
set_option maxRecDepth 20000 in
theorem gX6_heap_X0_countsAbove : GoodIn wsX6_heap (wsV RX6 93 RX0 yX0_countsAbove wsX0_countsAbove) := goodIn_app (goodIn_of _ (by decide +kernel)) ggX6_heap_X0_countsAbove
theorem dX6_heap_0 : decode cX6_heap 0 = .ok (.iload_n 1, 1) := by decide +kernel
theorem dX6_heap_1 : decode cX6_heap 1 = .ok (.ifCond .ge 6, 3) := by decide +kernel
theorem dX6_heap_4 : decode cX6_heap 4 = .ok (.bipush (-2), 2) := by decide +kernel
theorem dX6_heap_6 : decode cX6_heap 6 = .ok (.ireturn, 1) := by decide +kernel
theorem dX6_heap_7 : decode cX6_heap 7 = .ok (.aload_n 0, 1) := by decide +kernel
theorem dX6_heap_8 : decode cX6_heap 8 = .ok (.getfield 19, 3) := by decide +kernel
theorem dX6_heap_11 : decode cX6_heap 11 = .ok (.aload_n 0, 1) := by decide +kernel
theorem dX6_heap_12 : decode cX6_heap 12 = .ok (.getfield 10, 3) := by decide +kernel
theorem dX6_heap_15 : decode cX6_heap 15 = .ok (.iload_n 1, 1) := by decide +kernel
theorem dX6_heap_16 : decode cX6_heap 16 = .ok (.invokevirtual 93, 3) := by decide +kernel
theorem dX6_heap_19 : decode cX6_heap 19 = .ok (.istore_n 2, 1) := by decide +kernel
theorem dX6_heap_20 : decode cX6_heap 20 = .ok (.iload_n 2, 1) := by decide +kernel
theorem dX6_heap_21 : decode cX6_heap 21 = .ok (.ifCond .le 7, 3) := by decide +kernel
theorem dX6_heap_24 : decode cX6_heap 24 = .ok (.iload_n 2, 1) := by decide +kernel
theorem dX6_heap_25 : decode cX6_heap 25 = .ok (.goto 5, 3) := by decide +kernel
theorem dX6_heap_28 : decode cX6_heap 28 = .ok (.bipush (-2), 2) := by decide +kernel
theorem dX6_heap_30 : decode cX6_heap 30 = .ok (.ireturn, 1) := by decide +kernel
set_option maxRecDepth 20000 in
theorem ggX6_strings_X5_readFrom : GoodIn wsX6_strings wsX5_readFrom := goodIn_r _ [7, 8, 9, 10, 11, 6, 12, 13, 14, 15, 16, 17, 18, 19, 20, 21, 22, 23, 24, 25, 26, 27, 28, 29, 30, 31, 32, 33, 34, 35, 36, 37, 38, 39, 40, 41, 42, 43, 44, 45, 46, 47, 48, 49, 50, 51, 52, 53, 54, 55, 56, 57, 58, 59, 60, 61, 62, 63, 64, 65, 87, 88, 89, 90, 91, 92, 93] (by decide +kernel) (by decide +kernel)
set_option maxRecDepth 20000 in
theorem gX6_strings_X5_readFrom : GoodIn wsX6_strings (wsV RX6 97 RX5 yX5_readFrom wsX5_readFrom) := goodIn_app (goodIn_of _ (by decide +kernel)) ggX6_strings_X5_readFrom
set_option maxRecDepth 20000 in
theorem ggX6_strings_X5_sort : GoodIn wsX6_strings wsX5_sort := goodIn_r _ [69, 13, 70, 71, 72, 6, 73, 46, 47, 48, 49, 28, 42, 43, 44, 45, 38, 39, 40, 41, 29, 74, 75, 76, 77, 87, 88, 89, 90, 91] (by decide +kernel) (by decide +kernel)
set_option maxRecDepth 20000 in
theorem gX6_strings_X5_sort : GoodIn wsX6_strings (wsV RX6 101 RX5 yX5_sort wsX5_sort) := goodIn_app (goodIn_of _ (by decide +kernel)) ggX6_strings_X5_sort
theorem dX6_strings_0 : decode cX6_strings 0 = .ok (.iload_n 1, 1) := by decide +kernel
theorem dX6_strings_1 : decode cX6_strings 1 = .ok (.ifCond .lt 10, 3) := by decide +kernel
theorem dX6_strings_4 : decode cX6_strings 4 = .ok (.iload_n 1, 1) := by decide +kernel
theorem dX6_strings_5 : decode cX6_strings 5 = .ok (.sipush 240, 3) := by decide +kernel
theorem dX6_strings_8 : decode cX6_strings 8 = .ok (.if_icmp .le 6, 3) := by decide +kernel
theorem dX6_strings_11 : decode cX6_strings 11 = .ok (.bipush (-2), 2) := by decide +kernel
theorem dX6_strings_13 : decode cX6_strings 13 = .ok (.ireturn, 1) := by decide +kernel
theorem dX6_strings_14 : decode cX6_strings 14 = .ok (.aload_n 0, 1) := by decide +kernel
theorem dX6_strings_15 : decode cX6_strings 15 = .ok (.getfield 26, 3) := by decide +kernel
theorem dX6_strings_18 : decode cX6_strings 18 = .ok (.aload_n 0, 1) := by decide +kernel
theorem dX6_strings_19 : decode cX6_strings 19 = .ok (.getfield 10, 3) := by decide +kernel
theorem dX6_strings_22 : decode cX6_strings 22 = .ok (.iload_n 1, 1) := by decide +kernel
theorem dX6_strings_23 : decode cX6_strings 23 = .ok (.invokevirtual 97, 3) := by decide +kernel
theorem dX6_strings_26 : decode cX6_strings 26 = .ok (.aload_n 0, 1) := by decide +kernel
theorem dX6_strings_27 : decode cX6_strings 27 = .ok (.getfield 26, 3) := by decide +kernel
theorem dX6_strings_30 : decode cX6_strings 30 = .ok (.invokevirtual 101, 3) := by decide +kernel
theorem dX6_strings_33 : decode cX6_strings 33 = .ok (.aload_n 0, 1) := by decide +kernel
theorem dX6_strings_34 : decode cX6_strings 34 = .ok (.getfield 26, 3) := by decide +kernel
theorem dX6_strings_37 : decode cX6_strings 37 = .ok (.getfield 104, 3) := by decide +kernel
theorem dX6_strings_40 : decode cX6_strings 40 = .ok (.ireturn, 1) := by decide +kernel
set_option maxRecDepth 20000 in
theorem ggX6_string_X5_isString : GoodIn wsX6_string wsX5_isString := goodIn_r _ [6, 7, 33, 34, 35, 36, 37] (by decide +kernel) (by decide +kernel)
set_option maxRecDepth 20000 in
theorem gX6_string_X5_isString : GoodIn wsX6_string (wsV RX6 108 RX5 yX5_isString wsX5_isString) := goodIn_app (goodIn_of _ (by decide +kernel)) ggX6_string_X5_isString
set_option maxRecDepth 20000 in
theorem ggX6_string_X5_lengthOf : GoodIn wsX6_string wsX5_lengthOf := goodIn_r _ [11, 12, 13, 3, 4, 5, 6, 7, 33, 34, 35, 36, 37] (by decide +kernel) (by decide +kernel)
set_option maxRecDepth 20000 in
theorem gX6_string_X5_lengthOf : GoodIn wsX6_string (wsV RX6 111 RX5 yX5_lengthOf wsX5_lengthOf) := goodIn_app (goodIn_of _ (by decide +kernel)) ggX6_string_X5_lengthOf
set_option maxRecDepth 20000 in
theorem ggX6_string_X5_riggingOf : GoodIn wsX6_string wsX5_riggingOf := goodIn_r _ [17, 18, 13, 3, 4, 5, 6, 7, 33, 34, 35, 36, 37] (by decide +kernel) (by decide +kernel)
set_option maxRecDepth 20000 in
theorem gX6_string_X5_riggingOf : GoodIn wsX6_string (wsV RX6 114 RX5 yX5_riggingOf wsX5_riggingOf) := goodIn_app (goodIn_of _ (by decide +kernel)) ggX6_string_X5_riggingOf
set_option maxRecDepth 20000 in
theorem ggX6_string_X5_roomLeft : GoodIn wsX6_string wsX5_roomLeft := goodIn_r _ [22, 23, 33, 34, 35, 36, 37] (by decide +kernel) (by decide +kernel)
set_option maxRecDepth 20000 in
theorem gX6_string_X5_roomLeft : GoodIn wsX6_string (wsV RX6 120 RX5 yX5_roomLeft wsX5_roomLeft) := goodIn_app (goodIn_of _ (by decide +kernel)) ggX6_string_X5_roomLeft
theorem dX6_string_0 : decode cX6_string 0 = .ok (.aload_n 0, 1) := by decide +kernel
theorem dX6_string_1 : decode cX6_string 1 = .ok (.getfield 26, 3) := by decide +kernel
theorem dX6_string_4 : decode cX6_string 4 = .ok (.iload_n 1, 1) := by decide +kernel
theorem dX6_string_5 : decode cX6_string 5 = .ok (.invokevirtual 108, 3) := by decide +kernel
theorem dX6_string_8 : decode cX6_string 8 = .ok (.ifCond .ne 7, 3) := by decide +kernel
theorem dX6_string_11 : decode cX6_string 11 = .ok (.sipush (-1000), 3) := by decide +kernel
theorem dX6_string_14 : decode cX6_string 14 = .ok (.ireturn, 1) := by decide +kernel
theorem dX6_string_15 : decode cX6_string 15 = .ok (.iload_n 2, 1) := by decide +kernel
theorem dX6_string_16 : decode cX6_string 16 = .ok (.tableswitch 69 0 2 #[28, 37, 46], 28) := by decide +kernel
theorem dX6_string_44 : decode cX6_string 44 = .ok (.aload_n 0, 1) := by decide +kernel
theorem dX6_string_45 : decode cX6_string 45 = .ok (.getfield 26, 3) := by decide +kernel
theorem dX6_string_48 : decode cX6_string 48 = .ok (.iload_n 1, 1) := by decide +kernel
theorem dX6_string_49 : decode cX6_string 49 = .ok (.invokevirtual 111, 3) := by decide +kernel
theorem dX6_string_52 : decode cX6_string 52 = .ok (.ireturn, 1) := by decide +kernel
theorem dX6_string_53 : decode cX6_string 53 = .ok (.aload_n 0, 1) := by decide +kernel
theorem dX6_string_54 : decode cX6_string 54 = .ok (.getfield 26, 3) := by decide +kernel
theorem dX6_string_57 : decode cX6_string 57 = .ok (.iload_n 1, 1) := by decide +kernel
theorem dX6_string_58 : decode cX6_string 58 = .ok (.invokevirtual 114, 3) := by decide +kernel
theorem dX6_string_61 : decode cX6_string 61 = .ok (.ireturn, 1) := by decide +kernel
theorem dX6_string_62 : decode cX6_string 62 = .ok (.aload_n 0, 1) := by decide +kernel
theorem dX6_string_63 : decode cX6_string 63 = .ok (.getfield 26, 3) := by decide +kernel
theorem dX6_string_66 : decode cX6_string 66 = .ok (.aload_n 0, 1) := by decide +kernel
theorem dX6_string_67 : decode cX6_string 67 = .ok (.getfield 26, 3) := by decide +kernel
theorem dX6_string_70 : decode cX6_string 70 = .ok (.iload_n 1, 1) := by decide +kernel
theorem dX6_string_71 : decode cX6_string 71 = .ok (.invokevirtual 111, 3) := by decide +kernel
theorem dX6_string_74 : decode cX6_string 74 = .ok (.aload_n 0, 1) := by decide +kernel
theorem dX6_string_75 : decode cX6_string 75 = .ok (.getfield 26, 3) := by decide +kernel
theorem dX6_string_78 : decode cX6_string 78 = .ok (.getfield 117, 3) := by decide +kernel
theorem dX6_string_81 : decode cX6_string 81 = .ok (.invokevirtual 120, 3) := by decide +kernel
theorem dX6_string_84 : decode cX6_string 84 = .ok (.ireturn, 1) := by decide +kernel
theorem dX6_string_85 : decode cX6_string 85 = .ok (.sipush (-1000), 3) := by decide +kernel
theorem dX6_string_88 : decode cX6_string 88 = .ok (.ireturn, 1) := by decide +kernel
set_option maxRecDepth 20000 in
theorem ggX6_leap_X6_isRoom : GoodIn wsX6_leap wsX6_isRoom := goodIn_r _ [7] (by decide +kernel) (by decide +kernel)
set_option maxRecDepth 20000 in
theorem gX6_leap_X6_isRoom : GoodIn wsX6_leap (va_wsS RX6 73 yX6_isRoom wsX6_isRoom) := goodIn_app (goodIn_of _ (by decide +kernel)) ggX6_leap_X6_isRoom
set_option maxRecDepth 20000 in
theorem ggX6_leap_X5_readFrom : GoodIn wsX6_leap wsX5_readFrom := goodIn_r _ [12, 13, 14, 15, 16, 11, 17, 18, 19, 20, 21, 22, 23, 24, 25, 26, 6, 27, 28, 29, 30, 31, 32, 33, 34, 35, 36, 37, 38, 39, 40, 41, 42, 43, 44, 45, 46, 47, 48, 49, 50, 51, 52, 53, 54, 55, 56, 57, 58, 59, 60, 61, 62, 63, 64, 65, 66, 67, 68, 69, 119, 120, 121, 122, 123, 124, 125] (by decide +kernel) (by decide +kernel)
set_option maxRecDepth 20000 in
theorem gX6_leap_X5_readFrom : GoodIn wsX6_leap (wsV RX6 97 RX5 yX5_readFrom wsX5_readFrom) := goodIn_app (goodIn_of _ (by decide +kernel)) ggX6_leap_X5_readFrom
set_option maxRecDepth 20000 in
theorem ggX6_leap_X5_addToRiggings : GoodIn wsX6_leap wsX5_addToRiggings := goodIn_r _ [73, 18, 33, 32, 74, 75, 68, 76, 119, 120, 121, 122, 123] (by decide +kernel) (by decide +kernel)
set_option maxRecDepth 20000 in
theorem gX6_leap_X5_addToRiggings : GoodIn wsX6_leap (wsV RX6 124 RX5 yX5_addToRiggings wsX5_addToRiggings) := goodIn_app (goodIn_of _ (by decide +kernel)) ggX6_leap_X5_addToRiggings
set_option maxRecDepth 20000 in
theorem ggX6_leap_X5_haveRoomBehind : GoodIn wsX6_leap wsX5_haveRoomBehind := goodIn_r _ [80, 18, 33, 32, 54, 55, 56, 11, 57, 19, 119, 120, 121, 122, 123] (by decide +kernel) (by decide +kernel)
set_option maxRecDepth 20000 in
theorem gX6_leap_X5_haveRoomBehind : GoodIn wsX6_leap (wsV RX6 127 RX5 yX5_haveRoomBehind wsX5_haveRoomBehind) := goodIn_app (goodIn_of _ (by decide +kernel)) ggX6_leap_X5_haveRoomBehind
set_option maxRecDepth 20000 in
theorem ggX6_leap_X5_makeInto : GoodIn wsX6_leap wsX5_makeInto := goodIn_r _ [84, 18, 85, 86, 87, 11, 88, 32, 33, 89, 90, 91, 92, 38, 39, 40, 41, 42, 43, 44, 45, 46, 47, 48, 49, 50, 51, 52, 53, 54, 55, 56, 57, 19, 62, 63, 64, 65, 66, 67, 68, 69, 93, 94, 95, 96, 97, 98, 99, 100, 101, 102, 103, 23, 104, 105, 26, 6, 27, 119, 120, 121, 122, 123, 124, 125] (by decide +kernel) (by decide +kernel)
set_option maxRecDepth 20000 in
theorem gX6_leap_X5_makeInto : GoodIn wsX6_leap (wsV RX6 130 RX5 yX5_makeInto wsX5_makeInto) := goodIn_app (goodIn_of _ (by decide +kernel)) ggX6_leap_X5_makeInto
set_option maxRecDepth 20000 in
theorem ggX6_leap_X3_becomeMade : GoodIn wsX6_leap wsX3_becomeMade := goodIn_r _ [109, 25, 105, 124, 125] (by decide +kernel) (by decide +kernel)
set_option maxRecDepth 20000 in
theorem gX6_leap_X3_becomeMade : GoodIn wsX6_leap (wsV RX6 137 RX3 yX3_becomeMade wsX3_becomeMade) := goodIn_app (goodIn_of _ (by decide +kernel)) ggX6_leap_X3_becomeMade
theorem dX6_leap_0 : decode cX6_leap 0 = .ok (.iload_n 1, 1) := by decide +kernel
theorem dX6_leap_1 : decode cX6_leap 1 = .ok (.invokestatic 73, 3) := by decide +kernel
theorem dX6_leap_4 : decode cX6_leap 4 = .ok (.ifCond .eq 17, 3) := by decide +kernel
theorem dX6_leap_7 : decode cX6_leap 7 = .ok (.iload_n 2, 1) := by decide +kernel
theorem dX6_leap_8 : decode cX6_leap 8 = .ok (.sipush (-1000), 3) := by decide +kernel
theorem dX6_leap_11 : decode cX6_leap 11 = .ok (.if_icmp .lt 10, 3) := by decide +kernel
theorem dX6_leap_14 : decode cX6_leap 14 = .ok (.iload_n 2, 1) := by decide +kernel
theorem dX6_leap_15 : decode cX6_leap 15 = .ok (.sipush 1000, 3) := by decide +kernel
theorem dX6_leap_18 : decode cX6_leap 18 = .ok (.if_icmp .le 6, 3) := by decide +kernel
theorem dX6_leap_21 : decode cX6_leap 21 = .ok (.bipush (-2), 2) := by decide +kernel
theorem dX6_leap_23 : decode cX6_leap 23 = .ok (.ireturn, 1) := by decide +kernel
theorem dX6_leap_24 : decode cX6_leap 24 = .ok (.aload_n 0, 1) := by decide +kernel
theorem dX6_leap_25 : decode cX6_leap 25 = .ok (.getfield 30, 3) := by decide +kernel
theorem dX6_leap_28 : decode cX6_leap 28 = .ok (.aload_n 0, 1) := by decide +kernel
theorem dX6_leap_29 : decode cX6_leap 29 = .ok (.getfield 10, 3) := by decide +kernel
theorem dX6_leap_32 : decode cX6_leap 32 = .ok (.sipush 240, 3) := by decide +kernel
theorem dX6_leap_35 : decode cX6_leap 35 = .ok (.invokevirtual 97, 3) := by decide +kernel
theorem dX6_leap_38 : decode cX6_leap 38 = .ok (.aload_n 0, 1) := by decide +kernel
theorem dX6_leap_39 : decode cX6_leap 39 = .ok (.getfield 30, 3) := by decide +kernel
theorem dX6_leap_42 : decode cX6_leap 42 = .ok (.iload_n 1, 1) := by decide +kernel
theorem dX6_leap_43 : decode cX6_leap 43 = .ok (.iload_n 2, 1) := by decide +kernel
theorem dX6_leap_44 : decode cX6_leap 44 = .ok (.invokevirtual 124, 3) := by decide +kernel
theorem dX6_leap_47 : decode cX6_leap 47 = .ok (.aload_n 0, 1) := by decide +kernel
theorem dX6_leap_48 : decode cX6_leap 48 = .ok (.getfield 30, 3) := by decide +kernel
theorem dX6_leap_51 : decode cX6_leap 51 = .ok (.sipush 240, 3) := by decide +kernel
theorem dX6_leap_54 : decode cX6_leap 54 = .ok (.invokevirtual 127, 3) := by decide +kernel
theorem dX6_leap_57 : decode cX6_leap 57 = .ok (.ifCond .eq 17, 3) := by decide +kernel
theorem dX6_leap_60 : decode cX6_leap 60 = .ok (.aload_n 0, 1) := by decide +kernel
theorem dX6_leap_61 : decode cX6_leap 61 = .ok (.getfield 30, 3) := by decide +kernel
theorem dX6_leap_64 : decode cX6_leap 64 = .ok (.aload_n 0, 1) := by decide +kernel
theorem dX6_leap_65 : decode cX6_leap 65 = .ok (.getfield 10, 3) := by decide +kernel
theorem dX6_leap_68 : decode cX6_leap 68 = .ok (.invokevirtual 130, 3) := by decide +kernel
theorem dX6_leap_71 : decode cX6_leap 71 = .ok (.ifCond .ne 6, 3) := by decide +kernel
theorem dX6_leap_74 : decode cX6_leap 74 = .ok (.bipush (-4), 2) := by decide +kernel
theorem dX6_leap_76 : decode cX6_leap 76 = .ok (.ireturn, 1) := by decide +kernel
theorem dX6_leap_77 : decode cX6_leap 77 = .ok (.aload_n 0, 1) := by decide +kernel
theorem dX6_leap_78 : decode cX6_leap 78 = .ok (.dup, 1) := by decide +kernel
theorem dX6_leap_79 : decode cX6_leap 79 = .ok (.getfield 134, 3) := by decide +kernel
theorem dX6_leap_82 : decode cX6_leap 82 = .ok (.iconst 1, 1) := by decide +kernel
theorem dX6_leap_83 : decode cX6_leap 83 = .ok (.iadd, 1) := by decide +kernel
theorem dX6_leap_84 : decode cX6_leap 84 = .ok (.putfield 134, 3) := by decide +kernel
theorem dX6_leap_87 : decode cX6_leap 87 = .ok (.aload_n 0, 1) := by decide +kernel
theorem dX6_leap_88 : decode cX6_leap 88 = .ok (.getfield 10, 3) := by decide +kernel
theorem dX6_leap_91 : decode cX6_leap 91 = .ok (.invokevirtual 137, 3) := by decide +kernel
theorem dX6_leap_94 : decode cX6_leap 94 = .ok (.ireturn, 1) := by decide +kernel
set_option maxRecDepth 20000 in
theorem ggX6_ring_X6_isBox : GoodIn wsX6_ring wsX6_isBox := goodIn_r _ [6] (by decide +kernel) (by decide +kernel)
set_option maxRecDepth 20000 in
theorem gX6_ring_X6_isBox : GoodIn wsX6_ring (va_wsS RX6 54 yX6_isBox wsX6_isBox) := goodIn_app (goodIn_of _ (by decide +kernel)) ggX6_ring_X6_isBox
set_option maxRecDepth 20000 in
theorem ggX6_ring_X3_bits : GoodIn wsX6_ring wsX3_bits := goodIn_r _ [11, 12, 13, 14, 10, 15, 16, 4, 5, 6, 43, 44] (by decide +kernel) (by decide +kernel)
set_option maxRecDepth 20000 in
theorem gX6_ring_X3_bits : GoodIn wsX6_ring (wsV RX6 140 RX3 yX3_bits wsX3_bits) := goodIn_app (goodIn_of _ (by decide +kernel)) ggX6_ring_X3_bits
set_option maxRecDepth 20000 in
theorem ggX6_ring_J13_bitCount_95d88 : GoodIn wsX6_ring wsJ13_bitCount_95d88 := goodIn_r _ [20, 21, 22, 23] (by decide +kernel) (by decide +kernel)
set_option maxRecDepth 20000 in
theorem gX6_ring_J13_bitCount_95d88 : GoodIn wsX6_ring (va_wsS RX6 144 yJ13_bitCount_95d88 wsJ13_bitCount_95d88) := goodIn_app (goodIn_of _ (by decide +kernel)) ggX6_ring_J13_bitCount_95d88
set_option maxRecDepth 20000 in
theorem ggX6_ring_X6_isFewerThanHalf : GoodIn wsX6_ring wsX6_isFewerThanHalf := goodIn_r _ [26] (by decide +kernel) (by decide +kernel)
set_option maxRecDepth 20000 in
theorem gX6_ring_X6_isFewerThanHalf : GoodIn wsX6_ring (va_wsS RX6 150 yX6_isFewerThanHalf wsX6_isFewerThanHalf) := goodIn_app (goodIn_of _ (by decide +kernel)) ggX6_ring_X6_isFewerThanHalf
set_option maxRecDepth 20000 in
theorem ggX6_ring_X1_become : GoodIn wsX6_ring wsX1_become := goodIn_r _ [31, 32, 33, 45, 46, 47, 48] (by decide +kernel) (by decide +kernel)
set_option maxRecDepth 20000 in
theorem gX6_ring_X1_become : GoodIn wsX6_ring (wsV RX6 154 RX1 yX1_become wsX1_become) := goodIn_app (goodIn_of _ (by decide +kernel)) ggX6_ring_X1_become
theorem dX6_ring_0 : decode cX6_ring 0 = .ok (.iload_n 1, 1) := by decide +kernel
theorem dX6_ring_1 : decode cX6_ring 1 = .ok (.invokestatic 54, 3) := by decide +kernel
theorem dX6_ring_4 : decode cX6_ring 4 = .ok (.ifCond .eq 23, 3) := by decide +kernel
theorem dX6_ring_7 : decode cX6_ring 7 = .ok (.iload_n 2, 1) := by decide +kernel
theorem dX6_ring_8 : decode cX6_ring 8 = .ok (.iconst 1, 1) := by decide +kernel
theorem dX6_ring_9 : decode cX6_ring 9 = .ok (.if_icmp .lt 18, 3) := by decide +kernel
theorem dX6_ring_12 : decode cX6_ring 12 = .ok (.iload_n 2, 1) := by decide +kernel
theorem dX6_ring_13 : decode cX6_ring 13 = .ok (.bipush 40, 2) := by decide +kernel
theorem dX6_ring_15 : decode cX6_ring 15 = .ok (.if_icmp .gt 12, 3) := by decide +kernel
theorem dX6_ring_18 : decode cX6_ring 18 = .ok (.iload_n 1, 1) := by decide +kernel
theorem dX6_ring_19 : decode cX6_ring 19 = .ok (.iload_n 2, 1) := by decide +kernel
theorem dX6_ring_20 : decode cX6_ring 20 = .ok (.iadd, 1) := by decide +kernel
theorem dX6_ring_21 : decode cX6_ring 21 = .ok (.sipush 240, 3) := by decide +kernel
theorem dX6_ring_24 : decode cX6_ring 24 = .ok (.if_icmp .le 6, 3) := by decide +kernel
theorem dX6_ring_27 : decode cX6_ring 27 = .ok (.bipush (-2), 2) := by decide +kernel
theorem dX6_ring_29 : decode cX6_ring 29 = .ok (.ireturn, 1) := by decide +kernel
theorem dX6_ring_30 : decode cX6_ring 30 = .ok (.aload_n 0, 1) := by decide +kernel
theorem dX6_ring_31 : decode cX6_ring 31 = .ok (.getfield 10, 3) := by decide +kernel
theorem dX6_ring_34 : decode cX6_ring 34 = .ok (.iload_n 1, 1) := by decide +kernel
theorem dX6_ring_35 : decode cX6_ring 35 = .ok (.iload_n 2, 1) := by decide +kernel
theorem dX6_ring_36 : decode cX6_ring 36 = .ok (.invokevirtual 140, 3) := by decide +kernel
theorem dX6_ring_39 : decode cX6_ring 39 = .ok (.lstore_n 3, 1) := by decide +kernel
theorem dX6_ring_40 : decode cX6_ring 40 = .ok (.lload_n 3, 1) := by decide +kernel
theorem dX6_ring_41 : decode cX6_ring 41 = .ok (.invokestatic 144, 3) := by decide +kernel
theorem dX6_ring_44 : decode cX6_ring 44 = .ok (.istore 5, 2) := by decide +kernel
theorem dX6_ring_46 : decode cX6_ring 46 = .ok (.iload 5, 2) := by decide +kernel
theorem dX6_ring_48 : decode cX6_ring 48 = .ok (.iload_n 2, 1) := by decide +kernel
theorem dX6_ring_49 : decode cX6_ring 49 = .ok (.invokestatic 150, 3) := by decide +kernel
theorem dX6_ring_52 : decode cX6_ring 52 = .ok (.ifCond .ne 6, 3) := by decide +kernel
theorem dX6_ring_55 : decode cX6_ring 55 = .ok (.bipush (-3), 2) := by decide +kernel
theorem dX6_ring_57 : decode cX6_ring 57 = .ok (.ireturn, 1) := by decide +kernel
theorem dX6_ring_58 : decode cX6_ring 58 = .ok (.aload_n 0, 1) := by decide +kernel
theorem dX6_ring_59 : decode cX6_ring 59 = .ok (.getfield 36, 3) := by decide +kernel
theorem dX6_ring_62 : decode cX6_ring 62 = .ok (.iload_n 2, 1) := by decide +kernel
theorem dX6_ring_63 : decode cX6_ring 63 = .ok (.lload_n 3, 1) := by decide +kernel
theorem dX6_ring_64 : decode cX6_ring 64 = .ok (.invokevirtual 154, 3) := by decide +kernel
theorem dX6_ring_67 : decode cX6_ring 67 = .ok (.iload 5, 2) := by decide +kernel
theorem dX6_ring_69 : decode cX6_ring 69 = .ok (.ireturn, 1) := by decide +kernel
set_option maxRecDepth 20000 in
theorem ggX6_ringAt_X1_isRingBox : GoodIn wsX6_ringAt wsX1_isRingBox := goodIn_r _ [6, 7, 22, 23, 24, 25] (by decide +kernel) (by decide +kernel)
set_option maxRecDepth 20000 in
theorem gX6_ringAt_X1_isRingBox : GoodIn wsX6_ringAt (wsV RX6 158 RX1 yX1_isRingBox wsX1_isRingBox) := goodIn_app (goodIn_of _ (by decide +kernel)) ggX6_ringAt_X1_isRingBox
set_option maxRecDepth 20000 in
theorem ggX6_ringAt_X1_ballAt : GoodIn wsX6_ringAt wsX1_ballAt := goodIn_r _ [11, 12, 22, 23, 24, 25] (by decide +kernel) (by decide +kernel)
set_option maxRecDepth 20000 in
theorem gX6_ringAt_X1_ballAt : GoodIn wsX6_ringAt (wsV RX6 161 RX1 yX1_ballAt wsX1_ballAt) := goodIn_app (goodIn_of _ (by decide +kernel)) ggX6_ringAt_X1_ballAt
theorem dX6_ringAt_0 : decode cX6_ringAt 0 = .ok (.aload_n 0, 1) := by decide +kernel
theorem dX6_ringAt_1 : decode cX6_ringAt 1 = .ok (.getfield 36, 3) := by decide +kernel
theorem dX6_ringAt_4 : decode cX6_ringAt 4 = .ok (.iload_n 1, 1) := by decide +kernel
theorem dX6_ringAt_5 : decode cX6_ringAt 5 = .ok (.invokevirtual 158, 3) := by decide +kernel
theorem dX6_ringAt_8 : decode cX6_ringAt 8 = .ok (.ifCond .eq 14, 3) := by decide +kernel
theorem dX6_ringAt_11 : decode cX6_ringAt 11 = .ok (.aload_n 0, 1) := by decide +kernel
theorem dX6_ringAt_12 : decode cX6_ringAt 12 = .ok (.getfield 36, 3) := by decide +kernel
theorem dX6_ringAt_15 : decode cX6_ringAt 15 = .ok (.iload_n 1, 1) := by decide +kernel
theorem dX6_ringAt_16 : decode cX6_ringAt 16 = .ok (.invokevirtual 161, 3) := by decide +kernel
theorem dX6_ringAt_19 : decode cX6_ringAt 19 = .ok (.goto 5, 3) := by decide +kernel
theorem dX6_ringAt_22 : decode cX6_ringAt 22 = .ok (.bipush (-2), 2) := by decide +kernel
theorem dX6_ringAt_24 : decode cX6_ringAt 24 = .ok (.ireturn, 1) := by decide +kernel
set_option maxRecDepth 20000 in
theorem ggX6_turn_X6_isRoom : GoodIn wsX6_turn wsX6_isRoom := goodIn_r _ [5] (by decide +kernel) (by decide +kernel)
set_option maxRecDepth 20000 in
theorem gX6_turn_X6_isRoom : GoodIn wsX6_turn (va_wsS RX6 73 yX6_isRoom wsX6_isRoom) := goodIn_app (goodIn_of _ (by decide +kernel)) ggX6_turn_X6_isRoom
set_option maxRecDepth 20000 in
theorem ggX6_turn_X1_turnBy : GoodIn wsX6_turn wsX1_turnBy := goodIn_r _ [10, 11, 12, 13, 14, 15, 16, 9, 17, 18, 19, 20, 21, 22, 23, 4, 24, 34, 35, 36, 37] (by decide +kernel) (by decide +kernel)
set_option maxRecDepth 20000 in
theorem gX6_turn_X1_turnBy : GoodIn wsX6_turn (wsV RX6 162 RX1 yX1_turnBy wsX1_turnBy) := goodIn_app (goodIn_of _ (by decide +kernel)) ggX6_turn_X1_turnBy
theorem dX6_turn_0 : decode cX6_turn 0 = .ok (.iload_n 1, 1) := by decide +kernel
theorem dX6_turn_1 : decode cX6_turn 1 = .ok (.invokestatic 73, 3) := by decide +kernel
theorem dX6_turn_4 : decode cX6_turn 4 = .ok (.ifCond .eq 14, 3) := by decide +kernel
theorem dX6_turn_7 : decode cX6_turn 7 = .ok (.aload_n 0, 1) := by decide +kernel
theorem dX6_turn_8 : decode cX6_turn 8 = .ok (.getfield 36, 3) := by decide +kernel
theorem dX6_turn_11 : decode cX6_turn 11 = .ok (.iload_n 1, 1) := by decide +kernel
theorem dX6_turn_12 : decode cX6_turn 12 = .ok (.invokevirtual 162, 3) := by decide +kernel
theorem dX6_turn_15 : decode cX6_turn 15 = .ok (.goto 5, 3) := by decide +kernel
theorem dX6_turn_18 : decode cX6_turn 18 = .ok (.bipush (-2), 2) := by decide +kernel
theorem dX6_turn_20 : decode cX6_turn 20 = .ok (.ireturn, 1) := by decide +kernel
set_option maxRecDepth 20000 in
theorem ggX6_period_X6_isRoom : GoodIn wsX6_period wsX6_isRoom := goodIn_r _ [6] (by decide +kernel) (by decide +kernel)
set_option maxRecDepth 20000 in
theorem gX6_period_X6_isRoom : GoodIn wsX6_period (va_wsS RX6 73 yX6_isRoom wsX6_isRoom) := goodIn_app (goodIn_of _ (by decide +kernel)) ggX6_period_X6_isRoom
set_option maxRecDepth 20000 in
theorem ggX6_period_X2_periodOf : GoodIn wsX6_period wsX2_periodOf := goodIn_r _ [11, 12, 13, 14, 15, 16, 17, 18, 19, 20, 21, 22, 23, 24, 25, 26, 27, 28, 29, 30, 31, 32, 33, 34, 5, 35, 45, 46, 47, 48, 49, 50] (by decide +kernel) (by decide +kernel)
set_option maxRecDepth 20000 in
theorem gX6_period_X2_periodOf : GoodIn wsX6_period (wsV RX6 165 RX2 yX2_periodOf wsX2_periodOf) := goodIn_app (goodIn_of _ (by decide +kernel)) ggX6_period_X2_periodOf
theorem dX6_period_0 : decode cX6_period 0 = .ok (.iload_n 1, 1) := by decide +kernel
theorem dX6_period_1 : decode cX6_period 1 = .ok (.invokestatic 73, 3) := by decide +kernel
theorem dX6_period_4 : decode cX6_period 4 = .ok (.ifCond .eq 18, 3) := by decide +kernel
theorem dX6_period_7 : decode cX6_period 7 = .ok (.aload_n 0, 1) := by decide +kernel
theorem dX6_period_8 : decode cX6_period 8 = .ok (.getfield 43, 3) := by decide +kernel
theorem dX6_period_11 : decode cX6_period 11 = .ok (.aload_n 0, 1) := by decide +kernel
theorem dX6_period_12 : decode cX6_period 12 = .ok (.getfield 36, 3) := by decide +kernel
theorem dX6_period_15 : decode cX6_period 15 = .ok (.iload_n 1, 1) := by decide +kernel
theorem dX6_period_16 : decode cX6_period 16 = .ok (.invokevirtual 165, 3) := by decide +kernel
theorem dX6_period_19 : decode cX6_period 19 = .ok (.goto 5, 3) := by decide +kernel
theorem dX6_period_22 : decode cX6_period 22 = .ok (.bipush (-2), 2) := by decide +kernel
theorem dX6_period_24 : decode cX6_period 24 = .ok (.ireturn, 1) := by decide +kernel
set_option maxRecDepth 20000 in
theorem ggX6_rings_X6_isFewerThanHalf : GoodIn wsX6_rings wsX6_isFewerThanHalf := goodIn_r _ [5] (by decide +kernel) (by decide +kernel)
set_option maxRecDepth 20000 in
theorem gX6_rings_X6_isFewerThanHalf : GoodIn wsX6_rings (va_wsS RX6 150 yX6_isFewerThanHalf wsX6_isFewerThanHalf) := goodIn_app (goodIn_of _ (by decide +kernel)) ggX6_rings_X6_isFewerThanHalf
set_option maxRecDepth 20000 in
theorem ggX6_rings_X6_isRoom : GoodIn wsX6_rings wsX6_isRoom := goodIn_r _ [8] (by decide +kernel) (by decide +kernel)
set_option maxRecDepth 20000 in
theorem gX6_rings_X6_isRoom : GoodIn wsX6_rings (va_wsS RX6 73 yX6_isRoom wsX6_isRoom) := goodIn_app (goodIn_of _ (by decide +kernel)) ggX6_rings_X6_isRoom
set_option maxRecDepth 20000 in
theorem ggX6_rings_X2_countAll : GoodIn wsX6_rings wsX2_countAll := goodIn_r _ [13, 14, 15, 16, 17, 18, 19, 20] (by decide +kernel) (by decide +kernel)
set_option maxRecDepth 20000 in
theorem gX6_rings_X2_countAll : GoodIn wsX6_rings (wsV RX6 169 RX2 yX2_countAll wsX2_countAll) := goodIn_app (goodIn_of _ (by decide +kernel)) ggX6_rings_X2_countAll
set_option maxRecDepth 20000 in
theorem ggX6_rings_X2_countWithPeriod : GoodIn wsX6_rings wsX2_countWithPeriod := goodIn_r _ [24, 25, 26, 27, 12, 28, 29, 14, 15, 16, 17, 18, 19, 20, 30, 31, 32, 33, 34, 35, 36, 37, 38, 39, 40, 41, 42, 43, 44, 45, 46, 47, 48, 49, 50, 51, 52, 53, 54, 55, 56, 57, 58, 59, 60, 4, 61, 62, 63, 64, 65, 75, 76, 77, 78, 79, 80] (by decide +kernel) (by decide +kernel)
set_option maxRecDepth 20000 in
theorem gX6_rings_X2_countWithPeriod : GoodIn wsX6_rings (wsV RX6 172 RX2 yX2_countWithPeriod wsX2_countWithPeriod) := goodIn_app (goodIn_of _ (by decide +kernel)) ggX6_rings_X2_countWithPeriod
theorem dX6_rings_0 : decode cX6_rings 0 = .ok (.iload_n 1, 1) := by decide +kernel
theorem dX6_rings_1 : decode cX6_rings 1 = .ok (.iconst 1, 1) := by decide +kernel
theorem dX6_rings_2 : decode cX6_rings 2 = .ok (.if_icmp .lt 26, 3) := by decide +kernel
theorem dX6_rings_5 : decode cX6_rings 5 = .ok (.iload_n 1, 1) := by decide +kernel
theorem dX6_rings_6 : decode cX6_rings 6 = .ok (.bipush 12, 2) := by decide +kernel
theorem dX6_rings_8 : decode cX6_rings 8 = .ok (.if_icmp .gt 20, 3) := by decide +kernel
theorem dX6_rings_11 : decode cX6_rings 11 = .ok (.iload_n 2, 1) := by decide +kernel
theorem dX6_rings_12 : decode cX6_rings 12 = .ok (.ifCond .lt 16, 3) := by decide +kernel
theorem dX6_rings_15 : decode cX6_rings 15 = .ok (.iload_n 2, 1) := by decide +kernel
theorem dX6_rings_16 : decode cX6_rings 16 = .ok (.iload_n 1, 1) := by decide +kernel
theorem dX6_rings_17 : decode cX6_rings 17 = .ok (.if_icmp .gt 11, 3) := by decide +kernel
theorem dX6_rings_20 : decode cX6_rings 20 = .ok (.iload_n 2, 1) := by decide +kernel
theorem dX6_rings_21 : decode cX6_rings 21 = .ok (.iload_n 1, 1) := by decide +kernel
theorem dX6_rings_22 : decode cX6_rings 22 = .ok (.invokestatic 150, 3) := by decide +kernel
theorem dX6_rings_25 : decode cX6_rings 25 = .ok (.ifCond .ne 6, 3) := by decide +kernel
theorem dX6_rings_28 : decode cX6_rings 28 = .ok (.bipush (-2), 2) := by decide +kernel
theorem dX6_rings_30 : decode cX6_rings 30 = .ok (.ireturn, 1) := by decide +kernel
theorem dX6_rings_31 : decode cX6_rings 31 = .ok (.iload_n 3, 1) := by decide +kernel
theorem dX6_rings_32 : decode cX6_rings 32 = .ok (.invokestatic 73, 3) := by decide +kernel
theorem dX6_rings_35 : decode cX6_rings 35 = .ok (.ifCond .eq 8, 3) := by decide +kernel
theorem dX6_rings_38 : decode cX6_rings 38 = .ok (.iload 4, 2) := by decide +kernel
theorem dX6_rings_40 : decode cX6_rings 40 = .ok (.ifCond .ge 6, 3) := by decide +kernel
theorem dX6_rings_43 : decode cX6_rings 43 = .ok (.bipush (-2), 2) := by decide +kernel
theorem dX6_rings_45 : decode cX6_rings 45 = .ok (.ireturn, 1) := by decide +kernel
theorem dX6_rings_46 : decode cX6_rings 46 = .ok (.iload 4, 2) := by decide +kernel
