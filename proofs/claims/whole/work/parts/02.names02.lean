theorem dX6_rings_48 : decode cX6_rings 48 = .ok (.ifCond .ne 15, 3) := by decide +kernel
theorem dX6_rings_51 : decode cX6_rings 51 = .ok (.aload_n 0, 1) := by decide +kernel
theorem dX6_rings_52 : decode cX6_rings 52 = .ok (.getfield 43, 3) := by decide +kernel
theorem dX6_rings_55 : decode cX6_rings 55 = .ok (.iload_n 1, 1) := by decide +kernel
theorem dX6_rings_56 : decode cX6_rings 56 = .ok (.iload_n 2, 1) := by decide +kernel
theorem dX6_rings_57 : decode cX6_rings 57 = .ok (.invokevirtual 169, 3) := by decide +kernel
theorem dX6_rings_60 : decode cX6_rings 60 = .ok (.goto 15, 3) := by decide +kernel
theorem dX6_rings_63 : decode cX6_rings 63 = .ok (.aload_n 0, 1) := by decide +kernel
theorem dX6_rings_64 : decode cX6_rings 64 = .ok (.getfield 43, 3) := by decide +kernel
theorem dX6_rings_67 : decode cX6_rings 67 = .ok (.iload_n 1, 1) := by decide +kernel
theorem dX6_rings_68 : decode cX6_rings 68 = .ok (.iload_n 2, 1) := by decide +kernel
theorem dX6_rings_69 : decode cX6_rings 69 = .ok (.iload_n 3, 1) := by decide +kernel
theorem dX6_rings_70 : decode cX6_rings 70 = .ok (.iload 4, 2) := by decide +kernel
theorem dX6_rings_72 : decode cX6_rings 72 = .ok (.invokevirtual 172, 3) := by decide +kernel
theorem dX6_rings_75 : decode cX6_rings 75 = .ok (.ireturn, 1) := by decide +kernel
set_option maxRecDepth 20000 in
theorem ggX6_sheet_X6_sheetOf : GoodIn wsX6_sheet wsX6_sheetOf := goodIn_r _ [5, 6, 24, 25, 26, 27, 28, 29, 30, 31, 32] (by decide +kernel) (by decide +kernel)
set_option maxRecDepth 20000 in
theorem gX6_sheet_X6_sheetOf : GoodIn wsX6_sheet (wsV RX6 176 RX6 yX6_sheetOf wsX6_sheetOf) := goodIn_app (goodIn_of _ (by decide +kernel)) ggX6_sheet_X6_sheetOf
set_option maxRecDepth 20000 in
theorem ggX6_sheet_X6_isForm : GoodIn wsX6_sheet wsX6_isForm := goodIn_r _ [9] (by decide +kernel) (by decide +kernel)
set_option maxRecDepth 20000 in
theorem gX6_sheet_X6_isForm : GoodIn wsX6_sheet (va_wsS RX6 180 yX6_isForm wsX6_isForm) := goodIn_app (goodIn_of _ (by decide +kernel)) ggX6_sheet_X6_isForm
set_option maxRecDepth 20000 in
theorem ggX6_sheet_X6_find : GoodIn wsX6_sheet wsX6_find := goodIn_r _ [13, 14, 24, 25, 26, 27, 28, 29, 30, 31, 32] (by decide +kernel) (by decide +kernel)
set_option maxRecDepth 20000 in
theorem gX6_sheet_X6_find : GoodIn wsX6_sheet (wsV RX6 183 RX6 yX6_find wsX6_find) := goodIn_app (goodIn_of _ (by decide +kernel)) ggX6_sheet_X6_find
set_option maxRecDepth 20000 in
theorem ggX6_sheet_X4_begin : GoodIn wsX6_sheet wsX4_begin := goodIn_r _ [19, 20, 21, 22, 23, 33, 34, 35, 36] (by decide +kernel) (by decide +kernel)
set_option maxRecDepth 20000 in
theorem gX6_sheet_X4_begin : GoodIn wsX6_sheet (wsV RX6 186 RX4 yX4_begin wsX4_begin) := goodIn_app (goodIn_of _ (by decide +kernel)) ggX6_sheet_X4_begin
theorem dX6_sheet_0 : decode cX6_sheet 0 = .ok (.aload_n 0, 1) := by decide +kernel
theorem dX6_sheet_1 : decode cX6_sheet 1 = .ok (.iload_n 1, 1) := by decide +kernel
theorem dX6_sheet_2 : decode cX6_sheet 2 = .ok (.invokevirtual 176, 3) := by decide +kernel
theorem dX6_sheet_5 : decode cX6_sheet 5 = .ok (.astore 4, 2) := by decide +kernel
theorem dX6_sheet_7 : decode cX6_sheet 7 = .ok (.aload 4, 2) := by decide +kernel
theorem dX6_sheet_9 : decode cX6_sheet 9 = .ok (.ifnull 16, 3) := by decide +kernel
theorem dX6_sheet_12 : decode cX6_sheet 12 = .ok (.iload_n 2, 1) := by decide +kernel
theorem dX6_sheet_13 : decode cX6_sheet 13 = .ok (.invokestatic 180, 3) := by decide +kernel
theorem dX6_sheet_16 : decode cX6_sheet 16 = .ok (.ifCond .eq 9, 3) := by decide +kernel
theorem dX6_sheet_19 : decode cX6_sheet 19 = .ok (.iload_n 3, 1) := by decide +kernel
theorem dX6_sheet_20 : decode cX6_sheet 20 = .ok (.bipush 100, 2) := by decide +kernel
theorem dX6_sheet_22 : decode cX6_sheet 22 = .ok (.if_icmp .le 6, 3) := by decide +kernel
theorem dX6_sheet_25 : decode cX6_sheet 25 = .ok (.bipush (-2), 2) := by decide +kernel
theorem dX6_sheet_27 : decode cX6_sheet 27 = .ok (.ireturn, 1) := by decide +kernel
theorem dX6_sheet_28 : decode cX6_sheet 28 = .ok (.iload_n 3, 1) := by decide +kernel
theorem dX6_sheet_29 : decode cX6_sheet 29 = .ok (.ifCond .ge 9, 3) := by decide +kernel
theorem dX6_sheet_32 : decode cX6_sheet 32 = .ok (.aload_n 0, 1) := by decide +kernel
theorem dX6_sheet_33 : decode cX6_sheet 33 = .ok (.iconst 5, 1) := by decide +kernel
theorem dX6_sheet_34 : decode cX6_sheet 34 = .ok (.invokevirtual 183, 3) := by decide +kernel
theorem dX6_sheet_37 : decode cX6_sheet 37 = .ok (.ireturn, 1) := by decide +kernel
theorem dX6_sheet_38 : decode cX6_sheet 38 = .ok (.aload 4, 2) := by decide +kernel
theorem dX6_sheet_40 : decode cX6_sheet 40 = .ok (.iload_n 2, 1) := by decide +kernel
theorem dX6_sheet_41 : decode cX6_sheet 41 = .ok (.iload_n 3, 1) := by decide +kernel
theorem dX6_sheet_42 : decode cX6_sheet 42 = .ok (.invokevirtual 186, 3) := by decide +kernel
theorem dX6_sheet_45 : decode cX6_sheet 45 = .ok (.iload_n 3, 1) := by decide +kernel
theorem dX6_sheet_46 : decode cX6_sheet 46 = .ok (.ireturn, 1) := by decide +kernel
set_option maxRecDepth 20000 in
theorem ggX6_lose_X6_sheetOf : GoodIn wsX6_lose wsX6_sheetOf := goodIn_r _ [5, 6, 16, 17, 18, 19, 20, 21, 22, 23, 24] (by decide +kernel) (by decide +kernel)
set_option maxRecDepth 20000 in
theorem gX6_lose_X6_sheetOf : GoodIn wsX6_lose (wsV RX6 176 RX6 yX6_sheetOf wsX6_sheetOf) := goodIn_app (goodIn_of _ (by decide +kernel)) ggX6_lose_X6_sheetOf
set_option maxRecDepth 20000 in
theorem ggX6_lose_X6_find : GoodIn wsX6_lose wsX6_find := goodIn_r _ [10, 11, 16, 17, 18, 19, 20, 21, 22, 23, 24] (by decide +kernel) (by decide +kernel)
set_option maxRecDepth 20000 in
theorem gX6_lose_X6_find : GoodIn wsX6_lose (wsV RX6 183 RX6 yX6_find wsX6_find) := goodIn_app (goodIn_of _ (by decide +kernel)) ggX6_lose_X6_find
theorem dX6_lose_0 : decode cX6_lose 0 = .ok (.aload_n 0, 1) := by decide +kernel
theorem dX6_lose_1 : decode cX6_lose 1 = .ok (.iload_n 1, 1) := by decide +kernel
theorem dX6_lose_2 : decode cX6_lose 2 = .ok (.invokevirtual 176, 3) := by decide +kernel
theorem dX6_lose_5 : decode cX6_lose 5 = .ok (.astore_n 2, 1) := by decide +kernel
theorem dX6_lose_6 : decode cX6_lose 6 = .ok (.aload_n 2, 1) := by decide +kernel
theorem dX6_lose_7 : decode cX6_lose 7 = .ok (.ifnonnull 6, 3) := by decide +kernel
theorem dX6_lose_10 : decode cX6_lose 10 = .ok (.bipush (-2), 2) := by decide +kernel
theorem dX6_lose_12 : decode cX6_lose 12 = .ok (.ireturn, 1) := by decide +kernel
theorem dX6_lose_13 : decode cX6_lose 13 = .ok (.aload_n 2, 1) := by decide +kernel
theorem dX6_lose_14 : decode cX6_lose 14 = .ok (.getfield 189, 3) := by decide +kernel
theorem dX6_lose_17 : decode cX6_lose 17 = .ok (.ifCond .eq 9, 3) := by decide +kernel
theorem dX6_lose_20 : decode cX6_lose 20 = .ok (.aload_n 0, 1) := by decide +kernel
theorem dX6_lose_21 : decode cX6_lose 21 = .ok (.iconst 1, 1) := by decide +kernel
theorem dX6_lose_22 : decode cX6_lose 22 = .ok (.invokevirtual 183, 3) := by decide +kernel
theorem dX6_lose_25 : decode cX6_lose 25 = .ok (.ireturn, 1) := by decide +kernel
theorem dX6_lose_26 : decode cX6_lose 26 = .ok (.aload_n 2, 1) := by decide +kernel
theorem dX6_lose_27 : decode cX6_lose 27 = .ok (.iconst 1, 1) := by decide +kernel
theorem dX6_lose_28 : decode cX6_lose 28 = .ok (.putfield 189, 3) := by decide +kernel
theorem dX6_lose_31 : decode cX6_lose 31 = .ok (.aload_n 2, 1) := by decide +kernel
theorem dX6_lose_32 : decode cX6_lose 32 = .ok (.getfield 193, 3) := by decide +kernel
theorem dX6_lose_35 : decode cX6_lose 35 = .ok (.ireturn, 1) := by decide +kernel
set_option maxRecDepth 20000 in
theorem ggX6_put_X6_sheetOf : GoodIn wsX6_put wsX6_sheetOf := goodIn_r _ [5, 6, 36, 37, 38, 39, 40, 41, 42, 43, 44] (by decide +kernel) (by decide +kernel)
set_option maxRecDepth 20000 in
theorem gX6_put_X6_sheetOf : GoodIn wsX6_put (wsV RX6 176 RX6 yX6_sheetOf wsX6_sheetOf) := goodIn_app (goodIn_of _ (by decide +kernel)) ggX6_put_X6_sheetOf
set_option maxRecDepth 20000 in
theorem ggX6_put_X6_isForm : GoodIn wsX6_put wsX6_isForm := goodIn_r _ [9] (by decide +kernel) (by decide +kernel)
set_option maxRecDepth 20000 in
theorem gX6_put_X6_isForm : GoodIn wsX6_put (va_wsS RX6 180 yX6_isForm wsX6_isForm) := goodIn_app (goodIn_of _ (by decide +kernel)) ggX6_put_X6_isForm
set_option maxRecDepth 20000 in
theorem ggX6_put_X4_findingAt : GoodIn wsX6_put wsX4_findingAt := goodIn_r _ [14, 15, 16, 17, 18, 19, 13, 20, 21, 45, 46, 47, 48] (by decide +kernel) (by decide +kernel)
set_option maxRecDepth 20000 in
theorem gX6_put_X4_findingAt : GoodIn wsX6_put (wsV RX6 194 RX4 yX4_findingAt wsX4_findingAt) := goodIn_app (goodIn_of _ (by decide +kernel)) ggX6_put_X4_findingAt
set_option maxRecDepth 20000 in
theorem ggX6_put_X6_find : GoodIn wsX6_put wsX6_find := goodIn_r _ [25, 26, 36, 37, 38, 39, 40, 41, 42, 43, 44] (by decide +kernel) (by decide +kernel)
set_option maxRecDepth 20000 in
theorem gX6_put_X6_find : GoodIn wsX6_put (wsV RX6 183 RX6 yX6_find wsX6_find) := goodIn_app (goodIn_of _ (by decide +kernel)) ggX6_put_X6_find
set_option maxRecDepth 20000 in
theorem ggX6_put_X4_place : GoodIn wsX6_put wsX4_place := goodIn_r _ [30, 31, 17, 18, 19, 13, 20, 21, 32, 33, 34, 35, 16, 45, 46, 47, 48] (by decide +kernel) (by decide +kernel)
set_option maxRecDepth 20000 in
theorem gX6_put_X4_place : GoodIn wsX6_put (wsV RX6 197 RX4 yX4_place wsX4_place) := goodIn_app (goodIn_of _ (by decide +kernel)) ggX6_put_X4_place
theorem dX6_put_0 : decode cX6_put 0 = .ok (.aload_n 0, 1) := by decide +kernel
theorem dX6_put_1 : decode cX6_put 1 = .ok (.iload_n 1, 1) := by decide +kernel
theorem dX6_put_2 : decode cX6_put 2 = .ok (.invokevirtual 176, 3) := by decide +kernel
theorem dX6_put_5 : decode cX6_put 5 = .ok (.astore 5, 2) := by decide +kernel
theorem dX6_put_7 : decode cX6_put 7 = .ok (.aload 5, 2) := by decide +kernel
theorem dX6_put_9 : decode cX6_put 9 = .ok (.ifnull 10, 3) := by decide +kernel
theorem dX6_put_12 : decode cX6_put 12 = .ok (.iload_n 2, 1) := by decide +kernel
theorem dX6_put_13 : decode cX6_put 13 = .ok (.invokestatic 180, 3) := by decide +kernel
theorem dX6_put_16 : decode cX6_put 16 = .ok (.ifCond .ne 6, 3) := by decide +kernel
theorem dX6_put_19 : decode cX6_put 19 = .ok (.bipush (-2), 2) := by decide +kernel
theorem dX6_put_21 : decode cX6_put 21 = .ok (.ireturn, 1) := by decide +kernel
theorem dX6_put_22 : decode cX6_put 22 = .ok (.aload 5, 2) := by decide +kernel
theorem dX6_put_24 : decode cX6_put 24 = .ok (.iload_n 2, 1) := by decide +kernel
theorem dX6_put_25 : decode cX6_put 25 = .ok (.iload_n 3, 1) := by decide +kernel
theorem dX6_put_26 : decode cX6_put 26 = .ok (.invokevirtual 194, 3) := by decide +kernel
theorem dX6_put_29 : decode cX6_put 29 = .ok (.istore 6, 2) := by decide +kernel
theorem dX6_put_31 : decode cX6_put 31 = .ok (.iload 6, 2) := by decide +kernel
theorem dX6_put_33 : decode cX6_put 33 = .ok (.ifCond .eq 10, 3) := by decide +kernel
theorem dX6_put_36 : decode cX6_put 36 = .ok (.aload_n 0, 1) := by decide +kernel
theorem dX6_put_37 : decode cX6_put 37 = .ok (.iload 6, 2) := by decide +kernel
theorem dX6_put_39 : decode cX6_put 39 = .ok (.invokevirtual 183, 3) := by decide +kernel
theorem dX6_put_42 : decode cX6_put 42 = .ok (.ireturn, 1) := by decide +kernel
theorem dX6_put_43 : decode cX6_put 43 = .ok (.aload 5, 2) := by decide +kernel
theorem dX6_put_45 : decode cX6_put 45 = .ok (.iload_n 3, 1) := by decide +kernel
theorem dX6_put_46 : decode cX6_put 46 = .ok (.iload 4, 2) := by decide +kernel
theorem dX6_put_48 : decode cX6_put 48 = .ok (.invokevirtual 197, 3) := by decide +kernel
theorem dX6_put_51 : decode cX6_put 51 = .ok (.iconst 1, 1) := by decide +kernel
theorem dX6_put_52 : decode cX6_put 52 = .ok (.ireturn, 1) := by decide +kernel
set_option maxRecDepth 20000 in
theorem ggX6_get_X6_sheetOf : GoodIn wsX6_get wsX6_sheetOf := goodIn_r _ [6, 7, 33, 34, 35, 36, 37, 38, 39, 40, 41] (by decide +kernel) (by decide +kernel)
set_option maxRecDepth 20000 in
theorem gX6_get_X6_sheetOf : GoodIn wsX6_get (wsV RX6 176 RX6 yX6_sheetOf wsX6_sheetOf) := goodIn_app (goodIn_of _ (by decide +kernel)) ggX6_get_X6_sheetOf
set_option maxRecDepth 20000 in
theorem ggX6_get_X6_isForm : GoodIn wsX6_get wsX6_isForm := goodIn_r _ [10] (by decide +kernel) (by decide +kernel)
set_option maxRecDepth 20000 in
theorem gX6_get_X6_isForm : GoodIn wsX6_get (va_wsS RX6 180 yX6_isForm wsX6_isForm) := goodIn_app (goodIn_of _ (by decide +kernel)) ggX6_get_X6_isForm
set_option maxRecDepth 20000 in
theorem ggX6_get_X4_findingAt : GoodIn wsX6_get wsX4_findingAt := goodIn_r _ [15, 16, 17, 18, 19, 20, 14, 21, 22, 42, 43, 44, 45] (by decide +kernel) (by decide +kernel)
set_option maxRecDepth 20000 in
theorem gX6_get_X4_findingAt : GoodIn wsX6_get (wsV RX6 194 RX4 yX4_findingAt wsX4_findingAt) := goodIn_app (goodIn_of _ (by decide +kernel)) ggX6_get_X4_findingAt
set_option maxRecDepth 20000 in
theorem ggX6_get_X6_find : GoodIn wsX6_get wsX6_find := goodIn_r _ [26, 27, 33, 34, 35, 36, 37, 38, 39, 40, 41] (by decide +kernel) (by decide +kernel)
set_option maxRecDepth 20000 in
theorem gX6_get_X6_find : GoodIn wsX6_get (wsV RX6 183 RX6 yX6_find wsX6_find) := goodIn_app (goodIn_of _ (by decide +kernel)) ggX6_get_X6_find
set_option maxRecDepth 20000 in
theorem ggX6_get_X4_itemAt : GoodIn wsX6_get wsX4_itemAt := goodIn_r _ [31, 32, 18, 19, 20, 14, 21, 22, 42, 43, 44, 45] (by decide +kernel) (by decide +kernel)
set_option maxRecDepth 20000 in
theorem gX6_get_X4_itemAt : GoodIn wsX6_get (wsV RX6 199 RX4 yX4_itemAt wsX4_itemAt) := goodIn_app (goodIn_of _ (by decide +kernel)) ggX6_get_X4_itemAt
theorem dX6_get_0 : decode cX6_get 0 = .ok (.aload_n 0, 1) := by decide +kernel
theorem dX6_get_1 : decode cX6_get 1 = .ok (.iload_n 1, 1) := by decide +kernel
theorem dX6_get_2 : decode cX6_get 2 = .ok (.invokevirtual 176, 3) := by decide +kernel
theorem dX6_get_5 : decode cX6_get 5 = .ok (.astore 4, 2) := by decide +kernel
theorem dX6_get_7 : decode cX6_get 7 = .ok (.aload 4, 2) := by decide +kernel
theorem dX6_get_9 : decode cX6_get 9 = .ok (.ifnull 10, 3) := by decide +kernel
theorem dX6_get_12 : decode cX6_get 12 = .ok (.iload_n 2, 1) := by decide +kernel
theorem dX6_get_13 : decode cX6_get 13 = .ok (.invokestatic 180, 3) := by decide +kernel
theorem dX6_get_16 : decode cX6_get 16 = .ok (.ifCond .ne 6, 3) := by decide +kernel
theorem dX6_get_19 : decode cX6_get 19 = .ok (.ldc 198, 2) := by decide +kernel
theorem dX6_get_21 : decode cX6_get 21 = .ok (.ireturn, 1) := by decide +kernel
theorem dX6_get_22 : decode cX6_get 22 = .ok (.aload 4, 2) := by decide +kernel
theorem dX6_get_24 : decode cX6_get 24 = .ok (.iload_n 2, 1) := by decide +kernel
theorem dX6_get_25 : decode cX6_get 25 = .ok (.iload_n 3, 1) := by decide +kernel
theorem dX6_get_26 : decode cX6_get 26 = .ok (.invokevirtual 194, 3) := by decide +kernel
theorem dX6_get_29 : decode cX6_get 29 = .ok (.istore 5, 2) := by decide +kernel
theorem dX6_get_31 : decode cX6_get 31 = .ok (.iload 5, 2) := by decide +kernel
theorem dX6_get_33 : decode cX6_get 33 = .ok (.ifCond .eq 13, 3) := by decide +kernel
theorem dX6_get_36 : decode cX6_get 36 = .ok (.aload_n 0, 1) := by decide +kernel
theorem dX6_get_37 : decode cX6_get 37 = .ok (.iload 5, 2) := by decide +kernel
theorem dX6_get_39 : decode cX6_get 39 = .ok (.invokevirtual 183, 3) := by decide +kernel
theorem dX6_get_42 : decode cX6_get 42 = .ok (.pop, 1) := by decide +kernel
theorem dX6_get_43 : decode cX6_get 43 = .ok (.ldc 198, 2) := by decide +kernel
theorem dX6_get_45 : decode cX6_get 45 = .ok (.ireturn, 1) := by decide +kernel
theorem dX6_get_46 : decode cX6_get 46 = .ok (.aload 4, 2) := by decide +kernel
theorem dX6_get_48 : decode cX6_get 48 = .ok (.iload_n 3, 1) := by decide +kernel
theorem dX6_get_49 : decode cX6_get 49 = .ok (.invokevirtual 199, 3) := by decide +kernel
theorem dX6_get_52 : decode cX6_get 52 = .ok (.ireturn, 1) := by decide +kernel
set_option maxRecDepth 20000 in
theorem ggX6_copy_X6_sheetOf : GoodIn wsX6_copy wsX6_sheetOf := goodIn_r _ [9, 10, 26, 27, 28, 29, 30, 31, 32, 33, 34] (by decide +kernel) (by decide +kernel)
set_option maxRecDepth 20000 in
theorem gX6_copy_X6_sheetOf : GoodIn wsX6_copy (wsV RX6 176 RX6 yX6_sheetOf wsX6_sheetOf) := goodIn_app (goodIn_of _ (by decide +kernel)) ggX6_copy_X6_sheetOf
set_option maxRecDepth 20000 in
theorem ggX6_copy_X6_find : GoodIn wsX6_copy wsX6_find := goodIn_r _ [14, 15, 26, 27, 28, 29, 30, 31, 32, 33, 34] (by decide +kernel) (by decide +kernel)
set_option maxRecDepth 20000 in
theorem gX6_copy_X6_find : GoodIn wsX6_copy (wsV RX6 183 RX6 yX6_find wsX6_find) := goodIn_app (goodIn_of _ (by decide +kernel)) ggX6_copy_X6_find
set_option maxRecDepth 20000 in
theorem ggX6_copy_X4_hasItems : GoodIn wsX6_copy wsX4_hasItems := goodIn_r _ [20, 21, 22, 23, 24, 25] (by decide +kernel) (by decide +kernel)
set_option maxRecDepth 20000 in
theorem gX6_copy_X4_hasItems : GoodIn wsX6_copy (wsV RX6 205 RX4 yX4_hasItems wsX4_hasItems) := goodIn_app (goodIn_of _ (by decide +kernel)) ggX6_copy_X4_hasItems
theorem dX6_copy_0 : decode cX6_copy 0 = .ok (.aload_n 0, 1) := by decide +kernel
theorem dX6_copy_1 : decode cX6_copy 1 = .ok (.iload_n 1, 1) := by decide +kernel
theorem dX6_copy_2 : decode cX6_copy 2 = .ok (.invokevirtual 176, 3) := by decide +kernel
theorem dX6_copy_5 : decode cX6_copy 5 = .ok (.astore 6, 2) := by decide +kernel
theorem dX6_copy_7 : decode cX6_copy 7 = .ok (.aload_n 0, 1) := by decide +kernel
theorem dX6_copy_8 : decode cX6_copy 8 = .ok (.iload_n 3, 1) := by decide +kernel
theorem dX6_copy_9 : decode cX6_copy 9 = .ok (.invokevirtual 176, 3) := by decide +kernel
theorem dX6_copy_12 : decode cX6_copy 12 = .ok (.astore 7, 2) := by decide +kernel
theorem dX6_copy_14 : decode cX6_copy 14 = .ok (.aload 6, 2) := by decide +kernel
theorem dX6_copy_16 : decode cX6_copy 16 = .ok (.ifnull 8, 3) := by decide +kernel
theorem dX6_copy_19 : decode cX6_copy 19 = .ok (.aload 7, 2) := by decide +kernel
theorem dX6_copy_21 : decode cX6_copy 21 = .ok (.ifnonnull 6, 3) := by decide +kernel
theorem dX6_copy_24 : decode cX6_copy 24 = .ok (.bipush (-2), 2) := by decide +kernel
theorem dX6_copy_26 : decode cX6_copy 26 = .ok (.ireturn, 1) := by decide +kernel
theorem dX6_copy_27 : decode cX6_copy 27 = .ok (.aload 6, 2) := by decide +kernel
theorem dX6_copy_29 : decode cX6_copy 29 = .ok (.getfield 189, 3) := by decide +kernel
theorem dX6_copy_32 : decode cX6_copy 32 = .ok (.ifCond .ne 11, 3) := by decide +kernel
theorem dX6_copy_35 : decode cX6_copy 35 = .ok (.aload 7, 2) := by decide +kernel
theorem dX6_copy_37 : decode cX6_copy 37 = .ok (.getfield 189, 3) := by decide +kernel
theorem dX6_copy_40 : decode cX6_copy 40 = .ok (.ifCond .eq 9, 3) := by decide +kernel
theorem dX6_copy_43 : decode cX6_copy 43 = .ok (.aload_n 0, 1) := by decide +kernel
theorem dX6_copy_44 : decode cX6_copy 44 = .ok (.iconst 1, 1) := by decide +kernel
theorem dX6_copy_45 : decode cX6_copy 45 = .ok (.invokevirtual 183, 3) := by decide +kernel
theorem dX6_copy_48 : decode cX6_copy 48 = .ok (.ireturn, 1) := by decide +kernel
theorem dX6_copy_49 : decode cX6_copy 49 = .ok (.aload 6, 2) := by decide +kernel
theorem dX6_copy_51 : decode cX6_copy 51 = .ok (.getfield 202, 3) := by decide +kernel
theorem dX6_copy_54 : decode cX6_copy 54 = .ok (.aload 7, 2) := by decide +kernel
theorem dX6_copy_56 : decode cX6_copy 56 = .ok (.getfield 202, 3) := by decide +kernel
theorem dX6_copy_59 : decode cX6_copy 59 = .ok (.if_icmp .eq 9, 3) := by decide +kernel
theorem dX6_copy_62 : decode cX6_copy 62 = .ok (.aload_n 0, 1) := by decide +kernel
theorem dX6_copy_63 : decode cX6_copy 63 = .ok (.iconst 4, 1) := by decide +kernel
theorem dX6_copy_64 : decode cX6_copy 64 = .ok (.invokevirtual 183, 3) := by decide +kernel
theorem dX6_copy_67 : decode cX6_copy 67 = .ok (.ireturn, 1) := by decide +kernel
theorem dX6_copy_68 : decode cX6_copy 68 = .ok (.aload 6, 2) := by decide +kernel
theorem dX6_copy_70 : decode cX6_copy 70 = .ok (.iload_n 2, 1) := by decide +kernel
theorem dX6_copy_71 : decode cX6_copy 71 = .ok (.iload 5, 2) := by decide +kernel
theorem dX6_copy_73 : decode cX6_copy 73 = .ok (.invokevirtual 205, 3) := by decide +kernel
theorem dX6_copy_76 : decode cX6_copy 76 = .ok (.ifCond .eq 15, 3) := by decide +kernel
theorem dX6_copy_79 : decode cX6_copy 79 = .ok (.aload 7, 2) := by decide +kernel
theorem dX6_copy_81 : decode cX6_copy 81 = .ok (.iload 4, 2) := by decide +kernel
theorem dX6_copy_83 : decode cX6_copy 83 = .ok (.iload 5, 2) := by decide +kernel
theorem dX6_copy_85 : decode cX6_copy 85 = .ok (.invokevirtual 205, 3) := by decide +kernel
theorem dX6_copy_88 : decode cX6_copy 88 = .ok (.ifCond .ne 9, 3) := by decide +kernel
theorem dX6_copy_91 : decode cX6_copy 91 = .ok (.aload_n 0, 1) := by decide +kernel
theorem dX6_copy_92 : decode cX6_copy 92 = .ok (.iconst 2, 1) := by decide +kernel
theorem dX6_copy_93 : decode cX6_copy 93 = .ok (.invokevirtual 183, 3) := by decide +kernel
theorem dX6_copy_96 : decode cX6_copy 96 = .ok (.ireturn, 1) := by decide +kernel
theorem dX6_copy_97 : decode cX6_copy 97 = .ok (.aload 6, 2) := by decide +kernel
theorem dX6_copy_99 : decode cX6_copy 99 = .ok (.getfield 208, 3) := by decide +kernel
theorem dX6_copy_102 : decode cX6_copy 102 = .ok (.iload_n 2, 1) := by decide +kernel
theorem dX6_copy_103 : decode cX6_copy 103 = .ok (.aload 7, 2) := by decide +kernel
theorem dX6_copy_105 : decode cX6_copy 105 = .ok (.getfield 208, 3) := by decide +kernel
theorem dX6_copy_108 : decode cX6_copy 108 = .ok (.iload 4, 2) := by decide +kernel
theorem dX6_copy_110 : decode cX6_copy 110 = .ok (.iload 5, 2) := by decide +kernel
theorem dX6_copy_112 : decode cX6_copy 112 = .ok (.invokestatic 212, 3) := by decide +kernel
theorem dX6_copy_115 : decode cX6_copy 115 = .ok (.iconst 1, 1) := by decide +kernel
theorem dX6_copy_116 : decode cX6_copy 116 = .ok (.ireturn, 1) := by decide +kernel
set_option maxRecDepth 20000 in
theorem ggX6_load_X6_sheetOf : GoodIn wsX6_load wsX6_sheetOf := goodIn_r _ [6, 7, 37, 38, 39, 40, 41, 42, 43, 44, 45] (by decide +kernel) (by decide +kernel)
set_option maxRecDepth 20000 in
theorem gX6_load_X6_sheetOf : GoodIn wsX6_load (wsV RX6 176 RX6 yX6_sheetOf wsX6_sheetOf) := goodIn_app (goodIn_of _ (by decide +kernel)) ggX6_load_X6_sheetOf
set_option maxRecDepth 20000 in
theorem ggX6_load_X6_isBox : GoodIn wsX6_load wsX6_isBox := goodIn_r _ [10] (by decide +kernel) (by decide +kernel)
set_option maxRecDepth 20000 in
theorem gX6_load_X6_isBox : GoodIn wsX6_load (va_wsS RX6 54 yX6_isBox wsX6_isBox) := goodIn_app (goodIn_of _ (by decide +kernel)) ggX6_load_X6_isBox
set_option maxRecDepth 20000 in
theorem ggX6_load_X6_find : GoodIn wsX6_load wsX6_find := goodIn_r _ [14, 15, 37, 38, 39, 40, 41, 42, 43, 44, 45] (by decide +kernel) (by decide +kernel)
set_option maxRecDepth 20000 in
theorem gX6_load_X6_find : GoodIn wsX6_load (wsV RX6 183 RX6 yX6_find wsX6_find) := goodIn_app (goodIn_of _ (by decide +kernel)) ggX6_load_X6_find
set_option maxRecDepth 20000 in
theorem ggX6_load_X4_itemAt : GoodIn wsX6_load wsX4_itemAt := goodIn_r _ [20, 21, 22, 23, 24, 19, 25, 26, 33, 34, 35, 36] (by decide +kernel) (by decide +kernel)
set_option maxRecDepth 20000 in
theorem gX6_load_X4_itemAt : GoodIn wsX6_load (wsV RX6 199 RX4 yX4_itemAt wsX4_itemAt) := goodIn_app (goodIn_of _ (by decide +kernel)) ggX6_load_X4_itemAt
set_option maxRecDepth 20000 in
theorem ggX6_load_X3_place : GoodIn wsX6_load wsX3_place := goodIn_r _ [31, 32, 9, 5, 10, 46, 47] (by decide +kernel) (by decide +kernel)
set_option maxRecDepth 20000 in
theorem gX6_load_X3_place : GoodIn wsX6_load (wsV RX6 62 RX3 yX3_place wsX3_place) := goodIn_app (goodIn_of _ (by decide +kernel)) ggX6_load_X3_place
theorem dX6_load_0 : decode cX6_load 0 = .ok (.aload_n 0, 1) := by decide +kernel
theorem dX6_load_1 : decode cX6_load 1 = .ok (.iload_n 1, 1) := by decide +kernel
theorem dX6_load_2 : decode cX6_load 2 = .ok (.invokevirtual 176, 3) := by decide +kernel
theorem dX6_load_5 : decode cX6_load 5 = .ok (.astore_n 3, 1) := by decide +kernel
theorem dX6_load_6 : decode cX6_load 6 = .ok (.aload_n 3, 1) := by decide +kernel
theorem dX6_load_7 : decode cX6_load 7 = .ok (.ifnull 10, 3) := by decide +kernel
theorem dX6_load_10 : decode cX6_load 10 = .ok (.iload_n 2, 1) := by decide +kernel
theorem dX6_load_11 : decode cX6_load 11 = .ok (.invokestatic 54, 3) := by decide +kernel
theorem dX6_load_14 : decode cX6_load 14 = .ok (.ifCond .ne 6, 3) := by decide +kernel
theorem dX6_load_17 : decode cX6_load 17 = .ok (.bipush (-2), 2) := by decide +kernel
theorem dX6_load_19 : decode cX6_load 19 = .ok (.ireturn, 1) := by decide +kernel
theorem dX6_load_20 : decode cX6_load 20 = .ok (.aload_n 3, 1) := by decide +kernel
theorem dX6_load_21 : decode cX6_load 21 = .ok (.getfield 189, 3) := by decide +kernel
theorem dX6_load_24 : decode cX6_load 24 = .ok (.ifCond .eq 9, 3) := by decide +kernel
theorem dX6_load_27 : decode cX6_load 27 = .ok (.aload_n 0, 1) := by decide +kernel
theorem dX6_load_28 : decode cX6_load 28 = .ok (.iconst 1, 1) := by decide +kernel
theorem dX6_load_29 : decode cX6_load 29 = .ok (.invokevirtual 183, 3) := by decide +kernel
theorem dX6_load_32 : decode cX6_load 32 = .ok (.ireturn, 1) := by decide +kernel
theorem dX6_load_33 : decode cX6_load 33 = .ok (.iload_n 2, 1) := by decide +kernel
theorem dX6_load_34 : decode cX6_load 34 = .ok (.aload_n 3, 1) := by decide +kernel
theorem dX6_load_35 : decode cX6_load 35 = .ok (.getfield 193, 3) := by decide +kernel
theorem dX6_load_38 : decode cX6_load 38 = .ok (.iadd, 1) := by decide +kernel
theorem dX6_load_39 : decode cX6_load 39 = .ok (.sipush 240, 3) := by decide +kernel
theorem dX6_load_42 : decode cX6_load 42 = .ok (.if_icmp .le 9, 3) := by decide +kernel
theorem dX6_load_45 : decode cX6_load 45 = .ok (.aload_n 0, 1) := by decide +kernel
theorem dX6_load_46 : decode cX6_load 46 = .ok (.iconst 2, 1) := by decide +kernel
theorem dX6_load_47 : decode cX6_load 47 = .ok (.invokevirtual 183, 3) := by decide +kernel
theorem dX6_load_50 : decode cX6_load 50 = .ok (.ireturn, 1) := by decide +kernel
theorem dX6_load_51 : decode cX6_load 51 = .ok (.iconst 0, 1) := by decide +kernel
theorem dX6_load_52 : decode cX6_load 52 = .ok (.istore 4, 2) := by decide +kernel
theorem dX6_load_54 : decode cX6_load 54 = .ok (.iload 4, 2) := by decide +kernel
theorem dX6_load_56 : decode cX6_load 56 = .ok (.aload_n 3, 1) := by decide +kernel
theorem dX6_load_57 : decode cX6_load 57 = .ok (.getfield 193, 3) := by decide +kernel
theorem dX6_load_60 : decode cX6_load 60 = .ok (.if_icmp .ge 34, 3) := by decide +kernel
theorem dX6_load_63 : decode cX6_load 63 = .ok (.aload_n 0, 1) := by decide +kernel
theorem dX6_load_64 : decode cX6_load 64 = .ok (.getfield 10, 3) := by decide +kernel
theorem dX6_load_67 : decode cX6_load 67 = .ok (.iload_n 2, 1) := by decide +kernel
theorem dX6_load_68 : decode cX6_load 68 = .ok (.iload 4, 2) := by decide +kernel
theorem dX6_load_70 : decode cX6_load 70 = .ok (.iadd, 1) := by decide +kernel
theorem dX6_load_71 : decode cX6_load 71 = .ok (.aload_n 3, 1) := by decide +kernel
theorem dX6_load_72 : decode cX6_load 72 = .ok (.iload 4, 2) := by decide +kernel
theorem dX6_load_74 : decode cX6_load 74 = .ok (.invokevirtual 199, 3) := by decide +kernel
theorem dX6_load_77 : decode cX6_load 77 = .ok (.ifCond .le 7, 3) := by decide +kernel
theorem dX6_load_80 : decode cX6_load 80 = .ok (.iconst 1, 1) := by decide +kernel
theorem dX6_load_81 : decode cX6_load 81 = .ok (.goto 4, 3) := by decide +kernel
theorem dX6_load_84 : decode cX6_load 84 = .ok (.iconst 0, 1) := by decide +kernel
theorem dX6_load_85 : decode cX6_load 85 = .ok (.invokevirtual 62, 3) := by decide +kernel
theorem dX6_load_88 : decode cX6_load 88 = .ok (.iinc 4 1, 3) := by decide +kernel
theorem dX6_load_91 : decode cX6_load 91 = .ok (.goto (-37), 3) := by decide +kernel
theorem dX6_load_94 : decode cX6_load 94 = .ok (.aload_n 3, 1) := by decide +kernel
theorem dX6_load_95 : decode cX6_load 95 = .ok (.getfield 193, 3) := by decide +kernel
theorem dX6_load_98 : decode cX6_load 98 = .ok (.ireturn, 1) := by decide +kernel
set_option maxRecDepth 20000 in
theorem ggX6_write_X6_sheetOf : GoodIn wsX6_write wsX6_sheetOf := goodIn_r _ [10, 11, 46, 47, 48, 49, 50, 51, 52, 53, 54] (by decide +kernel) (by decide +kernel)
set_option maxRecDepth 20000 in
theorem gX6_write_X6_sheetOf : GoodIn wsX6_write (wsV RX6 176 RX6 yX6_sheetOf wsX6_sheetOf) := goodIn_app (goodIn_of _ (by decide +kernel)) ggX6_write_X6_sheetOf
set_option maxRecDepth 20000 in
theorem ggX6_write_X6_isBox : GoodIn wsX6_write wsX6_isBox := goodIn_r _ [14] (by decide +kernel) (by decide +kernel)
set_option maxRecDepth 20000 in
theorem gX6_write_X6_isBox : GoodIn wsX6_write (va_wsS RX6 54 yX6_isBox wsX6_isBox) := goodIn_app (goodIn_of _ (by decide +kernel)) ggX6_write_X6_isBox
set_option maxRecDepth 20000 in
theorem ggX6_write_X6_find : GoodIn wsX6_write wsX6_find := goodIn_r _ [18, 19, 46, 47, 48, 49, 50, 51, 52, 53, 54] (by decide +kernel) (by decide +kernel)
set_option maxRecDepth 20000 in
theorem gX6_write_X6_find : GoodIn wsX6_write (wsV RX6 183 RX6 yX6_find wsX6_find) := goodIn_app (goodIn_of _ (by decide +kernel)) ggX6_write_X6_find
set_option maxRecDepth 20000 in
theorem ggX6_write_X3_ballAt : GoodIn wsX6_write wsX3_ballAt := goodIn_r _ [24, 25, 13, 9, 14, 55, 56] (by decide +kernel) (by decide +kernel)
set_option maxRecDepth 20000 in
theorem gX6_write_X3_ballAt : GoodIn wsX6_write (wsV RX6 58 RX3 yX3_ballAt wsX3_ballAt) := goodIn_app (goodIn_of _ (by decide +kernel)) ggX6_write_X3_ballAt
set_option maxRecDepth 20000 in
theorem ggX6_write_X4_place : GoodIn wsX6_write wsX4_place := goodIn_r _ [30, 31, 32, 33, 34, 29, 35, 36, 37, 38, 39, 40, 41, 42, 43, 44, 45] (by decide +kernel) (by decide +kernel)
set_option maxRecDepth 20000 in
theorem gX6_write_X4_place : GoodIn wsX6_write (wsV RX6 197 RX4 yX4_place wsX4_place) := goodIn_app (goodIn_of _ (by decide +kernel)) ggX6_write_X4_place
theorem dX6_write_0 : decode cX6_write 0 = .ok (.aload_n 0, 1) := by decide +kernel
theorem dX6_write_1 : decode cX6_write 1 = .ok (.iload_n 1, 1) := by decide +kernel
theorem dX6_write_2 : decode cX6_write 2 = .ok (.invokevirtual 176, 3) := by decide +kernel
theorem dX6_write_5 : decode cX6_write 5 = .ok (.astore_n 3, 1) := by decide +kernel
theorem dX6_write_6 : decode cX6_write 6 = .ok (.aload_n 3, 1) := by decide +kernel
theorem dX6_write_7 : decode cX6_write 7 = .ok (.ifnull 10, 3) := by decide +kernel
theorem dX6_write_10 : decode cX6_write 10 = .ok (.iload_n 2, 1) := by decide +kernel
theorem dX6_write_11 : decode cX6_write 11 = .ok (.invokestatic 54, 3) := by decide +kernel
theorem dX6_write_14 : decode cX6_write 14 = .ok (.ifCond .ne 6, 3) := by decide +kernel
theorem dX6_write_17 : decode cX6_write 17 = .ok (.bipush (-2), 2) := by decide +kernel
theorem dX6_write_19 : decode cX6_write 19 = .ok (.ireturn, 1) := by decide +kernel
theorem dX6_write_20 : decode cX6_write 20 = .ok (.aload_n 3, 1) := by decide +kernel
theorem dX6_write_21 : decode cX6_write 21 = .ok (.getfield 189, 3) := by decide +kernel
theorem dX6_write_24 : decode cX6_write 24 = .ok (.ifCond .eq 9, 3) := by decide +kernel
theorem dX6_write_27 : decode cX6_write 27 = .ok (.aload_n 0, 1) := by decide +kernel
theorem dX6_write_28 : decode cX6_write 28 = .ok (.iconst 1, 1) := by decide +kernel
theorem dX6_write_29 : decode cX6_write 29 = .ok (.invokevirtual 183, 3) := by decide +kernel
theorem dX6_write_32 : decode cX6_write 32 = .ok (.ireturn, 1) := by decide +kernel
theorem dX6_write_33 : decode cX6_write 33 = .ok (.aload_n 3, 1) := by decide +kernel
theorem dX6_write_34 : decode cX6_write 34 = .ok (.getfield 193, 3) := by decide +kernel
theorem dX6_write_37 : decode cX6_write 37 = .ok (.sipush 240, 3) := by decide +kernel
theorem dX6_write_40 : decode cX6_write 40 = .ok (.iload_n 2, 1) := by decide +kernel
theorem dX6_write_41 : decode cX6_write 41 = .ok (.isub, 1) := by decide +kernel
theorem dX6_write_42 : decode cX6_write 42 = .ok (.invokestatic 218, 3) := by decide +kernel
theorem dX6_write_45 : decode cX6_write 45 = .ok (.istore 4, 2) := by decide +kernel
theorem dX6_write_47 : decode cX6_write 47 = .ok (.iconst 0, 1) := by decide +kernel
theorem dX6_write_48 : decode cX6_write 48 = .ok (.istore 5, 2) := by decide +kernel
theorem dX6_write_50 : decode cX6_write 50 = .ok (.iload 5, 2) := by decide +kernel
theorem dX6_write_52 : decode cX6_write 52 = .ok (.iload 4, 2) := by decide +kernel
theorem dX6_write_54 : decode cX6_write 54 = .ok (.if_icmp .ge 26, 3) := by decide +kernel
theorem dX6_write_57 : decode cX6_write 57 = .ok (.aload_n 3, 1) := by decide +kernel
theorem dX6_write_58 : decode cX6_write 58 = .ok (.iload 5, 2) := by decide +kernel
theorem dX6_write_60 : decode cX6_write 60 = .ok (.aload_n 0, 1) := by decide +kernel
theorem dX6_write_61 : decode cX6_write 61 = .ok (.getfield 10, 3) := by decide +kernel
theorem dX6_write_64 : decode cX6_write 64 = .ok (.iload_n 2, 1) := by decide +kernel
theorem dX6_write_65 : decode cX6_write 65 = .ok (.iload 5, 2) := by decide +kernel
theorem dX6_write_67 : decode cX6_write 67 = .ok (.iadd, 1) := by decide +kernel
theorem dX6_write_68 : decode cX6_write 68 = .ok (.invokevirtual 58, 3) := by decide +kernel
theorem dX6_write_71 : decode cX6_write 71 = .ok (.invokevirtual 197, 3) := by decide +kernel
theorem dX6_write_74 : decode cX6_write 74 = .ok (.iinc 5 1, 3) := by decide +kernel
theorem dX6_write_77 : decode cX6_write 77 = .ok (.goto (-27), 3) := by decide +kernel
theorem dX6_write_80 : decode cX6_write 80 = .ok (.iload 4, 2) := by decide +kernel
theorem dX6_write_82 : decode cX6_write 82 = .ok (.ireturn, 1) := by decide +kernel
set_option maxRecDepth 20000 in
theorem ggX6_count_X3_balls : GoodIn wsX6_count wsX3_balls := goodIn_r _ [10, 11, 37, 38] (by decide +kernel) (by decide +kernel)
set_option maxRecDepth 20000 in
theorem gX6_count_X3_balls : GoodIn wsX6_count (wsV RX6 66 RX3 yX3_balls wsX3_balls) := goodIn_app (goodIn_of _ (by decide +kernel)) ggX6_count_X3_balls
set_option maxRecDepth 20000 in
theorem ggX6_count_J13_bitCount_95d88 : GoodIn wsX6_count wsJ13_bitCount_95d88 := goodIn_r _ [15, 16, 17, 18] (by decide +kernel) (by decide +kernel)
set_option maxRecDepth 20000 in
theorem gX6_count_J13_bitCount_95d88 : GoodIn wsX6_count (va_wsS RX6 144 yJ13_bitCount_95d88 wsJ13_bitCount_95d88) := goodIn_app (goodIn_of _ (by decide +kernel)) ggX6_count_J13_bitCount_95d88
theorem dX6_count_0 : decode cX6_count 0 = .ok (.iload_n 1, 1) := by decide +kernel
theorem dX6_count_1 : decode cX6_count 1 = .ok (.tableswitch 84 0 5 #[39, 47, 55, 66, 74, 79], 39) := by decide +kernel
theorem dX6_count_40 : decode cX6_count 40 = .ok (.aload_n 0, 1) := by decide +kernel
theorem dX6_count_41 : decode cX6_count 41 = .ok (.getfield 10, 3) := by decide +kernel
theorem dX6_count_44 : decode cX6_count 44 = .ok (.invokevirtual 66, 3) := by decide +kernel
theorem dX6_count_47 : decode cX6_count 47 = .ok (.ireturn, 1) := by decide +kernel
theorem dX6_count_48 : decode cX6_count 48 = .ok (.aload_n 0, 1) := by decide +kernel
theorem dX6_count_49 : decode cX6_count 49 = .ok (.getfield 36, 3) := by decide +kernel
theorem dX6_count_52 : decode cX6_count 52 = .ok (.getfield 223, 3) := by decide +kernel
theorem dX6_count_55 : decode cX6_count 55 = .ok (.ireturn, 1) := by decide +kernel
theorem dX6_count_56 : decode cX6_count 56 = .ok (.aload_n 0, 1) := by decide +kernel
theorem dX6_count_57 : decode cX6_count 57 = .ok (.getfield 36, 3) := by decide +kernel
theorem dX6_count_60 : decode cX6_count 60 = .ok (.getfield 224, 3) := by decide +kernel
theorem dX6_count_63 : decode cX6_count 63 = .ok (.invokestatic 144, 3) := by decide +kernel
theorem dX6_count_66 : decode cX6_count 66 = .ok (.ireturn, 1) := by decide +kernel
theorem dX6_count_67 : decode cX6_count 67 = .ok (.aload_n 0, 1) := by decide +kernel
theorem dX6_count_68 : decode cX6_count 68 = .ok (.getfield 26, 3) := by decide +kernel
theorem dX6_count_71 : decode cX6_count 71 = .ok (.getfield 104, 3) := by decide +kernel
theorem dX6_count_74 : decode cX6_count 74 = .ok (.ireturn, 1) := by decide +kernel
theorem dX6_count_75 : decode cX6_count 75 = .ok (.aload_n 0, 1) := by decide +kernel
theorem dX6_count_76 : decode cX6_count 76 = .ok (.getfield 134, 3) := by decide +kernel
theorem dX6_count_79 : decode cX6_count 79 = .ok (.ireturn, 1) := by decide +kernel
theorem dX6_count_80 : decode cX6_count 80 = .ok (.aload_n 0, 1) := by decide +kernel
theorem dX6_count_81 : decode cX6_count 81 = .ok (.getfield 227, 3) := by decide +kernel
theorem dX6_count_84 : decode cX6_count 84 = .ok (.ireturn, 1) := by decide +kernel
theorem dX6_count_85 : decode cX6_count 85 = .ok (.bipush (-2), 2) := by decide +kernel
theorem dX6_count_87 : decode cX6_count 87 = .ok (.ireturn, 1) := by decide +kernel
set_option maxRecDepth 20000 in
theorem ggX6_digest_X6_count : GoodIn wsX6_digest wsX6_count := goodIn_r _ [9, 3, 4, 10, 11, 12, 13, 14, 15, 16, 17, 18, 19, 20, 21, 22, 23, 24, 25, 38, 39, 40, 41, 42, 43, 44, 45, 46, 47, 48, 49, 50, 51, 52, 53, 54, 55, 56, 57] (by decide +kernel) (by decide +kernel)
set_option maxRecDepth 20000 in
theorem gX6_digest_X6_count : GoodIn wsX6_digest (wsV RX6 234 RX6 yX6_count wsX6_count) := goodIn_app (goodIn_of _ (by decide +kernel)) ggX6_digest_X6_count
set_option maxRecDepth 20000 in
theorem ggX6_digest_X3_ballAt : GoodIn wsX6_digest wsX3_ballAt := goodIn_r _ [29, 18, 30, 8, 31, 56, 57] (by decide +kernel) (by decide +kernel)
set_option maxRecDepth 20000 in
theorem gX6_digest_X3_ballAt : GoodIn wsX6_digest (wsV RX6 58 RX3 yX3_ballAt wsX3_ballAt) := goodIn_app (goodIn_of _ (by decide +kernel)) ggX6_digest_X3_ballAt
set_option maxRecDepth 20000 in
theorem ggX6_digest_X1_ballAt : GoodIn wsX6_digest wsX1_ballAt := goodIn_r _ [36, 37, 47, 48, 49, 50] (by decide +kernel) (by decide +kernel)
set_option maxRecDepth 20000 in
theorem gX6_digest_X1_ballAt : GoodIn wsX6_digest (wsV RX6 161 RX1 yX1_ballAt wsX1_ballAt) := goodIn_app (goodIn_of _ (by decide +kernel)) ggX6_digest_X1_ballAt
theorem dX6_digest_0 : decode cX6_digest 0 = .ok (.ldc2_w 230, 3) := by decide +kernel
theorem dX6_digest_3 : decode cX6_digest 3 = .ok (.lstore_n 1, 1) := by decide +kernel
theorem dX6_digest_4 : decode cX6_digest 4 = .ok (.iconst 0, 1) := by decide +kernel
theorem dX6_digest_5 : decode cX6_digest 5 = .ok (.istore_n 3, 1) := by decide +kernel
theorem dX6_digest_6 : decode cX6_digest 6 = .ok (.iload_n 3, 1) := by decide +kernel
theorem dX6_digest_7 : decode cX6_digest 7 = .ok (.iconst 4, 1) := by decide +kernel
theorem dX6_digest_8 : decode cX6_digest 8 = .ok (.if_icmp .gt 22, 3) := by decide +kernel
theorem dX6_digest_11 : decode cX6_digest 11 = .ok (.ldc2_w 232, 3) := by decide +kernel
theorem dX6_digest_14 : decode cX6_digest 14 = .ok (.lload_n 1, 1) := by decide +kernel
theorem dX6_digest_15 : decode cX6_digest 15 = .ok (.lmul, 1) := by decide +kernel
theorem dX6_digest_16 : decode cX6_digest 16 = .ok (.aload_n 0, 1) := by decide +kernel
theorem dX6_digest_17 : decode cX6_digest 17 = .ok (.iload_n 3, 1) := by decide +kernel
theorem dX6_digest_18 : decode cX6_digest 18 = .ok (.invokevirtual 234, 3) := by decide +kernel
theorem dX6_digest_21 : decode cX6_digest 21 = .ok (.i2l, 1) := by decide +kernel
theorem dX6_digest_22 : decode cX6_digest 22 = .ok (.ladd, 1) := by decide +kernel
theorem dX6_digest_23 : decode cX6_digest 23 = .ok (.lstore_n 1, 1) := by decide +kernel
theorem dX6_digest_24 : decode cX6_digest 24 = .ok (.iinc 3 1, 3) := by decide +kernel
theorem dX6_digest_27 : decode cX6_digest 27 = .ok (.goto (-21), 3) := by decide +kernel
theorem dX6_digest_30 : decode cX6_digest 30 = .ok (.iconst 0, 1) := by decide +kernel
theorem dX6_digest_31 : decode cX6_digest 31 = .ok (.istore_n 3, 1) := by decide +kernel
theorem dX6_digest_32 : decode cX6_digest 32 = .ok (.iload_n 3, 1) := by decide +kernel
theorem dX6_digest_33 : decode cX6_digest 33 = .ok (.sipush 240, 3) := by decide +kernel
theorem dX6_digest_36 : decode cX6_digest 36 = .ok (.if_icmp .ge 25, 3) := by decide +kernel
theorem dX6_digest_39 : decode cX6_digest 39 = .ok (.ldc2_w 232, 3) := by decide +kernel
theorem dX6_digest_42 : decode cX6_digest 42 = .ok (.lload_n 1, 1) := by decide +kernel
theorem dX6_digest_43 : decode cX6_digest 43 = .ok (.lmul, 1) := by decide +kernel
theorem dX6_digest_44 : decode cX6_digest 44 = .ok (.aload_n 0, 1) := by decide +kernel
theorem dX6_digest_45 : decode cX6_digest 45 = .ok (.getfield 10, 3) := by decide +kernel
theorem dX6_digest_48 : decode cX6_digest 48 = .ok (.iload_n 3, 1) := by decide +kernel
theorem dX6_digest_49 : decode cX6_digest 49 = .ok (.invokevirtual 58, 3) := by decide +kernel
theorem dX6_digest_52 : decode cX6_digest 52 = .ok (.i2l, 1) := by decide +kernel
theorem dX6_digest_53 : decode cX6_digest 53 = .ok (.ladd, 1) := by decide +kernel
theorem dX6_digest_54 : decode cX6_digest 54 = .ok (.lstore_n 1, 1) := by decide +kernel
theorem dX6_digest_55 : decode cX6_digest 55 = .ok (.iinc 3 1, 3) := by decide +kernel
theorem dX6_digest_58 : decode cX6_digest 58 = .ok (.goto (-26), 3) := by decide +kernel
theorem dX6_digest_61 : decode cX6_digest 61 = .ok (.iconst 0, 1) := by decide +kernel
theorem dX6_digest_62 : decode cX6_digest 62 = .ok (.istore_n 3, 1) := by decide +kernel
theorem dX6_digest_63 : decode cX6_digest 63 = .ok (.iload_n 3, 1) := by decide +kernel
theorem dX6_digest_64 : decode cX6_digest 64 = .ok (.aload_n 0, 1) := by decide +kernel
theorem dX6_digest_65 : decode cX6_digest 65 = .ok (.getfield 36, 3) := by decide +kernel
theorem dX6_digest_68 : decode cX6_digest 68 = .ok (.getfield 223, 3) := by decide +kernel
theorem dX6_digest_71 : decode cX6_digest 71 = .ok (.if_icmp .ge 25, 3) := by decide +kernel
theorem dX6_digest_74 : decode cX6_digest 74 = .ok (.ldc2_w 232, 3) := by decide +kernel
theorem dX6_digest_77 : decode cX6_digest 77 = .ok (.lload_n 1, 1) := by decide +kernel
theorem dX6_digest_78 : decode cX6_digest 78 = .ok (.lmul, 1) := by decide +kernel
theorem dX6_digest_79 : decode cX6_digest 79 = .ok (.aload_n 0, 1) := by decide +kernel
theorem dX6_digest_80 : decode cX6_digest 80 = .ok (.getfield 36, 3) := by decide +kernel
theorem dX6_digest_83 : decode cX6_digest 83 = .ok (.iload_n 3, 1) := by decide +kernel
theorem dX6_digest_84 : decode cX6_digest 84 = .ok (.invokevirtual 161, 3) := by decide +kernel
theorem dX6_digest_87 : decode cX6_digest 87 = .ok (.i2l, 1) := by decide +kernel
theorem dX6_digest_88 : decode cX6_digest 88 = .ok (.ladd, 1) := by decide +kernel
theorem dX6_digest_89 : decode cX6_digest 89 = .ok (.lstore_n 1, 1) := by decide +kernel
theorem dX6_digest_90 : decode cX6_digest 90 = .ok (.iinc 3 1, 3) := by decide +kernel
theorem dX6_digest_93 : decode cX6_digest 93 = .ok (.goto (-30), 3) := by decide +kernel
theorem dX6_digest_96 : decode cX6_digest 96 = .ok (.lload_n 1, 1) := by decide +kernel
theorem dX6_digest_97 : decode cX6_digest 97 = .ok (.lreturn, 1) := by decide +kernel
theorem dX6_isBox_0 : decode cX6_isBox 0 = .ok (.iload_n 0, 1) := by decide +kernel
theorem dX6_isBox_1 : decode cX6_isBox 1 = .ok (.ifCond .lt 14, 3) := by decide +kernel
theorem dX6_isBox_4 : decode cX6_isBox 4 = .ok (.iload_n 0, 1) := by decide +kernel
theorem dX6_isBox_5 : decode cX6_isBox 5 = .ok (.sipush 240, 3) := by decide +kernel
theorem dX6_isBox_8 : decode cX6_isBox 8 = .ok (.if_icmp .ge 7, 3) := by decide +kernel
theorem dX6_isBox_11 : decode cX6_isBox 11 = .ok (.iconst 1, 1) := by decide +kernel
theorem dX6_isBox_12 : decode cX6_isBox 12 = .ok (.goto 4, 3) := by decide +kernel
theorem dX6_isBox_15 : decode cX6_isBox 15 = .ok (.iconst 0, 1) := by decide +kernel
theorem dX6_isBox_16 : decode cX6_isBox 16 = .ok (.ireturn, 1) := by decide +kernel
theorem dX6_isRoom_0 : decode cX6_isRoom 0 = .ok (.iload_n 0, 1) := by decide +kernel
theorem dX6_isRoom_1 : decode cX6_isRoom 1 = .ok (.iconst 1, 1) := by decide +kernel
theorem dX6_isRoom_2 : decode cX6_isRoom 2 = .ok (.if_icmp .lt 13, 3) := by decide +kernel
theorem dX6_isRoom_5 : decode cX6_isRoom 5 = .ok (.iload_n 0, 1) := by decide +kernel
theorem dX6_isRoom_6 : decode cX6_isRoom 6 = .ok (.bipush 50, 2) := by decide +kernel
theorem dX6_isRoom_8 : decode cX6_isRoom 8 = .ok (.if_icmp .gt 7, 3) := by decide +kernel
theorem dX6_isRoom_11 : decode cX6_isRoom 11 = .ok (.iconst 1, 1) := by decide +kernel
theorem dX6_isRoom_12 : decode cX6_isRoom 12 = .ok (.goto 4, 3) := by decide +kernel
theorem dX6_isRoom_15 : decode cX6_isRoom 15 = .ok (.iconst 0, 1) := by decide +kernel
theorem dX6_isRoom_16 : decode cX6_isRoom 16 = .ok (.ireturn, 1) := by decide +kernel
theorem dX6_isForm_0 : decode cX6_isForm 0 = .ok (.iload_n 0, 1) := by decide +kernel
theorem dX6_isForm_1 : decode cX6_isForm 1 = .ok (.ifCond .lt 12, 3) := by decide +kernel
theorem dX6_isForm_4 : decode cX6_isForm 4 = .ok (.iload_n 0, 1) := by decide +kernel
theorem dX6_isForm_5 : decode cX6_isForm 5 = .ok (.iconst 3, 1) := by decide +kernel
theorem dX6_isForm_6 : decode cX6_isForm 6 = .ok (.if_icmp .ge 7, 3) := by decide +kernel
theorem dX6_isForm_9 : decode cX6_isForm 9 = .ok (.iconst 1, 1) := by decide +kernel
theorem dX6_isForm_10 : decode cX6_isForm 10 = .ok (.goto 4, 3) := by decide +kernel
theorem dX6_isForm_13 : decode cX6_isForm 13 = .ok (.iconst 0, 1) := by decide +kernel
theorem dX6_isForm_14 : decode cX6_isForm 14 = .ok (.ireturn, 1) := by decide +kernel
theorem dX6_isFewerThanHalf_0 : decode cX6_isFewerThanHalf 0 = .ok (.iconst 2, 1) := by decide +kernel
theorem dX6_isFewerThanHalf_1 : decode cX6_isFewerThanHalf 1 = .ok (.iload_n 0, 1) := by decide +kernel
theorem dX6_isFewerThanHalf_2 : decode cX6_isFewerThanHalf 2 = .ok (.imul, 1) := by decide +kernel
theorem dX6_isFewerThanHalf_3 : decode cX6_isFewerThanHalf 3 = .ok (.iload_n 1, 1) := by decide +kernel
theorem dX6_isFewerThanHalf_4 : decode cX6_isFewerThanHalf 4 = .ok (.if_icmp .ge 7, 3) := by decide +kernel
theorem dX6_isFewerThanHalf_7 : decode cX6_isFewerThanHalf 7 = .ok (.iconst 1, 1) := by decide +kernel
theorem dX6_isFewerThanHalf_8 : decode cX6_isFewerThanHalf 8 = .ok (.goto 4, 3) := by decide +kernel
theorem dX6_isFewerThanHalf_11 : decode cX6_isFewerThanHalf 11 = .ok (.iconst 0, 1) := by decide +kernel
theorem dX6_isFewerThanHalf_12 : decode cX6_isFewerThanHalf 12 = .ok (.ireturn, 1) := by decide +kernel
theorem dX6_loadBehind_0 : decode cX6_loadBehind 0 = .ok (.iload_n 1, 1) := by decide +kernel
theorem dX6_loadBehind_1 : decode cX6_loadBehind 1 = .ok (.ifCond .eq 16, 3) := by decide +kernel
theorem dX6_loadBehind_4 : decode cX6_loadBehind 4 = .ok (.iload_n 0, 1) := by decide +kernel
theorem dX6_loadBehind_5 : decode cX6_loadBehind 5 = .ok (.iload_n 2, 1) := by decide +kernel
theorem dX6_loadBehind_6 : decode cX6_loadBehind 6 = .ok (.if_icmp .ge 9, 3) := by decide +kernel
theorem dX6_loadBehind_9 : decode cX6_loadBehind 9 = .ok (.iload_n 0, 1) := by decide +kernel
theorem dX6_loadBehind_10 : decode cX6_loadBehind 10 = .ok (.iconst 1, 1) := by decide +kernel
theorem dX6_loadBehind_11 : decode cX6_loadBehind 11 = .ok (.iadd, 1) := by decide +kernel
theorem dX6_loadBehind_12 : decode cX6_loadBehind 12 = .ok (.goto 4, 3) := by decide +kernel
theorem dX6_loadBehind_15 : decode cX6_loadBehind 15 = .ok (.iload_n 0, 1) := by decide +kernel
theorem dX6_loadBehind_16 : decode cX6_loadBehind 16 = .ok (.ireturn, 1) := by decide +kernel
theorem dX6_loadBehind_17 : decode cX6_loadBehind 17 = .ok (.iload_n 0, 1) := by decide +kernel
theorem dX6_loadBehind_18 : decode cX6_loadBehind 18 = .ok (.ifCond .le 9, 3) := by decide +kernel
theorem dX6_loadBehind_21 : decode cX6_loadBehind 21 = .ok (.iload_n 0, 1) := by decide +kernel
theorem dX6_loadBehind_22 : decode cX6_loadBehind 22 = .ok (.iconst 1, 1) := by decide +kernel
theorem dX6_loadBehind_23 : decode cX6_loadBehind 23 = .ok (.isub, 1) := by decide +kernel
theorem dX6_loadBehind_24 : decode cX6_loadBehind 24 = .ok (.goto 4, 3) := by decide +kernel
theorem dX6_loadBehind_27 : decode cX6_loadBehind 27 = .ok (.iconst 0, 1) := by decide +kernel
theorem dX6_loadBehind_28 : decode cX6_loadBehind 28 = .ok (.ireturn, 1) := by decide +kernel
set_option maxRecDepth 20000 in
theorem ggX6_carry_X3_makeByCarrier : GoodIn wsX6_carry wsX3_makeByCarrier := goodIn_r _ [7, 8, 9, 10, 6, 11, 12, 13, 14, 15, 16, 17, 18, 19, 20, 21, 22, 36, 37] (by decide +kernel) (by decide +kernel)
set_option maxRecDepth 20000 in
theorem gX6_carry_X3_makeByCarrier : GoodIn wsX6_carry (wsV RX6 237 RX3 yX3_makeByCarrier wsX3_makeByCarrier) := goodIn_app (goodIn_of _ (by decide +kernel)) ggX6_carry_X3_makeByCarrier
set_option maxRecDepth 20000 in
theorem ggX6_carry_X3_becomeMade : GoodIn wsX6_carry wsX3_becomeMade := goodIn_r _ [26, 12, 22, 36, 37] (by decide +kernel) (by decide +kernel)
set_option maxRecDepth 20000 in
theorem gX6_carry_X3_becomeMade : GoodIn wsX6_carry (wsV RX6 137 RX3 yX3_becomeMade wsX3_becomeMade) := goodIn_app (goodIn_of _ (by decide +kernel)) ggX6_carry_X3_becomeMade
theorem dX6_carry_0 : decode cX6_carry 0 = .ok (.aload_n 0, 1) := by decide +kernel
theorem dX6_carry_1 : decode cX6_carry 1 = .ok (.getfield 10, 3) := by decide +kernel
theorem dX6_carry_4 : decode cX6_carry 4 = .ok (.iload_n 1, 1) := by decide +kernel
theorem dX6_carry_5 : decode cX6_carry 5 = .ok (.iload_n 2, 1) := by decide +kernel
theorem dX6_carry_6 : decode cX6_carry 6 = .ok (.invokevirtual 237, 3) := by decide +kernel
theorem dX6_carry_9 : decode cX6_carry 9 = .ok (.ifCond .eq 6, 3) := by decide +kernel
theorem dX6_carry_12 : decode cX6_carry 12 = .ok (.bipush (-4), 2) := by decide +kernel
theorem dX6_carry_14 : decode cX6_carry 14 = .ok (.ireturn, 1) := by decide +kernel
theorem dX6_carry_15 : decode cX6_carry 15 = .ok (.aload_n 0, 1) := by decide +kernel
theorem dX6_carry_16 : decode cX6_carry 16 = .ok (.dup, 1) := by decide +kernel
theorem dX6_carry_17 : decode cX6_carry 17 = .ok (.getfield 134, 3) := by decide +kernel
theorem dX6_carry_20 : decode cX6_carry 20 = .ok (.iconst 1, 1) := by decide +kernel
theorem dX6_carry_21 : decode cX6_carry 21 = .ok (.iadd, 1) := by decide +kernel
theorem dX6_carry_22 : decode cX6_carry 22 = .ok (.putfield 134, 3) := by decide +kernel
theorem dX6_carry_25 : decode cX6_carry 25 = .ok (.aload_n 0, 1) := by decide +kernel
theorem dX6_carry_26 : decode cX6_carry 26 = .ok (.getfield 10, 3) := by decide +kernel
theorem dX6_carry_29 : decode cX6_carry 29 = .ok (.invokevirtual 137, 3) := by decide +kernel
theorem dX6_carry_32 : decode cX6_carry 32 = .ok (.ireturn, 1) := by decide +kernel
theorem dX6_sheetOf_0 : decode cX6_sheetOf 0 = .ok (.iload_n 1, 1) := by decide +kernel
theorem dX6_sheetOf_1 : decode cX6_sheetOf 1 = .ok (.ifCond .lt 21, 3) := by decide +kernel
theorem dX6_sheetOf_4 : decode cX6_sheetOf 4 = .ok (.iload_n 1, 1) := by decide +kernel
theorem dX6_sheetOf_5 : decode cX6_sheetOf 5 = .ok (.aload_n 0, 1) := by decide +kernel
theorem dX6_sheetOf_6 : decode cX6_sheetOf 6 = .ok (.getfield 49, 3) := by decide +kernel
theorem dX6_sheetOf_9 : decode cX6_sheetOf 9 = .ok (.arraylength, 1) := by decide +kernel
theorem dX6_sheetOf_10 : decode cX6_sheetOf 10 = .ok (.if_icmp .ge 12, 3) := by decide +kernel
theorem dX6_sheetOf_13 : decode cX6_sheetOf 13 = .ok (.aload_n 0, 1) := by decide +kernel
theorem dX6_sheetOf_14 : decode cX6_sheetOf 14 = .ok (.getfield 49, 3) := by decide +kernel
theorem dX6_sheetOf_17 : decode cX6_sheetOf 17 = .ok (.iload_n 1, 1) := by decide +kernel
theorem dX6_sheetOf_18 : decode cX6_sheetOf 18 = .ok (.aaload, 1) := by decide +kernel
theorem dX6_sheetOf_19 : decode cX6_sheetOf 19 = .ok (.goto 4, 3) := by decide +kernel
theorem dX6_sheetOf_22 : decode cX6_sheetOf 22 = .ok (.aconst_null, 1) := by decide +kernel
theorem dX6_sheetOf_23 : decode cX6_sheetOf 23 = .ok (.areturn, 1) := by decide +kernel
theorem dX6_find_0 : decode cX6_find 0 = .ok (.aload_n 0, 1) := by decide +kernel
theorem dX6_find_1 : decode cX6_find 1 = .ok (.iload_n 1, 1) := by decide +kernel
theorem dX6_find_2 : decode cX6_find 2 = .ok (.putfield 227, 3) := by decide +kernel
theorem dX6_find_5 : decode cX6_find 5 = .ok (.bipush (-10), 2) := by decide +kernel
theorem dX6_find_7 : decode cX6_find 7 = .ok (.iload_n 1, 1) := by decide +kernel
theorem dX6_find_8 : decode cX6_find 8 = .ok (.isub, 1) := by decide +kernel
theorem dX6_find_9 : decode cX6_find 9 = .ok (.ireturn, 1) := by decide +kernel
theorem dX7_init_0 : decode cX7_init 0 = .ok (.aload_n 0, 1) := by decide +kernel
theorem dX7_init_1 : decode cX7_init 1 = .ok (.invokespecial 1, 3) := by decide +kernel
theorem dX7_init_4 : decode cX7_init 4 = .ok (.aload_n 0, 1) := by decide +kernel
theorem dX7_init_5 : decode cX7_init 5 = .ok (.sipush 240, 3) := by decide +kernel
theorem dX7_init_8 : decode cX7_init 8 = .ok (.newarray .boolean, 2) := by decide +kernel
theorem dX7_init_10 : decode cX7_init 10 = .ok (.putfield 7, 3) := by decide +kernel
theorem dX7_init_13 : decode cX7_init 13 = .ok (.aload_n 0, 1) := by decide +kernel
theorem dX7_init_14 : decode cX7_init 14 = .ok (.sipush 240, 3) := by decide +kernel
theorem dX7_init_17 : decode cX7_init 17 = .ok (.newarray .boolean, 2) := by decide +kernel
theorem dX7_init_19 : decode cX7_init 19 = .ok (.putfield 13, 3) := by decide +kernel
theorem dX7_init_22 : decode cX7_init 22 = .ok (.aload_n 0, 1) := by decide +kernel
theorem dX7_init_23 : decode cX7_init 23 = .ok (.sipush 240, 3) := by decide +kernel
theorem dX7_init_26 : decode cX7_init 26 = .ok (.newarray .boolean, 2) := by decide +kernel
theorem dX7_init_28 : decode cX7_init 28 = .ok (.putfield 16, 3) := by decide +kernel
theorem dX7_init_31 : decode cX7_init 31 = .ok (.aload_n 0, 1) := by decide +kernel
theorem dX7_init_32 : decode cX7_init 32 = .ok (.sipush 240, 3) := by decide +kernel
theorem dX7_init_35 : decode cX7_init 35 = .ok (.newarray .int, 2) := by decide +kernel
theorem dX7_init_37 : decode cX7_init 37 = .ok (.putfield 19, 3) := by decide +kernel
theorem dX7_init_40 : decode cX7_init 40 = .ok (.aload_n 0, 1) := by decide +kernel
theorem dX7_init_41 : decode cX7_init 41 = .ok (.sipush 241, 3) := by decide +kernel
theorem dX7_init_44 : decode cX7_init 44 = .ok (.newarray .int, 2) := by decide +kernel
theorem dX7_init_46 : decode cX7_init 46 = .ok (.putfield 23, 3) := by decide +kernel
theorem dX7_init_49 : decode cX7_init 49 = .ok (.aload_n 0, 1) := by decide +kernel
theorem dX7_init_50 : decode cX7_init 50 = .ok (.sipush 241, 3) := by decide +kernel
theorem dX7_init_53 : decode cX7_init 53 = .ok (.newarray .int, 2) := by decide +kernel
theorem dX7_init_55 : decode cX7_init 55 = .ok (.putfield 26, 3) := by decide +kernel
theorem dX7_init_58 : decode cX7_init 58 = .ok (.aload_n 0, 1) := by decide +kernel
theorem dX7_init_59 : decode cX7_init 59 = .ok (.sipush 241, 3) := by decide +kernel
theorem dX7_init_62 : decode cX7_init 62 = .ok (.newarray .int, 2) := by decide +kernel
theorem dX7_init_64 : decode cX7_init 64 = .ok (.putfield 29, 3) := by decide +kernel
theorem dX7_init_67 : decode cX7_init 67 = .ok (.aload_n 0, 1) := by decide +kernel
theorem dX7_init_68 : decode cX7_init 68 = .ok (.sipush 241, 3) := by decide +kernel
theorem dX7_init_71 : decode cX7_init 71 = .ok (.newarray .int, 2) := by decide +kernel
theorem dX7_init_73 : decode cX7_init 73 = .ok (.putfield 32, 3) := by decide +kernel
theorem dX7_init_76 : decode cX7_init 76 = .ok (.aload_n 0, 1) := by decide +kernel
theorem dX7_init_77 : decode cX7_init 77 = .ok (.sipush 241, 3) := by decide +kernel
theorem dX7_init_80 : decode cX7_init 80 = .ok (.newarray .int, 2) := by decide +kernel
theorem dX7_init_82 : decode cX7_init 82 = .ok (.putfield 35, 3) := by decide +kernel
theorem dX7_init_85 : decode cX7_init 85 = .ok (.aload_n 0, 1) := by decide +kernel
theorem dX7_init_86 : decode cX7_init 86 = .ok (.iconst 1, 1) := by decide +kernel
theorem dX7_init_87 : decode cX7_init 87 = .ok (.putfield 38, 3) := by decide +kernel
theorem dX7_init_90 : decode cX7_init 90 = .ok (.aload_n 0, 1) := by decide +kernel
theorem dX7_init_91 : decode cX7_init 91 = .ok (.bipush 40, 2) := by decide +kernel
theorem dX7_init_93 : decode cX7_init 93 = .ok (.newarray .boolean, 2) := by decide +kernel
theorem dX7_init_95 : decode cX7_init 95 = .ok (.putfield 42, 3) := by decide +kernel
theorem dX7_init_98 : decode cX7_init 98 = .ok (.aload_n 0, 1) := by decide +kernel
theorem dX7_init_99 : decode cX7_init 99 = .ok (.bipush 40, 2) := by decide +kernel
theorem dX7_init_101 : decode cX7_init 101 = .ok (.newarray .boolean, 2) := by decide +kernel
theorem dX7_init_103 : decode cX7_init 103 = .ok (.putfield 45, 3) := by decide +kernel
theorem dX7_init_106 : decode cX7_init 106 = .ok (.aload_n 0, 1) := by decide +kernel
theorem dX7_init_107 : decode cX7_init 107 = .ok (.bipush 40, 2) := by decide +kernel
theorem dX7_init_109 : decode cX7_init 109 = .ok (.newarray .boolean, 2) := by decide +kernel
theorem dX7_init_111 : decode cX7_init 111 = .ok (.putfield 48, 3) := by decide +kernel
theorem dX7_init_114 : decode cX7_init 114 = .ok (.aload_n 0, 1) := by decide +kernel
theorem dX7_init_115 : decode cX7_init 115 = .ok (.iconst 4, 1) := by decide +kernel
theorem dX7_init_116 : decode cX7_init 116 = .ok (.newarray .boolean, 2) := by decide +kernel
theorem dX7_init_118 : decode cX7_init 118 = .ok (.putfield 51, 3) := by decide +kernel
theorem dX7_init_121 : decode cX7_init 121 = .ok (.aload_n 0, 1) := by decide +kernel
theorem dX7_init_122 : decode cX7_init 122 = .ok (.iconst 4, 1) := by decide +kernel
theorem dX7_init_123 : decode cX7_init 123 = .ok (.newarray .int, 2) := by decide +kernel
theorem dX7_init_125 : decode cX7_init 125 = .ok (.putfield 54, 3) := by decide +kernel
theorem dX7_init_128 : decode cX7_init 128 = .ok (.aload_n 0, 1) := by decide +kernel
theorem dX7_init_129 : decode cX7_init 129 = .ok (.iconst 4, 1) := by decide +kernel
theorem dX7_init_130 : decode cX7_init 130 = .ok (.newarray .int, 2) := by decide +kernel
theorem dX7_init_132 : decode cX7_init 132 = .ok (.putfield 57, 3) := by decide +kernel
theorem dX7_init_135 : decode cX7_init 135 = .ok (.aload_n 0, 1) := by decide +kernel
theorem dX7_init_136 : decode cX7_init 136 = .ok (.sipush 400, 3) := by decide +kernel
theorem dX7_init_139 : decode cX7_init 139 = .ok (.newarray .int, 2) := by decide +kernel
theorem dX7_init_141 : decode cX7_init 141 = .ok (.putfield 60, 3) := by decide +kernel
theorem dX7_init_144 : decode cX7_init 144 = .ok (.aload_n 0, 1) := by decide +kernel
theorem dX7_init_145 : decode cX7_init 145 = .ok (.bipush 100, 2) := by decide +kernel
theorem dX7_init_147 : decode cX7_init 147 = .ok (.newarray .int, 2) := by decide +kernel
theorem dX7_init_149 : decode cX7_init 149 = .ok (.putfield 63, 3) := by decide +kernel
theorem dX7_init_152 : decode cX7_init 152 = .ok (.return_, 1) := by decide +kernel
theorem dX7_in_0 : decode cX7_in 0 = .ok (.iload_n 0, 1) := by decide +kernel
theorem dX7_in_1 : decode cX7_in 1 = .ok (.iload_n 1, 1) := by decide +kernel
theorem dX7_in_2 : decode cX7_in 2 = .ok (.if_icmp .lt 12, 3) := by decide +kernel
theorem dX7_in_5 : decode cX7_in 5 = .ok (.iload_n 0, 1) := by decide +kernel
theorem dX7_in_6 : decode cX7_in 6 = .ok (.iload_n 2, 1) := by decide +kernel
theorem dX7_in_7 : decode cX7_in 7 = .ok (.if_icmp .gt 7, 3) := by decide +kernel
theorem dX7_in_10 : decode cX7_in 10 = .ok (.iconst 1, 1) := by decide +kernel
theorem dX7_in_11 : decode cX7_in 11 = .ok (.goto 4, 3) := by decide +kernel
theorem dX7_in_14 : decode cX7_in 14 = .ok (.iconst 0, 1) := by decide +kernel
theorem dX7_in_15 : decode cX7_in 15 = .ok (.ireturn, 1) := by decide +kernel
set_option maxRecDepth 20000 in
theorem ggX7_set_X7_in : GoodIn wsX7_set wsX7_in := goodIn_r _ [5] (by decide +kernel) (by decide +kernel)
set_option maxRecDepth 20000 in
theorem gX7_set_X7_in : GoodIn wsX7_set (va_wsS RX7 66 yX7_in wsX7_in) := goodIn_app (goodIn_of _ (by decide +kernel)) ggX7_set_X7_in
theorem dX7_set_0 : decode cX7_set 0 = .ok (.iload_n 1, 1) := by decide +kernel
theorem dX7_set_1 : decode cX7_set 1 = .ok (.iconst 0, 1) := by decide +kernel
theorem dX7_set_2 : decode cX7_set 2 = .ok (.sipush 239, 3) := by decide +kernel
theorem dX7_set_5 : decode cX7_set 5 = .ok (.invokestatic 66, 3) := by decide +kernel
theorem dX7_set_8 : decode cX7_set 8 = .ok (.ifCond .ne 6, 3) := by decide +kernel
theorem dX7_set_11 : decode cX7_set 11 = .ok (.bipush (-2), 2) := by decide +kernel
theorem dX7_set_13 : decode cX7_set 13 = .ok (.ireturn, 1) := by decide +kernel
theorem dX7_set_14 : decode cX7_set 14 = .ok (.aload_n 0, 1) := by decide +kernel
theorem dX7_set_15 : decode cX7_set 15 = .ok (.getfield 7, 3) := by decide +kernel
theorem dX7_set_18 : decode cX7_set 18 = .ok (.iload_n 1, 1) := by decide +kernel
theorem dX7_set_19 : decode cX7_set 19 = .ok (.baload, 1) := by decide +kernel
theorem dX7_set_20 : decode cX7_set 20 = .ok (.iload_n 2, 1) := by decide +kernel
theorem dX7_set_21 : decode cX7_set 21 = .ok (.if_icmp .ne 7, 3) := by decide +kernel
theorem dX7_set_24 : decode cX7_set 24 = .ok (.iconst 1, 1) := by decide +kernel
theorem dX7_set_25 : decode cX7_set 25 = .ok (.goto 4, 3) := by decide +kernel
theorem dX7_set_28 : decode cX7_set 28 = .ok (.iconst 0, 1) := by decide +kernel
theorem dX7_set_29 : decode cX7_set 29 = .ok (.istore_n 3, 1) := by decide +kernel
theorem dX7_set_30 : decode cX7_set 30 = .ok (.aload_n 0, 1) := by decide +kernel
theorem dX7_set_31 : decode cX7_set 31 = .ok (.getfield 7, 3) := by decide +kernel
theorem dX7_set_34 : decode cX7_set 34 = .ok (.iload_n 1, 1) := by decide +kernel
theorem dX7_set_35 : decode cX7_set 35 = .ok (.iload_n 2, 1) := by decide +kernel
theorem dX7_set_36 : decode cX7_set 36 = .ok (.bastore, 1) := by decide +kernel
theorem dX7_set_37 : decode cX7_set 37 = .ok (.iload_n 3, 1) := by decide +kernel
theorem dX7_set_38 : decode cX7_set 38 = .ok (.ifCond .eq 7, 3) := by decide +kernel
theorem dX7_set_41 : decode cX7_set 41 = .ok (.iconst 0, 1) := by decide +kernel
theorem dX7_set_42 : decode cX7_set 42 = .ok (.goto 4, 3) := by decide +kernel
theorem dX7_set_45 : decode cX7_set 45 = .ok (.iconst 1, 1) := by decide +kernel
theorem dX7_set_46 : decode cX7_set 46 = .ok (.ireturn, 1) := by decide +kernel
set_option maxRecDepth 20000 in
theorem ggX7_at_X7_in : GoodIn wsX7_at wsX7_in := goodIn_r _ [5] (by decide +kernel) (by decide +kernel)
set_option maxRecDepth 20000 in
theorem gX7_at_X7_in : GoodIn wsX7_at (va_wsS RX7 66 yX7_in wsX7_in) := goodIn_app (goodIn_of _ (by decide +kernel)) ggX7_at_X7_in
theorem dX7_at_0 : decode cX7_at 0 = .ok (.iload_n 1, 1) := by decide +kernel
theorem dX7_at_1 : decode cX7_at 1 = .ok (.iconst 0, 1) := by decide +kernel
theorem dX7_at_2 : decode cX7_at 2 = .ok (.sipush 239, 3) := by decide +kernel
theorem dX7_at_5 : decode cX7_at 5 = .ok (.invokestatic 66, 3) := by decide +kernel
theorem dX7_at_8 : decode cX7_at 8 = .ok (.ifCond .eq 20, 3) := by decide +kernel
theorem dX7_at_11 : decode cX7_at 11 = .ok (.aload_n 0, 1) := by decide +kernel
theorem dX7_at_12 : decode cX7_at 12 = .ok (.getfield 7, 3) := by decide +kernel
theorem dX7_at_15 : decode cX7_at 15 = .ok (.iload_n 1, 1) := by decide +kernel
theorem dX7_at_16 : decode cX7_at 16 = .ok (.baload, 1) := by decide +kernel
theorem dX7_at_17 : decode cX7_at 17 = .ok (.ifCond .eq 7, 3) := by decide +kernel
theorem dX7_at_20 : decode cX7_at 20 = .ok (.iconst 1, 1) := by decide +kernel
theorem dX7_at_21 : decode cX7_at 21 = .ok (.goto 9, 3) := by decide +kernel
theorem dX7_at_24 : decode cX7_at 24 = .ok (.iconst 0, 1) := by decide +kernel
theorem dX7_at_25 : decode cX7_at 25 = .ok (.goto 5, 3) := by decide +kernel
theorem dX7_at_28 : decode cX7_at 28 = .ok (.bipush (-2), 2) := by decide +kernel
theorem dX7_at_30 : decode cX7_at 30 = .ok (.ireturn, 1) := by decide +kernel
theorem dX7_balls_0 : decode cX7_balls 0 = .ok (.iconst 0, 1) := by decide +kernel
theorem dX7_balls_1 : decode cX7_balls 1 = .ok (.istore_n 1, 1) := by decide +kernel
theorem dX7_balls_2 : decode cX7_balls 2 = .ok (.iconst 0, 1) := by decide +kernel
theorem dX7_balls_3 : decode cX7_balls 3 = .ok (.istore_n 2, 1) := by decide +kernel
theorem dX7_balls_4 : decode cX7_balls 4 = .ok (.iload_n 2, 1) := by decide +kernel
theorem dX7_balls_5 : decode cX7_balls 5 = .ok (.sipush 240, 3) := by decide +kernel
theorem dX7_balls_8 : decode cX7_balls 8 = .ok (.if_icmp .ge 26, 3) := by decide +kernel
theorem dX7_balls_11 : decode cX7_balls 11 = .ok (.iload_n 1, 1) := by decide +kernel
theorem dX7_balls_12 : decode cX7_balls 12 = .ok (.aload_n 0, 1) := by decide +kernel
theorem dX7_balls_13 : decode cX7_balls 13 = .ok (.getfield 7, 3) := by decide +kernel
theorem dX7_balls_16 : decode cX7_balls 16 = .ok (.iload_n 2, 1) := by decide +kernel
theorem dX7_balls_17 : decode cX7_balls 17 = .ok (.baload, 1) := by decide +kernel
theorem dX7_balls_18 : decode cX7_balls 18 = .ok (.ifCond .eq 7, 3) := by decide +kernel
theorem dX7_balls_21 : decode cX7_balls 21 = .ok (.iconst 1, 1) := by decide +kernel
theorem dX7_balls_22 : decode cX7_balls 22 = .ok (.goto 4, 3) := by decide +kernel
theorem dX7_balls_25 : decode cX7_balls 25 = .ok (.iconst 0, 1) := by decide +kernel
theorem dX7_balls_26 : decode cX7_balls 26 = .ok (.iadd, 1) := by decide +kernel
theorem dX7_balls_27 : decode cX7_balls 27 = .ok (.istore_n 1, 1) := by decide +kernel
theorem dX7_balls_28 : decode cX7_balls 28 = .ok (.iinc 2 1, 3) := by decide +kernel
theorem dX7_balls_31 : decode cX7_balls 31 = .ok (.goto (-27), 3) := by decide +kernel
theorem dX7_balls_34 : decode cX7_balls 34 = .ok (.iload_n 1, 1) := by decide +kernel
theorem dX7_balls_35 : decode cX7_balls 35 = .ok (.ireturn, 1) := by decide +kernel
set_option maxRecDepth 20000 in
theorem ggX7_empty_X7_balls : GoodIn wsX7_empty wsX7_balls := goodIn_r _ [6, 1, 7, 8, 9, 10, 11, 12, 13, 14, 15, 16, 17, 18, 19, 20, 21, 22, 23, 24, 25, 26, 27, 28] (by decide +kernel) (by decide +kernel)
set_option maxRecDepth 20000 in
theorem gX7_empty_X7_balls : GoodIn wsX7_empty (wsV RX7 70 RX7 yX7_balls wsX7_balls) := goodIn_app (goodIn_of _ (by decide +kernel)) ggX7_empty_X7_balls
theorem dX7_empty_0 : decode cX7_empty 0 = .ok (.aload_n 0, 1) := by decide +kernel
theorem dX7_empty_1 : decode cX7_empty 1 = .ok (.invokevirtual 70, 3) := by decide +kernel
theorem dX7_empty_4 : decode cX7_empty 4 = .ok (.istore_n 1, 1) := by decide +kernel
theorem dX7_empty_5 : decode cX7_empty 5 = .ok (.iconst 0, 1) := by decide +kernel
theorem dX7_empty_6 : decode cX7_empty 6 = .ok (.istore_n 2, 1) := by decide +kernel
theorem dX7_empty_7 : decode cX7_empty 7 = .ok (.iload_n 2, 1) := by decide +kernel
theorem dX7_empty_8 : decode cX7_empty 8 = .ok (.sipush 240, 3) := by decide +kernel
theorem dX7_empty_11 : decode cX7_empty 11 = .ok (.if_icmp .ge 16, 3) := by decide +kernel
theorem dX7_empty_14 : decode cX7_empty 14 = .ok (.aload_n 0, 1) := by decide +kernel
theorem dX7_empty_15 : decode cX7_empty 15 = .ok (.getfield 7, 3) := by decide +kernel
theorem dX7_empty_18 : decode cX7_empty 18 = .ok (.iload_n 2, 1) := by decide +kernel
theorem dX7_empty_19 : decode cX7_empty 19 = .ok (.iconst 0, 1) := by decide +kernel
theorem dX7_empty_20 : decode cX7_empty 20 = .ok (.bastore, 1) := by decide +kernel
theorem dX7_empty_21 : decode cX7_empty 21 = .ok (.iinc 2 1, 3) := by decide +kernel
theorem dX7_empty_24 : decode cX7_empty 24 = .ok (.goto (-17), 3) := by decide +kernel
theorem dX7_empty_27 : decode cX7_empty 27 = .ok (.iload_n 1, 1) := by decide +kernel
theorem dX7_empty_28 : decode cX7_empty 28 = .ok (.ireturn, 1) := by decide +kernel
theorem dX7_takes_0 : decode cX7_takes 0 = .ok (.iconst 0, 1) := by decide +kernel
theorem dX7_takes_1 : decode cX7_takes 1 = .ok (.istore_n 1, 1) := by decide +kernel
theorem dX7_takes_2 : decode cX7_takes 2 = .ok (.iconst 0, 1) := by decide +kernel
theorem dX7_takes_3 : decode cX7_takes 3 = .ok (.istore_n 2, 1) := by decide +kernel
theorem dX7_takes_4 : decode cX7_takes 4 = .ok (.iload_n 2, 1) := by decide +kernel
theorem dX7_takes_5 : decode cX7_takes 5 = .ok (.sipush 240, 3) := by decide +kernel
theorem dX7_takes_8 : decode cX7_takes 8 = .ok (.if_icmp .ge 44, 3) := by decide +kernel
theorem dX7_takes_11 : decode cX7_takes 11 = .ok (.iload_n 1, 1) := by decide +kernel
theorem dX7_takes_12 : decode cX7_takes 12 = .ok (.aload_n 0, 1) := by decide +kernel
theorem dX7_takes_13 : decode cX7_takes 13 = .ok (.getfield 7, 3) := by decide +kernel
theorem dX7_takes_16 : decode cX7_takes 16 = .ok (.iload_n 2, 1) := by decide +kernel
theorem dX7_takes_17 : decode cX7_takes 17 = .ok (.baload, 1) := by decide +kernel
theorem dX7_takes_18 : decode cX7_takes 18 = .ok (.aload_n 0, 1) := by decide +kernel
theorem dX7_takes_19 : decode cX7_takes 19 = .ok (.getfield 13, 3) := by decide +kernel
theorem dX7_takes_22 : decode cX7_takes 22 = .ok (.iload_n 2, 1) := by decide +kernel
theorem dX7_takes_23 : decode cX7_takes 23 = .ok (.baload, 1) := by decide +kernel
theorem dX7_takes_24 : decode cX7_takes 24 = .ok (.if_icmp .ne 7, 3) := by decide +kernel
theorem dX7_takes_27 : decode cX7_takes 27 = .ok (.iconst 0, 1) := by decide +kernel
theorem dX7_takes_28 : decode cX7_takes 28 = .ok (.goto 4, 3) := by decide +kernel
theorem dX7_takes_31 : decode cX7_takes 31 = .ok (.iconst 1, 1) := by decide +kernel
theorem dX7_takes_32 : decode cX7_takes 32 = .ok (.iadd, 1) := by decide +kernel
theorem dX7_takes_33 : decode cX7_takes 33 = .ok (.istore_n 1, 1) := by decide +kernel
theorem dX7_takes_34 : decode cX7_takes 34 = .ok (.aload_n 0, 1) := by decide +kernel
theorem dX7_takes_35 : decode cX7_takes 35 = .ok (.getfield 7, 3) := by decide +kernel
theorem dX7_takes_38 : decode cX7_takes 38 = .ok (.iload_n 2, 1) := by decide +kernel
theorem dX7_takes_39 : decode cX7_takes 39 = .ok (.aload_n 0, 1) := by decide +kernel
theorem dX7_takes_40 : decode cX7_takes 40 = .ok (.getfield 13, 3) := by decide +kernel
theorem dX7_takes_43 : decode cX7_takes 43 = .ok (.iload_n 2, 1) := by decide +kernel
theorem dX7_takes_44 : decode cX7_takes 44 = .ok (.baload, 1) := by decide +kernel
theorem dX7_takes_45 : decode cX7_takes 45 = .ok (.bastore, 1) := by decide +kernel
theorem dX7_takes_46 : decode cX7_takes 46 = .ok (.iinc 2 1, 3) := by decide +kernel
theorem dX7_takes_49 : decode cX7_takes 49 = .ok (.goto (-45), 3) := by decide +kernel
theorem dX7_takes_52 : decode cX7_takes 52 = .ok (.aload_n 0, 1) := by decide +kernel
theorem dX7_takes_53 : decode cX7_takes 53 = .ok (.dup, 1) := by decide +kernel
theorem dX7_takes_54 : decode cX7_takes 54 = .ok (.getfield 74, 3) := by decide +kernel
theorem dX7_takes_57 : decode cX7_takes 57 = .ok (.iconst 1, 1) := by decide +kernel
theorem dX7_takes_58 : decode cX7_takes 58 = .ok (.iadd, 1) := by decide +kernel
theorem dX7_takes_59 : decode cX7_takes 59 = .ok (.putfield 74, 3) := by decide +kernel
theorem dX7_takes_62 : decode cX7_takes 62 = .ok (.iload_n 1, 1) := by decide +kernel
theorem dX7_takes_63 : decode cX7_takes 63 = .ok (.ireturn, 1) := by decide +kernel
set_option maxRecDepth 20000 in
theorem ggX7_goes_X7_in : GoodIn wsX7_goes wsX7_in := goodIn_r _ [6] (by decide +kernel) (by decide +kernel)
set_option maxRecDepth 20000 in
theorem gX7_goes_X7_in : GoodIn wsX7_goes (va_wsS RX7 66 yX7_in wsX7_in) := goodIn_app (goodIn_of _ (by decide +kernel)) ggX7_goes_X7_in
set_option maxRecDepth 20000 in
theorem ggX7_goes_X7_takes : GoodIn wsX7_goes wsX7_takes := goodIn_r _ [10, 2, 1, 11, 12, 13, 14, 15, 16, 17, 18, 19, 20, 21, 22, 23, 24, 25, 26, 27, 28, 29, 30, 31, 32, 33] (by decide +kernel) (by decide +kernel)
set_option maxRecDepth 20000 in
theorem gX7_goes_X7_takes : GoodIn wsX7_goes (wsV RX7 77 RX7 yX7_takes wsX7_takes) := goodIn_app (goodIn_of _ (by decide +kernel)) ggX7_goes_X7_takes
theorem dX7_goes_0 : decode cX7_goes 0 = .ok (.iload_n 1, 1) := by decide +kernel
theorem dX7_goes_1 : decode cX7_goes 1 = .ok (.iconst 1, 1) := by decide +kernel
theorem dX7_goes_2 : decode cX7_goes 2 = .ok (.bipush 50, 2) := by decide +kernel
theorem dX7_goes_4 : decode cX7_goes 4 = .ok (.invokestatic 66, 3) := by decide +kernel
theorem dX7_goes_7 : decode cX7_goes 7 = .ok (.ifCond .ne 6, 3) := by decide +kernel
theorem dX7_goes_10 : decode cX7_goes 10 = .ok (.bipush (-2), 2) := by decide +kernel
theorem dX7_goes_12 : decode cX7_goes 12 = .ok (.ireturn, 1) := by decide +kernel
theorem dX7_goes_13 : decode cX7_goes 13 = .ok (.iconst 0, 1) := by decide +kernel
theorem dX7_goes_14 : decode cX7_goes 14 = .ok (.istore_n 3, 1) := by decide +kernel
theorem dX7_goes_15 : decode cX7_goes 15 = .ok (.iconst 0, 1) := by decide +kernel
theorem dX7_goes_16 : decode cX7_goes 16 = .ok (.istore 4, 2) := by decide +kernel
theorem dX7_goes_18 : decode cX7_goes 18 = .ok (.iload 4, 2) := by decide +kernel
theorem dX7_goes_20 : decode cX7_goes 20 = .ok (.sipush 240, 3) := by decide +kernel
theorem dX7_goes_23 : decode cX7_goes 23 = .ok (.if_icmp .ge 94, 3) := by decide +kernel
theorem dX7_goes_26 : decode cX7_goes 26 = .ok (.iload_n 2, 1) := by decide +kernel
theorem dX7_goes_27 : decode cX7_goes 27 = .ok (.ifCond .eq 12, 3) := by decide +kernel
theorem dX7_goes_30 : decode cX7_goes 30 = .ok (.sipush 239, 3) := by decide +kernel
theorem dX7_goes_33 : decode cX7_goes 33 = .ok (.iload 4, 2) := by decide +kernel
theorem dX7_goes_35 : decode cX7_goes 35 = .ok (.isub, 1) := by decide +kernel
theorem dX7_goes_36 : decode cX7_goes 36 = .ok (.goto 5, 3) := by decide +kernel
theorem dX7_goes_39 : decode cX7_goes 39 = .ok (.iload 4, 2) := by decide +kernel
theorem dX7_goes_41 : decode cX7_goes 41 = .ok (.istore 5, 2) := by decide +kernel
theorem dX7_goes_43 : decode cX7_goes 43 = .ok (.aload_n 0, 1) := by decide +kernel
theorem dX7_goes_44 : decode cX7_goes 44 = .ok (.getfield 13, 3) := by decide +kernel
theorem dX7_goes_47 : decode cX7_goes 47 = .ok (.iload 5, 2) := by decide +kernel
theorem dX7_goes_49 : decode cX7_goes 49 = .ok (.aload_n 0, 1) := by decide +kernel
theorem dX7_goes_50 : decode cX7_goes 50 = .ok (.getfield 7, 3) := by decide +kernel
theorem dX7_goes_53 : decode cX7_goes 53 = .ok (.iload 5, 2) := by decide +kernel
theorem dX7_goes_55 : decode cX7_goes 55 = .ok (.baload, 1) := by decide +kernel
theorem dX7_goes_56 : decode cX7_goes 56 = .ok (.bastore, 1) := by decide +kernel
theorem dX7_goes_57 : decode cX7_goes 57 = .ok (.aload_n 0, 1) := by decide +kernel
theorem dX7_goes_58 : decode cX7_goes 58 = .ok (.getfield 7, 3) := by decide +kernel
theorem dX7_goes_61 : decode cX7_goes 61 = .ok (.iload 5, 2) := by decide +kernel
theorem dX7_goes_63 : decode cX7_goes 63 = .ok (.baload, 1) := by decide +kernel
theorem dX7_goes_64 : decode cX7_goes 64 = .ok (.ifCond .eq 22, 3) := by decide +kernel
theorem dX7_goes_67 : decode cX7_goes 67 = .ok (.iload_n 3, 1) := by decide +kernel
theorem dX7_goes_68 : decode cX7_goes 68 = .ok (.iload_n 1, 1) := by decide +kernel
theorem dX7_goes_69 : decode cX7_goes 69 = .ok (.if_icmp .ge 17, 3) := by decide +kernel
theorem dX7_goes_72 : decode cX7_goes 72 = .ok (.aload_n 0, 1) := by decide +kernel
theorem dX7_goes_73 : decode cX7_goes 73 = .ok (.getfield 13, 3) := by decide +kernel
theorem dX7_goes_76 : decode cX7_goes 76 = .ok (.iload 5, 2) := by decide +kernel
theorem dX7_goes_78 : decode cX7_goes 78 = .ok (.iconst 0, 1) := by decide +kernel
theorem dX7_goes_79 : decode cX7_goes 79 = .ok (.bastore, 1) := by decide +kernel
theorem dX7_goes_80 : decode cX7_goes 80 = .ok (.iinc 3 1, 3) := by decide +kernel
theorem dX7_goes_83 : decode cX7_goes 83 = .ok (.goto 28, 3) := by decide +kernel
theorem dX7_goes_86 : decode cX7_goes 86 = .ok (.aload_n 0, 1) := by decide +kernel
theorem dX7_goes_87 : decode cX7_goes 87 = .ok (.getfield 7, 3) := by decide +kernel
theorem dX7_goes_90 : decode cX7_goes 90 = .ok (.iload 5, 2) := by decide +kernel
theorem dX7_goes_92 : decode cX7_goes 92 = .ok (.baload, 1) := by decide +kernel
theorem dX7_goes_93 : decode cX7_goes 93 = .ok (.ifCond .ne 18, 3) := by decide +kernel
theorem dX7_goes_96 : decode cX7_goes 96 = .ok (.iload_n 3, 1) := by decide +kernel
theorem dX7_goes_97 : decode cX7_goes 97 = .ok (.ifCond .le 14, 3) := by decide +kernel
theorem dX7_goes_100 : decode cX7_goes 100 = .ok (.aload_n 0, 1) := by decide +kernel
theorem dX7_goes_101 : decode cX7_goes 101 = .ok (.getfield 13, 3) := by decide +kernel
theorem dX7_goes_104 : decode cX7_goes 104 = .ok (.iload 5, 2) := by decide +kernel
theorem dX7_goes_106 : decode cX7_goes 106 = .ok (.iconst 1, 1) := by decide +kernel
theorem dX7_goes_107 : decode cX7_goes 107 = .ok (.bastore, 1) := by decide +kernel
theorem dX7_goes_108 : decode cX7_goes 108 = .ok (.iinc 3 (-1), 3) := by decide +kernel
theorem dX7_goes_111 : decode cX7_goes 111 = .ok (.iinc 4 1, 3) := by decide +kernel
theorem dX7_goes_114 : decode cX7_goes 114 = .ok (.goto (-96), 3) := by decide +kernel
theorem dX7_goes_117 : decode cX7_goes 117 = .ok (.iload_n 3, 1) := by decide +kernel
theorem dX7_goes_118 : decode cX7_goes 118 = .ok (.ifCond .le 8, 3) := by decide +kernel
theorem dX7_goes_121 : decode cX7_goes 121 = .ok (.bipush (-4), 2) := by decide +kernel
theorem dX7_goes_123 : decode cX7_goes 123 = .ok (.goto 7, 3) := by decide +kernel
theorem dX7_goes_126 : decode cX7_goes 126 = .ok (.aload_n 0, 1) := by decide +kernel
theorem dX7_goes_127 : decode cX7_goes 127 = .ok (.invokevirtual 77, 3) := by decide +kernel
theorem dX7_goes_130 : decode cX7_goes 130 = .ok (.ireturn, 1) := by decide +kernel
set_option maxRecDepth 20000 in
theorem ggX7_step_X7_goes : GoodIn wsX7_step wsX7_goes := goodIn_r _ [5, 6, 7, 8, 9, 4, 10, 11, 12, 13, 14, 15, 16, 17, 18, 19, 20, 21, 22, 23, 24, 25, 26, 27, 28, 29, 30, 31, 32, 33, 34, 35, 36, 37] (by decide +kernel) (by decide +kernel)
set_option maxRecDepth 20000 in
theorem gX7_step_X7_goes : GoodIn wsX7_step (wsV RX7 80 RX7 yX7_goes wsX7_goes) := goodIn_app (goodIn_of _ (by decide +kernel)) ggX7_step_X7_goes
theorem dX7_step_0 : decode cX7_step 0 = .ok (.aload_n 0, 1) := by decide +kernel
theorem dX7_step_1 : decode cX7_step 1 = .ok (.iload_n 1, 1) := by decide +kernel
theorem dX7_step_2 : decode cX7_step 2 = .ok (.iconst 0, 1) := by decide +kernel
theorem dX7_step_3 : decode cX7_step 3 = .ok (.invokevirtual 80, 3) := by decide +kernel
theorem dX7_step_6 : decode cX7_step 6 = .ok (.ireturn, 1) := by decide +kernel
set_option maxRecDepth 20000 in
theorem ggX7_back_X7_goes : GoodIn wsX7_back wsX7_goes := goodIn_r _ [5, 6, 7, 8, 9, 4, 10, 11, 12, 13, 14, 15, 16, 17, 18, 19, 20, 21, 22, 23, 24, 25, 26, 27, 28, 29, 30, 31, 32, 33, 34, 35, 36, 37] (by decide +kernel) (by decide +kernel)
set_option maxRecDepth 20000 in
theorem gX7_back_X7_goes : GoodIn wsX7_back (wsV RX7 80 RX7 yX7_goes wsX7_goes) := goodIn_app (goodIn_of _ (by decide +kernel)) ggX7_back_X7_goes
theorem dX7_back_0 : decode cX7_back 0 = .ok (.aload_n 0, 1) := by decide +kernel
theorem dX7_back_1 : decode cX7_back 1 = .ok (.iload_n 1, 1) := by decide +kernel
theorem dX7_back_2 : decode cX7_back 2 = .ok (.iconst 1, 1) := by decide +kernel
theorem dX7_back_3 : decode cX7_back 3 = .ok (.invokevirtual 80, 3) := by decide +kernel
theorem dX7_back_6 : decode cX7_back 6 = .ok (.ireturn, 1) := by decide +kernel
set_option maxRecDepth 20000 in
theorem ggX7_kept_X7_in : GoodIn wsX7_kept wsX7_in := goodIn_r _ [5] (by decide +kernel) (by decide +kernel)
set_option maxRecDepth 20000 in
theorem gX7_kept_X7_in : GoodIn wsX7_kept (va_wsS RX7 66 yX7_in wsX7_in) := goodIn_app (goodIn_of _ (by decide +kernel)) ggX7_kept_X7_in
theorem dX7_kept_0 : decode cX7_kept 0 = .ok (.iload_n 1, 1) := by decide +kernel
theorem dX7_kept_1 : decode cX7_kept 1 = .ok (.iconst 1, 1) := by decide +kernel
theorem dX7_kept_2 : decode cX7_kept 2 = .ok (.bipush 50, 2) := by decide +kernel
theorem dX7_kept_4 : decode cX7_kept 4 = .ok (.invokestatic 66, 3) := by decide +kernel
theorem dX7_kept_7 : decode cX7_kept 7 = .ok (.ifCond .ne 6, 3) := by decide +kernel
theorem dX7_kept_10 : decode cX7_kept 10 = .ok (.bipush (-2), 2) := by decide +kernel
theorem dX7_kept_12 : decode cX7_kept 12 = .ok (.ireturn, 1) := by decide +kernel
theorem dX7_kept_13 : decode cX7_kept 13 = .ok (.iconst 0, 1) := by decide +kernel
theorem dX7_kept_14 : decode cX7_kept 14 = .ok (.istore_n 2, 1) := by decide +kernel
theorem dX7_kept_15 : decode cX7_kept 15 = .ok (.iconst 0, 1) := by decide +kernel
theorem dX7_kept_16 : decode cX7_kept 16 = .ok (.istore_n 3, 1) := by decide +kernel
theorem dX7_kept_17 : decode cX7_kept 17 = .ok (.iconst 0, 1) := by decide +kernel
theorem dX7_kept_18 : decode cX7_kept 18 = .ok (.istore 4, 2) := by decide +kernel
theorem dX7_kept_20 : decode cX7_kept 20 = .ok (.iload 4, 2) := by decide +kernel
theorem dX7_kept_22 : decode cX7_kept 22 = .ok (.sipush 240, 3) := by decide +kernel
theorem dX7_kept_25 : decode cX7_kept 25 = .ok (.if_icmp .ge 50, 3) := by decide +kernel
theorem dX7_kept_28 : decode cX7_kept 28 = .ok (.aload_n 0, 1) := by decide +kernel
theorem dX7_kept_29 : decode cX7_kept 29 = .ok (.getfield 7, 3) := by decide +kernel
theorem dX7_kept_32 : decode cX7_kept 32 = .ok (.iload 4, 2) := by decide +kernel
theorem dX7_kept_34 : decode cX7_kept 34 = .ok (.baload, 1) := by decide +kernel
theorem dX7_kept_35 : decode cX7_kept 35 = .ok (.ifCond .eq 17, 3) := by decide +kernel
theorem dX7_kept_38 : decode cX7_kept 38 = .ok (.iload_n 2, 1) := by decide +kernel
theorem dX7_kept_39 : decode cX7_kept 39 = .ok (.iload_n 1, 1) := by decide +kernel
theorem dX7_kept_40 : decode cX7_kept 40 = .ok (.if_icmp .ge 12, 3) := by decide +kernel
theorem dX7_kept_43 : decode cX7_kept 43 = .ok (.iinc 2 1, 3) := by decide +kernel
theorem dX7_kept_46 : decode cX7_kept 46 = .ok (.iinc 3 1, 3) := by decide +kernel
theorem dX7_kept_49 : decode cX7_kept 49 = .ok (.goto 20, 3) := by decide +kernel
theorem dX7_kept_52 : decode cX7_kept 52 = .ok (.aload_n 0, 1) := by decide +kernel
theorem dX7_kept_53 : decode cX7_kept 53 = .ok (.getfield 7, 3) := by decide +kernel
theorem dX7_kept_56 : decode cX7_kept 56 = .ok (.iload 4, 2) := by decide +kernel
theorem dX7_kept_58 : decode cX7_kept 58 = .ok (.baload, 1) := by decide +kernel
theorem dX7_kept_59 : decode cX7_kept 59 = .ok (.ifCond .ne 10, 3) := by decide +kernel
theorem dX7_kept_62 : decode cX7_kept 62 = .ok (.iload_n 2, 1) := by decide +kernel
theorem dX7_kept_63 : decode cX7_kept 63 = .ok (.ifCond .le 6, 3) := by decide +kernel
theorem dX7_kept_66 : decode cX7_kept 66 = .ok (.iinc 2 (-1), 3) := by decide +kernel
theorem dX7_kept_69 : decode cX7_kept 69 = .ok (.iinc 4 1, 3) := by decide +kernel
theorem dX7_kept_72 : decode cX7_kept 72 = .ok (.goto (-52), 3) := by decide +kernel
theorem dX7_kept_75 : decode cX7_kept 75 = .ok (.iload_n 3, 1) := by decide +kernel
theorem dX7_kept_76 : decode cX7_kept 76 = .ok (.ireturn, 1) := by decide +kernel
set_option maxRecDepth 20000 in
theorem ggX7_pairRounds_X7_balls : GoodIn wsX7_pairRounds wsX7_balls := goodIn_r _ [8, 2, 9, 10, 11, 12, 13, 14, 15, 16, 17, 18, 19, 20, 21, 22, 23, 24, 25, 26, 27, 28, 29, 30] (by decide +kernel) (by decide +kernel)
set_option maxRecDepth 20000 in
theorem gX7_pairRounds_X7_balls : GoodIn wsX7_pairRounds (wsV RX7 70 RX7 yX7_balls wsX7_balls) := goodIn_app (goodIn_of _ (by decide +kernel)) ggX7_pairRounds_X7_balls
theorem dX7_pairRounds_0 : decode cX7_pairRounds 0 = .ok (.sipush 240, 3) := by decide +kernel
theorem dX7_pairRounds_3 : decode cX7_pairRounds 3 = .ok (.istore_n 1, 1) := by decide +kernel
theorem dX7_pairRounds_4 : decode cX7_pairRounds 4 = .ok (.aload_n 0, 1) := by decide +kernel
theorem dX7_pairRounds_5 : decode cX7_pairRounds 5 = .ok (.invokevirtual 70, 3) := by decide +kernel
theorem dX7_pairRounds_8 : decode cX7_pairRounds 8 = .ok (.istore_n 2, 1) := by decide +kernel
theorem dX7_pairRounds_9 : decode cX7_pairRounds 9 = .ok (.iconst 0, 1) := by decide +kernel
theorem dX7_pairRounds_10 : decode cX7_pairRounds 10 = .ok (.istore_n 3, 1) := by decide +kernel
theorem dX7_pairRounds_11 : decode cX7_pairRounds 11 = .ok (.iconst 0, 1) := by decide +kernel
theorem dX7_pairRounds_12 : decode cX7_pairRounds 12 = .ok (.istore 4, 2) := by decide +kernel
theorem dX7_pairRounds_14 : decode cX7_pairRounds 14 = .ok (.iload 4, 2) := by decide +kernel
theorem dX7_pairRounds_16 : decode cX7_pairRounds 16 = .ok (.sipush 240, 3) := by decide +kernel
theorem dX7_pairRounds_19 : decode cX7_pairRounds 19 = .ok (.if_icmp .ge 23, 3) := by decide +kernel
theorem dX7_pairRounds_22 : decode cX7_pairRounds 22 = .ok (.aload_n 0, 1) := by decide +kernel
theorem dX7_pairRounds_23 : decode cX7_pairRounds 23 = .ok (.getfield 16, 3) := by decide +kernel
theorem dX7_pairRounds_26 : decode cX7_pairRounds 26 = .ok (.iload 4, 2) := by decide +kernel
theorem dX7_pairRounds_28 : decode cX7_pairRounds 28 = .ok (.aload_n 0, 1) := by decide +kernel
theorem dX7_pairRounds_29 : decode cX7_pairRounds 29 = .ok (.getfield 7, 3) := by decide +kernel
theorem dX7_pairRounds_32 : decode cX7_pairRounds 32 = .ok (.iload 4, 2) := by decide +kernel
theorem dX7_pairRounds_34 : decode cX7_pairRounds 34 = .ok (.baload, 1) := by decide +kernel
theorem dX7_pairRounds_35 : decode cX7_pairRounds 35 = .ok (.bastore, 1) := by decide +kernel
theorem dX7_pairRounds_36 : decode cX7_pairRounds 36 = .ok (.iinc 4 1, 3) := by decide +kernel
theorem dX7_pairRounds_39 : decode cX7_pairRounds 39 = .ok (.goto (-25), 3) := by decide +kernel
theorem dX7_pairRounds_42 : decode cX7_pairRounds 42 = .ok (.iload_n 2, 1) := by decide +kernel
theorem dX7_pairRounds_43 : decode cX7_pairRounds 43 = .ok (.ifCond .le 109, 3) := by decide +kernel
theorem dX7_pairRounds_46 : decode cX7_pairRounds 46 = .ok (.iconst 0, 1) := by decide +kernel
theorem dX7_pairRounds_47 : decode cX7_pairRounds 47 = .ok (.istore 4, 2) := by decide +kernel
theorem dX7_pairRounds_49 : decode cX7_pairRounds 49 = .ok (.aload_n 0, 1) := by decide +kernel
theorem dX7_pairRounds_50 : decode cX7_pairRounds 50 = .ok (.getfield 19, 3) := by decide +kernel
theorem dX7_pairRounds_53 : decode cX7_pairRounds 53 = .ok (.iload_n 3, 1) := by decide +kernel
theorem dX7_pairRounds_54 : decode cX7_pairRounds 54 = .ok (.iconst 0, 1) := by decide +kernel
theorem dX7_pairRounds_55 : decode cX7_pairRounds 55 = .ok (.iastore, 1) := by decide +kernel
theorem dX7_pairRounds_56 : decode cX7_pairRounds 56 = .ok (.iconst 0, 1) := by decide +kernel
theorem dX7_pairRounds_57 : decode cX7_pairRounds 57 = .ok (.istore 5, 2) := by decide +kernel
theorem dX7_pairRounds_59 : decode cX7_pairRounds 59 = .ok (.iload 5, 2) := by decide +kernel
theorem dX7_pairRounds_61 : decode cX7_pairRounds 61 = .ok (.iload_n 1, 1) := by decide +kernel
theorem dX7_pairRounds_62 : decode cX7_pairRounds 62 = .ok (.if_icmp .ge 72, 3) := by decide +kernel
theorem dX7_pairRounds_65 : decode cX7_pairRounds 65 = .ok (.aload_n 0, 1) := by decide +kernel
theorem dX7_pairRounds_66 : decode cX7_pairRounds 66 = .ok (.getfield 16, 3) := by decide +kernel
theorem dX7_pairRounds_69 : decode cX7_pairRounds 69 = .ok (.iload 5, 2) := by decide +kernel
theorem dX7_pairRounds_71 : decode cX7_pairRounds 71 = .ok (.baload, 1) := by decide +kernel
theorem dX7_pairRounds_72 : decode cX7_pairRounds 72 = .ok (.ifCond .eq 39, 3) := by decide +kernel
theorem dX7_pairRounds_75 : decode cX7_pairRounds 75 = .ok (.iload 5, 2) := by decide +kernel
theorem dX7_pairRounds_77 : decode cX7_pairRounds 77 = .ok (.iconst 1, 1) := by decide +kernel
theorem dX7_pairRounds_78 : decode cX7_pairRounds 78 = .ok (.iadd, 1) := by decide +kernel
theorem dX7_pairRounds_79 : decode cX7_pairRounds 79 = .ok (.iload_n 1, 1) := by decide +kernel
theorem dX7_pairRounds_80 : decode cX7_pairRounds 80 = .ok (.if_icmp .eq 15, 3) := by decide +kernel
theorem dX7_pairRounds_83 : decode cX7_pairRounds 83 = .ok (.aload_n 0, 1) := by decide +kernel
theorem dX7_pairRounds_84 : decode cX7_pairRounds 84 = .ok (.getfield 16, 3) := by decide +kernel
theorem dX7_pairRounds_87 : decode cX7_pairRounds 87 = .ok (.iload 5, 2) := by decide +kernel
theorem dX7_pairRounds_89 : decode cX7_pairRounds 89 = .ok (.iconst 1, 1) := by decide +kernel
theorem dX7_pairRounds_90 : decode cX7_pairRounds 90 = .ok (.iadd, 1) := by decide +kernel
theorem dX7_pairRounds_91 : decode cX7_pairRounds 91 = .ok (.baload, 1) := by decide +kernel
theorem dX7_pairRounds_92 : decode cX7_pairRounds 92 = .ok (.ifCond .ne 19, 3) := by decide +kernel
theorem dX7_pairRounds_95 : decode cX7_pairRounds 95 = .ok (.aload_n 0, 1) := by decide +kernel
theorem dX7_pairRounds_96 : decode cX7_pairRounds 96 = .ok (.getfield 19, 3) := by decide +kernel
theorem dX7_pairRounds_99 : decode cX7_pairRounds 99 = .ok (.iload_n 3, 1) := by decide +kernel
theorem dX7_pairRounds_100 : decode cX7_pairRounds 100 = .ok (.dup2, 1) := by decide +kernel
theorem dX7_pairRounds_101 : decode cX7_pairRounds 101 = .ok (.iaload, 1) := by decide +kernel
theorem dX7_pairRounds_102 : decode cX7_pairRounds 102 = .ok (.iconst 1, 1) := by decide +kernel
theorem dX7_pairRounds_103 : decode cX7_pairRounds 103 = .ok (.iadd, 1) := by decide +kernel
theorem dX7_pairRounds_104 : decode cX7_pairRounds 104 = .ok (.iastore, 1) := by decide +kernel
theorem dX7_pairRounds_105 : decode cX7_pairRounds 105 = .ok (.iinc 5 2, 3) := by decide +kernel
theorem dX7_pairRounds_108 : decode cX7_pairRounds 108 = .ok (.goto (-49), 3) := by decide +kernel
theorem dX7_pairRounds_111 : decode cX7_pairRounds 111 = .ok (.aload_n 0, 1) := by decide +kernel
theorem dX7_pairRounds_112 : decode cX7_pairRounds 112 = .ok (.getfield 16, 3) := by decide +kernel
theorem dX7_pairRounds_115 : decode cX7_pairRounds 115 = .ok (.iload 4, 2) := by decide +kernel
theorem dX7_pairRounds_117 : decode cX7_pairRounds 117 = .ok (.aload_n 0, 1) := by decide +kernel
theorem dX7_pairRounds_118 : decode cX7_pairRounds 118 = .ok (.getfield 16, 3) := by decide +kernel
theorem dX7_pairRounds_121 : decode cX7_pairRounds 121 = .ok (.iload 5, 2) := by decide +kernel
theorem dX7_pairRounds_123 : decode cX7_pairRounds 123 = .ok (.baload, 1) := by decide +kernel
theorem dX7_pairRounds_124 : decode cX7_pairRounds 124 = .ok (.bastore, 1) := by decide +kernel
theorem dX7_pairRounds_125 : decode cX7_pairRounds 125 = .ok (.iinc 4 1, 3) := by decide +kernel
theorem dX7_pairRounds_128 : decode cX7_pairRounds 128 = .ok (.iinc 5 1, 3) := by decide +kernel
theorem dX7_pairRounds_131 : decode cX7_pairRounds 131 = .ok (.goto (-72), 3) := by decide +kernel
theorem dX7_pairRounds_134 : decode cX7_pairRounds 134 = .ok (.iload_n 2, 1) := by decide +kernel
theorem dX7_pairRounds_135 : decode cX7_pairRounds 135 = .ok (.aload_n 0, 1) := by decide +kernel
theorem dX7_pairRounds_136 : decode cX7_pairRounds 136 = .ok (.getfield 19, 3) := by decide +kernel
theorem dX7_pairRounds_139 : decode cX7_pairRounds 139 = .ok (.iload_n 3, 1) := by decide +kernel
theorem dX7_pairRounds_140 : decode cX7_pairRounds 140 = .ok (.iaload, 1) := by decide +kernel
theorem dX7_pairRounds_141 : decode cX7_pairRounds 141 = .ok (.isub, 1) := by decide +kernel
theorem dX7_pairRounds_142 : decode cX7_pairRounds 142 = .ok (.istore_n 2, 1) := by decide +kernel
theorem dX7_pairRounds_143 : decode cX7_pairRounds 143 = .ok (.iload 4, 2) := by decide +kernel
theorem dX7_pairRounds_145 : decode cX7_pairRounds 145 = .ok (.istore_n 1, 1) := by decide +kernel
theorem dX7_pairRounds_146 : decode cX7_pairRounds 146 = .ok (.iinc 3 1, 3) := by decide +kernel
theorem dX7_pairRounds_149 : decode cX7_pairRounds 149 = .ok (.goto (-107), 3) := by decide +kernel
theorem dX7_pairRounds_152 : decode cX7_pairRounds 152 = .ok (.iload_n 3, 1) := by decide +kernel
theorem dX7_pairRounds_153 : decode cX7_pairRounds 153 = .ok (.ireturn, 1) := by decide +kernel
set_option maxRecDepth 20000 in
theorem ggX7_row_X7_balls : GoodIn wsX7_row wsX7_balls := goodIn_r _ [7, 1, 13, 14, 15, 16, 17, 18, 19, 20, 21, 22, 23, 24, 25, 26, 27, 28, 29, 30, 31, 32, 33, 34] (by decide +kernel) (by decide +kernel)
set_option maxRecDepth 20000 in
theorem gX7_row_X7_balls : GoodIn wsX7_row (wsV RX7 70 RX7 yX7_balls wsX7_balls) := goodIn_app (goodIn_of _ (by decide +kernel)) ggX7_row_X7_balls
set_option maxRecDepth 20000 in
theorem ggX7_row_X7_pairRounds : GoodIn wsX7_row wsX7_pairRounds := goodIn_r _ [11, 12, 1, 2, 3, 4, 5, 6, 7, 13, 14, 15, 16, 17, 18, 19, 20, 21, 22, 23, 24, 25, 26, 27, 28, 29, 30, 31, 32, 33, 34] (by decide +kernel) (by decide +kernel)
set_option maxRecDepth 20000 in
theorem gX7_row_X7_pairRounds : GoodIn wsX7_row (wsV RX7 84 RX7 yX7_pairRounds wsX7_pairRounds) := goodIn_app (goodIn_of _ (by decide +kernel)) ggX7_row_X7_pairRounds
theorem dX7_row_0 : decode cX7_row 0 = .ok (.iconst (-1), 1) := by decide +kernel
theorem dX7_row_1 : decode cX7_row 1 = .ok (.istore_n 2, 1) := by decide +kernel
theorem dX7_row_2 : decode cX7_row 2 = .ok (.iconst (-1), 1) := by decide +kernel
theorem dX7_row_3 : decode cX7_row 3 = .ok (.istore_n 3, 1) := by decide +kernel
theorem dX7_row_4 : decode cX7_row 4 = .ok (.iconst 0, 1) := by decide +kernel
theorem dX7_row_5 : decode cX7_row 5 = .ok (.istore 4, 2) := by decide +kernel
theorem dX7_row_7 : decode cX7_row 7 = .ok (.iload 4, 2) := by decide +kernel
theorem dX7_row_9 : decode cX7_row 9 = .ok (.sipush 240, 3) := by decide +kernel
theorem dX7_row_12 : decode cX7_row 12 = .ok (.if_icmp .ge 48, 3) := by decide +kernel
theorem dX7_row_15 : decode cX7_row 15 = .ok (.iload_n 2, 1) := by decide +kernel
theorem dX7_row_16 : decode cX7_row 16 = .ok (.iconst (-1), 1) := by decide +kernel
theorem dX7_row_17 : decode cX7_row 17 = .ok (.if_icmp .ne 18, 3) := by decide +kernel
theorem dX7_row_20 : decode cX7_row 20 = .ok (.aload_n 0, 1) := by decide +kernel
theorem dX7_row_21 : decode cX7_row 21 = .ok (.getfield 7, 3) := by decide +kernel
theorem dX7_row_24 : decode cX7_row 24 = .ok (.iload 4, 2) := by decide +kernel
theorem dX7_row_26 : decode cX7_row 26 = .ok (.baload, 1) := by decide +kernel
theorem dX7_row_27 : decode cX7_row 27 = .ok (.ifCond .eq 8, 3) := by decide +kernel
theorem dX7_row_30 : decode cX7_row 30 = .ok (.iload 4, 2) := by decide +kernel
theorem dX7_row_32 : decode cX7_row 32 = .ok (.goto 4, 3) := by decide +kernel
theorem dX7_row_35 : decode cX7_row 35 = .ok (.iload_n 2, 1) := by decide +kernel
theorem dX7_row_36 : decode cX7_row 36 = .ok (.istore_n 2, 1) := by decide +kernel
theorem dX7_row_37 : decode cX7_row 37 = .ok (.aload_n 0, 1) := by decide +kernel
theorem dX7_row_38 : decode cX7_row 38 = .ok (.getfield 7, 3) := by decide +kernel
theorem dX7_row_41 : decode cX7_row 41 = .ok (.iload 4, 2) := by decide +kernel
theorem dX7_row_43 : decode cX7_row 43 = .ok (.baload, 1) := by decide +kernel
theorem dX7_row_44 : decode cX7_row 44 = .ok (.ifCond .eq 8, 3) := by decide +kernel
theorem dX7_row_47 : decode cX7_row 47 = .ok (.iload 4, 2) := by decide +kernel
theorem dX7_row_49 : decode cX7_row 49 = .ok (.goto 4, 3) := by decide +kernel
theorem dX7_row_52 : decode cX7_row 52 = .ok (.iload_n 3, 1) := by decide +kernel
theorem dX7_row_53 : decode cX7_row 53 = .ok (.istore_n 3, 1) := by decide +kernel
theorem dX7_row_54 : decode cX7_row 54 = .ok (.iinc 4 1, 3) := by decide +kernel
theorem dX7_row_57 : decode cX7_row 57 = .ok (.goto (-50), 3) := by decide +kernel
theorem dX7_row_60 : decode cX7_row 60 = .ok (.iload_n 1, 1) := by decide +kernel
theorem dX7_row_61 : decode cX7_row 61 = .ok (.tableswitch 58 0 3 #[31, 36, 38, 40], 31) := by decide +kernel
theorem dX7_row_92 : decode cX7_row 92 = .ok (.aload_n 0, 1) := by decide +kernel
theorem dX7_row_93 : decode cX7_row 93 = .ok (.invokevirtual 70, 3) := by decide +kernel
theorem dX7_row_96 : decode cX7_row 96 = .ok (.ireturn, 1) := by decide +kernel
theorem dX7_row_97 : decode cX7_row 97 = .ok (.iload_n 2, 1) := by decide +kernel
theorem dX7_row_98 : decode cX7_row 98 = .ok (.ireturn, 1) := by decide +kernel
theorem dX7_row_99 : decode cX7_row 99 = .ok (.iload_n 3, 1) := by decide +kernel
theorem dX7_row_100 : decode cX7_row 100 = .ok (.ireturn, 1) := by decide +kernel
theorem dX7_row_101 : decode cX7_row 101 = .ok (.aload_n 0, 1) := by decide +kernel
theorem dX7_row_102 : decode cX7_row 102 = .ok (.invokevirtual 84, 3) := by decide +kernel
theorem dX7_row_105 : decode cX7_row 105 = .ok (.ifCond .ne 7, 3) := by decide +kernel
theorem dX7_row_108 : decode cX7_row 108 = .ok (.iconst 0, 1) := by decide +kernel
theorem dX7_row_109 : decode cX7_row 109 = .ok (.goto 9, 3) := by decide +kernel
theorem dX7_row_112 : decode cX7_row 112 = .ok (.aload_n 0, 1) := by decide +kernel
theorem dX7_row_113 : decode cX7_row 113 = .ok (.getfield 19, 3) := by decide +kernel
theorem dX7_row_116 : decode cX7_row 116 = .ok (.iconst 0, 1) := by decide +kernel
theorem dX7_row_117 : decode cX7_row 117 = .ok (.iaload, 1) := by decide +kernel
theorem dX7_row_118 : decode cX7_row 118 = .ok (.ireturn, 1) := by decide +kernel
theorem dX7_row_119 : decode cX7_row 119 = .ok (.bipush (-2), 2) := by decide +kernel
theorem dX7_row_121 : decode cX7_row 121 = .ok (.ireturn, 1) := by decide +kernel
set_option maxRecDepth 20000 in
theorem ggX7_heap_X7_pairRounds : GoodIn wsX7_heap wsX7_pairRounds := goodIn_r _ [6, 7, 8, 1, 9, 10, 11, 5, 12, 16, 17, 18, 19, 20, 21, 22, 23, 24, 25, 26, 27, 28, 29, 30, 31, 32, 33, 34, 35, 36, 37] (by decide +kernel) (by decide +kernel)
set_option maxRecDepth 20000 in
theorem gX7_heap_X7_pairRounds : GoodIn wsX7_heap (wsV RX7 84 RX7 yX7_pairRounds wsX7_pairRounds) := goodIn_app (goodIn_of _ (by decide +kernel)) ggX7_heap_X7_pairRounds
set_option maxRecDepth 20000 in
theorem ggX7_heap_X7_in : GoodIn wsX7_heap wsX7_in := goodIn_r _ [15] (by decide +kernel) (by decide +kernel)
set_option maxRecDepth 20000 in
theorem gX7_heap_X7_in : GoodIn wsX7_heap (va_wsS RX7 66 yX7_in wsX7_in) := goodIn_app (goodIn_of _ (by decide +kernel)) ggX7_heap_X7_in
theorem dX7_heap_0 : decode cX7_heap 0 = .ok (.aload_n 0, 1) := by decide +kernel
theorem dX7_heap_1 : decode cX7_heap 1 = .ok (.invokevirtual 84, 3) := by decide +kernel
theorem dX7_heap_4 : decode cX7_heap 4 = .ok (.istore_n 2, 1) := by decide +kernel
theorem dX7_heap_5 : decode cX7_heap 5 = .ok (.iload_n 2, 1) := by decide +kernel
theorem dX7_heap_6 : decode cX7_heap 6 = .ok (.ifCond .eq 19, 3) := by decide +kernel
theorem dX7_heap_9 : decode cX7_heap 9 = .ok (.iload_n 1, 1) := by decide +kernel
theorem dX7_heap_10 : decode cX7_heap 10 = .ok (.iconst 0, 1) := by decide +kernel
theorem dX7_heap_11 : decode cX7_heap 11 = .ok (.aload_n 0, 1) := by decide +kernel
theorem dX7_heap_12 : decode cX7_heap 12 = .ok (.getfield 19, 3) := by decide +kernel
theorem dX7_heap_15 : decode cX7_heap 15 = .ok (.iconst 0, 1) := by decide +kernel
theorem dX7_heap_16 : decode cX7_heap 16 = .ok (.iaload, 1) := by decide +kernel
theorem dX7_heap_17 : decode cX7_heap 17 = .ok (.iconst 1, 1) := by decide +kernel
theorem dX7_heap_18 : decode cX7_heap 18 = .ok (.isub, 1) := by decide +kernel
theorem dX7_heap_19 : decode cX7_heap 19 = .ok (.invokestatic 66, 3) := by decide +kernel
theorem dX7_heap_22 : decode cX7_heap 22 = .ok (.ifCond .ne 6, 3) := by decide +kernel
theorem dX7_heap_25 : decode cX7_heap 25 = .ok (.bipush (-2), 2) := by decide +kernel
theorem dX7_heap_27 : decode cX7_heap 27 = .ok (.ireturn, 1) := by decide +kernel
theorem dX7_heap_28 : decode cX7_heap 28 = .ok (.iconst 0, 1) := by decide +kernel
theorem dX7_heap_29 : decode cX7_heap 29 = .ok (.istore_n 3, 1) := by decide +kernel
theorem dX7_heap_30 : decode cX7_heap 30 = .ok (.iconst 0, 1) := by decide +kernel
theorem dX7_heap_31 : decode cX7_heap 31 = .ok (.istore 4, 2) := by decide +kernel
theorem dX7_heap_33 : decode cX7_heap 33 = .ok (.iload 4, 2) := by decide +kernel
theorem dX7_heap_35 : decode cX7_heap 35 = .ok (.iload_n 2, 1) := by decide +kernel
theorem dX7_heap_36 : decode cX7_heap 36 = .ok (.if_icmp .ge 28, 3) := by decide +kernel
theorem dX7_heap_39 : decode cX7_heap 39 = .ok (.iload_n 3, 1) := by decide +kernel
theorem dX7_heap_40 : decode cX7_heap 40 = .ok (.aload_n 0, 1) := by decide +kernel
theorem dX7_heap_41 : decode cX7_heap 41 = .ok (.getfield 19, 3) := by decide +kernel
theorem dX7_heap_44 : decode cX7_heap 44 = .ok (.iload 4, 2) := by decide +kernel
theorem dX7_heap_46 : decode cX7_heap 46 = .ok (.iaload, 1) := by decide +kernel
theorem dX7_heap_47 : decode cX7_heap 47 = .ok (.iload_n 1, 1) := by decide +kernel
theorem dX7_heap_48 : decode cX7_heap 48 = .ok (.if_icmp .le 7, 3) := by decide +kernel
theorem dX7_heap_51 : decode cX7_heap 51 = .ok (.iconst 1, 1) := by decide +kernel
theorem dX7_heap_52 : decode cX7_heap 52 = .ok (.goto 4, 3) := by decide +kernel
theorem dX7_heap_55 : decode cX7_heap 55 = .ok (.iconst 0, 1) := by decide +kernel
theorem dX7_heap_56 : decode cX7_heap 56 = .ok (.iadd, 1) := by decide +kernel
theorem dX7_heap_57 : decode cX7_heap 57 = .ok (.istore_n 3, 1) := by decide +kernel
theorem dX7_heap_58 : decode cX7_heap 58 = .ok (.iinc 4 1, 3) := by decide +kernel
theorem dX7_heap_61 : decode cX7_heap 61 = .ok (.goto (-28), 3) := by decide +kernel
theorem dX7_heap_64 : decode cX7_heap 64 = .ok (.iload_n 3, 1) := by decide +kernel
theorem dX7_heap_65 : decode cX7_heap 65 = .ok (.ireturn, 1) := by decide +kernel
theorem dX7_room_0 : decode cX7_room 0 = .ok (.iconst 0, 1) := by decide +kernel
theorem dX7_room_1 : decode cX7_room 1 = .ok (.istore_n 3, 1) := by decide +kernel
theorem dX7_room_2 : decode cX7_room 2 = .ok (.iconst 0, 1) := by decide +kernel
theorem dX7_room_3 : decode cX7_room 3 = .ok (.istore 4, 2) := by decide +kernel
theorem dX7_room_5 : decode cX7_room 5 = .ok (.iload 4, 2) := by decide +kernel
theorem dX7_room_7 : decode cX7_room 7 = .ok (.aload_n 0, 1) := by decide +kernel
theorem dX7_room_8 : decode cX7_room 8 = .ok (.getfield 87, 3) := by decide +kernel
theorem dX7_room_11 : decode cX7_room 11 = .ok (.if_icmp .ge 34, 3) := by decide +kernel
theorem dX7_room_14 : decode cX7_room 14 = .ok (.iload_n 3, 1) := by decide +kernel
theorem dX7_room_15 : decode cX7_room 15 = .ok (.iload_n 1, 1) := by decide +kernel
theorem dX7_room_16 : decode cX7_room 16 = .ok (.aload_n 0, 1) := by decide +kernel
theorem dX7_room_17 : decode cX7_room 17 = .ok (.getfield 23, 3) := by decide +kernel
theorem dX7_room_20 : decode cX7_room 20 = .ok (.iload 4, 2) := by decide +kernel
theorem dX7_room_22 : decode cX7_room 22 = .ok (.iaload, 1) := by decide +kernel
theorem dX7_room_23 : decode cX7_room 23 = .ok (.if_icmp .ge 7, 3) := by decide +kernel
theorem dX7_room_26 : decode cX7_room 26 = .ok (.iload_n 1, 1) := by decide +kernel
theorem dX7_room_27 : decode cX7_room 27 = .ok (.goto 10, 3) := by decide +kernel
theorem dX7_room_30 : decode cX7_room 30 = .ok (.aload_n 0, 1) := by decide +kernel
theorem dX7_room_31 : decode cX7_room 31 = .ok (.getfield 23, 3) := by decide +kernel
theorem dX7_room_34 : decode cX7_room 34 = .ok (.iload 4, 2) := by decide +kernel
theorem dX7_room_36 : decode cX7_room 36 = .ok (.iaload, 1) := by decide +kernel
theorem dX7_room_37 : decode cX7_room 37 = .ok (.iadd, 1) := by decide +kernel
theorem dX7_room_38 : decode cX7_room 38 = .ok (.istore_n 3, 1) := by decide +kernel
theorem dX7_room_39 : decode cX7_room 39 = .ok (.iinc 4 1, 3) := by decide +kernel
theorem dX7_room_42 : decode cX7_room 42 = .ok (.goto (-37), 3) := by decide +kernel
theorem dX7_room_45 : decode cX7_room 45 = .ok (.iload_n 2, 1) := by decide +kernel
theorem dX7_room_46 : decode cX7_room 46 = .ok (.iconst 2, 1) := by decide +kernel
theorem dX7_room_47 : decode cX7_room 47 = .ok (.iload_n 3, 1) := by decide +kernel
theorem dX7_room_48 : decode cX7_room 48 = .ok (.imul, 1) := by decide +kernel
theorem dX7_room_49 : decode cX7_room 49 = .ok (.isub, 1) := by decide +kernel
theorem dX7_room_50 : decode cX7_room 50 = .ok (.ireturn, 1) := by decide +kernel
set_option maxRecDepth 20000 in
theorem ggX7_tight_X7_room : GoodIn wsX7_tight wsX7_room := goodIn_r _ [8, 1, 3, 9, 10, 11, 12, 13, 14, 15, 16, 17, 18, 19, 20, 21, 22, 23, 24, 25, 26, 27, 28, 29, 30] (by decide +kernel) (by decide +kernel)
set_option maxRecDepth 20000 in
theorem gX7_tight_X7_room : GoodIn wsX7_tight (wsV RX7 90 RX7 yX7_room wsX7_room) := goodIn_app (goodIn_of _ (by decide +kernel)) ggX7_tight_X7_room
theorem dX7_tight_0 : decode cX7_tight 0 = .ok (.iconst (-1), 1) := by decide +kernel
theorem dX7_tight_1 : decode cX7_tight 1 = .ok (.istore_n 3, 1) := by decide +kernel
theorem dX7_tight_2 : decode cX7_tight 2 = .ok (.iconst 0, 1) := by decide +kernel
theorem dX7_tight_3 : decode cX7_tight 3 = .ok (.istore 4, 2) := by decide +kernel
theorem dX7_tight_5 : decode cX7_tight 5 = .ok (.iload 4, 2) := by decide +kernel
theorem dX7_tight_7 : decode cX7_tight 7 = .ok (.aload_n 0, 1) := by decide +kernel
theorem dX7_tight_8 : decode cX7_tight 8 = .ok (.getfield 87, 3) := by decide +kernel
theorem dX7_tight_11 : decode cX7_tight 11 = .ok (.if_icmp .ge 94, 3) := by decide +kernel
theorem dX7_tight_14 : decode cX7_tight 14 = .ok (.aload_n 0, 1) := by decide +kernel
theorem dX7_tight_15 : decode cX7_tight 15 = .ok (.getfield 26, 3) := by decide +kernel
theorem dX7_tight_18 : decode cX7_tight 18 = .ok (.iload 4, 2) := by decide +kernel
theorem dX7_tight_20 : decode cX7_tight 20 = .ok (.iaload, 1) := by decide +kernel
theorem dX7_tight_21 : decode cX7_tight 21 = .ok (.aload_n 0, 1) := by decide +kernel
theorem dX7_tight_22 : decode cX7_tight 22 = .ok (.aload_n 0, 1) := by decide +kernel
theorem dX7_tight_23 : decode cX7_tight 23 = .ok (.getfield 23, 3) := by decide +kernel
theorem dX7_tight_26 : decode cX7_tight 26 = .ok (.iload 4, 2) := by decide +kernel
theorem dX7_tight_28 : decode cX7_tight 28 = .ok (.iaload, 1) := by decide +kernel
theorem dX7_tight_29 : decode cX7_tight 29 = .ok (.iload_n 1, 1) := by decide +kernel
theorem dX7_tight_30 : decode cX7_tight 30 = .ok (.invokevirtual 90, 3) := by decide +kernel
theorem dX7_tight_33 : decode cX7_tight 33 = .ok (.if_icmp .ne 66, 3) := by decide +kernel
theorem dX7_tight_36 : decode cX7_tight 36 = .ok (.iload_n 3, 1) := by decide +kernel
theorem dX7_tight_37 : decode cX7_tight 37 = .ok (.iconst (-1), 1) := by decide +kernel
theorem dX7_tight_38 : decode cX7_tight 38 = .ok (.if_icmp .eq 42, 3) := by decide +kernel
theorem dX7_tight_41 : decode cX7_tight 41 = .ok (.iload_n 2, 1) := by decide +kernel
theorem dX7_tight_42 : decode cX7_tight 42 = .ok (.ifCond .eq 22, 3) := by decide +kernel
theorem dX7_tight_45 : decode cX7_tight 45 = .ok (.aload_n 0, 1) := by decide +kernel
theorem dX7_tight_46 : decode cX7_tight 46 = .ok (.getfield 23, 3) := by decide +kernel
theorem dX7_tight_49 : decode cX7_tight 49 = .ok (.iload 4, 2) := by decide +kernel
theorem dX7_tight_51 : decode cX7_tight 51 = .ok (.iaload, 1) := by decide +kernel
theorem dX7_tight_52 : decode cX7_tight 52 = .ok (.aload_n 0, 1) := by decide +kernel
theorem dX7_tight_53 : decode cX7_tight 53 = .ok (.getfield 23, 3) := by decide +kernel
theorem dX7_tight_56 : decode cX7_tight 56 = .ok (.iload_n 3, 1) := by decide +kernel
theorem dX7_tight_57 : decode cX7_tight 57 = .ok (.iaload, 1) := by decide +kernel
theorem dX7_tight_58 : decode cX7_tight 58 = .ok (.if_icmp .le 26, 3) := by decide +kernel
theorem dX7_tight_61 : decode cX7_tight 61 = .ok (.goto 19, 3) := by decide +kernel
theorem dX7_tight_64 : decode cX7_tight 64 = .ok (.aload_n 0, 1) := by decide +kernel
theorem dX7_tight_65 : decode cX7_tight 65 = .ok (.getfield 23, 3) := by decide +kernel
theorem dX7_tight_68 : decode cX7_tight 68 = .ok (.iload 4, 2) := by decide +kernel
theorem dX7_tight_70 : decode cX7_tight 70 = .ok (.iaload, 1) := by decide +kernel
theorem dX7_tight_71 : decode cX7_tight 71 = .ok (.aload_n 0, 1) := by decide +kernel
theorem dX7_tight_72 : decode cX7_tight 72 = .ok (.getfield 23, 3) := by decide +kernel
theorem dX7_tight_75 : decode cX7_tight 75 = .ok (.iload_n 3, 1) := by decide +kernel
theorem dX7_tight_76 : decode cX7_tight 76 = .ok (.iaload, 1) := by decide +kernel
theorem dX7_tight_77 : decode cX7_tight 77 = .ok (.if_icmp .ge 7, 3) := by decide +kernel
theorem dX7_tight_80 : decode cX7_tight 80 = .ok (.iconst 1, 1) := by decide +kernel
theorem dX7_tight_81 : decode cX7_tight 81 = .ok (.goto 4, 3) := by decide +kernel
theorem dX7_tight_84 : decode cX7_tight 84 = .ok (.iconst 0, 1) := by decide +kernel
theorem dX7_tight_85 : decode cX7_tight 85 = .ok (.istore 5, 2) := by decide +kernel
theorem dX7_tight_87 : decode cX7_tight 87 = .ok (.iload 5, 2) := by decide +kernel
theorem dX7_tight_89 : decode cX7_tight 89 = .ok (.ifCond .eq 8, 3) := by decide +kernel
theorem dX7_tight_92 : decode cX7_tight 92 = .ok (.iload 4, 2) := by decide +kernel
theorem dX7_tight_94 : decode cX7_tight 94 = .ok (.goto 4, 3) := by decide +kernel
theorem dX7_tight_97 : decode cX7_tight 97 = .ok (.iload_n 3, 1) := by decide +kernel
theorem dX7_tight_98 : decode cX7_tight 98 = .ok (.istore_n 3, 1) := by decide +kernel
theorem dX7_tight_99 : decode cX7_tight 99 = .ok (.iinc 4 1, 3) := by decide +kernel
theorem dX7_tight_102 : decode cX7_tight 102 = .ok (.goto (-97), 3) := by decide +kernel
theorem dX7_tight_105 : decode cX7_tight 105 = .ok (.iload_n 3, 1) := by decide +kernel
theorem dX7_tight_106 : decode cX7_tight 106 = .ok (.ireturn, 1) := by decide +kernel
set_option maxRecDepth 20000 in
theorem ggX7_reads_X7_tight : GoodIn wsX7_reads wsX7_tight := goodIn_r _ [9, 1, 4, 3, 10, 11, 12, 8, 13, 14, 15, 16, 17, 18, 19, 20, 21, 22, 23, 24, 25, 26, 27, 28, 29, 30, 31, 32, 33, 34, 35] (by decide +kernel) (by decide +kernel)
set_option maxRecDepth 20000 in
theorem gX7_reads_X7_tight : GoodIn wsX7_reads (wsV RX7 94 RX7 yX7_tight wsX7_tight) := goodIn_app (goodIn_of _ (by decide +kernel)) ggX7_reads_X7_tight
set_option maxRecDepth 20000 in
theorem ggX7_reads_X7_room : GoodIn wsX7_reads wsX7_room := goodIn_r _ [13, 1, 3, 14, 15, 16, 17, 18, 19, 20, 21, 22, 23, 24, 25, 26, 27, 28, 29, 30, 31, 32, 33, 34, 35] (by decide +kernel) (by decide +kernel)
set_option maxRecDepth 20000 in
theorem gX7_reads_X7_room : GoodIn wsX7_reads (wsV RX7 90 RX7 yX7_room wsX7_room) := goodIn_app (goodIn_of _ (by decide +kernel)) ggX7_reads_X7_room
theorem dX7_reads_0 : decode cX7_reads 0 = .ok (.aload_n 0, 1) := by decide +kernel
theorem dX7_reads_1 : decode cX7_reads 1 = .ok (.iconst 0, 1) := by decide +kernel
theorem dX7_reads_2 : decode cX7_reads 2 = .ok (.putfield 87, 3) := by decide +kernel
theorem dX7_reads_5 : decode cX7_reads 5 = .ok (.iconst 0, 1) := by decide +kernel
theorem dX7_reads_6 : decode cX7_reads 6 = .ok (.istore_n 2, 1) := by decide +kernel
theorem dX7_reads_7 : decode cX7_reads 7 = .ok (.iload_n 2, 1) := by decide +kernel
theorem dX7_reads_8 : decode cX7_reads 8 = .ok (.iload_n 1, 1) := by decide +kernel
theorem dX7_reads_9 : decode cX7_reads 9 = .ok (.if_icmp .ge 81, 3) := by decide +kernel
theorem dX7_reads_12 : decode cX7_reads 12 = .ok (.aload_n 0, 1) := by decide +kernel
theorem dX7_reads_13 : decode cX7_reads 13 = .ok (.getfield 7, 3) := by decide +kernel
theorem dX7_reads_16 : decode cX7_reads 16 = .ok (.iload_n 2, 1) := by decide +kernel
theorem dX7_reads_17 : decode cX7_reads 17 = .ok (.baload, 1) := by decide +kernel
theorem dX7_reads_18 : decode cX7_reads 18 = .ok (.ifCond .eq 66, 3) := by decide +kernel
theorem dX7_reads_21 : decode cX7_reads 21 = .ok (.aload_n 0, 1) := by decide +kernel
theorem dX7_reads_22 : decode cX7_reads 22 = .ok (.iload_n 2, 1) := by decide +kernel
theorem dX7_reads_23 : decode cX7_reads 23 = .ok (.iconst 1, 1) := by decide +kernel
theorem dX7_reads_24 : decode cX7_reads 24 = .ok (.invokevirtual 94, 3) := by decide +kernel
theorem dX7_reads_27 : decode cX7_reads 27 = .ok (.istore_n 3, 1) := by decide +kernel
theorem dX7_reads_28 : decode cX7_reads 28 = .ok (.iload_n 3, 1) := by decide +kernel
theorem dX7_reads_29 : decode cX7_reads 29 = .ok (.iconst (-1), 1) := by decide +kernel
theorem dX7_reads_30 : decode cX7_reads 30 = .ok (.if_icmp .ne 25, 3) := by decide +kernel
theorem dX7_reads_33 : decode cX7_reads 33 = .ok (.aload_n 0, 1) := by decide +kernel
theorem dX7_reads_34 : decode cX7_reads 34 = .ok (.getfield 87, 3) := by decide +kernel
theorem dX7_reads_37 : decode cX7_reads 37 = .ok (.istore_n 3, 1) := by decide +kernel
theorem dX7_reads_38 : decode cX7_reads 38 = .ok (.aload_n 0, 1) := by decide +kernel
theorem dX7_reads_39 : decode cX7_reads 39 = .ok (.getfield 23, 3) := by decide +kernel
theorem dX7_reads_42 : decode cX7_reads 42 = .ok (.iload_n 3, 1) := by decide +kernel
theorem dX7_reads_43 : decode cX7_reads 43 = .ok (.iconst 0, 1) := by decide +kernel
theorem dX7_reads_44 : decode cX7_reads 44 = .ok (.iastore, 1) := by decide +kernel
theorem dX7_reads_45 : decode cX7_reads 45 = .ok (.aload_n 0, 1) := by decide +kernel
theorem dX7_reads_46 : decode cX7_reads 46 = .ok (.dup, 1) := by decide +kernel
theorem dX7_reads_47 : decode cX7_reads 47 = .ok (.getfield 87, 3) := by decide +kernel
theorem dX7_reads_50 : decode cX7_reads 50 = .ok (.iconst 1, 1) := by decide +kernel
theorem dX7_reads_51 : decode cX7_reads 51 = .ok (.iadd, 1) := by decide +kernel
theorem dX7_reads_52 : decode cX7_reads 52 = .ok (.putfield 87, 3) := by decide +kernel
theorem dX7_reads_55 : decode cX7_reads 55 = .ok (.aload_n 0, 1) := by decide +kernel
theorem dX7_reads_56 : decode cX7_reads 56 = .ok (.getfield 23, 3) := by decide +kernel
theorem dX7_reads_59 : decode cX7_reads 59 = .ok (.iload_n 3, 1) := by decide +kernel
theorem dX7_reads_60 : decode cX7_reads 60 = .ok (.dup2, 1) := by decide +kernel
theorem dX7_reads_61 : decode cX7_reads 61 = .ok (.iaload, 1) := by decide +kernel
theorem dX7_reads_62 : decode cX7_reads 62 = .ok (.iconst 1, 1) := by decide +kernel
theorem dX7_reads_63 : decode cX7_reads 63 = .ok (.iadd, 1) := by decide +kernel
theorem dX7_reads_64 : decode cX7_reads 64 = .ok (.iastore, 1) := by decide +kernel
theorem dX7_reads_65 : decode cX7_reads 65 = .ok (.aload_n 0, 1) := by decide +kernel
theorem dX7_reads_66 : decode cX7_reads 66 = .ok (.getfield 26, 3) := by decide +kernel
theorem dX7_reads_69 : decode cX7_reads 69 = .ok (.iload_n 3, 1) := by decide +kernel
theorem dX7_reads_70 : decode cX7_reads 70 = .ok (.aload_n 0, 1) := by decide +kernel
theorem dX7_reads_71 : decode cX7_reads 71 = .ok (.aload_n 0, 1) := by decide +kernel
theorem dX7_reads_72 : decode cX7_reads 72 = .ok (.getfield 23, 3) := by decide +kernel
theorem dX7_reads_75 : decode cX7_reads 75 = .ok (.iload_n 3, 1) := by decide +kernel
theorem dX7_reads_76 : decode cX7_reads 76 = .ok (.iaload, 1) := by decide +kernel
theorem dX7_reads_77 : decode cX7_reads 77 = .ok (.iload_n 2, 1) := by decide +kernel
theorem dX7_reads_78 : decode cX7_reads 78 = .ok (.iconst 1, 1) := by decide +kernel
theorem dX7_reads_79 : decode cX7_reads 79 = .ok (.iadd, 1) := by decide +kernel
theorem dX7_reads_80 : decode cX7_reads 80 = .ok (.invokevirtual 90, 3) := by decide +kernel
theorem dX7_reads_83 : decode cX7_reads 83 = .ok (.iastore, 1) := by decide +kernel
