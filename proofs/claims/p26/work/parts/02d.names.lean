theorem inlX0 : ∀ w ∈ wsX00, w ∈ wsL_law := fun _ h => List.mem_append_left _ (List.mem_append_left _ (List.mem_append_left _ (List.mem_append_left _ (List.mem_append_left _ (List.mem_append_right _ h)))))
theorem inX0 : ∀ w ∈ wsX00, w ∈ lw_tbl := fun w h => wsL_law_in w (inlX0 w h)
theorem inlX1 : ∀ w ∈ wsX10, w ∈ wsL_law := fun _ h => List.mem_append_left _ (List.mem_append_left _ (List.mem_append_left _ (List.mem_append_left _ (List.mem_append_left _ (List.mem_append_left _ (List.mem_append_right _ h))))))
theorem inX1 : ∀ w ∈ wsX10, w ∈ lw_tbl := fun w h => wsL_law_in w (inlX1 w h)
theorem inlX2 : ∀ w ∈ wsX20, w ∈ wsL_law := fun _ h => List.mem_append_left _ (List.mem_append_left _ (List.mem_append_left _ (List.mem_append_left _ (List.mem_append_right _ h))))
theorem inX2 : ∀ w ∈ wsX20, w ∈ lw_tbl := fun w h => wsL_law_in w (inlX2 w h)
theorem inlX3 : ∀ w ∈ wsX30, w ∈ wsL_law := fun _ h => List.mem_append_left _ (List.mem_append_left _ (List.mem_append_left _ (List.mem_append_left _ (List.mem_append_left _ (List.mem_append_left _ (List.mem_append_left _ (List.mem_append_left _ (List.mem_append_right _ h))))))))
theorem inX3 : ∀ w ∈ wsX30, w ∈ lw_tbl := fun w h => wsL_law_in w (inlX3 w h)
theorem inX4 : ∀ w ∈ wsX40, w ∈ lw_tbl := by decide +kernel
theorem inJx145de : ∀ w ∈ wsJx145de0, w ∈ lw_tbl := by decide +kernel
theorem inJx8e188 : ∀ w ∈ wsJx8e1880, w ∈ lw_tbl := by decide +kernel
theorem inJ6 : ∀ w ∈ wsJ60, w ∈ lw_tbl := by decide +kernel
theorem inJxab1ab : ∀ w ∈ wsJxab1ab0, w ∈ lw_tbl := by decide +kernel
theorem inJ9 : ∀ w ∈ wsJ90, w ∈ lw_tbl := by decide +kernel
theorem inJ0 : ∀ w ∈ wsJ00, w ∈ lw_tbl := by decide +kernel
theorem inJ10 : ∀ w ∈ wsJ100, w ∈ lw_tbl := by decide +kernel
theorem inJxa1e45 : ∀ w ∈ wsJxa1e450, w ∈ lw_tbl := by decide +kernel
theorem inJxc12de : ∀ w ∈ wsJxc12de0, w ∈ lw_tbl := by decide +kernel
theorem inlJx4a65c : ∀ w ∈ wsJx4a65c0, w ∈ wsL_law := fun _ h => List.mem_append_left _ (List.mem_append_left _ (List.mem_append_left _ (List.mem_append_left _ (List.mem_append_left _ (List.mem_append_left _ (List.mem_append_left _ (List.mem_append_right _ h)))))))
theorem inJx4a65c : ∀ w ∈ wsJx4a65c0, w ∈ lw_tbl := fun w h => wsL_law_in w (inlJx4a65c w h)
theorem inJ7 : ∀ w ∈ wsJ70, w ∈ lw_tbl := by decide +kernel
theorem inJx5ef63 : ∀ w ∈ wsJx5ef630, w ∈ lw_tbl := by decide +kernel
theorem inJxbd725 : ∀ w ∈ wsJxbd7250, w ∈ lw_tbl := by decide +kernel
theorem inJ15 : ∀ w ∈ wsJ150, w ∈ lw_tbl := by decide +kernel
theorem inJxf0a74 : ∀ w ∈ wsJxf0a740, w ∈ lw_tbl := by decide +kernel
theorem inJxa66e6 : ∀ w ∈ wsJxa66e60, w ∈ lw_tbl := by decide +kernel
theorem inJ8 : ∀ w ∈ wsJ80, w ∈ lw_tbl := by decide +kernel
theorem inJ3 : ∀ w ∈ wsJ30, w ∈ lw_tbl := by decide +kernel
set_option maxRecDepth 20000 in
theorem ggX0_init_Jx4a65c_init_da8c8 : GoodIn wsX0_init wsJx4a65c_init_da8c8 := goodIn_r _ [11, 12, 13, 14, 15, 16, 17, 18, 19, 20, 21, 22, 23, 2, 3, 24, 25, 26] (by decide +kernel) (by decide +kernel)
set_option maxRecDepth 20000 in
theorem gX0_init_Jx4a65c_init_da8c8 : GoodIn wsX0_init (wsJx4a65c_init_da8c8) := ggX0_init_Jx4a65c_init_da8c8
theorem dX0_init_0 : decode cX0_init 0 = .ok (.aload_n 0, 1) := by decide +kernel
theorem dX0_init_1 : decode cX0_init 1 = .ok (.invokespecial 3, 3) := by decide +kernel
theorem dX0_init_4 : decode cX0_init 4 = .ok (.aload_n 0, 1) := by decide +kernel
theorem dX0_init_5 : decode cX0_init 5 = .ok (.new 9, 3) := by decide +kernel
theorem dX0_init_8 : decode cX0_init 8 = .ok (.dup, 1) := by decide +kernel
theorem dX0_init_9 : decode cX0_init 9 = .ok (.invokespecial 11, 3) := by decide +kernel
theorem dX0_init_12 : decode cX0_init 12 = .ok (.putfield 12, 3) := by decide +kernel
theorem dX0_init_15 : decode cX0_init 15 = .ok (.aload_n 0, 1) := by decide +kernel
theorem dX0_init_16 : decode cX0_init 16 = .ok (.bipush 100, 2) := by decide +kernel
theorem dX0_init_18 : decode cX0_init 18 = .ok (.putfield 18, 3) := by decide +kernel
theorem dX0_init_21 : decode cX0_init 21 = .ok (.return_, 1) := by decide +kernel
set_option maxRecDepth 20000 in
theorem ggX0_billOn_Jx4a65c_size_8abf5 : GoodIn wsX0_billOn wsJx4a65c_size_8abf5 := goodIn_r _ [7, 8, 53, 54, 55] (by decide +kernel) (by decide +kernel)
set_option maxRecDepth 20000 in
theorem gX0_billOn_Jx4a65c_size_8abf5 : GoodIn wsX0_billOn (wsV RX0 22 RJx4a65c yJx4a65c_size_8abf5 wsJx4a65c_size_8abf5) := goodIn_app (goodIn_of _ (by decide +kernel)) ggX0_billOn_Jx4a65c_size_8abf5
set_option maxRecDepth 20000 in
theorem ggX0_billOn_Jx4a65c_get_915e3 : GoodIn wsX0_billOn wsJx4a65c_get_915e3 := goodIn_r _ [12, 8, 13, 14, 15, 16, 17, 18, 19, 20, 21, 22, 23, 6, 24, 25, 53, 54, 55] (by decide +kernel) (by decide +kernel)
set_option maxRecDepth 20000 in
theorem gX0_billOn_Jx4a65c_get_915e3 : GoodIn wsX0_billOn (wsV RX0 26 RJx4a65c yJx4a65c_get_915e3 wsJx4a65c_get_915e3) := goodIn_app (goodIn_of _ (by decide +kernel)) ggX0_billOn_Jx4a65c_get_915e3
set_option maxRecDepth 20000 in
theorem ggX0_billOn_X2_billedOn : GoodIn wsX0_billOn wsX2_billedOn := goodIn_r _ [30, 31, 32, 33, 34, 35, 29, 36, 37, 38, 39, 40, 6, 41, 8, 42, 43, 44, 45, 46, 47, 48, 49, 50, 56, 57, 58, 59, 60, 61, 53, 54, 55] (by decide +kernel) (by decide +kernel)
set_option maxRecDepth 20000 in
theorem gX0_billOn_X2_billedOn : GoodIn wsX0_billOn (wsV RX0 32 RX2 yX2_billedOn wsX2_billedOn) := goodIn_app (goodIn_of _ (by decide +kernel)) ggX0_billOn_X2_billedOn
theorem dX0_billOn_0 : decode cX0_billOn 0 = .ok (.iconst 0, 1) := by decide +kernel
theorem dX0_billOn_1 : decode cX0_billOn 1 = .ok (.istore_n 2, 1) := by decide +kernel
theorem dX0_billOn_2 : decode cX0_billOn 2 = .ok (.iconst 0, 1) := by decide +kernel
theorem dX0_billOn_3 : decode cX0_billOn 3 = .ok (.istore_n 3, 1) := by decide +kernel
theorem dX0_billOn_4 : decode cX0_billOn 4 = .ok (.iload_n 3, 1) := by decide +kernel
theorem dX0_billOn_5 : decode cX0_billOn 5 = .ok (.aload_n 0, 1) := by decide +kernel
theorem dX0_billOn_6 : decode cX0_billOn 6 = .ok (.getfield 12, 3) := by decide +kernel
theorem dX0_billOn_9 : decode cX0_billOn 9 = .ok (.invokevirtual 22, 3) := by decide +kernel
theorem dX0_billOn_12 : decode cX0_billOn 12 = .ok (.if_icmp .ge 27, 3) := by decide +kernel
theorem dX0_billOn_15 : decode cX0_billOn 15 = .ok (.iload_n 2, 1) := by decide +kernel
theorem dX0_billOn_16 : decode cX0_billOn 16 = .ok (.aload_n 0, 1) := by decide +kernel
theorem dX0_billOn_17 : decode cX0_billOn 17 = .ok (.getfield 12, 3) := by decide +kernel
theorem dX0_billOn_20 : decode cX0_billOn 20 = .ok (.iload_n 3, 1) := by decide +kernel
theorem dX0_billOn_21 : decode cX0_billOn 21 = .ok (.invokevirtual 26, 3) := by decide +kernel
theorem dX0_billOn_24 : decode cX0_billOn 24 = .ok (.checkcast 30, 3) := by decide +kernel
theorem dX0_billOn_27 : decode cX0_billOn 27 = .ok (.iload_n 1, 1) := by decide +kernel
theorem dX0_billOn_28 : decode cX0_billOn 28 = .ok (.invokevirtual 32, 3) := by decide +kernel
theorem dX0_billOn_31 : decode cX0_billOn 31 = .ok (.iadd, 1) := by decide +kernel
theorem dX0_billOn_32 : decode cX0_billOn 32 = .ok (.istore_n 2, 1) := by decide +kernel
theorem dX0_billOn_33 : decode cX0_billOn 33 = .ok (.iinc 3 1, 3) := by decide +kernel
theorem dX0_billOn_36 : decode cX0_billOn 36 = .ok (.goto (-32), 3) := by decide +kernel
theorem dX0_billOn_39 : decode cX0_billOn 39 = .ok (.iload_n 2, 1) := by decide +kernel
theorem dX0_billOn_40 : decode cX0_billOn 40 = .ok (.bipush 100, 2) := by decide +kernel
theorem dX0_billOn_42 : decode cX0_billOn 42 = .ok (.iadd, 1) := by decide +kernel
theorem dX0_billOn_43 : decode cX0_billOn 43 = .ok (.iconst 1, 1) := by decide +kernel
theorem dX0_billOn_44 : decode cX0_billOn 44 = .ok (.isub, 1) := by decide +kernel
theorem dX0_billOn_45 : decode cX0_billOn 45 = .ok (.bipush 100, 2) := by decide +kernel
theorem dX0_billOn_47 : decode cX0_billOn 47 = .ok (.idiv, 1) := by decide +kernel
theorem dX0_billOn_48 : decode cX0_billOn 48 = .ok (.ireturn, 1) := by decide +kernel
theorem dX1_init_0 : decode cX1_init 0 = .ok (.aload_n 0, 1) := by decide +kernel
theorem dX1_init_1 : decode cX1_init 1 = .ok (.invokespecial 3, 3) := by decide +kernel
theorem dX1_init_4 : decode cX1_init 4 = .ok (.aload_n 0, 1) := by decide +kernel
theorem dX1_init_5 : decode cX1_init 5 = .ok (.iload_n 1, 1) := by decide +kernel
theorem dX1_init_6 : decode cX1_init 6 = .ok (.putfield 9, 3) := by decide +kernel
theorem dX1_init_9 : decode cX1_init 9 = .ok (.aload_n 0, 1) := by decide +kernel
theorem dX1_init_10 : decode cX1_init 10 = .ok (.aload_n 2, 1) := by decide +kernel
theorem dX1_init_11 : decode cX1_init 11 = .ok (.putfield 15, 3) := by decide +kernel
theorem dX1_init_14 : decode cX1_init 14 = .ok (.aload_n 0, 1) := by decide +kernel
theorem dX1_init_15 : decode cX1_init 15 = .ok (.iload_n 3, 1) := by decide +kernel
theorem dX1_init_16 : decode cX1_init 16 = .ok (.putfield 19, 3) := by decide +kernel
theorem dX1_init_19 : decode cX1_init 19 = .ok (.return_, 1) := by decide +kernel
theorem dX1_hasRoomFor_0 : decode cX1_hasRoomFor 0 = .ok (.aload_n 0, 1) := by decide +kernel
theorem dX1_hasRoomFor_1 : decode cX1_hasRoomFor 1 = .ok (.astore_n 2, 1) := by decide +kernel
theorem dX1_hasRoomFor_2 : decode cX1_hasRoomFor 2 = .ok (.aload_n 2, 1) := by decide +kernel
theorem dX1_hasRoomFor_3 : decode cX1_hasRoomFor 3 = .ok (.ifnull 34, 3) := by decide +kernel
theorem dX1_hasRoomFor_6 : decode cX1_hasRoomFor 6 = .ok (.aload_n 2, 1) := by decide +kernel
theorem dX1_hasRoomFor_7 : decode cX1_hasRoomFor 7 = .ok (.getfield 19, 3) := by decide +kernel
theorem dX1_hasRoomFor_10 : decode cX1_hasRoomFor 10 = .ok (.iconst (-1), 1) := by decide +kernel
theorem dX1_hasRoomFor_11 : decode cX1_hasRoomFor 11 = .ok (.if_icmp .eq 18, 3) := by decide +kernel
theorem dX1_hasRoomFor_14 : decode cX1_hasRoomFor 14 = .ok (.aload_n 2, 1) := by decide +kernel
theorem dX1_hasRoomFor_15 : decode cX1_hasRoomFor 15 = .ok (.getfield 22, 3) := by decide +kernel
theorem dX1_hasRoomFor_18 : decode cX1_hasRoomFor 18 = .ok (.iload_n 1, 1) := by decide +kernel
theorem dX1_hasRoomFor_19 : decode cX1_hasRoomFor 19 = .ok (.iadd, 1) := by decide +kernel
theorem dX1_hasRoomFor_20 : decode cX1_hasRoomFor 20 = .ok (.aload_n 2, 1) := by decide +kernel
theorem dX1_hasRoomFor_21 : decode cX1_hasRoomFor 21 = .ok (.getfield 19, 3) := by decide +kernel
theorem dX1_hasRoomFor_24 : decode cX1_hasRoomFor 24 = .ok (.if_icmp .le 5, 3) := by decide +kernel
theorem dX1_hasRoomFor_27 : decode cX1_hasRoomFor 27 = .ok (.iconst 0, 1) := by decide +kernel
theorem dX1_hasRoomFor_28 : decode cX1_hasRoomFor 28 = .ok (.ireturn, 1) := by decide +kernel
theorem dX1_hasRoomFor_29 : decode cX1_hasRoomFor 29 = .ok (.aload_n 2, 1) := by decide +kernel
theorem dX1_hasRoomFor_30 : decode cX1_hasRoomFor 30 = .ok (.getfield 15, 3) := by decide +kernel
theorem dX1_hasRoomFor_33 : decode cX1_hasRoomFor 33 = .ok (.astore_n 2, 1) := by decide +kernel
theorem dX1_hasRoomFor_34 : decode cX1_hasRoomFor 34 = .ok (.goto (-32), 3) := by decide +kernel
theorem dX1_hasRoomFor_37 : decode cX1_hasRoomFor 37 = .ok (.iconst 1, 1) := by decide +kernel
theorem dX1_hasRoomFor_38 : decode cX1_hasRoomFor 38 = .ok (.ireturn, 1) := by decide +kernel
theorem dX1_addUsage_0 : decode cX1_addUsage 0 = .ok (.aload_n 0, 1) := by decide +kernel
theorem dX1_addUsage_1 : decode cX1_addUsage 1 = .ok (.astore_n 2, 1) := by decide +kernel
theorem dX1_addUsage_2 : decode cX1_addUsage 2 = .ok (.aload_n 2, 1) := by decide +kernel
theorem dX1_addUsage_3 : decode cX1_addUsage 3 = .ok (.ifnull 21, 3) := by decide +kernel
theorem dX1_addUsage_6 : decode cX1_addUsage 6 = .ok (.aload_n 2, 1) := by decide +kernel
theorem dX1_addUsage_7 : decode cX1_addUsage 7 = .ok (.dup, 1) := by decide +kernel
theorem dX1_addUsage_8 : decode cX1_addUsage 8 = .ok (.getfield 22, 3) := by decide +kernel
theorem dX1_addUsage_11 : decode cX1_addUsage 11 = .ok (.iload_n 1, 1) := by decide +kernel
theorem dX1_addUsage_12 : decode cX1_addUsage 12 = .ok (.iadd, 1) := by decide +kernel
theorem dX1_addUsage_13 : decode cX1_addUsage 13 = .ok (.putfield 22, 3) := by decide +kernel
theorem dX1_addUsage_16 : decode cX1_addUsage 16 = .ok (.aload_n 2, 1) := by decide +kernel
theorem dX1_addUsage_17 : decode cX1_addUsage 17 = .ok (.getfield 15, 3) := by decide +kernel
theorem dX1_addUsage_20 : decode cX1_addUsage 20 = .ok (.astore_n 2, 1) := by decide +kernel
theorem dX1_addUsage_21 : decode cX1_addUsage 21 = .ok (.goto (-19), 3) := by decide +kernel
theorem dX1_addUsage_24 : decode cX1_addUsage 24 = .ok (.return_, 1) := by decide +kernel
theorem dX1_hasOnItsWay_0 : decode cX1_hasOnItsWay 0 = .ok (.aload_n 0, 1) := by decide +kernel
theorem dX1_hasOnItsWay_1 : decode cX1_hasOnItsWay 1 = .ok (.astore_n 2, 1) := by decide +kernel
theorem dX1_hasOnItsWay_2 : decode cX1_hasOnItsWay 2 = .ok (.aload_n 2, 1) := by decide +kernel
theorem dX1_hasOnItsWay_3 : decode cX1_hasOnItsWay 3 = .ok (.ifnull 18, 3) := by decide +kernel
theorem dX1_hasOnItsWay_6 : decode cX1_hasOnItsWay 6 = .ok (.aload_n 2, 1) := by decide +kernel
theorem dX1_hasOnItsWay_7 : decode cX1_hasOnItsWay 7 = .ok (.aload_n 1, 1) := by decide +kernel
theorem dX1_hasOnItsWay_8 : decode cX1_hasOnItsWay 8 = .ok (.if_acmp .ne 5, 3) := by decide +kernel
theorem dX1_hasOnItsWay_11 : decode cX1_hasOnItsWay 11 = .ok (.iconst 1, 1) := by decide +kernel
theorem dX1_hasOnItsWay_12 : decode cX1_hasOnItsWay 12 = .ok (.ireturn, 1) := by decide +kernel
theorem dX1_hasOnItsWay_13 : decode cX1_hasOnItsWay 13 = .ok (.aload_n 2, 1) := by decide +kernel
theorem dX1_hasOnItsWay_14 : decode cX1_hasOnItsWay 14 = .ok (.getfield 15, 3) := by decide +kernel
theorem dX1_hasOnItsWay_17 : decode cX1_hasOnItsWay 17 = .ok (.astore_n 2, 1) := by decide +kernel
theorem dX1_hasOnItsWay_18 : decode cX1_hasOnItsWay 18 = .ok (.goto (-16), 3) := by decide +kernel
theorem dX1_hasOnItsWay_21 : decode cX1_hasOnItsWay 21 = .ok (.iconst 0, 1) := by decide +kernel
theorem dX1_hasOnItsWay_22 : decode cX1_hasOnItsWay 22 = .ok (.ireturn, 1) := by decide +kernel
set_option maxRecDepth 20000 in
theorem ggX2_init_Jx4a65c_init_da8c8 : GoodIn wsX2_init wsJx4a65c_init_da8c8 := goodIn_r _ [13, 14, 15, 16, 17, 18, 19, 20, 21, 22, 23, 24, 25, 2, 3, 26, 27, 28] (by decide +kernel) (by decide +kernel)
set_option maxRecDepth 20000 in
theorem gX2_init_Jx4a65c_init_da8c8 : GoodIn wsX2_init (wsJx4a65c_init_da8c8) := ggX2_init_Jx4a65c_init_da8c8
theorem dX2_init_0 : decode cX2_init 0 = .ok (.aload_n 0, 1) := by decide +kernel
theorem dX2_init_1 : decode cX2_init 1 = .ok (.invokespecial 3, 3) := by decide +kernel
theorem dX2_init_4 : decode cX2_init 4 = .ok (.aload_n 0, 1) := by decide +kernel
theorem dX2_init_5 : decode cX2_init 5 = .ok (.new 9, 3) := by decide +kernel
theorem dX2_init_8 : decode cX2_init 8 = .ok (.dup, 1) := by decide +kernel
theorem dX2_init_9 : decode cX2_init 9 = .ok (.invokespecial 11, 3) := by decide +kernel
theorem dX2_init_12 : decode cX2_init 12 = .ok (.putfield 12, 3) := by decide +kernel
theorem dX2_init_15 : decode cX2_init 15 = .ok (.aload_n 0, 1) := by decide +kernel
theorem dX2_init_16 : decode cX2_init 16 = .ok (.aload_n 1, 1) := by decide +kernel
theorem dX2_init_17 : decode cX2_init 17 = .ok (.putfield 18, 3) := by decide +kernel
theorem dX2_init_20 : decode cX2_init 20 = .ok (.aload_n 0, 1) := by decide +kernel
theorem dX2_init_21 : decode cX2_init 21 = .ok (.iload_n 2, 1) := by decide +kernel
theorem dX2_init_22 : decode cX2_init 22 = .ok (.putfield 22, 3) := by decide +kernel
theorem dX2_init_25 : decode cX2_init 25 = .ok (.aload_n 0, 1) := by decide +kernel
theorem dX2_init_26 : decode cX2_init 26 = .ok (.iload_n 3, 1) := by decide +kernel
theorem dX2_init_27 : decode cX2_init 27 = .ok (.putfield 26, 3) := by decide +kernel
theorem dX2_init_30 : decode cX2_init 30 = .ok (.return_, 1) := by decide +kernel
set_option maxRecDepth 20000 in
theorem ggX2_isGone_Jx4a65c_isEmpty_aae02 : GoodIn wsX2_isGone wsJx4a65c_isEmpty_aae02 := goodIn_r _ [6, 7, 14, 15, 16] (by decide +kernel) (by decide +kernel)
set_option maxRecDepth 20000 in
theorem gX2_isGone_Jx4a65c_isEmpty_aae02 : GoodIn wsX2_isGone (wsV RX2 29 RJx4a65c yJx4a65c_isEmpty_aae02 wsJx4a65c_isEmpty_aae02) := goodIn_app (goodIn_of _ (by decide +kernel)) ggX2_isGone_Jx4a65c_isEmpty_aae02
theorem dX2_isGone_0 : decode cX2_isGone 0 = .ok (.aload_n 0, 1) := by decide +kernel
theorem dX2_isGone_1 : decode cX2_isGone 1 = .ok (.getfield 12, 3) := by decide +kernel
theorem dX2_isGone_4 : decode cX2_isGone 4 = .ok (.invokevirtual 29, 3) := by decide +kernel
theorem dX2_isGone_7 : decode cX2_isGone 7 = .ok (.ireturn, 1) := by decide +kernel
set_option maxRecDepth 20000 in
theorem ggX2_firstLink_Jx4a65c_isEmpty_aae02 : GoodIn wsX2_firstLink wsJx4a65c_isEmpty_aae02 := goodIn_r _ [7, 8, 32, 33, 34] (by decide +kernel) (by decide +kernel)
set_option maxRecDepth 20000 in
theorem gX2_firstLink_Jx4a65c_isEmpty_aae02 : GoodIn wsX2_firstLink (wsV RX2 29 RJx4a65c yJx4a65c_isEmpty_aae02 wsJx4a65c_isEmpty_aae02) := goodIn_app (goodIn_of _ (by decide +kernel)) ggX2_firstLink_Jx4a65c_isEmpty_aae02
set_option maxRecDepth 20000 in
theorem ggX2_firstLink_Jx4a65c_get_915e3 : GoodIn wsX2_firstLink wsJx4a65c_get_915e3 := goodIn_r _ [12, 8, 13, 14, 15, 16, 17, 18, 19, 20, 21, 22, 23, 6, 24, 25, 32, 33, 34] (by decide +kernel) (by decide +kernel)
set_option maxRecDepth 20000 in
theorem gX2_firstLink_Jx4a65c_get_915e3 : GoodIn wsX2_firstLink (wsV RX2 33 RJx4a65c yJx4a65c_get_915e3 wsJx4a65c_get_915e3) := goodIn_app (goodIn_of _ (by decide +kernel)) ggX2_firstLink_Jx4a65c_get_915e3
theorem dX2_firstLink_0 : decode cX2_firstLink 0 = .ok (.aload_n 0, 1) := by decide +kernel
theorem dX2_firstLink_1 : decode cX2_firstLink 1 = .ok (.getfield 12, 3) := by decide +kernel
theorem dX2_firstLink_4 : decode cX2_firstLink 4 = .ok (.invokevirtual 29, 3) := by decide +kernel
theorem dX2_firstLink_7 : decode cX2_firstLink 7 = .ok (.ifCond .eq 7, 3) := by decide +kernel
theorem dX2_firstLink_10 : decode cX2_firstLink 10 = .ok (.aconst_null, 1) := by decide +kernel
theorem dX2_firstLink_11 : decode cX2_firstLink 11 = .ok (.goto 14, 3) := by decide +kernel
theorem dX2_firstLink_14 : decode cX2_firstLink 14 = .ok (.aload_n 0, 1) := by decide +kernel
theorem dX2_firstLink_15 : decode cX2_firstLink 15 = .ok (.getfield 12, 3) := by decide +kernel
theorem dX2_firstLink_18 : decode cX2_firstLink 18 = .ok (.iconst 0, 1) := by decide +kernel
theorem dX2_firstLink_19 : decode cX2_firstLink 19 = .ok (.invokevirtual 33, 3) := by decide +kernel
theorem dX2_firstLink_22 : decode cX2_firstLink 22 = .ok (.checkcast 37, 3) := by decide +kernel
theorem dX2_firstLink_25 : decode cX2_firstLink 25 = .ok (.areturn, 1) := by decide +kernel
set_option maxRecDepth 20000 in
theorem ggX2_placeOfLinkTo_Jx4a65c_size_8abf5 : GoodIn wsX2_placeOfLinkTo wsJx4a65c_size_8abf5 := goodIn_r _ [6, 7, 31, 32, 33] (by decide +kernel) (by decide +kernel)
set_option maxRecDepth 20000 in
theorem gX2_placeOfLinkTo_Jx4a65c_size_8abf5 : GoodIn wsX2_placeOfLinkTo (wsV RX2 39 RJx4a65c yJx4a65c_size_8abf5 wsJx4a65c_size_8abf5) := goodIn_app (goodIn_of _ (by decide +kernel)) ggX2_placeOfLinkTo_Jx4a65c_size_8abf5
set_option maxRecDepth 20000 in
theorem ggX2_placeOfLinkTo_Jx4a65c_get_915e3 : GoodIn wsX2_placeOfLinkTo wsJx4a65c_get_915e3 := goodIn_r _ [11, 7, 12, 13, 14, 15, 16, 17, 18, 19, 20, 21, 22, 5, 23, 24, 31, 32, 33] (by decide +kernel) (by decide +kernel)
set_option maxRecDepth 20000 in
theorem gX2_placeOfLinkTo_Jx4a65c_get_915e3 : GoodIn wsX2_placeOfLinkTo (wsV RX2 33 RJx4a65c yJx4a65c_get_915e3 wsJx4a65c_get_915e3) := goodIn_app (goodIn_of _ (by decide +kernel)) ggX2_placeOfLinkTo_Jx4a65c_get_915e3
theorem dX2_placeOfLinkTo_0 : decode cX2_placeOfLinkTo 0 = .ok (.iconst 0, 1) := by decide +kernel
theorem dX2_placeOfLinkTo_1 : decode cX2_placeOfLinkTo 1 = .ok (.istore_n 2, 1) := by decide +kernel
theorem dX2_placeOfLinkTo_2 : decode cX2_placeOfLinkTo 2 = .ok (.iload_n 2, 1) := by decide +kernel
theorem dX2_placeOfLinkTo_3 : decode cX2_placeOfLinkTo 3 = .ok (.aload_n 0, 1) := by decide +kernel
theorem dX2_placeOfLinkTo_4 : decode cX2_placeOfLinkTo 4 = .ok (.getfield 12, 3) := by decide +kernel
theorem dX2_placeOfLinkTo_7 : decode cX2_placeOfLinkTo 7 = .ok (.invokevirtual 39, 3) := by decide +kernel
theorem dX2_placeOfLinkTo_10 : decode cX2_placeOfLinkTo 10 = .ok (.if_icmp .ge 23, 3) := by decide +kernel
theorem dX2_placeOfLinkTo_13 : decode cX2_placeOfLinkTo 13 = .ok (.aload_n 0, 1) := by decide +kernel
theorem dX2_placeOfLinkTo_14 : decode cX2_placeOfLinkTo 14 = .ok (.getfield 12, 3) := by decide +kernel
theorem dX2_placeOfLinkTo_17 : decode cX2_placeOfLinkTo 17 = .ok (.iload_n 2, 1) := by decide +kernel
theorem dX2_placeOfLinkTo_18 : decode cX2_placeOfLinkTo 18 = .ok (.invokevirtual 33, 3) := by decide +kernel
theorem dX2_placeOfLinkTo_21 : decode cX2_placeOfLinkTo 21 = .ok (.aload_n 1, 1) := by decide +kernel
theorem dX2_placeOfLinkTo_22 : decode cX2_placeOfLinkTo 22 = .ok (.if_acmp .ne 5, 3) := by decide +kernel
theorem dX2_placeOfLinkTo_25 : decode cX2_placeOfLinkTo 25 = .ok (.iload_n 2, 1) := by decide +kernel
theorem dX2_placeOfLinkTo_26 : decode cX2_placeOfLinkTo 26 = .ok (.ireturn, 1) := by decide +kernel
theorem dX2_placeOfLinkTo_27 : decode cX2_placeOfLinkTo 27 = .ok (.iinc 2 1, 3) := by decide +kernel
theorem dX2_placeOfLinkTo_30 : decode cX2_placeOfLinkTo 30 = .ok (.goto (-28), 3) := by decide +kernel
theorem dX2_placeOfLinkTo_33 : decode cX2_placeOfLinkTo 33 = .ok (.iconst (-1), 1) := by decide +kernel
theorem dX2_placeOfLinkTo_34 : decode cX2_placeOfLinkTo 34 = .ok (.ireturn, 1) := by decide +kernel
set_option maxRecDepth 20000 in
theorem ggX2_removeLinkTo_X2_placeOfLinkTo : GoodIn wsX2_removeLinkTo wsX2_placeOfLinkTo := goodIn_r _ [6, 1, 7, 8, 9, 10, 11, 12, 13, 14, 15, 16, 17, 18, 19, 20, 21, 22, 23, 24, 25, 26, 27, 28, 29, 44, 45, 46, 47, 48, 49, 50, 51, 52] (by decide +kernel) (by decide +kernel)
set_option maxRecDepth 20000 in
theorem gX2_removeLinkTo_X2_placeOfLinkTo : GoodIn wsX2_removeLinkTo (wsV RX2 42 RX2 yX2_placeOfLinkTo wsX2_placeOfLinkTo) := goodIn_app (goodIn_of _ (by decide +kernel)) ggX2_removeLinkTo_X2_placeOfLinkTo
set_option maxRecDepth 20000 in
theorem ggX2_removeLinkTo_Jx4a65c_size_8abf5 : GoodIn wsX2_removeLinkTo wsJx4a65c_size_8abf5 := goodIn_r _ [11, 12, 50, 51, 52] (by decide +kernel) (by decide +kernel)
set_option maxRecDepth 20000 in
theorem gX2_removeLinkTo_Jx4a65c_size_8abf5 : GoodIn wsX2_removeLinkTo (wsV RX2 39 RJx4a65c yJx4a65c_size_8abf5 wsJx4a65c_size_8abf5) := goodIn_app (goodIn_of _ (by decide +kernel)) ggX2_removeLinkTo_Jx4a65c_size_8abf5
set_option maxRecDepth 20000 in
theorem ggX2_removeLinkTo_Jx4a65c_remove_915e3 : GoodIn wsX2_removeLinkTo wsJx4a65c_remove_915e3 := goodIn_r _ [33, 12, 29, 17, 18, 19, 20, 21, 22, 23, 24, 34, 35, 36, 10, 37, 38, 39, 40, 41, 42, 43, 50, 51, 52] (by decide +kernel) (by decide +kernel)
set_option maxRecDepth 20000 in
theorem gX2_removeLinkTo_Jx4a65c_remove_915e3 : GoodIn wsX2_removeLinkTo (wsV RX2 46 RJx4a65c yJx4a65c_remove_915e3 wsJx4a65c_remove_915e3) := goodIn_app (goodIn_of _ (by decide +kernel)) ggX2_removeLinkTo_Jx4a65c_remove_915e3
theorem dX2_removeLinkTo_0 : decode cX2_removeLinkTo 0 = .ok (.aload_n 0, 1) := by decide +kernel
theorem dX2_removeLinkTo_1 : decode cX2_removeLinkTo 1 = .ok (.aload_n 1, 1) := by decide +kernel
theorem dX2_removeLinkTo_2 : decode cX2_removeLinkTo 2 = .ok (.invokevirtual 42, 3) := by decide +kernel
theorem dX2_removeLinkTo_5 : decode cX2_removeLinkTo 5 = .ok (.istore_n 2, 1) := by decide +kernel
theorem dX2_removeLinkTo_6 : decode cX2_removeLinkTo 6 = .ok (.iload_n 2, 1) := by decide +kernel
theorem dX2_removeLinkTo_7 : decode cX2_removeLinkTo 7 = .ok (.ifCond .lt 14, 3) := by decide +kernel
theorem dX2_removeLinkTo_10 : decode cX2_removeLinkTo 10 = .ok (.iload_n 2, 1) := by decide +kernel
theorem dX2_removeLinkTo_11 : decode cX2_removeLinkTo 11 = .ok (.aload_n 0, 1) := by decide +kernel
theorem dX2_removeLinkTo_12 : decode cX2_removeLinkTo 12 = .ok (.getfield 12, 3) := by decide +kernel
theorem dX2_removeLinkTo_15 : decode cX2_removeLinkTo 15 = .ok (.invokevirtual 39, 3) := by decide +kernel
theorem dX2_removeLinkTo_18 : decode cX2_removeLinkTo 18 = .ok (.if_icmp .lt 5, 3) := by decide +kernel
theorem dX2_removeLinkTo_21 : decode cX2_removeLinkTo 21 = .ok (.iconst 0, 1) := by decide +kernel
theorem dX2_removeLinkTo_22 : decode cX2_removeLinkTo 22 = .ok (.ireturn, 1) := by decide +kernel
theorem dX2_removeLinkTo_23 : decode cX2_removeLinkTo 23 = .ok (.aload_n 0, 1) := by decide +kernel
theorem dX2_removeLinkTo_24 : decode cX2_removeLinkTo 24 = .ok (.getfield 12, 3) := by decide +kernel
theorem dX2_removeLinkTo_27 : decode cX2_removeLinkTo 27 = .ok (.iload_n 2, 1) := by decide +kernel
theorem dX2_removeLinkTo_28 : decode cX2_removeLinkTo 28 = .ok (.invokevirtual 46, 3) := by decide +kernel
theorem dX2_removeLinkTo_31 : decode cX2_removeLinkTo 31 = .ok (.pop, 1) := by decide +kernel
theorem dX2_removeLinkTo_32 : decode cX2_removeLinkTo 32 = .ok (.iconst 1, 1) := by decide +kernel
theorem dX2_removeLinkTo_33 : decode cX2_removeLinkTo 33 = .ok (.ireturn, 1) := by decide +kernel
theorem dX2_replaceSize_0 : decode cX2_replaceSize 0 = .ok (.aload_n 0, 1) := by decide +kernel
theorem dX2_replaceSize_1 : decode cX2_replaceSize 1 = .ok (.getfield 49, 3) := by decide +kernel
theorem dX2_replaceSize_4 : decode cX2_replaceSize 4 = .ok (.ifCond .eq 16, 3) := by decide +kernel
theorem dX2_replaceSize_7 : decode cX2_replaceSize 7 = .ok (.aload_n 0, 1) := by decide +kernel
theorem dX2_replaceSize_8 : decode cX2_replaceSize 8 = .ok (.dup, 1) := by decide +kernel
theorem dX2_replaceSize_9 : decode cX2_replaceSize 9 = .ok (.getfield 52, 3) := by decide +kernel
theorem dX2_replaceSize_12 : decode cX2_replaceSize 12 = .ok (.aload_n 0, 1) := by decide +kernel
theorem dX2_replaceSize_13 : decode cX2_replaceSize 13 = .ok (.getfield 22, 3) := by decide +kernel
theorem dX2_replaceSize_16 : decode cX2_replaceSize 16 = .ok (.iadd, 1) := by decide +kernel
theorem dX2_replaceSize_17 : decode cX2_replaceSize 17 = .ok (.putfield 52, 3) := by decide +kernel
theorem dX2_replaceSize_20 : decode cX2_replaceSize 20 = .ok (.aload_n 0, 1) := by decide +kernel
theorem dX2_replaceSize_21 : decode cX2_replaceSize 21 = .ok (.iload_n 1, 1) := by decide +kernel
theorem dX2_replaceSize_22 : decode cX2_replaceSize 22 = .ok (.putfield 22, 3) := by decide +kernel
theorem dX2_replaceSize_25 : decode cX2_replaceSize 25 = .ok (.return_, 1) := by decide +kernel
theorem dX2_releaseFrom_0 : decode cX2_releaseFrom 0 = .ok (.aload_n 0, 1) := by decide +kernel
theorem dX2_releaseFrom_1 : decode cX2_releaseFrom 1 = .ok (.dup, 1) := by decide +kernel
theorem dX2_releaseFrom_2 : decode cX2_releaseFrom 2 = .ok (.getfield 49, 3) := by decide +kernel
theorem dX2_releaseFrom_5 : decode cX2_releaseFrom 5 = .ok (.iload_n 1, 1) := by decide +kernel
theorem dX2_releaseFrom_6 : decode cX2_releaseFrom 6 = .ok (.iconst (-1), 1) := by decide +kernel
theorem dX2_releaseFrom_7 : decode cX2_releaseFrom 7 = .ok (.ixor, 1) := by decide +kernel
theorem dX2_releaseFrom_8 : decode cX2_releaseFrom 8 = .ok (.iand, 1) := by decide +kernel
theorem dX2_releaseFrom_9 : decode cX2_releaseFrom 9 = .ok (.putfield 49, 3) := by decide +kernel
theorem dX2_releaseFrom_12 : decode cX2_releaseFrom 12 = .ok (.aload_n 0, 1) := by decide +kernel
theorem dX2_releaseFrom_13 : decode cX2_releaseFrom 13 = .ok (.getfield 49, 3) := by decide +kernel
theorem dX2_releaseFrom_16 : decode cX2_releaseFrom 16 = .ok (.ifCond .eq 5, 3) := by decide +kernel
theorem dX2_releaseFrom_19 : decode cX2_releaseFrom 19 = .ok (.iconst 0, 1) := by decide +kernel
theorem dX2_releaseFrom_20 : decode cX2_releaseFrom 20 = .ok (.ireturn, 1) := by decide +kernel
theorem dX2_releaseFrom_21 : decode cX2_releaseFrom 21 = .ok (.aload_n 0, 1) := by decide +kernel
theorem dX2_releaseFrom_22 : decode cX2_releaseFrom 22 = .ok (.getfield 52, 3) := by decide +kernel
theorem dX2_releaseFrom_25 : decode cX2_releaseFrom 25 = .ok (.istore_n 2, 1) := by decide +kernel
theorem dX2_releaseFrom_26 : decode cX2_releaseFrom 26 = .ok (.aload_n 0, 1) := by decide +kernel
theorem dX2_releaseFrom_27 : decode cX2_releaseFrom 27 = .ok (.iconst 0, 1) := by decide +kernel
theorem dX2_releaseFrom_28 : decode cX2_releaseFrom 28 = .ok (.putfield 52, 3) := by decide +kernel
theorem dX2_releaseFrom_31 : decode cX2_releaseFrom 31 = .ok (.iload_n 2, 1) := by decide +kernel
theorem dX2_releaseFrom_32 : decode cX2_releaseFrom 32 = .ok (.ireturn, 1) := by decide +kernel
theorem dX2_isComingBackOn_0 : decode cX2_isComingBackOn 0 = .ok (.aload_n 0, 1) := by decide +kernel
theorem dX2_isComingBackOn_1 : decode cX2_isComingBackOn 1 = .ok (.getfield 26, 3) := by decide +kernel
theorem dX2_isComingBackOn_4 : decode cX2_isComingBackOn 4 = .ok (.iload_n 1, 1) := by decide +kernel
theorem dX2_isComingBackOn_5 : decode cX2_isComingBackOn 5 = .ok (.if_icmp .le 7, 3) := by decide +kernel
theorem dX2_isComingBackOn_8 : decode cX2_isComingBackOn 8 = .ok (.iconst 1, 1) := by decide +kernel
theorem dX2_isComingBackOn_9 : decode cX2_isComingBackOn 9 = .ok (.goto 4, 3) := by decide +kernel
theorem dX2_isComingBackOn_12 : decode cX2_isComingBackOn 12 = .ok (.iconst 0, 1) := by decide +kernel
theorem dX2_isComingBackOn_13 : decode cX2_isComingBackOn 13 = .ok (.ireturn, 1) := by decide +kernel
theorem dX2_costToBringBack_0 : decode cX2_costToBringBack 0 = .ok (.aload_n 0, 1) := by decide +kernel
theorem dX2_costToBringBack_1 : decode cX2_costToBringBack 1 = .ok (.getfield 22, 3) := by decide +kernel
theorem dX2_costToBringBack_4 : decode cX2_costToBringBack 4 = .ok (.bipush 10, 2) := by decide +kernel
theorem dX2_costToBringBack_6 : decode cX2_costToBringBack 6 = .ok (.iadd, 1) := by decide +kernel
theorem dX2_costToBringBack_7 : decode cX2_costToBringBack 7 = .ok (.iconst 1, 1) := by decide +kernel
theorem dX2_costToBringBack_8 : decode cX2_costToBringBack 8 = .ok (.isub, 1) := by decide +kernel
theorem dX2_costToBringBack_9 : decode cX2_costToBringBack 9 = .ok (.bipush 10, 2) := by decide +kernel
theorem dX2_costToBringBack_11 : decode cX2_costToBringBack 11 = .ok (.idiv, 1) := by decide +kernel
theorem dX2_costToBringBack_12 : decode cX2_costToBringBack 12 = .ok (.ireturn, 1) := by decide +kernel
set_option maxRecDepth 20000 in
theorem ggX2_tierOn_X2_isGone : GoodIn wsX2_tierOn wsX2_isGone := goodIn_r _ [6, 7, 8, 9, 10, 11, 12, 13, 18, 19, 20, 21, 22, 23, 24, 25, 26] (by decide +kernel) (by decide +kernel)
set_option maxRecDepth 20000 in
theorem gX2_tierOn_X2_isGone : GoodIn wsX2_tierOn (wsV RX2 55 RX2 yX2_isGone wsX2_isGone) := goodIn_app (goodIn_of _ (by decide +kernel)) ggX2_tierOn_X2_isGone
set_option maxRecDepth 20000 in
theorem ggX2_tierOn_X2_isComingBackOn : GoodIn wsX2_tierOn wsX2_isComingBackOn := goodIn_r _ [17, 1, 18, 19, 20, 21, 22, 23] (by decide +kernel) (by decide +kernel)
set_option maxRecDepth 20000 in
theorem gX2_tierOn_X2_isComingBackOn : GoodIn wsX2_tierOn (wsV RX2 58 RX2 yX2_isComingBackOn wsX2_isComingBackOn) := goodIn_app (goodIn_of _ (by decide +kernel)) ggX2_tierOn_X2_isComingBackOn
theorem dX2_tierOn_0 : decode cX2_tierOn 0 = .ok (.aload_n 0, 1) := by decide +kernel
theorem dX2_tierOn_1 : decode cX2_tierOn 1 = .ok (.invokevirtual 55, 3) := by decide +kernel
theorem dX2_tierOn_4 : decode cX2_tierOn 4 = .ok (.ifCond .eq 5, 3) := by decide +kernel
theorem dX2_tierOn_7 : decode cX2_tierOn 7 = .ok (.iconst (-1), 1) := by decide +kernel
theorem dX2_tierOn_8 : decode cX2_tierOn 8 = .ok (.ireturn, 1) := by decide +kernel
theorem dX2_tierOn_9 : decode cX2_tierOn 9 = .ok (.iload_n 1, 1) := by decide +kernel
theorem dX2_tierOn_10 : decode cX2_tierOn 10 = .ok (.aload_n 0, 1) := by decide +kernel
theorem dX2_tierOn_11 : decode cX2_tierOn 11 = .ok (.getfield 26, 3) := by decide +kernel
theorem dX2_tierOn_14 : decode cX2_tierOn 14 = .ok (.isub, 1) := by decide +kernel
theorem dX2_tierOn_15 : decode cX2_tierOn 15 = .ok (.istore_n 2, 1) := by decide +kernel
theorem dX2_tierOn_16 : decode cX2_tierOn 16 = .ok (.aload_n 0, 1) := by decide +kernel
theorem dX2_tierOn_17 : decode cX2_tierOn 17 = .ok (.iload_n 1, 1) := by decide +kernel
theorem dX2_tierOn_18 : decode cX2_tierOn 18 = .ok (.invokevirtual 58, 3) := by decide +kernel
theorem dX2_tierOn_21 : decode cX2_tierOn 21 = .ok (.ifCond .ne 9, 3) := by decide +kernel
theorem dX2_tierOn_24 : decode cX2_tierOn 24 = .ok (.iload_n 2, 1) := by decide +kernel
theorem dX2_tierOn_25 : decode cX2_tierOn 25 = .ok (.bipush 90, 2) := by decide +kernel
theorem dX2_tierOn_27 : decode cX2_tierOn 27 = .ok (.if_icmp .lt 5, 3) := by decide +kernel
theorem dX2_tierOn_30 : decode cX2_tierOn 30 = .ok (.iconst 2, 1) := by decide +kernel
theorem dX2_tierOn_31 : decode cX2_tierOn 31 = .ok (.ireturn, 1) := by decide +kernel
theorem dX2_tierOn_32 : decode cX2_tierOn 32 = .ok (.iload_n 2, 1) := by decide +kernel
theorem dX2_tierOn_33 : decode cX2_tierOn 33 = .ok (.bipush 30, 2) := by decide +kernel
theorem dX2_tierOn_35 : decode cX2_tierOn 35 = .ok (.if_icmp .ge 7, 3) := by decide +kernel
theorem dX2_tierOn_38 : decode cX2_tierOn 38 = .ok (.iconst 0, 1) := by decide +kernel
theorem dX2_tierOn_39 : decode cX2_tierOn 39 = .ok (.goto 4, 3) := by decide +kernel
theorem dX2_tierOn_42 : decode cX2_tierOn 42 = .ok (.iconst 1, 1) := by decide +kernel
theorem dX2_tierOn_43 : decode cX2_tierOn 43 = .ok (.ireturn, 1) := by decide +kernel
set_option maxRecDepth 20000 in
theorem ggX2_billedOn_X2_isGone : GoodIn wsX2_billedOn wsX2_isGone := goodIn_r _ [7, 8, 9, 10, 11, 12, 13, 14, 24, 25, 26, 27, 28, 29, 30, 31, 32] (by decide +kernel) (by decide +kernel)
set_option maxRecDepth 20000 in
theorem gX2_billedOn_X2_isGone : GoodIn wsX2_billedOn (wsV RX2 55 RX2 yX2_isGone wsX2_isGone) := goodIn_app (goodIn_of _ (by decide +kernel)) ggX2_billedOn_X2_isGone
set_option maxRecDepth 20000 in
theorem ggX2_billedOn_X2_tierOn : GoodIn wsX2_billedOn wsX2_tierOn := goodIn_r _ [18, 19, 3, 4, 5, 6, 7, 8, 9, 10, 11, 12, 13, 14, 20, 21, 22, 23, 24, 25, 26, 27, 28, 29, 30, 31, 32] (by decide +kernel) (by decide +kernel)
set_option maxRecDepth 20000 in
theorem gX2_billedOn_X2_tierOn : GoodIn wsX2_billedOn (wsV RX2 62 RX2 yX2_tierOn wsX2_tierOn) := goodIn_app (goodIn_of _ (by decide +kernel)) ggX2_billedOn_X2_tierOn
theorem dX2_billedOn_0 : decode cX2_billedOn 0 = .ok (.aload_n 0, 1) := by decide +kernel
theorem dX2_billedOn_1 : decode cX2_billedOn 1 = .ok (.invokevirtual 55, 3) := by decide +kernel
theorem dX2_billedOn_4 : decode cX2_billedOn 4 = .ok (.ifCond .eq 7, 3) := by decide +kernel
theorem dX2_billedOn_7 : decode cX2_billedOn 7 = .ok (.iconst 0, 1) := by decide +kernel
theorem dX2_billedOn_8 : decode cX2_billedOn 8 = .ok (.goto 10, 3) := by decide +kernel
theorem dX2_billedOn_11 : decode cX2_billedOn 11 = .ok (.iconst 3, 1) := by decide +kernel
theorem dX2_billedOn_12 : decode cX2_billedOn 12 = .ok (.aload_n 0, 1) := by decide +kernel
theorem dX2_billedOn_13 : decode cX2_billedOn 13 = .ok (.iload_n 1, 1) := by decide +kernel
theorem dX2_billedOn_14 : decode cX2_billedOn 14 = .ok (.invokevirtual 62, 3) := by decide +kernel
theorem dX2_billedOn_17 : decode cX2_billedOn 17 = .ok (.isub, 1) := by decide +kernel
theorem dX2_billedOn_18 : decode cX2_billedOn 18 = .ok (.istore_n 2, 1) := by decide +kernel
theorem dX2_billedOn_19 : decode cX2_billedOn 19 = .ok (.iload_n 2, 1) := by decide +kernel
theorem dX2_billedOn_20 : decode cX2_billedOn 20 = .ok (.aload_n 0, 1) := by decide +kernel
theorem dX2_billedOn_21 : decode cX2_billedOn 21 = .ok (.getfield 22, 3) := by decide +kernel
theorem dX2_billedOn_24 : decode cX2_billedOn 24 = .ok (.imul, 1) := by decide +kernel
theorem dX2_billedOn_25 : decode cX2_billedOn 25 = .ok (.aload_n 0, 1) := by decide +kernel
theorem dX2_billedOn_26 : decode cX2_billedOn 26 = .ok (.getfield 52, 3) := by decide +kernel
theorem dX2_billedOn_29 : decode cX2_billedOn 29 = .ok (.iadd, 1) := by decide +kernel
theorem dX2_billedOn_30 : decode cX2_billedOn 30 = .ok (.ireturn, 1) := by decide +kernel
set_option maxRecDepth 20000 in
theorem ggX3_init_Jx4a65c_init_da8c8 : GoodIn wsX3_init wsJx4a65c_init_da8c8 := goodIn_r _ [18, 19, 20, 21, 22, 23, 24, 25, 26, 27, 28, 29, 30, 2, 3, 98, 99, 100] (by decide +kernel) (by decide +kernel)
set_option maxRecDepth 20000 in
theorem gX3_init_Jx4a65c_init_da8c8 : GoodIn wsX3_init (wsJx4a65c_init_da8c8) := ggX3_init_Jx4a65c_init_da8c8
set_option maxRecDepth 20000 in
theorem ggX3_init_X1_init : GoodIn wsX3_init wsX1_init := goodIn_r _ [33, 34, 2, 3, 35, 36, 37, 105, 106, 107, 108] (by decide +kernel) (by decide +kernel)
set_option maxRecDepth 20000 in
theorem gX3_init_X1_init : GoodIn wsX3_init (wsX1_init) := ggX3_init_X1_init
set_option maxRecDepth 20000 in
theorem ggX3_init_Jx4a65c_add_9ea2d : GoodIn wsX3_init wsJx4a65c_add_9ea2d := goodIn_r _ [41, 42, 43, 20, 44, 45, 46, 47, 6, 48, 49, 50, 51, 52, 53, 54, 55, 56, 19, 57, 58, 59, 60, 61, 62, 63, 64, 65, 66, 67, 68, 69, 70, 71, 72, 73, 74, 75, 76, 77, 78, 79, 80, 81, 82, 83, 84, 85, 86, 87, 88, 89, 90, 98, 99, 100] (by decide +kernel) (by decide +kernel)
set_option maxRecDepth 20000 in
theorem gX3_init_Jx4a65c_add_9ea2d : GoodIn wsX3_init (wsV RX3 27 RJx4a65c yJx4a65c_add_9ea2d wsJx4a65c_add_9ea2d) := goodIn_app (goodIn_of _ (by decide +kernel)) ggX3_init_Jx4a65c_add_9ea2d
set_option maxRecDepth 20000 in
theorem ggX3_init_X0_init : GoodIn wsX3_init wsX0_init := goodIn_r _ [92, 93, 2, 3, 94, 5, 6, 95, 96, 97, 17, 18, 19, 20, 21, 22, 23, 24, 25, 26, 27, 28, 29, 30, 98, 99, 100, 109, 110] (by decide +kernel) (by decide +kernel)
set_option maxRecDepth 20000 in
theorem gX3_init_X0_init_n33 : GoodIn wsX3_init (wsX0_init) := ggX3_init_X0_init
theorem dX3_init_0 : decode cX3_init 0 = .ok (.aload_n 0, 1) := by decide +kernel
theorem dX3_init_1 : decode cX3_init 1 = .ok (.invokespecial 1, 3) := by decide +kernel
theorem dX3_init_4 : decode cX3_init 4 = .ok (.aload_n 0, 1) := by decide +kernel
theorem dX3_init_5 : decode cX3_init 5 = .ok (.new 7, 3) := by decide +kernel
theorem dX3_init_8 : decode cX3_init 8 = .ok (.dup, 1) := by decide +kernel
theorem dX3_init_9 : decode cX3_init 9 = .ok (.invokespecial 9, 3) := by decide +kernel
theorem dX3_init_12 : decode cX3_init 12 = .ok (.putfield 10, 3) := by decide +kernel
theorem dX3_init_15 : decode cX3_init 15 = .ok (.aload_n 0, 1) := by decide +kernel
theorem dX3_init_16 : decode cX3_init 16 = .ok (.new 7, 3) := by decide +kernel
theorem dX3_init_19 : decode cX3_init 19 = .ok (.dup, 1) := by decide +kernel
theorem dX3_init_20 : decode cX3_init 20 = .ok (.invokespecial 9, 3) := by decide +kernel
theorem dX3_init_23 : decode cX3_init 23 = .ok (.putfield 16, 3) := by decide +kernel
theorem dX3_init_26 : decode cX3_init 26 = .ok (.aload_n 0, 1) := by decide +kernel
theorem dX3_init_27 : decode cX3_init 27 = .ok (.new 7, 3) := by decide +kernel
theorem dX3_init_30 : decode cX3_init 30 = .ok (.dup, 1) := by decide +kernel
theorem dX3_init_31 : decode cX3_init 31 = .ok (.invokespecial 9, 3) := by decide +kernel
theorem dX3_init_34 : decode cX3_init 34 = .ok (.putfield 19, 3) := by decide +kernel
theorem dX3_init_37 : decode cX3_init 37 = .ok (.aload_n 0, 1) := by decide +kernel
theorem dX3_init_38 : decode cX3_init 38 = .ok (.getfield 10, 3) := by decide +kernel
theorem dX3_init_41 : decode cX3_init 41 = .ok (.new 22, 3) := by decide +kernel
theorem dX3_init_44 : decode cX3_init 44 = .ok (.dup, 1) := by decide +kernel
theorem dX3_init_45 : decode cX3_init 45 = .ok (.iconst 0, 1) := by decide +kernel
theorem dX3_init_46 : decode cX3_init 46 = .ok (.aconst_null, 1) := by decide +kernel
theorem dX3_init_47 : decode cX3_init 47 = .ok (.iconst (-1), 1) := by decide +kernel
theorem dX3_init_48 : decode cX3_init 48 = .ok (.invokespecial 24, 3) := by decide +kernel
theorem dX3_init_51 : decode cX3_init 51 = .ok (.invokevirtual 27, 3) := by decide +kernel
theorem dX3_init_54 : decode cX3_init 54 = .ok (.pop, 1) := by decide +kernel
theorem dX3_init_55 : decode cX3_init 55 = .ok (.iconst 0, 1) := by decide +kernel
theorem dX3_init_56 : decode cX3_init 56 = .ok (.istore_n 1, 1) := by decide +kernel
theorem dX3_init_57 : decode cX3_init 57 = .ok (.iload_n 1, 1) := by decide +kernel
theorem dX3_init_58 : decode cX3_init 58 = .ok (.iconst 4, 1) := by decide +kernel
theorem dX3_init_59 : decode cX3_init 59 = .ok (.if_icmp .ge 24, 3) := by decide +kernel
theorem dX3_init_62 : decode cX3_init 62 = .ok (.aload_n 0, 1) := by decide +kernel
theorem dX3_init_63 : decode cX3_init 63 = .ok (.getfield 19, 3) := by decide +kernel
theorem dX3_init_66 : decode cX3_init 66 = .ok (.new 31, 3) := by decide +kernel
theorem dX3_init_69 : decode cX3_init 69 = .ok (.dup, 1) := by decide +kernel
theorem dX3_init_70 : decode cX3_init 70 = .ok (.invokespecial 33, 3) := by decide +kernel
theorem dX3_init_73 : decode cX3_init 73 = .ok (.invokevirtual 27, 3) := by decide +kernel
theorem dX3_init_76 : decode cX3_init 76 = .ok (.pop, 1) := by decide +kernel
theorem dX3_init_77 : decode cX3_init 77 = .ok (.iinc 1 1, 3) := by decide +kernel
theorem dX3_init_80 : decode cX3_init 80 = .ok (.goto (-23), 3) := by decide +kernel
theorem dX3_init_83 : decode cX3_init 83 = .ok (.return_, 1) := by decide +kernel
set_option maxRecDepth 20000 in
theorem ggX3_addDirectory_X3_directoryNumbered : GoodIn wsX3_addDirectory wsX3_directoryNumbered := goodIn_ca (goodIn_r _ [12, 13, 14, 4, 15, 16, 17, 18, 19, 20, 21, 22, 23, 24, 25, 26, 27, 28, 29, 30, 31, 32, 33, 34, 35, 36, 37, 38, 106, 107, 108, 109, 114, 115, 116] (by decide +kernel) (by decide +kernel)) (goodIn_sub (fun _ h => List.mem_cons_of_mem _ (List.mem_append_left _ (List.mem_append_right _ h))) (by decide +kernel))
set_option maxRecDepth 20000 in
theorem gX3_addDirectory_X3_directoryNumbered : GoodIn wsX3_addDirectory (wsV RX3 34 RX3 yX3_directoryNumbered wsX3_directoryNumbered) := goodIn_app (goodIn_of _ (by decide +kernel)) ggX3_addDirectory_X3_directoryNumbered
set_option maxRecDepth 20000 in
theorem ggX3_addDirectory_X3_requireBetween : GoodIn wsX3_addDirectory wsX3_requireBetween := goodIn_ca (goodIn_r _ [41, 42, 43] (by decide +kernel) (by decide +kernel)) (goodIn_sub (fun _ h => List.mem_cons_of_mem _ (List.mem_append_right _ h)) (by decide +kernel))
set_option maxRecDepth 20000 in
theorem gX3_addDirectory_X3_requireBetween : GoodIn wsX3_addDirectory (va_wsS RX3 39 yX3_requireBetween wsX3_requireBetween) := goodIn_app (goodIn_of _ (by decide +kernel)) ggX3_addDirectory_X3_requireBetween
set_option maxRecDepth 20000 in
theorem ggX3_addDirectory_Jx4a65c_size_8abf5 : GoodIn wsX3_addDirectory wsJx4a65c_size_8abf5 := goodIn_r _ [20, 21, 114, 115, 116] (by decide +kernel) (by decide +kernel)
set_option maxRecDepth 20000 in
theorem gX3_addDirectory_Jx4a65c_size_8abf5 : GoodIn wsX3_addDirectory (wsV RX3 43 RJx4a65c yJx4a65c_size_8abf5 wsJx4a65c_size_8abf5) := goodIn_app (goodIn_of _ (by decide +kernel)) ggX3_addDirectory_Jx4a65c_size_8abf5
set_option maxRecDepth 20000 in
theorem ggX3_addDirectory_X1_init : GoodIn wsX3_addDirectory wsX1_init := goodIn_r _ [46, 47, 48, 49, 50, 51, 52, 110, 111, 112, 113] (by decide +kernel) (by decide +kernel)
set_option maxRecDepth 20000 in
theorem gX3_addDirectory_X1_init : GoodIn wsX3_addDirectory (wsX1_init) := ggX3_addDirectory_X1_init
set_option maxRecDepth 20000 in
theorem ggX3_addDirectory_Jx4a65c_add_9ea2d : GoodIn wsX3_addDirectory wsJx4a65c_add_9ea2d := goodIn_r _ [56, 57, 58, 38, 21, 59, 60, 61, 19, 62, 63, 64, 65, 66, 67, 68, 69, 70, 71, 72, 73, 74, 75, 76, 77, 78, 79, 80, 81, 82, 83, 84, 85, 86, 87, 88, 89, 90, 91, 92, 93, 94, 95, 96, 97, 98, 99, 100, 101, 102, 103, 104, 105, 114, 115, 116] (by decide +kernel) (by decide +kernel)
set_option maxRecDepth 20000 in
theorem gX3_addDirectory_Jx4a65c_add_9ea2d : GoodIn wsX3_addDirectory (wsV RX3 27 RJx4a65c yJx4a65c_add_9ea2d wsJx4a65c_add_9ea2d) := goodIn_app (goodIn_of _ (by decide +kernel)) ggX3_addDirectory_Jx4a65c_add_9ea2d
theorem dX3_addDirectory_0 : decode cX3_addDirectory 0 = .ok (.aload_n 0, 1) := by decide +kernel
theorem dX3_addDirectory_1 : decode cX3_addDirectory 1 = .ok (.iload_n 1, 1) := by decide +kernel
theorem dX3_addDirectory_2 : decode cX3_addDirectory 2 = .ok (.invokevirtual 34, 3) := by decide +kernel
theorem dX3_addDirectory_5 : decode cX3_addDirectory 5 = .ok (.astore_n 3, 1) := by decide +kernel
theorem dX3_addDirectory_6 : decode cX3_addDirectory 6 = .ok (.iconst (-1), 1) := by decide +kernel
theorem dX3_addDirectory_7 : decode cX3_addDirectory 7 = .ok (.iload_n 2, 1) := by decide +kernel
theorem dX3_addDirectory_8 : decode cX3_addDirectory 8 = .ok (.ldc 38, 2) := by decide +kernel
theorem dX3_addDirectory_10 : decode cX3_addDirectory 10 = .ok (.invokestatic 39, 3) := by decide +kernel
theorem dX3_addDirectory_13 : decode cX3_addDirectory 13 = .ok (.aload_n 0, 1) := by decide +kernel
theorem dX3_addDirectory_14 : decode cX3_addDirectory 14 = .ok (.getfield 10, 3) := by decide +kernel
theorem dX3_addDirectory_17 : decode cX3_addDirectory 17 = .ok (.invokevirtual 43, 3) := by decide +kernel
theorem dX3_addDirectory_20 : decode cX3_addDirectory 20 = .ok (.istore 4, 2) := by decide +kernel
theorem dX3_addDirectory_22 : decode cX3_addDirectory 22 = .ok (.iload 4, 2) := by decide +kernel
theorem dX3_addDirectory_24 : decode cX3_addDirectory 24 = .ok (.bipush 12, 2) := by decide +kernel
theorem dX3_addDirectory_26 : decode cX3_addDirectory 26 = .ok (.if_icmp .lt 13, 3) := by decide +kernel
theorem dX3_addDirectory_29 : decode cX3_addDirectory 29 = .ok (.new 47, 3) := by decide +kernel
theorem dX3_addDirectory_32 : decode cX3_addDirectory 32 = .ok (.dup, 1) := by decide +kernel
theorem dX3_addDirectory_33 : decode cX3_addDirectory 33 = .ok (.ldc 49, 2) := by decide +kernel
theorem dX3_addDirectory_35 : decode cX3_addDirectory 35 = .ok (.invokespecial 51, 3) := by decide +kernel
theorem dX3_addDirectory_38 : decode cX3_addDirectory 38 = .ok (.athrow, 1) := by decide +kernel
theorem dX3_addDirectory_39 : decode cX3_addDirectory 39 = .ok (.aload_n 0, 1) := by decide +kernel
theorem dX3_addDirectory_40 : decode cX3_addDirectory 40 = .ok (.getfield 10, 3) := by decide +kernel
theorem dX3_addDirectory_43 : decode cX3_addDirectory 43 = .ok (.new 22, 3) := by decide +kernel
theorem dX3_addDirectory_46 : decode cX3_addDirectory 46 = .ok (.dup, 1) := by decide +kernel
theorem dX3_addDirectory_47 : decode cX3_addDirectory 47 = .ok (.iload 4, 2) := by decide +kernel
theorem dX3_addDirectory_49 : decode cX3_addDirectory 49 = .ok (.aload_n 3, 1) := by decide +kernel
theorem dX3_addDirectory_50 : decode cX3_addDirectory 50 = .ok (.iload_n 2, 1) := by decide +kernel
theorem dX3_addDirectory_51 : decode cX3_addDirectory 51 = .ok (.invokespecial 24, 3) := by decide +kernel
theorem dX3_addDirectory_54 : decode cX3_addDirectory 54 = .ok (.invokevirtual 27, 3) := by decide +kernel
theorem dX3_addDirectory_57 : decode cX3_addDirectory 57 = .ok (.pop, 1) := by decide +kernel
theorem dX3_addDirectory_58 : decode cX3_addDirectory 58 = .ok (.iload 4, 2) := by decide +kernel
theorem dX3_addDirectory_60 : decode cX3_addDirectory 60 = .ok (.ireturn, 1) := by decide +kernel
set_option maxRecDepth 20000 in
theorem ggX3_setQuota_X3_directoryNumbered : GoodIn wsX3_setQuota wsX3_directoryNumbered := goodIn_ca (goodIn_r _ [7, 8, 9, 10, 11, 12, 13, 14, 15, 16, 17, 18, 19, 20, 21, 22, 23, 24, 25, 26, 27, 28, 29, 30, 31, 32, 33, 34, 44, 45, 46, 47, 48, 49, 50] (by decide +kernel) (by decide +kernel)) (goodIn_sub (fun _ h => List.mem_cons_of_mem _ (List.mem_append_left _ (List.mem_append_right _ h))) (by decide +kernel))
set_option maxRecDepth 20000 in
theorem gX3_setQuota_X3_directoryNumbered : GoodIn wsX3_setQuota (wsV RX3 34 RX3 yX3_directoryNumbered wsX3_directoryNumbered) := goodIn_app (goodIn_of _ (by decide +kernel)) ggX3_setQuota_X3_directoryNumbered
set_option maxRecDepth 20000 in
theorem ggX3_setQuota_X3_requireBetween : GoodIn wsX3_setQuota wsX3_requireBetween := goodIn_ca (goodIn_r _ [37, 38, 39] (by decide +kernel) (by decide +kernel)) (goodIn_sub (fun _ h => List.mem_cons_of_mem _ (List.mem_append_right _ h)) (by decide +kernel))
set_option maxRecDepth 20000 in
theorem gX3_setQuota_X3_requireBetween : GoodIn wsX3_setQuota (va_wsS RX3 39 yX3_requireBetween wsX3_requireBetween) := goodIn_app (goodIn_of _ (by decide +kernel)) ggX3_setQuota_X3_requireBetween
theorem dX3_setQuota_0 : decode cX3_setQuota 0 = .ok (.aload_n 0, 1) := by decide +kernel
theorem dX3_setQuota_1 : decode cX3_setQuota 1 = .ok (.iload_n 1, 1) := by decide +kernel
theorem dX3_setQuota_2 : decode cX3_setQuota 2 = .ok (.invokevirtual 34, 3) := by decide +kernel
theorem dX3_setQuota_5 : decode cX3_setQuota 5 = .ok (.astore_n 3, 1) := by decide +kernel
theorem dX3_setQuota_6 : decode cX3_setQuota 6 = .ok (.iconst (-1), 1) := by decide +kernel
theorem dX3_setQuota_7 : decode cX3_setQuota 7 = .ok (.iload_n 2, 1) := by decide +kernel
theorem dX3_setQuota_8 : decode cX3_setQuota 8 = .ok (.ldc 38, 2) := by decide +kernel
theorem dX3_setQuota_10 : decode cX3_setQuota 10 = .ok (.invokestatic 39, 3) := by decide +kernel
theorem dX3_setQuota_13 : decode cX3_setQuota 13 = .ok (.aload_n 3, 1) := by decide +kernel
theorem dX3_setQuota_14 : decode cX3_setQuota 14 = .ok (.getfield 54, 3) := by decide +kernel
theorem dX3_setQuota_17 : decode cX3_setQuota 17 = .ok (.istore 4, 2) := by decide +kernel
theorem dX3_setQuota_19 : decode cX3_setQuota 19 = .ok (.aload_n 3, 1) := by decide +kernel
theorem dX3_setQuota_20 : decode cX3_setQuota 20 = .ok (.iload_n 2, 1) := by decide +kernel
theorem dX3_setQuota_21 : decode cX3_setQuota 21 = .ok (.putfield 54, 3) := by decide +kernel
theorem dX3_setQuota_24 : decode cX3_setQuota 24 = .ok (.iload 4, 2) := by decide +kernel
theorem dX3_setQuota_26 : decode cX3_setQuota 26 = .ok (.ireturn, 1) := by decide +kernel
set_option maxRecDepth 20000 in
theorem ggX3_make_X3_departmentNumbered : GoodIn wsX3_make wsX3_departmentNumbered := goodIn_ca (goodIn_r _ [14, 15, 16, 17, 18, 19, 20, 21, 22, 23, 24, 25, 26, 27, 28, 29, 30, 31, 32, 33, 34, 35, 36, 37, 38, 39, 40, 41, 147, 148, 149, 150, 159, 160, 161] (by decide +kernel) (by decide +kernel)) (goodIn_sub (fun _ h => List.mem_cons_of_mem _ (List.mem_append_left _ (List.mem_append_right _ h))) (by decide +kernel))
set_option maxRecDepth 20000 in
theorem gX3_make_X3_departmentNumbered : GoodIn wsX3_make (wsV RX3 58 RX3 yX3_departmentNumbered wsX3_departmentNumbered) := goodIn_app (goodIn_of _ (by decide +kernel)) ggX3_make_X3_departmentNumbered
set_option maxRecDepth 20000 in
theorem ggX3_make_X3_directoryNumbered : GoodIn wsX3_make wsX3_directoryNumbered := goodIn_ca (goodIn_r _ [45, 15, 16, 46, 47, 19, 20, 21, 22, 23, 24, 25, 26, 27, 28, 29, 30, 31, 32, 33, 34, 35, 36, 37, 38, 39, 40, 41, 147, 148, 149, 150, 159, 160, 161] (by decide +kernel) (by decide +kernel)) (goodIn_sub (fun _ h => List.mem_cons_of_mem _ (List.mem_append_left _ (List.mem_append_right _ h))) (by decide +kernel))
set_option maxRecDepth 20000 in
theorem gX3_make_X3_directoryNumbered : GoodIn wsX3_make (wsV RX3 34 RX3 yX3_directoryNumbered wsX3_directoryNumbered) := goodIn_app (goodIn_of _ (by decide +kernel)) ggX3_make_X3_directoryNumbered
set_option maxRecDepth 20000 in
theorem ggX3_make_X3_requireBetween : GoodIn wsX3_make wsX3_requireBetween := goodIn_ca (goodIn_r _ [50, 51, 52] (by decide +kernel) (by decide +kernel)) (goodIn_sub (fun _ h => List.mem_cons_of_mem _ (List.mem_append_right _ h)) (by decide +kernel))
set_option maxRecDepth 20000 in
theorem gX3_make_X3_requireBetween : GoodIn wsX3_make (va_wsS RX3 39 yX3_requireBetween wsX3_requireBetween) := goodIn_app (goodIn_of _ (by decide +kernel)) ggX3_make_X3_requireBetween
set_option maxRecDepth 20000 in
theorem ggX3_make_Jx4a65c_size_8abf5 : GoodIn wsX3_make wsJx4a65c_size_8abf5 := goodIn_r _ [23, 24, 159, 160, 161] (by decide +kernel) (by decide +kernel)
set_option maxRecDepth 20000 in
theorem gX3_make_Jx4a65c_size_8abf5 : GoodIn wsX3_make (wsV RX3 43 RJx4a65c yJx4a65c_size_8abf5 wsJx4a65c_size_8abf5) := goodIn_app (goodIn_of _ (by decide +kernel)) ggX3_make_Jx4a65c_size_8abf5
set_option maxRecDepth 20000 in
theorem ggX3_make_X3_requireGrowthPossible : GoodIn wsX3_make wsX3_requireGrowthPossible := goodIn_ca (goodIn_r _ [55, 1, 2, 56, 57, 58, 59, 60, 61, 62, 63, 64, 157, 158, 162, 163, 164, 165] (by decide +kernel) (by decide +kernel)) (goodIn_sub (fun _ h => List.mem_cons_of_mem _ (List.mem_append_left _ (List.mem_append_left _ (List.mem_append_right _ h)))) (by decide +kernel))
set_option maxRecDepth 20000 in
theorem gX3_make_X3_requireGrowthPossible : GoodIn wsX3_make (va_wsS RX3 64 yX3_requireGrowthPossible wsX3_requireGrowthPossible) := goodIn_app (goodIn_of _ (by decide +kernel)) ggX3_make_X3_requireGrowthPossible
set_option maxRecDepth 20000 in
theorem ggX3_make_X2_init : GoodIn wsX3_make wsX2_init := goodIn_r _ [67, 68, 69, 70, 71, 72, 22, 73, 74, 75, 76, 77, 78, 79, 80, 41, 81, 82, 83, 84, 85, 86, 87, 88, 89, 90, 159, 160, 161, 151, 152, 153, 154, 155, 156] (by decide +kernel) (by decide +kernel)
set_option maxRecDepth 20000 in
theorem gX3_make_X2_init : GoodIn wsX3_make (wsX2_init) := ggX3_make_X2_init
set_option maxRecDepth 20000 in
theorem ggX3_make_Jx4a65c_add_9ea2d : GoodIn wsX3_make wsJx4a65c_add_9ea2d := goodIn_r _ [94, 95, 96, 41, 24, 97, 98, 99, 22, 100, 101, 102, 103, 104, 105, 106, 107, 108, 80, 109, 110, 111, 112, 113, 114, 115, 116, 117, 118, 119, 120, 121, 122, 123, 124, 125, 126, 127, 128, 129, 130, 131, 132, 133, 134, 135, 136, 137, 138, 139, 140, 141, 142, 159, 160, 161] (by decide +kernel) (by decide +kernel)
set_option maxRecDepth 20000 in
theorem gX3_make_Jx4a65c_add_9ea2d : GoodIn wsX3_make (wsV RX3 27 RJx4a65c yJx4a65c_add_9ea2d wsJx4a65c_add_9ea2d) := goodIn_app (goodIn_of _ (by decide +kernel)) ggX3_make_Jx4a65c_add_9ea2d
set_option maxRecDepth 20000 in
theorem ggX3_make_X1_addUsage : GoodIn wsX3_make wsX1_addUsage := goodIn_r _ [146, 63, 64, 162, 163, 164, 165] (by decide +kernel) (by decide +kernel)
set_option maxRecDepth 20000 in
theorem gX3_make_X1_addUsage : GoodIn wsX3_make (wsV RX3 79 RX1 yX1_addUsage wsX1_addUsage) := goodIn_app (goodIn_of _ (by decide +kernel)) ggX3_make_X1_addUsage
theorem dX3_make_0 : decode cX3_make 0 = .ok (.aload_n 0, 1) := by decide +kernel
theorem dX3_make_1 : decode cX3_make 1 = .ok (.iload_n 1, 1) := by decide +kernel
theorem dX3_make_2 : decode cX3_make 2 = .ok (.invokevirtual 58, 3) := by decide +kernel
theorem dX3_make_5 : decode cX3_make 5 = .ok (.astore 4, 2) := by decide +kernel
theorem dX3_make_7 : decode cX3_make 7 = .ok (.aload_n 0, 1) := by decide +kernel
theorem dX3_make_8 : decode cX3_make 8 = .ok (.iload_n 2, 1) := by decide +kernel
theorem dX3_make_9 : decode cX3_make 9 = .ok (.invokevirtual 34, 3) := by decide +kernel
theorem dX3_make_12 : decode cX3_make 12 = .ok (.astore 5, 2) := by decide +kernel
theorem dX3_make_14 : decode cX3_make 14 = .ok (.iconst 1, 1) := by decide +kernel
theorem dX3_make_15 : decode cX3_make 15 = .ok (.iload_n 3, 1) := by decide +kernel
theorem dX3_make_16 : decode cX3_make 16 = .ok (.sipush 1000, 3) := by decide +kernel
theorem dX3_make_19 : decode cX3_make 19 = .ok (.invokestatic 39, 3) := by decide +kernel
theorem dX3_make_22 : decode cX3_make 22 = .ok (.aload_n 0, 1) := by decide +kernel
theorem dX3_make_23 : decode cX3_make 23 = .ok (.getfield 16, 3) := by decide +kernel
theorem dX3_make_26 : decode cX3_make 26 = .ok (.invokevirtual 43, 3) := by decide +kernel
theorem dX3_make_29 : decode cX3_make 29 = .ok (.istore 6, 2) := by decide +kernel
theorem dX3_make_31 : decode cX3_make 31 = .ok (.iload 6, 2) := by decide +kernel
theorem dX3_make_33 : decode cX3_make 33 = .ok (.bipush 30, 2) := by decide +kernel
theorem dX3_make_35 : decode cX3_make 35 = .ok (.if_icmp .lt 13, 3) := by decide +kernel
theorem dX3_make_38 : decode cX3_make 38 = .ok (.new 47, 3) := by decide +kernel
theorem dX3_make_41 : decode cX3_make 41 = .ok (.dup, 1) := by decide +kernel
theorem dX3_make_42 : decode cX3_make 42 = .ok (.ldc 62, 2) := by decide +kernel
theorem dX3_make_44 : decode cX3_make 44 = .ok (.invokespecial 51, 3) := by decide +kernel
theorem dX3_make_47 : decode cX3_make 47 = .ok (.athrow, 1) := by decide +kernel
theorem dX3_make_48 : decode cX3_make 48 = .ok (.aload 4, 2) := by decide +kernel
theorem dX3_make_50 : decode cX3_make 50 = .ok (.aload 5, 2) := by decide +kernel
theorem dX3_make_52 : decode cX3_make 52 = .ok (.iload_n 3, 1) := by decide +kernel
theorem dX3_make_53 : decode cX3_make 53 = .ok (.invokestatic 64, 3) := by decide +kernel
theorem dX3_make_56 : decode cX3_make 56 = .ok (.new 68, 3) := by decide +kernel
theorem dX3_make_59 : decode cX3_make 59 = .ok (.dup, 1) := by decide +kernel
theorem dX3_make_60 : decode cX3_make 60 = .ok (.aload 4, 2) := by decide +kernel
theorem dX3_make_62 : decode cX3_make 62 = .ok (.iload_n 3, 1) := by decide +kernel
theorem dX3_make_63 : decode cX3_make 63 = .ok (.aload_n 0, 1) := by decide +kernel
theorem dX3_make_64 : decode cX3_make 64 = .ok (.getfield 70, 3) := by decide +kernel
theorem dX3_make_67 : decode cX3_make 67 = .ok (.invokespecial 73, 3) := by decide +kernel
theorem dX3_make_70 : decode cX3_make 70 = .ok (.astore 7, 2) := by decide +kernel
theorem dX3_make_72 : decode cX3_make 72 = .ok (.aload 7, 2) := by decide +kernel
theorem dX3_make_74 : decode cX3_make 74 = .ok (.getfield 76, 3) := by decide +kernel
theorem dX3_make_77 : decode cX3_make 77 = .ok (.aload 5, 2) := by decide +kernel
theorem dX3_make_79 : decode cX3_make 79 = .ok (.invokevirtual 27, 3) := by decide +kernel
theorem dX3_make_82 : decode cX3_make 82 = .ok (.pop, 1) := by decide +kernel
theorem dX3_make_83 : decode cX3_make 83 = .ok (.aload 5, 2) := by decide +kernel
theorem dX3_make_85 : decode cX3_make 85 = .ok (.iload_n 3, 1) := by decide +kernel
theorem dX3_make_86 : decode cX3_make 86 = .ok (.invokevirtual 79, 3) := by decide +kernel
theorem dX3_make_89 : decode cX3_make 89 = .ok (.aload 4, 2) := by decide +kernel
theorem dX3_make_91 : decode cX3_make 91 = .ok (.getfield 83, 3) := by decide +kernel
theorem dX3_make_94 : decode cX3_make 94 = .ok (.aload 7, 2) := by decide +kernel
theorem dX3_make_96 : decode cX3_make 96 = .ok (.invokevirtual 27, 3) := by decide +kernel
theorem dX3_make_99 : decode cX3_make 99 = .ok (.pop, 1) := by decide +kernel
theorem dX3_make_100 : decode cX3_make 100 = .ok (.aload_n 0, 1) := by decide +kernel
theorem dX3_make_101 : decode cX3_make 101 = .ok (.getfield 16, 3) := by decide +kernel
theorem dX3_make_104 : decode cX3_make 104 = .ok (.aload 7, 2) := by decide +kernel
theorem dX3_make_106 : decode cX3_make 106 = .ok (.invokevirtual 27, 3) := by decide +kernel
theorem dX3_make_109 : decode cX3_make 109 = .ok (.pop, 1) := by decide +kernel
theorem dX3_make_110 : decode cX3_make 110 = .ok (.iload 6, 2) := by decide +kernel
theorem dX3_make_112 : decode cX3_make 112 = .ok (.ireturn, 1) := by decide +kernel
set_option maxRecDepth 20000 in
theorem ggX3_link_X3_fileNumbered : GoodIn wsX3_link wsX3_fileNumbered := goodIn_ca (goodIn_r _ [8, 9, 10, 11, 12, 13, 14, 15, 16, 17, 18, 19, 20, 21, 22, 23, 24, 25, 26, 27, 28, 29, 30, 31, 32, 33, 34, 35, 120, 121, 122, 123, 124, 125, 126] (by decide +kernel) (by decide +kernel)) (goodIn_sub (fun _ h => List.mem_cons_of_mem _ (List.mem_append_right _ h)) (by decide +kernel))
set_option maxRecDepth 20000 in
theorem gX3_link_X3_fileNumbered : GoodIn wsX3_link (wsV RX3 86 RX3 yX3_fileNumbered wsX3_fileNumbered) := goodIn_app (goodIn_of _ (by decide +kernel)) ggX3_link_X3_fileNumbered
set_option maxRecDepth 20000 in
theorem ggX3_link_X3_directoryNumbered : GoodIn wsX3_link wsX3_directoryNumbered := goodIn_ca (goodIn_r _ [39, 9, 10, 40, 41, 13, 14, 15, 16, 17, 18, 19, 20, 21, 22, 23, 24, 25, 26, 27, 28, 29, 30, 31, 32, 33, 34, 35, 120, 121, 122, 123, 124, 125, 126] (by decide +kernel) (by decide +kernel)) (goodIn_sub (fun _ h => List.mem_cons_of_mem _ (List.mem_append_right _ h)) (by decide +kernel))
set_option maxRecDepth 20000 in
theorem gX3_link_X3_directoryNumbered : GoodIn wsX3_link (wsV RX3 34 RX3 yX3_directoryNumbered wsX3_directoryNumbered) := goodIn_app (goodIn_of _ (by decide +kernel)) ggX3_link_X3_directoryNumbered
set_option maxRecDepth 20000 in
theorem ggX3_link_X3_requireNotGone : GoodIn wsX3_link wsX3_requireNotGone := goodIn_ca (goodIn_r _ [44, 1, 2, 45, 46, 47, 48, 49, 50, 51, 52, 53, 16, 54, 18, 114, 115, 116, 117, 118, 119, 124, 125, 126] (by decide +kernel) (by decide +kernel)) (goodIn_sub (fun _ h => List.mem_cons_of_mem _ (List.mem_append_left _ (List.mem_append_right _ h))) (by decide +kernel))
set_option maxRecDepth 20000 in
theorem gX3_link_X3_requireNotGone : GoodIn wsX3_link (va_wsS RX3 90 yX3_requireNotGone wsX3_requireNotGone) := goodIn_app (goodIn_of _ (by decide +kernel)) ggX3_link_X3_requireNotGone
set_option maxRecDepth 20000 in
theorem ggX3_link_X2_placeOfLinkTo : GoodIn wsX3_link wsX2_placeOfLinkTo := goodIn_r _ [58, 50, 59, 14, 15, 16, 17, 18, 60, 20, 21, 22, 23, 24, 25, 26, 27, 28, 29, 30, 31, 32, 33, 34, 35, 114, 115, 116, 117, 118, 119, 124, 125, 126] (by decide +kernel) (by decide +kernel)
set_option maxRecDepth 20000 in
theorem gX3_link_X2_placeOfLinkTo : GoodIn wsX3_link (wsV RX3 94 RX2 yX2_placeOfLinkTo wsX2_placeOfLinkTo) := goodIn_app (goodIn_of _ (by decide +kernel)) ggX3_link_X2_placeOfLinkTo
set_option maxRecDepth 20000 in
theorem ggX3_link_Jx4a65c_add_9ea2d : GoodIn wsX3_link wsJx4a65c_add_9ea2d := goodIn_r _ [64, 65, 66, 35, 18, 67, 68, 69, 16, 70, 71, 72, 73, 74, 75, 76, 77, 78, 79, 80, 81, 82, 83, 84, 85, 86, 87, 88, 89, 90, 91, 92, 93, 94, 95, 96, 97, 98, 99, 100, 101, 102, 103, 104, 105, 106, 107, 108, 109, 110, 111, 112, 113, 124, 125, 126] (by decide +kernel) (by decide +kernel)
set_option maxRecDepth 20000 in
theorem gX3_link_Jx4a65c_add_9ea2d : GoodIn wsX3_link (wsV RX3 27 RJx4a65c yJx4a65c_add_9ea2d wsJx4a65c_add_9ea2d) := goodIn_app (goodIn_of _ (by decide +kernel)) ggX3_link_Jx4a65c_add_9ea2d
set_option maxRecDepth 20000 in
theorem ggX3_link_Jx4a65c_size_8abf5 : GoodIn wsX3_link wsJx4a65c_size_8abf5 := goodIn_r _ [17, 18, 124, 125, 126] (by decide +kernel) (by decide +kernel)
set_option maxRecDepth 20000 in
theorem gX3_link_Jx4a65c_size_8abf5 : GoodIn wsX3_link (wsV RX3 43 RJx4a65c yJx4a65c_size_8abf5 wsJx4a65c_size_8abf5) := goodIn_app (goodIn_of _ (by decide +kernel)) ggX3_link_Jx4a65c_size_8abf5
theorem dX3_link_0 : decode cX3_link 0 = .ok (.aload_n 0, 1) := by decide +kernel
theorem dX3_link_1 : decode cX3_link 1 = .ok (.iload_n 1, 1) := by decide +kernel
theorem dX3_link_2 : decode cX3_link 2 = .ok (.invokevirtual 86, 3) := by decide +kernel
theorem dX3_link_5 : decode cX3_link 5 = .ok (.astore_n 3, 1) := by decide +kernel
theorem dX3_link_6 : decode cX3_link 6 = .ok (.aload_n 0, 1) := by decide +kernel
theorem dX3_link_7 : decode cX3_link 7 = .ok (.iload_n 2, 1) := by decide +kernel
theorem dX3_link_8 : decode cX3_link 8 = .ok (.invokevirtual 34, 3) := by decide +kernel
theorem dX3_link_11 : decode cX3_link 11 = .ok (.astore 4, 2) := by decide +kernel
theorem dX3_link_13 : decode cX3_link 13 = .ok (.aload_n 3, 1) := by decide +kernel
theorem dX3_link_14 : decode cX3_link 14 = .ok (.invokestatic 90, 3) := by decide +kernel
theorem dX3_link_17 : decode cX3_link 17 = .ok (.aload_n 3, 1) := by decide +kernel
theorem dX3_link_18 : decode cX3_link 18 = .ok (.aload 4, 2) := by decide +kernel
theorem dX3_link_20 : decode cX3_link 20 = .ok (.invokevirtual 94, 3) := by decide +kernel
theorem dX3_link_23 : decode cX3_link 23 = .ok (.ifCond .lt 13, 3) := by decide +kernel
theorem dX3_link_26 : decode cX3_link 26 = .ok (.new 47, 3) := by decide +kernel
theorem dX3_link_29 : decode cX3_link 29 = .ok (.dup, 1) := by decide +kernel
theorem dX3_link_30 : decode cX3_link 30 = .ok (.ldc 98, 2) := by decide +kernel
theorem dX3_link_32 : decode cX3_link 32 = .ok (.invokespecial 51, 3) := by decide +kernel
theorem dX3_link_35 : decode cX3_link 35 = .ok (.athrow, 1) := by decide +kernel
theorem dX3_link_36 : decode cX3_link 36 = .ok (.aload_n 3, 1) := by decide +kernel
theorem dX3_link_37 : decode cX3_link 37 = .ok (.getfield 76, 3) := by decide +kernel
theorem dX3_link_40 : decode cX3_link 40 = .ok (.aload 4, 2) := by decide +kernel
theorem dX3_link_42 : decode cX3_link 42 = .ok (.invokevirtual 27, 3) := by decide +kernel
theorem dX3_link_45 : decode cX3_link 45 = .ok (.pop, 1) := by decide +kernel
theorem dX3_link_46 : decode cX3_link 46 = .ok (.aload_n 3, 1) := by decide +kernel
theorem dX3_link_47 : decode cX3_link 47 = .ok (.getfield 76, 3) := by decide +kernel
theorem dX3_link_50 : decode cX3_link 50 = .ok (.invokevirtual 43, 3) := by decide +kernel
theorem dX3_link_53 : decode cX3_link 53 = .ok (.ireturn, 1) := by decide +kernel
set_option maxRecDepth 20000 in
theorem ggX3_unlink_X3_fileNumbered : GoodIn wsX3_unlink wsX3_fileNumbered := goodIn_ca (goodIn_r _ [9, 10, 11, 12, 13, 14, 15, 16, 17, 18, 19, 20, 21, 22, 23, 24, 25, 26, 27, 28, 29, 30, 31, 32, 33, 34, 35, 36, 98, 99, 100, 101, 102, 103, 104] (by decide +kernel) (by decide +kernel)) (goodIn_sub (fun _ h => List.mem_cons_of_mem _ (List.mem_append_right _ h)) (by decide +kernel))
set_option maxRecDepth 20000 in
theorem gX3_unlink_X3_fileNumbered : GoodIn wsX3_unlink (wsV RX3 86 RX3 yX3_fileNumbered wsX3_fileNumbered) := goodIn_app (goodIn_of _ (by decide +kernel)) ggX3_unlink_X3_fileNumbered
set_option maxRecDepth 20000 in
theorem ggX3_unlink_X3_directoryNumbered : GoodIn wsX3_unlink wsX3_directoryNumbered := goodIn_ca (goodIn_r _ [40, 10, 11, 41, 42, 14, 15, 16, 17, 18, 19, 20, 21, 22, 23, 24, 25, 26, 27, 28, 29, 30, 31, 32, 33, 34, 35, 36, 98, 99, 100, 101, 102, 103, 104] (by decide +kernel) (by decide +kernel)) (goodIn_sub (fun _ h => List.mem_cons_of_mem _ (List.mem_append_right _ h)) (by decide +kernel))
set_option maxRecDepth 20000 in
theorem gX3_unlink_X3_directoryNumbered : GoodIn wsX3_unlink (wsV RX3 34 RX3 yX3_directoryNumbered wsX3_directoryNumbered) := goodIn_app (goodIn_of _ (by decide +kernel)) ggX3_unlink_X3_directoryNumbered
set_option maxRecDepth 20000 in
theorem ggX3_unlink_X2_firstLink : GoodIn wsX3_unlink wsX2_firstLink := goodIn_r _ [47, 48, 49, 50, 51, 52, 17, 53, 19, 54, 21, 22, 23, 24, 25, 26, 27, 28, 29, 30, 31, 32, 33, 34, 35, 36, 92, 93, 94, 95, 96, 97, 102, 103, 104] (by decide +kernel) (by decide +kernel)
set_option maxRecDepth 20000 in
theorem gX3_unlink_X2_firstLink : GoodIn wsX3_unlink (wsV RX3 100 RX2 yX2_firstLink wsX2_firstLink) := goodIn_app (goodIn_of _ (by decide +kernel)) ggX3_unlink_X2_firstLink
set_option maxRecDepth 20000 in
theorem ggX3_unlink_X2_removeLinkTo : GoodIn wsX3_unlink wsX2_removeLinkTo := goodIn_r _ [58, 48, 59, 60, 61, 46, 62, 63, 15, 16, 17, 18, 19, 54, 21, 22, 23, 24, 25, 26, 27, 28, 29, 30, 31, 32, 33, 34, 35, 36, 64, 65, 66, 67, 68, 69, 70, 71, 72, 73, 74, 75, 76, 77, 92, 93, 94, 95, 96, 97, 102, 103, 104] (by decide +kernel) (by decide +kernel)
set_option maxRecDepth 20000 in
theorem gX3_unlink_X2_removeLinkTo : GoodIn wsX3_unlink (wsV RX3 104 RX2 yX2_removeLinkTo wsX2_removeLinkTo) := goodIn_app (goodIn_of _ (by decide +kernel)) ggX3_unlink_X2_removeLinkTo
set_option maxRecDepth 20000 in
theorem ggX3_unlink_X1_addUsage : GoodIn wsX3_unlink wsX1_addUsage := goodIn_r _ [82, 83, 84, 105, 106, 107, 108] (by decide +kernel) (by decide +kernel)
set_option maxRecDepth 20000 in
theorem gX3_unlink_X1_addUsage : GoodIn wsX3_unlink (wsV RX3 79 RX1 yX1_addUsage wsX1_addUsage) := goodIn_app (goodIn_of _ (by decide +kernel)) ggX3_unlink_X1_addUsage
set_option maxRecDepth 20000 in
theorem ggX3_unlink_X2_replaceSize : GoodIn wsX3_unlink wsX2_replaceSize := goodIn_r _ [88, 89, 90, 91, 92, 93, 94, 95, 96, 97] (by decide +kernel) (by decide +kernel)
set_option maxRecDepth 20000 in
theorem gX3_unlink_X2_replaceSize : GoodIn wsX3_unlink (wsV RX3 112 RX2 yX2_replaceSize wsX2_replaceSize) := goodIn_app (goodIn_of _ (by decide +kernel)) ggX3_unlink_X2_replaceSize
set_option maxRecDepth 20000 in
theorem ggX3_unlink_Jx4a65c_size_8abf5 : GoodIn wsX3_unlink wsJx4a65c_size_8abf5 := goodIn_r _ [18, 19, 102, 103, 104] (by decide +kernel) (by decide +kernel)
set_option maxRecDepth 20000 in
theorem gX3_unlink_Jx4a65c_size_8abf5 : GoodIn wsX3_unlink (wsV RX3 43 RJx4a65c yJx4a65c_size_8abf5 wsJx4a65c_size_8abf5) := goodIn_app (goodIn_of _ (by decide +kernel)) ggX3_unlink_Jx4a65c_size_8abf5
theorem dX3_unlink_0 : decode cX3_unlink 0 = .ok (.aload_n 0, 1) := by decide +kernel
theorem dX3_unlink_1 : decode cX3_unlink 1 = .ok (.iload_n 1, 1) := by decide +kernel
theorem dX3_unlink_2 : decode cX3_unlink 2 = .ok (.invokevirtual 86, 3) := by decide +kernel
theorem dX3_unlink_5 : decode cX3_unlink 5 = .ok (.astore_n 3, 1) := by decide +kernel
theorem dX3_unlink_6 : decode cX3_unlink 6 = .ok (.aload_n 0, 1) := by decide +kernel
theorem dX3_unlink_7 : decode cX3_unlink 7 = .ok (.iload_n 2, 1) := by decide +kernel
theorem dX3_unlink_8 : decode cX3_unlink 8 = .ok (.invokevirtual 34, 3) := by decide +kernel
theorem dX3_unlink_11 : decode cX3_unlink 11 = .ok (.astore 4, 2) := by decide +kernel
theorem dX3_unlink_13 : decode cX3_unlink 13 = .ok (.aload_n 3, 1) := by decide +kernel
theorem dX3_unlink_14 : decode cX3_unlink 14 = .ok (.invokevirtual 100, 3) := by decide +kernel
theorem dX3_unlink_17 : decode cX3_unlink 17 = .ok (.astore 5, 2) := by decide +kernel
theorem dX3_unlink_19 : decode cX3_unlink 19 = .ok (.aload 5, 2) := by decide +kernel
theorem dX3_unlink_21 : decode cX3_unlink 21 = .ok (.ifnull 12, 3) := by decide +kernel
theorem dX3_unlink_24 : decode cX3_unlink 24 = .ok (.aload_n 3, 1) := by decide +kernel
theorem dX3_unlink_25 : decode cX3_unlink 25 = .ok (.aload 4, 2) := by decide +kernel
theorem dX3_unlink_27 : decode cX3_unlink 27 = .ok (.invokevirtual 104, 3) := by decide +kernel
theorem dX3_unlink_30 : decode cX3_unlink 30 = .ok (.ifCond .ne 13, 3) := by decide +kernel
theorem dX3_unlink_33 : decode cX3_unlink 33 = .ok (.new 47, 3) := by decide +kernel
theorem dX3_unlink_36 : decode cX3_unlink 36 = .ok (.dup, 1) := by decide +kernel
theorem dX3_unlink_37 : decode cX3_unlink 37 = .ok (.ldc 108, 2) := by decide +kernel
theorem dX3_unlink_39 : decode cX3_unlink 39 = .ok (.invokespecial 51, 3) := by decide +kernel
theorem dX3_unlink_42 : decode cX3_unlink 42 = .ok (.athrow, 1) := by decide +kernel
theorem dX3_unlink_43 : decode cX3_unlink 43 = .ok (.aload 5, 2) := by decide +kernel
theorem dX3_unlink_45 : decode cX3_unlink 45 = .ok (.aload_n 3, 1) := by decide +kernel
theorem dX3_unlink_46 : decode cX3_unlink 46 = .ok (.getfield 110, 3) := by decide +kernel
theorem dX3_unlink_49 : decode cX3_unlink 49 = .ok (.ineg, 1) := by decide +kernel
theorem dX3_unlink_50 : decode cX3_unlink 50 = .ok (.invokevirtual 79, 3) := by decide +kernel
theorem dX3_unlink_53 : decode cX3_unlink 53 = .ok (.aload_n 3, 1) := by decide +kernel
theorem dX3_unlink_54 : decode cX3_unlink 54 = .ok (.invokevirtual 100, 3) := by decide +kernel
theorem dX3_unlink_57 : decode cX3_unlink 57 = .ok (.astore 6, 2) := by decide +kernel
theorem dX3_unlink_59 : decode cX3_unlink 59 = .ok (.aload 6, 2) := by decide +kernel
theorem dX3_unlink_61 : decode cX3_unlink 61 = .ok (.ifnonnull 11, 3) := by decide +kernel
theorem dX3_unlink_64 : decode cX3_unlink 64 = .ok (.aload_n 3, 1) := by decide +kernel
theorem dX3_unlink_65 : decode cX3_unlink 65 = .ok (.iconst 0, 1) := by decide +kernel
theorem dX3_unlink_66 : decode cX3_unlink 66 = .ok (.invokevirtual 112, 3) := by decide +kernel
theorem dX3_unlink_69 : decode cX3_unlink 69 = .ok (.goto 12, 3) := by decide +kernel
theorem dX3_unlink_72 : decode cX3_unlink 72 = .ok (.aload 6, 2) := by decide +kernel
theorem dX3_unlink_74 : decode cX3_unlink 74 = .ok (.aload_n 3, 1) := by decide +kernel
theorem dX3_unlink_75 : decode cX3_unlink 75 = .ok (.getfield 110, 3) := by decide +kernel
theorem dX3_unlink_78 : decode cX3_unlink 78 = .ok (.invokevirtual 79, 3) := by decide +kernel
theorem dX3_unlink_81 : decode cX3_unlink 81 = .ok (.aload_n 3, 1) := by decide +kernel
theorem dX3_unlink_82 : decode cX3_unlink 82 = .ok (.getfield 76, 3) := by decide +kernel
theorem dX3_unlink_85 : decode cX3_unlink 85 = .ok (.invokevirtual 43, 3) := by decide +kernel
theorem dX3_unlink_88 : decode cX3_unlink 88 = .ok (.ireturn, 1) := by decide +kernel
set_option maxRecDepth 20000 in
theorem ggX3_write_X3_fileNumbered : GoodIn wsX3_write wsX3_fileNumbered := goodIn_ca (goodIn_r _ [12, 13, 14, 15, 16, 17, 18, 19, 20, 21, 22, 23, 24, 25, 26, 27, 28, 29, 30, 31, 32, 33, 34, 35, 36, 37, 38, 39, 93, 94, 95, 96, 103, 104, 105] (by decide +kernel) (by decide +kernel)) (goodIn_sub (fun _ h => List.mem_cons_of_mem _ (List.mem_append_left _ (List.mem_append_right _ h))) (by decide +kernel))
set_option maxRecDepth 20000 in
theorem gX3_write_X3_fileNumbered : GoodIn wsX3_write (wsV RX3 86 RX3 yX3_fileNumbered wsX3_fileNumbered) := goodIn_app (goodIn_of _ (by decide +kernel)) ggX3_write_X3_fileNumbered
set_option maxRecDepth 20000 in
theorem ggX3_write_X3_requireBetween : GoodIn wsX3_write wsX3_requireBetween := goodIn_ca (goodIn_r _ [42, 43, 44] (by decide +kernel) (by decide +kernel)) (goodIn_sub (fun _ h => List.mem_cons_of_mem _ (List.mem_append_right _ h)) (by decide +kernel))
set_option maxRecDepth 20000 in
theorem gX3_write_X3_requireBetween : GoodIn wsX3_write (va_wsS RX3 39 yX3_requireBetween wsX3_requireBetween) := goodIn_app (goodIn_of _ (by decide +kernel)) ggX3_write_X3_requireBetween
set_option maxRecDepth 20000 in
theorem ggX3_write_X2_firstLink : GoodIn wsX3_write wsX2_firstLink := goodIn_r _ [49, 50, 51, 52, 53, 54, 20, 55, 22, 56, 24, 25, 26, 27, 28, 29, 30, 31, 32, 33, 34, 35, 36, 37, 38, 39, 97, 98, 99, 100, 101, 102, 103, 104, 105] (by decide +kernel) (by decide +kernel)
set_option maxRecDepth 20000 in
theorem gX3_write_X2_firstLink : GoodIn wsX3_write (wsV RX3 100 RX2 yX2_firstLink wsX2_firstLink) := goodIn_app (goodIn_of _ (by decide +kernel)) ggX3_write_X2_firstLink
set_option maxRecDepth 20000 in
theorem ggX3_write_X2_tierOn : GoodIn wsX3_write wsX2_tierOn := goodIn_r _ [60, 61, 62, 63, 64, 48, 65, 50, 52, 53, 54, 20, 55, 22, 66, 67, 68, 69, 97, 98, 99, 100, 101, 102, 103, 104, 105] (by decide +kernel) (by decide +kernel)
set_option maxRecDepth 20000 in
theorem gX3_write_X2_tierOn : GoodIn wsX3_write (wsV RX3 115 RX2 yX2_tierOn wsX2_tierOn) := goodIn_app (goodIn_of _ (by decide +kernel)) ggX3_write_X2_tierOn
set_option maxRecDepth 20000 in
theorem ggX3_write_X3_requireGrowthPossible : GoodIn wsX3_write wsX3_requireGrowthPossible := goodIn_ca (goodIn_r _ [72, 1, 2, 73, 74, 75, 76, 77, 78, 79, 80, 81, 106, 107, 108, 109, 110, 111] (by decide +kernel) (by decide +kernel)) (goodIn_sub (fun _ h => List.mem_cons_of_mem _ (List.mem_append_left _ (List.mem_append_left _ (List.mem_append_right _ h)))) (by decide +kernel))
set_option maxRecDepth 20000 in
theorem gX3_write_X3_requireGrowthPossible : GoodIn wsX3_write (va_wsS RX3 64 yX3_requireGrowthPossible wsX3_requireGrowthPossible) := goodIn_app (goodIn_of _ (by decide +kernel)) ggX3_write_X3_requireGrowthPossible
set_option maxRecDepth 20000 in
theorem ggX3_write_X1_addUsage : GoodIn wsX3_write wsX1_addUsage := goodIn_r _ [85, 80, 81, 108, 109, 110, 111] (by decide +kernel) (by decide +kernel)
set_option maxRecDepth 20000 in
theorem gX3_write_X1_addUsage : GoodIn wsX3_write (wsV RX3 79 RX1 yX1_addUsage wsX1_addUsage) := goodIn_app (goodIn_of _ (by decide +kernel)) ggX3_write_X1_addUsage
set_option maxRecDepth 20000 in
theorem ggX3_write_X2_replaceSize : GoodIn wsX3_write wsX2_replaceSize := goodIn_r _ [89, 90, 91, 92, 97, 98, 99, 100, 101, 102] (by decide +kernel) (by decide +kernel)
set_option maxRecDepth 20000 in
theorem gX3_write_X2_replaceSize : GoodIn wsX3_write (wsV RX3 112 RX2 yX2_replaceSize wsX2_replaceSize) := goodIn_app (goodIn_of _ (by decide +kernel)) ggX3_write_X2_replaceSize
theorem dX3_write_0 : decode cX3_write 0 = .ok (.aload_n 0, 1) := by decide +kernel
theorem dX3_write_1 : decode cX3_write 1 = .ok (.iload_n 1, 1) := by decide +kernel
theorem dX3_write_2 : decode cX3_write 2 = .ok (.invokevirtual 86, 3) := by decide +kernel
theorem dX3_write_5 : decode cX3_write 5 = .ok (.astore_n 3, 1) := by decide +kernel
theorem dX3_write_6 : decode cX3_write 6 = .ok (.iconst 1, 1) := by decide +kernel
theorem dX3_write_7 : decode cX3_write 7 = .ok (.iload_n 2, 1) := by decide +kernel
theorem dX3_write_8 : decode cX3_write 8 = .ok (.sipush 1000, 3) := by decide +kernel
theorem dX3_write_11 : decode cX3_write 11 = .ok (.invokestatic 39, 3) := by decide +kernel
theorem dX3_write_14 : decode cX3_write 14 = .ok (.aload_n 3, 1) := by decide +kernel
theorem dX3_write_15 : decode cX3_write 15 = .ok (.invokevirtual 100, 3) := by decide +kernel
theorem dX3_write_18 : decode cX3_write 18 = .ok (.astore 4, 2) := by decide +kernel
theorem dX3_write_20 : decode cX3_write 20 = .ok (.aload 4, 2) := by decide +kernel
theorem dX3_write_22 : decode cX3_write 22 = .ok (.ifnull 15, 3) := by decide +kernel
theorem dX3_write_25 : decode cX3_write 25 = .ok (.aload_n 3, 1) := by decide +kernel
theorem dX3_write_26 : decode cX3_write 26 = .ok (.aload_n 0, 1) := by decide +kernel
theorem dX3_write_27 : decode cX3_write 27 = .ok (.getfield 70, 3) := by decide +kernel
theorem dX3_write_30 : decode cX3_write 30 = .ok (.invokevirtual 115, 3) := by decide +kernel
theorem dX3_write_33 : decode cX3_write 33 = .ok (.iconst 2, 1) := by decide +kernel
theorem dX3_write_34 : decode cX3_write 34 = .ok (.if_icmp .ne 13, 3) := by decide +kernel
theorem dX3_write_37 : decode cX3_write 37 = .ok (.new 47, 3) := by decide +kernel
theorem dX3_write_40 : decode cX3_write 40 = .ok (.dup, 1) := by decide +kernel
theorem dX3_write_41 : decode cX3_write 41 = .ok (.ldc 119, 2) := by decide +kernel
theorem dX3_write_43 : decode cX3_write 43 = .ok (.invokespecial 51, 3) := by decide +kernel
theorem dX3_write_46 : decode cX3_write 46 = .ok (.athrow, 1) := by decide +kernel
theorem dX3_write_47 : decode cX3_write 47 = .ok (.iload_n 2, 1) := by decide +kernel
theorem dX3_write_48 : decode cX3_write 48 = .ok (.aload_n 3, 1) := by decide +kernel
theorem dX3_write_49 : decode cX3_write 49 = .ok (.getfield 110, 3) := by decide +kernel
theorem dX3_write_52 : decode cX3_write 52 = .ok (.isub, 1) := by decide +kernel
theorem dX3_write_53 : decode cX3_write 53 = .ok (.istore 5, 2) := by decide +kernel
theorem dX3_write_55 : decode cX3_write 55 = .ok (.iload 5, 2) := by decide +kernel
theorem dX3_write_57 : decode cX3_write 57 = .ok (.ifCond .le 14, 3) := by decide +kernel
theorem dX3_write_60 : decode cX3_write 60 = .ok (.aload_n 3, 1) := by decide +kernel
theorem dX3_write_61 : decode cX3_write 61 = .ok (.getfield 121, 3) := by decide +kernel
theorem dX3_write_64 : decode cX3_write 64 = .ok (.aload 4, 2) := by decide +kernel
theorem dX3_write_66 : decode cX3_write 66 = .ok (.iload 5, 2) := by decide +kernel
theorem dX3_write_68 : decode cX3_write 68 = .ok (.invokestatic 64, 3) := by decide +kernel
theorem dX3_write_71 : decode cX3_write 71 = .ok (.aload 4, 2) := by decide +kernel
theorem dX3_write_73 : decode cX3_write 73 = .ok (.iload 5, 2) := by decide +kernel
theorem dX3_write_75 : decode cX3_write 75 = .ok (.invokevirtual 79, 3) := by decide +kernel
theorem dX3_write_78 : decode cX3_write 78 = .ok (.aload_n 3, 1) := by decide +kernel
theorem dX3_write_79 : decode cX3_write 79 = .ok (.iload_n 2, 1) := by decide +kernel
theorem dX3_write_80 : decode cX3_write 80 = .ok (.invokevirtual 112, 3) := by decide +kernel
theorem dX3_write_83 : decode cX3_write 83 = .ok (.aload_n 3, 1) := by decide +kernel
theorem dX3_write_84 : decode cX3_write 84 = .ok (.aload_n 0, 1) := by decide +kernel
theorem dX3_write_85 : decode cX3_write 85 = .ok (.getfield 70, 3) := by decide +kernel
theorem dX3_write_88 : decode cX3_write 88 = .ok (.putfield 125, 3) := by decide +kernel
theorem dX3_write_91 : decode cX3_write 91 = .ok (.aload_n 3, 1) := by decide +kernel
theorem dX3_write_92 : decode cX3_write 92 = .ok (.getfield 128, 3) := by decide +kernel
theorem dX3_write_95 : decode cX3_write 95 = .ok (.ireturn, 1) := by decide +kernel
set_option maxRecDepth 20000 in
theorem ggX3_read_X3_fileNumbered : GoodIn wsX3_read wsX3_fileNumbered := goodIn_ca (goodIn_r _ [7, 8, 9, 10, 11, 12, 13, 14, 15, 16, 17, 18, 19, 20, 21, 22, 23, 24, 25, 26, 27, 28, 29, 30, 31, 32, 33, 34, 72, 73, 74, 75, 82, 83, 84] (by decide +kernel) (by decide +kernel)) (goodIn_sub (fun _ h => List.mem_cons_of_mem _ (List.mem_append_left _ (List.mem_append_right _ h))) (by decide +kernel))
set_option maxRecDepth 20000 in
theorem gX3_read_X3_fileNumbered : GoodIn wsX3_read (wsV RX3 86 RX3 yX3_fileNumbered wsX3_fileNumbered) := goodIn_app (goodIn_of _ (by decide +kernel)) ggX3_read_X3_fileNumbered
set_option maxRecDepth 20000 in
theorem ggX3_read_X3_requireNotGone : GoodIn wsX3_read wsX3_requireNotGone := goodIn_ca (goodIn_r _ [37, 38, 39, 40, 41, 42, 43, 44, 45, 46, 47, 48, 15, 49, 17, 76, 77, 78, 79, 80, 81, 82, 83, 84] (by decide +kernel) (by decide +kernel)) (goodIn_sub (fun _ h => List.mem_cons_of_mem _ (List.mem_append_right _ h)) (by decide +kernel))
set_option maxRecDepth 20000 in
theorem gX3_read_X3_requireNotGone : GoodIn wsX3_read (va_wsS RX3 90 yX3_requireNotGone wsX3_requireNotGone) := goodIn_app (goodIn_of _ (by decide +kernel)) ggX3_read_X3_requireNotGone
set_option maxRecDepth 20000 in
theorem ggX3_read_X2_tierOn : GoodIn wsX3_read wsX2_tierOn := goodIn_r _ [53, 54, 55, 41, 42, 43, 44, 45, 46, 47, 48, 15, 49, 17, 56, 57, 58, 59, 76, 77, 78, 79, 80, 81, 82, 83, 84] (by decide +kernel) (by decide +kernel)
set_option maxRecDepth 20000 in
theorem gX3_read_X2_tierOn : GoodIn wsX3_read (wsV RX3 115 RX2 yX2_tierOn wsX2_tierOn) := goodIn_app (goodIn_of _ (by decide +kernel)) ggX3_read_X2_tierOn
set_option maxRecDepth 20000 in
theorem ggX3_read_X2_isComingBackOn : GoodIn wsX3_read wsX2_isComingBackOn := goodIn_r _ [59, 54, 76, 77, 78, 79, 80, 81] (by decide +kernel) (by decide +kernel)
set_option maxRecDepth 20000 in
theorem gX3_read_X2_isComingBackOn : GoodIn wsX3_read (wsV RX3 131 RX2 yX2_isComingBackOn wsX2_isComingBackOn) := goodIn_app (goodIn_of _ (by decide +kernel)) ggX3_read_X2_isComingBackOn
set_option maxRecDepth 20000 in
theorem ggX3_read_X3_startBringingBack : GoodIn wsX3_read wsX3_startBringingBack := goodIn_ca (goodIn_r _ [64, 38, 39, 65, 66, 1, 2, 67, 68, 69, 43, 70, 71, 76, 77, 78, 79, 80, 81, 85, 86, 72, 73, 74, 75] (by decide +kernel) (by decide +kernel)) (goodIn_sub (fun _ h => List.mem_cons_of_mem _ (List.mem_append_right _ h)) (by decide +kernel))
set_option maxRecDepth 20000 in
theorem gX3_read_X3_startBringingBack : GoodIn wsX3_read (wsV RX3 135 RX3 yX3_startBringingBack wsX3_startBringingBack) := goodIn_app (goodIn_of _ (by decide +kernel)) ggX3_read_X3_startBringingBack
theorem dX3_read_0 : decode cX3_read 0 = .ok (.aload_n 0, 1) := by decide +kernel
theorem dX3_read_1 : decode cX3_read 1 = .ok (.iload_n 1, 1) := by decide +kernel
theorem dX3_read_2 : decode cX3_read 2 = .ok (.invokevirtual 86, 3) := by decide +kernel
theorem dX3_read_5 : decode cX3_read 5 = .ok (.astore_n 2, 1) := by decide +kernel
theorem dX3_read_6 : decode cX3_read 6 = .ok (.aload_n 2, 1) := by decide +kernel
theorem dX3_read_7 : decode cX3_read 7 = .ok (.invokestatic 90, 3) := by decide +kernel
theorem dX3_read_10 : decode cX3_read 10 = .ok (.aload_n 2, 1) := by decide +kernel
theorem dX3_read_11 : decode cX3_read 11 = .ok (.aload_n 0, 1) := by decide +kernel
theorem dX3_read_12 : decode cX3_read 12 = .ok (.getfield 70, 3) := by decide +kernel
theorem dX3_read_15 : decode cX3_read 15 = .ok (.invokevirtual 115, 3) := by decide +kernel
theorem dX3_read_18 : decode cX3_read 18 = .ok (.iconst 2, 1) := by decide +kernel
theorem dX3_read_19 : decode cX3_read 19 = .ok (.if_icmp .eq 14, 3) := by decide +kernel
theorem dX3_read_22 : decode cX3_read 22 = .ok (.aload_n 2, 1) := by decide +kernel
theorem dX3_read_23 : decode cX3_read 23 = .ok (.aload_n 0, 1) := by decide +kernel
theorem dX3_read_24 : decode cX3_read 24 = .ok (.getfield 70, 3) := by decide +kernel
theorem dX3_read_27 : decode cX3_read 27 = .ok (.putfield 125, 3) := by decide +kernel
theorem dX3_read_30 : decode cX3_read 30 = .ok (.goto 19, 3) := by decide +kernel
theorem dX3_read_33 : decode cX3_read 33 = .ok (.aload_n 2, 1) := by decide +kernel
theorem dX3_read_34 : decode cX3_read 34 = .ok (.aload_n 0, 1) := by decide +kernel
theorem dX3_read_35 : decode cX3_read 35 = .ok (.getfield 70, 3) := by decide +kernel
theorem dX3_read_38 : decode cX3_read 38 = .ok (.invokevirtual 131, 3) := by decide +kernel
theorem dX3_read_41 : decode cX3_read 41 = .ok (.ifCond .ne 8, 3) := by decide +kernel
theorem dX3_read_44 : decode cX3_read 44 = .ok (.aload_n 0, 1) := by decide +kernel
theorem dX3_read_45 : decode cX3_read 45 = .ok (.aload_n 2, 1) := by decide +kernel
theorem dX3_read_46 : decode cX3_read 46 = .ok (.invokevirtual 135, 3) := by decide +kernel
theorem dX3_read_49 : decode cX3_read 49 = .ok (.aload_n 2, 1) := by decide +kernel
theorem dX3_read_50 : decode cX3_read 50 = .ok (.getfield 125, 3) := by decide +kernel
theorem dX3_read_53 : decode cX3_read 53 = .ok (.aload_n 0, 1) := by decide +kernel
theorem dX3_read_54 : decode cX3_read 54 = .ok (.getfield 70, 3) := by decide +kernel
theorem dX3_read_57 : decode cX3_read 57 = .ok (.isub, 1) := by decide +kernel
theorem dX3_read_58 : decode cX3_read 58 = .ok (.ireturn, 1) := by decide +kernel
set_option maxRecDepth 20000 in
theorem ggX3_hold_X3_bitOfMatter : GoodIn wsX3_hold wsX3_bitOfMatter := goodIn_ca (goodIn_r _ [5, 6, 7] (by decide +kernel) (by decide +kernel)) (goodIn_sub (fun _ h => List.mem_cons_of_mem _ (List.mem_append_left _ (List.mem_append_right _ h))) (by decide +kernel))
set_option maxRecDepth 20000 in
theorem gX3_hold_X3_bitOfMatter : GoodIn wsX3_hold (va_wsS RX3 138 yX3_bitOfMatter wsX3_bitOfMatter) := goodIn_app (goodIn_of _ (by decide +kernel)) ggX3_hold_X3_bitOfMatter
set_option maxRecDepth 20000 in
theorem ggX3_hold_X3_fileNumbered : GoodIn wsX3_hold wsX3_fileNumbered := goodIn_ca (goodIn_r _ [11, 6, 7, 12, 13, 14, 15, 16, 17, 18, 19, 20, 21, 22, 23, 24, 25, 26, 27, 28, 29, 30, 31, 32, 33, 34, 35, 36, 65, 66, 67, 68, 69, 70, 71] (by decide +kernel) (by decide +kernel)) (goodIn_sub (fun _ h => List.mem_cons_of_mem _ (List.mem_append_left _ (List.mem_append_right _ h))) (by decide +kernel))
set_option maxRecDepth 20000 in
theorem gX3_hold_X3_fileNumbered : GoodIn wsX3_hold (wsV RX3 86 RX3 yX3_fileNumbered wsX3_fileNumbered) := goodIn_app (goodIn_of _ (by decide +kernel)) ggX3_hold_X3_fileNumbered
set_option maxRecDepth 20000 in
theorem ggX3_hold_X3_requireNotGone : GoodIn wsX3_hold wsX3_requireNotGone := goodIn_ca (goodIn_r _ [39, 40, 41, 42, 43, 44, 45, 46, 47, 48, 49, 50, 17, 51, 19, 59, 60, 61, 62, 63, 64, 69, 70, 71] (by decide +kernel) (by decide +kernel)) (goodIn_sub (fun _ h => List.mem_cons_of_mem _ (List.mem_append_right _ h)) (by decide +kernel))
set_option maxRecDepth 20000 in
theorem gX3_hold_X3_requireNotGone : GoodIn wsX3_hold (va_wsS RX3 90 yX3_requireNotGone wsX3_requireNotGone) := goodIn_app (goodIn_of _ (by decide +kernel)) ggX3_hold_X3_requireNotGone
set_option maxRecDepth 20000 in
theorem ggX3_hold_J6_bitCount_0f7a4 : GoodIn wsX3_hold wsJ6_bitCount_0f7a4 := goodIn_r _ [55, 56, 57, 58] (by decide +kernel) (by decide +kernel)
set_option maxRecDepth 20000 in
theorem gX3_hold_J6_bitCount_0f7a4 : GoodIn wsX3_hold (va_wsS RX3 144 yJ6_bitCount_0f7a4 wsJ6_bitCount_0f7a4) := goodIn_app (goodIn_of _ (by decide +kernel)) ggX3_hold_J6_bitCount_0f7a4
theorem dX3_hold_0 : decode cX3_hold 0 = .ok (.iload_n 1, 1) := by decide +kernel
theorem dX3_hold_1 : decode cX3_hold 1 = .ok (.invokestatic 138, 3) := by decide +kernel
theorem dX3_hold_4 : decode cX3_hold 4 = .ok (.istore_n 3, 1) := by decide +kernel
theorem dX3_hold_5 : decode cX3_hold 5 = .ok (.aload_n 0, 1) := by decide +kernel
theorem dX3_hold_6 : decode cX3_hold 6 = .ok (.iload_n 2, 1) := by decide +kernel
theorem dX3_hold_7 : decode cX3_hold 7 = .ok (.invokevirtual 86, 3) := by decide +kernel
theorem dX3_hold_10 : decode cX3_hold 10 = .ok (.astore 4, 2) := by decide +kernel
theorem dX3_hold_12 : decode cX3_hold 12 = .ok (.aload 4, 2) := by decide +kernel
theorem dX3_hold_14 : decode cX3_hold 14 = .ok (.invokestatic 90, 3) := by decide +kernel
theorem dX3_hold_17 : decode cX3_hold 17 = .ok (.aload 4, 2) := by decide +kernel
theorem dX3_hold_19 : decode cX3_hold 19 = .ok (.dup, 1) := by decide +kernel
theorem dX3_hold_20 : decode cX3_hold 20 = .ok (.getfield 141, 3) := by decide +kernel
theorem dX3_hold_23 : decode cX3_hold 23 = .ok (.iload_n 3, 1) := by decide +kernel
theorem dX3_hold_24 : decode cX3_hold 24 = .ok (.ior, 1) := by decide +kernel
theorem dX3_hold_25 : decode cX3_hold 25 = .ok (.putfield 141, 3) := by decide +kernel
theorem dX3_hold_28 : decode cX3_hold 28 = .ok (.aload 4, 2) := by decide +kernel
theorem dX3_hold_30 : decode cX3_hold 30 = .ok (.getfield 141, 3) := by decide +kernel
theorem dX3_hold_33 : decode cX3_hold 33 = .ok (.invokestatic 144, 3) := by decide +kernel
theorem dX3_hold_36 : decode cX3_hold 36 = .ok (.ireturn, 1) := by decide +kernel
set_option maxRecDepth 20000 in
theorem ggX3_release_X3_bitOfMatter : GoodIn wsX3_release wsX3_bitOfMatter := goodIn_ca (goodIn_r _ [6, 7, 8] (by decide +kernel) (by decide +kernel)) (goodIn_sub (fun _ h => List.mem_cons_of_mem _ (List.mem_append_right _ h)) (by decide +kernel))
set_option maxRecDepth 20000 in
theorem gX3_release_X3_bitOfMatter : GoodIn wsX3_release (va_wsS RX3 138 yX3_bitOfMatter wsX3_bitOfMatter) := goodIn_app (goodIn_of _ (by decide +kernel)) ggX3_release_X3_bitOfMatter
set_option maxRecDepth 20000 in
theorem ggX3_release_Jx4a65c_size_8abf5 : GoodIn wsX3_release wsJx4a65c_size_8abf5 := goodIn_r _ [13, 14, 43, 44, 45] (by decide +kernel) (by decide +kernel)
set_option maxRecDepth 20000 in
theorem gX3_release_Jx4a65c_size_8abf5 : GoodIn wsX3_release (wsV RX3 43 RJx4a65c yJx4a65c_size_8abf5 wsJx4a65c_size_8abf5) := goodIn_app (goodIn_of _ (by decide +kernel)) ggX3_release_Jx4a65c_size_8abf5
set_option maxRecDepth 20000 in
theorem ggX3_release_Jx4a65c_get_915e3 : GoodIn wsX3_release wsJx4a65c_get_915e3 := goodIn_r _ [18, 14, 19, 20, 21, 22, 23, 24, 25, 26, 27, 28, 29, 12, 30, 31, 43, 44, 45] (by decide +kernel) (by decide +kernel)
set_option maxRecDepth 20000 in
theorem gX3_release_Jx4a65c_get_915e3 : GoodIn wsX3_release (wsV RX3 149 RJx4a65c yJx4a65c_get_915e3 wsJx4a65c_get_915e3) := goodIn_app (goodIn_of _ (by decide +kernel)) ggX3_release_Jx4a65c_get_915e3
set_option maxRecDepth 20000 in
theorem ggX3_release_X2_releaseFrom : GoodIn wsX3_release wsX2_releaseFrom := goodIn_r _ [36, 37, 38, 46, 47, 48, 49, 50, 51] (by decide +kernel) (by decide +kernel)
set_option maxRecDepth 20000 in
theorem gX3_release_X2_releaseFrom : GoodIn wsX3_release (wsV RX3 153 RX2 yX2_releaseFrom wsX2_releaseFrom) := goodIn_app (goodIn_of _ (by decide +kernel)) ggX3_release_X2_releaseFrom
theorem dX3_release_0 : decode cX3_release 0 = .ok (.iload_n 1, 1) := by decide +kernel
theorem dX3_release_1 : decode cX3_release 1 = .ok (.invokestatic 138, 3) := by decide +kernel
theorem dX3_release_4 : decode cX3_release 4 = .ok (.istore_n 2, 1) := by decide +kernel
theorem dX3_release_5 : decode cX3_release 5 = .ok (.iconst 0, 1) := by decide +kernel
theorem dX3_release_6 : decode cX3_release 6 = .ok (.istore_n 3, 1) := by decide +kernel
