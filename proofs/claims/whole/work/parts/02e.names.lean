theorem dX3_fund_36 : decode cX3_fund 36 = .ok (.dup, 1) := by decide +kernel
theorem dX3_fund_37 : decode cX3_fund 37 = .ok (.getfield 156, 3) := by decide +kernel
theorem dX3_fund_40 : decode cX3_fund 40 = .ok (.iload_n 2, 1) := by decide +kernel
theorem dX3_fund_41 : decode cX3_fund 41 = .ok (.iadd, 1) := by decide +kernel
theorem dX3_fund_42 : decode cX3_fund 42 = .ok (.putfield 156, 3) := by decide +kernel
theorem dX3_fund_45 : decode cX3_fund 45 = .ok (.aload_n 3, 1) := by decide +kernel
theorem dX3_fund_46 : decode cX3_fund 46 = .ok (.getfield 156, 3) := by decide +kernel
theorem dX3_fund_49 : decode cX3_fund 49 = .ok (.ireturn, 1) := by decide +kernel
set_option maxRecDepth 20000 in
theorem ggX3_pass_X3_requireBetween : GoodIn wsX3_pass wsX3_requireBetween := goodIn_ca (goodIn_r _ [7, 8, 9] (by decide +kernel) (by decide +kernel)) (goodIn_sub (fun _ h => List.mem_cons_of_mem _ (List.mem_append_right _ h)) (by decide +kernel))
set_option maxRecDepth 20000 in
theorem gX3_pass_X3_requireBetween : GoodIn wsX3_pass (va_wsS RX3 39 yX3_requireBetween wsX3_requireBetween) := goodIn_app (goodIn_of _ (by decide +kernel)) ggX3_pass_X3_requireBetween
set_option maxRecDepth 20000 in
theorem ggX3_pass_X3_payBills : GoodIn wsX3_pass wsX3_payBills := goodIn_r _ [13, 14, 15, 3, 16, 17, 18, 19, 20, 21, 22, 23, 24, 25, 26, 27, 28, 29, 30, 31, 32, 33, 34, 35, 36, 37, 38, 39, 40, 41, 42, 43, 44, 45, 46, 47, 48, 49, 50, 51, 52, 53, 54, 55, 56, 57, 58, 59, 60, 61, 62, 63, 64, 65, 66, 67, 68, 69, 70, 71, 72, 73, 74, 75, 76, 77, 78, 79, 80, 81, 82, 83, 84, 85, 86, 87, 88, 89, 90, 91, 92] (by decide +kernel) (by decide +kernel)
set_option maxRecDepth 20000 in
theorem gX3_pass_X3_payBills : GoodIn wsX3_pass (wsV RX3 164 RX3 yX3_payBills wsX3_payBills) := goodIn_app (goodIn_of _ (by decide +kernel)) ggX3_pass_X3_payBills
theorem dX3_pass_0 : decode cX3_pass 0 = .ok (.iconst 1, 1) := by decide +kernel
theorem dX3_pass_1 : decode cX3_pass 1 = .ok (.iload_n 1, 1) := by decide +kernel
theorem dX3_pass_2 : decode cX3_pass 2 = .ok (.bipush 100, 2) := by decide +kernel
theorem dX3_pass_4 : decode cX3_pass 4 = .ok (.invokestatic 39, 3) := by decide +kernel
theorem dX3_pass_7 : decode cX3_pass 7 = .ok (.aload_n 0, 1) := by decide +kernel
theorem dX3_pass_8 : decode cX3_pass 8 = .ok (.getfield 70, 3) := by decide +kernel
theorem dX3_pass_11 : decode cX3_pass 11 = .ok (.iload_n 1, 1) := by decide +kernel
theorem dX3_pass_12 : decode cX3_pass 12 = .ok (.iadd, 1) := by decide +kernel
theorem dX3_pass_13 : decode cX3_pass 13 = .ok (.sipush 10000, 3) := by decide +kernel
theorem dX3_pass_16 : decode cX3_pass 16 = .ok (.if_icmp .le 13, 3) := by decide +kernel
theorem dX3_pass_19 : decode cX3_pass 19 = .ok (.new 47, 3) := by decide +kernel
theorem dX3_pass_22 : decode cX3_pass 22 = .ok (.dup, 1) := by decide +kernel
theorem dX3_pass_23 : decode cX3_pass 23 = .ok (.ldc 162, 2) := by decide +kernel
theorem dX3_pass_25 : decode cX3_pass 25 = .ok (.invokespecial 51, 3) := by decide +kernel
theorem dX3_pass_28 : decode cX3_pass 28 = .ok (.athrow, 1) := by decide +kernel
theorem dX3_pass_29 : decode cX3_pass 29 = .ok (.iconst 0, 1) := by decide +kernel
theorem dX3_pass_30 : decode cX3_pass 30 = .ok (.istore_n 2, 1) := by decide +kernel
theorem dX3_pass_31 : decode cX3_pass 31 = .ok (.iconst 0, 1) := by decide +kernel
theorem dX3_pass_32 : decode cX3_pass 32 = .ok (.istore_n 3, 1) := by decide +kernel
theorem dX3_pass_33 : decode cX3_pass 33 = .ok (.iload_n 3, 1) := by decide +kernel
theorem dX3_pass_34 : decode cX3_pass 34 = .ok (.iload_n 1, 1) := by decide +kernel
theorem dX3_pass_35 : decode cX3_pass 35 = .ok (.if_icmp .ge 26, 3) := by decide +kernel
theorem dX3_pass_38 : decode cX3_pass 38 = .ok (.iload_n 2, 1) := by decide +kernel
theorem dX3_pass_39 : decode cX3_pass 39 = .ok (.aload_n 0, 1) := by decide +kernel
theorem dX3_pass_40 : decode cX3_pass 40 = .ok (.invokevirtual 164, 3) := by decide +kernel
theorem dX3_pass_43 : decode cX3_pass 43 = .ok (.iadd, 1) := by decide +kernel
theorem dX3_pass_44 : decode cX3_pass 44 = .ok (.istore_n 2, 1) := by decide +kernel
theorem dX3_pass_45 : decode cX3_pass 45 = .ok (.aload_n 0, 1) := by decide +kernel
theorem dX3_pass_46 : decode cX3_pass 46 = .ok (.dup, 1) := by decide +kernel
theorem dX3_pass_47 : decode cX3_pass 47 = .ok (.getfield 70, 3) := by decide +kernel
theorem dX3_pass_50 : decode cX3_pass 50 = .ok (.iconst 1, 1) := by decide +kernel
theorem dX3_pass_51 : decode cX3_pass 51 = .ok (.iadd, 1) := by decide +kernel
theorem dX3_pass_52 : decode cX3_pass 52 = .ok (.putfield 70, 3) := by decide +kernel
theorem dX3_pass_55 : decode cX3_pass 55 = .ok (.iinc 3 1, 3) := by decide +kernel
theorem dX3_pass_58 : decode cX3_pass 58 = .ok (.goto (-25), 3) := by decide +kernel
theorem dX3_pass_61 : decode cX3_pass 61 = .ok (.iload_n 2, 1) := by decide +kernel
theorem dX3_pass_62 : decode cX3_pass 62 = .ok (.ireturn, 1) := by decide +kernel
theorem dX3_day_0 : decode cX3_day 0 = .ok (.aload_n 0, 1) := by decide +kernel
theorem dX3_day_1 : decode cX3_day 1 = .ok (.getfield 70, 3) := by decide +kernel
theorem dX3_day_4 : decode cX3_day 4 = .ok (.ireturn, 1) := by decide +kernel
set_option maxRecDepth 20000 in
theorem ggX3_directories_Jx4a65c_size_8abf5 : GoodIn wsX3_directories wsJx4a65c_size_8abf5 := goodIn_r _ [6, 7, 12, 13, 14] (by decide +kernel) (by decide +kernel)
set_option maxRecDepth 20000 in
theorem gX3_directories_Jx4a65c_size_8abf5 : GoodIn wsX3_directories (wsV RX3 43 RJx4a65c yJx4a65c_size_8abf5 wsJx4a65c_size_8abf5) := goodIn_app (goodIn_of _ (by decide +kernel)) ggX3_directories_Jx4a65c_size_8abf5
theorem dX3_directories_0 : decode cX3_directories 0 = .ok (.aload_n 0, 1) := by decide +kernel
theorem dX3_directories_1 : decode cX3_directories 1 = .ok (.getfield 10, 3) := by decide +kernel
theorem dX3_directories_4 : decode cX3_directories 4 = .ok (.invokevirtual 43, 3) := by decide +kernel
theorem dX3_directories_7 : decode cX3_directories 7 = .ok (.ireturn, 1) := by decide +kernel
set_option maxRecDepth 20000 in
theorem ggX3_files_Jx4a65c_size_8abf5 : GoodIn wsX3_files wsJx4a65c_size_8abf5 := goodIn_r _ [6, 7, 12, 13, 14] (by decide +kernel) (by decide +kernel)
set_option maxRecDepth 20000 in
theorem gX3_files_Jx4a65c_size_8abf5 : GoodIn wsX3_files (wsV RX3 43 RJx4a65c yJx4a65c_size_8abf5 wsJx4a65c_size_8abf5) := goodIn_app (goodIn_of _ (by decide +kernel)) ggX3_files_Jx4a65c_size_8abf5
theorem dX3_files_0 : decode cX3_files 0 = .ok (.aload_n 0, 1) := by decide +kernel
theorem dX3_files_1 : decode cX3_files 1 = .ok (.getfield 16, 3) := by decide +kernel
theorem dX3_files_4 : decode cX3_files 4 = .ok (.invokevirtual 43, 3) := by decide +kernel
theorem dX3_files_7 : decode cX3_files 7 = .ok (.ireturn, 1) := by decide +kernel
set_option maxRecDepth 20000 in
theorem ggX3_usage_X3_directoryNumbered : GoodIn wsX3_usage wsX3_directoryNumbered := goodIn_ca (goodIn_r _ [6, 7, 8, 9, 10, 11, 12, 13, 14, 15, 16, 17, 18, 19, 20, 21, 22, 23, 24, 25, 26, 27, 28, 29, 30, 31, 32, 33, 38, 39, 40, 41, 42, 43, 44] (by decide +kernel) (by decide +kernel)) (goodIn_sub (fun _ h => List.mem_cons_of_mem _ (List.mem_append_right _ h)) (by decide +kernel))
set_option maxRecDepth 20000 in
theorem gX3_usage_X3_directoryNumbered : GoodIn wsX3_usage (wsV RX3 34 RX3 yX3_directoryNumbered wsX3_directoryNumbered) := goodIn_app (goodIn_of _ (by decide +kernel)) ggX3_usage_X3_directoryNumbered
theorem dX3_usage_0 : decode cX3_usage 0 = .ok (.aload_n 0, 1) := by decide +kernel
theorem dX3_usage_1 : decode cX3_usage 1 = .ok (.iload_n 1, 1) := by decide +kernel
theorem dX3_usage_2 : decode cX3_usage 2 = .ok (.invokevirtual 34, 3) := by decide +kernel
theorem dX3_usage_5 : decode cX3_usage 5 = .ok (.getfield 167, 3) := by decide +kernel
theorem dX3_usage_8 : decode cX3_usage 8 = .ok (.ireturn, 1) := by decide +kernel
set_option maxRecDepth 20000 in
theorem ggX3_usageByWalking_X3_directoryNumbered : GoodIn wsX3_usageByWalking wsX3_directoryNumbered := goodIn_ca (goodIn_r _ [8, 9, 10, 11, 12, 13, 14, 15, 16, 17, 18, 19, 20, 21, 22, 23, 24, 25, 26, 27, 28, 29, 30, 31, 32, 33, 34, 35, 54, 55, 56, 57, 64, 65, 66] (by decide +kernel) (by decide +kernel)) (goodIn_sub (fun _ h => List.mem_cons_of_mem _ (List.mem_append_right _ h)) (by decide +kernel))
set_option maxRecDepth 20000 in
theorem gX3_usageByWalking_X3_directoryNumbered : GoodIn wsX3_usageByWalking (wsV RX3 34 RX3 yX3_directoryNumbered wsX3_directoryNumbered) := goodIn_app (goodIn_of _ (by decide +kernel)) ggX3_usageByWalking_X3_directoryNumbered
set_option maxRecDepth 20000 in
theorem ggX3_usageByWalking_Jx4a65c_size_8abf5 : GoodIn wsX3_usageByWalking wsJx4a65c_size_8abf5 := goodIn_r _ [17, 18, 64, 65, 66] (by decide +kernel) (by decide +kernel)
set_option maxRecDepth 20000 in
theorem gX3_usageByWalking_Jx4a65c_size_8abf5 : GoodIn wsX3_usageByWalking (wsV RX3 43 RJx4a65c yJx4a65c_size_8abf5 wsJx4a65c_size_8abf5) := goodIn_app (goodIn_of _ (by decide +kernel)) ggX3_usageByWalking_Jx4a65c_size_8abf5
set_option maxRecDepth 20000 in
theorem ggX3_usageByWalking_Jx4a65c_get_915e3 : GoodIn wsX3_usageByWalking wsJx4a65c_get_915e3 := goodIn_r _ [22, 18, 23, 24, 25, 26, 27, 28, 29, 30, 31, 32, 33, 16, 34, 35, 64, 65, 66] (by decide +kernel) (by decide +kernel)
set_option maxRecDepth 20000 in
theorem gX3_usageByWalking_Jx4a65c_get_915e3 : GoodIn wsX3_usageByWalking (wsV RX3 149 RJx4a65c yJx4a65c_get_915e3 wsJx4a65c_get_915e3) := goodIn_app (goodIn_of _ (by decide +kernel)) ggX3_usageByWalking_Jx4a65c_get_915e3
set_option maxRecDepth 20000 in
theorem ggX3_usageByWalking_X2_firstLink : GoodIn wsX3_usageByWalking wsX2_firstLink := goodIn_r _ [40, 41, 42, 43, 44, 45, 16, 46, 18, 47, 20, 21, 22, 23, 24, 25, 26, 27, 28, 29, 30, 31, 32, 33, 34, 35, 58, 59, 60, 61, 62, 63, 64, 65, 66] (by decide +kernel) (by decide +kernel)
set_option maxRecDepth 20000 in
theorem gX3_usageByWalking_X2_firstLink : GoodIn wsX3_usageByWalking (wsV RX3 100 RX2 yX2_firstLink wsX2_firstLink) := goodIn_app (goodIn_of _ (by decide +kernel)) ggX3_usageByWalking_X2_firstLink
set_option maxRecDepth 20000 in
theorem ggX3_usageByWalking_X1_hasOnItsWay : GoodIn wsX3_usageByWalking wsX1_hasOnItsWay := goodIn_r _ [52, 53, 67, 68, 69, 70] (by decide +kernel) (by decide +kernel)
set_option maxRecDepth 20000 in
theorem gX3_usageByWalking_X1_hasOnItsWay : GoodIn wsX3_usageByWalking (wsV RX3 170 RX1 yX1_hasOnItsWay wsX1_hasOnItsWay) := goodIn_app (goodIn_of _ (by decide +kernel)) ggX3_usageByWalking_X1_hasOnItsWay
theorem dX3_usageByWalking_0 : decode cX3_usageByWalking 0 = .ok (.aload_n 0, 1) := by decide +kernel
theorem dX3_usageByWalking_1 : decode cX3_usageByWalking 1 = .ok (.iload_n 1, 1) := by decide +kernel
theorem dX3_usageByWalking_2 : decode cX3_usageByWalking 2 = .ok (.invokevirtual 34, 3) := by decide +kernel
theorem dX3_usageByWalking_5 : decode cX3_usageByWalking 5 = .ok (.astore_n 2, 1) := by decide +kernel
theorem dX3_usageByWalking_6 : decode cX3_usageByWalking 6 = .ok (.iconst 0, 1) := by decide +kernel
theorem dX3_usageByWalking_7 : decode cX3_usageByWalking 7 = .ok (.istore_n 3, 1) := by decide +kernel
theorem dX3_usageByWalking_8 : decode cX3_usageByWalking 8 = .ok (.iconst 0, 1) := by decide +kernel
theorem dX3_usageByWalking_9 : decode cX3_usageByWalking 9 = .ok (.istore 4, 2) := by decide +kernel
theorem dX3_usageByWalking_11 : decode cX3_usageByWalking 11 = .ok (.iload 4, 2) := by decide +kernel
theorem dX3_usageByWalking_13 : decode cX3_usageByWalking 13 = .ok (.aload_n 0, 1) := by decide +kernel
theorem dX3_usageByWalking_14 : decode cX3_usageByWalking 14 = .ok (.getfield 16, 3) := by decide +kernel
theorem dX3_usageByWalking_17 : decode cX3_usageByWalking 17 = .ok (.invokevirtual 43, 3) := by decide +kernel
theorem dX3_usageByWalking_20 : decode cX3_usageByWalking 20 = .ok (.if_icmp .ge 52, 3) := by decide +kernel
theorem dX3_usageByWalking_23 : decode cX3_usageByWalking 23 = .ok (.aload_n 0, 1) := by decide +kernel
theorem dX3_usageByWalking_24 : decode cX3_usageByWalking 24 = .ok (.getfield 16, 3) := by decide +kernel
theorem dX3_usageByWalking_27 : decode cX3_usageByWalking 27 = .ok (.iload 4, 2) := by decide +kernel
theorem dX3_usageByWalking_29 : decode cX3_usageByWalking 29 = .ok (.invokevirtual 149, 3) := by decide +kernel
theorem dX3_usageByWalking_32 : decode cX3_usageByWalking 32 = .ok (.checkcast 68, 3) := by decide +kernel
theorem dX3_usageByWalking_35 : decode cX3_usageByWalking 35 = .ok (.astore 5, 2) := by decide +kernel
theorem dX3_usageByWalking_37 : decode cX3_usageByWalking 37 = .ok (.aload 5, 2) := by decide +kernel
theorem dX3_usageByWalking_39 : decode cX3_usageByWalking 39 = .ok (.invokevirtual 100, 3) := by decide +kernel
theorem dX3_usageByWalking_42 : decode cX3_usageByWalking 42 = .ok (.astore 6, 2) := by decide +kernel
theorem dX3_usageByWalking_44 : decode cX3_usageByWalking 44 = .ok (.aload 6, 2) := by decide +kernel
theorem dX3_usageByWalking_46 : decode cX3_usageByWalking 46 = .ok (.ifnull 20, 3) := by decide +kernel
theorem dX3_usageByWalking_49 : decode cX3_usageByWalking 49 = .ok (.aload 6, 2) := by decide +kernel
theorem dX3_usageByWalking_51 : decode cX3_usageByWalking 51 = .ok (.aload_n 2, 1) := by decide +kernel
theorem dX3_usageByWalking_52 : decode cX3_usageByWalking 52 = .ok (.invokevirtual 170, 3) := by decide +kernel
theorem dX3_usageByWalking_55 : decode cX3_usageByWalking 55 = .ok (.ifCond .eq 11, 3) := by decide +kernel
theorem dX3_usageByWalking_58 : decode cX3_usageByWalking 58 = .ok (.iload_n 3, 1) := by decide +kernel
theorem dX3_usageByWalking_59 : decode cX3_usageByWalking 59 = .ok (.aload 5, 2) := by decide +kernel
theorem dX3_usageByWalking_61 : decode cX3_usageByWalking 61 = .ok (.getfield 110, 3) := by decide +kernel
theorem dX3_usageByWalking_64 : decode cX3_usageByWalking 64 = .ok (.iadd, 1) := by decide +kernel
theorem dX3_usageByWalking_65 : decode cX3_usageByWalking 65 = .ok (.istore_n 3, 1) := by decide +kernel
theorem dX3_usageByWalking_66 : decode cX3_usageByWalking 66 = .ok (.iinc 4 1, 3) := by decide +kernel
theorem dX3_usageByWalking_69 : decode cX3_usageByWalking 69 = .ok (.goto (-58), 3) := by decide +kernel
theorem dX3_usageByWalking_72 : decode cX3_usageByWalking 72 = .ok (.iload_n 3, 1) := by decide +kernel
theorem dX3_usageByWalking_73 : decode cX3_usageByWalking 73 = .ok (.ireturn, 1) := by decide +kernel
set_option maxRecDepth 20000 in
theorem ggX3_size_X3_fileNumbered : GoodIn wsX3_size wsX3_fileNumbered := goodIn_ca (goodIn_r _ [6, 7, 8, 9, 10, 11, 12, 13, 14, 15, 16, 17, 18, 19, 20, 21, 22, 23, 24, 25, 26, 27, 28, 29, 30, 31, 32, 33, 40, 41, 42, 43, 44, 45, 46] (by decide +kernel) (by decide +kernel)) (goodIn_sub (fun _ h => List.mem_cons_of_mem _ (List.mem_append_right _ h)) (by decide +kernel))
set_option maxRecDepth 20000 in
theorem gX3_size_X3_fileNumbered : GoodIn wsX3_size (wsV RX3 86 RX3 yX3_fileNumbered wsX3_fileNumbered) := goodIn_app (goodIn_of _ (by decide +kernel)) ggX3_size_X3_fileNumbered
theorem dX3_size_0 : decode cX3_size 0 = .ok (.aload_n 0, 1) := by decide +kernel
theorem dX3_size_1 : decode cX3_size 1 = .ok (.iload_n 1, 1) := by decide +kernel
theorem dX3_size_2 : decode cX3_size 2 = .ok (.invokevirtual 86, 3) := by decide +kernel
theorem dX3_size_5 : decode cX3_size 5 = .ok (.getfield 110, 3) := by decide +kernel
theorem dX3_size_8 : decode cX3_size 8 = .ok (.ireturn, 1) := by decide +kernel
set_option maxRecDepth 20000 in
theorem ggX3_home_X3_fileNumbered : GoodIn wsX3_home wsX3_fileNumbered := goodIn_ca (goodIn_r _ [6, 7, 8, 9, 10, 11, 12, 13, 14, 15, 16, 17, 18, 19, 20, 21, 22, 23, 24, 25, 26, 27, 28, 29, 30, 31, 32, 33, 50, 51, 52, 53, 54, 55, 56] (by decide +kernel) (by decide +kernel)) (goodIn_sub (fun _ h => List.mem_cons_of_mem _ (List.mem_append_right _ h)) (by decide +kernel))
set_option maxRecDepth 20000 in
theorem gX3_home_X3_fileNumbered : GoodIn wsX3_home (wsV RX3 86 RX3 yX3_fileNumbered wsX3_fileNumbered) := goodIn_app (goodIn_of _ (by decide +kernel)) ggX3_home_X3_fileNumbered
set_option maxRecDepth 20000 in
theorem ggX3_home_X2_firstLink : GoodIn wsX3_home wsX2_firstLink := goodIn_r _ [38, 39, 40, 41, 42, 43, 14, 44, 16, 45, 18, 19, 20, 21, 22, 23, 24, 25, 26, 27, 28, 29, 30, 31, 32, 33, 57, 58, 59, 60, 61, 62, 54, 55, 56] (by decide +kernel) (by decide +kernel)
set_option maxRecDepth 20000 in
theorem gX3_home_X2_firstLink : GoodIn wsX3_home (wsV RX3 100 RX2 yX2_firstLink wsX2_firstLink) := goodIn_app (goodIn_of _ (by decide +kernel)) ggX3_home_X2_firstLink
theorem dX3_home_0 : decode cX3_home 0 = .ok (.aload_n 0, 1) := by decide +kernel
theorem dX3_home_1 : decode cX3_home 1 = .ok (.iload_n 1, 1) := by decide +kernel
theorem dX3_home_2 : decode cX3_home 2 = .ok (.invokevirtual 86, 3) := by decide +kernel
theorem dX3_home_5 : decode cX3_home 5 = .ok (.invokevirtual 100, 3) := by decide +kernel
theorem dX3_home_8 : decode cX3_home 8 = .ok (.astore_n 2, 1) := by decide +kernel
theorem dX3_home_9 : decode cX3_home 9 = .ok (.aload_n 2, 1) := by decide +kernel
theorem dX3_home_10 : decode cX3_home 10 = .ok (.ifnonnull 7, 3) := by decide +kernel
theorem dX3_home_13 : decode cX3_home 13 = .ok (.iconst (-1), 1) := by decide +kernel
theorem dX3_home_14 : decode cX3_home 14 = .ok (.goto 7, 3) := by decide +kernel
theorem dX3_home_17 : decode cX3_home 17 = .ok (.aload_n 2, 1) := by decide +kernel
theorem dX3_home_18 : decode cX3_home 18 = .ok (.getfield 173, 3) := by decide +kernel
theorem dX3_home_21 : decode cX3_home 21 = .ok (.ireturn, 1) := by decide +kernel
set_option maxRecDepth 20000 in
theorem ggX3_kept_X3_fileNumbered : GoodIn wsX3_kept wsX3_fileNumbered := goodIn_ca (goodIn_r _ [6, 7, 8, 9, 10, 11, 12, 13, 14, 15, 16, 17, 18, 19, 20, 21, 22, 23, 24, 25, 26, 27, 28, 29, 30, 31, 32, 33, 40, 41, 42, 43, 44, 45, 46] (by decide +kernel) (by decide +kernel)) (goodIn_sub (fun _ h => List.mem_cons_of_mem _ (List.mem_append_right _ h)) (by decide +kernel))
set_option maxRecDepth 20000 in
theorem gX3_kept_X3_fileNumbered : GoodIn wsX3_kept (wsV RX3 86 RX3 yX3_fileNumbered wsX3_fileNumbered) := goodIn_app (goodIn_of _ (by decide +kernel)) ggX3_kept_X3_fileNumbered
theorem dX3_kept_0 : decode cX3_kept 0 = .ok (.aload_n 0, 1) := by decide +kernel
theorem dX3_kept_1 : decode cX3_kept 1 = .ok (.iload_n 1, 1) := by decide +kernel
theorem dX3_kept_2 : decode cX3_kept 2 = .ok (.invokevirtual 86, 3) := by decide +kernel
theorem dX3_kept_5 : decode cX3_kept 5 = .ok (.getfield 128, 3) := by decide +kernel
theorem dX3_kept_8 : decode cX3_kept 8 = .ok (.ireturn, 1) := by decide +kernel
set_option maxRecDepth 20000 in
theorem ggX3_holders_X3_fileNumbered : GoodIn wsX3_holders wsX3_fileNumbered := goodIn_ca (goodIn_r _ [6, 7, 8, 9, 10, 11, 12, 13, 14, 15, 16, 17, 18, 19, 20, 21, 22, 23, 24, 25, 26, 27, 28, 29, 30, 31, 32, 33, 40, 41, 42, 43, 44, 45, 46] (by decide +kernel) (by decide +kernel)) (goodIn_sub (fun _ h => List.mem_cons_of_mem _ (List.mem_append_right _ h)) (by decide +kernel))
set_option maxRecDepth 20000 in
theorem gX3_holders_X3_fileNumbered : GoodIn wsX3_holders (wsV RX3 86 RX3 yX3_fileNumbered wsX3_fileNumbered) := goodIn_app (goodIn_of _ (by decide +kernel)) ggX3_holders_X3_fileNumbered
theorem dX3_holders_0 : decode cX3_holders 0 = .ok (.aload_n 0, 1) := by decide +kernel
theorem dX3_holders_1 : decode cX3_holders 1 = .ok (.iload_n 1, 1) := by decide +kernel
theorem dX3_holders_2 : decode cX3_holders 2 = .ok (.invokevirtual 86, 3) := by decide +kernel
theorem dX3_holders_5 : decode cX3_holders 5 = .ok (.getfield 141, 3) := by decide +kernel
theorem dX3_holders_8 : decode cX3_holders 8 = .ok (.ireturn, 1) := by decide +kernel
set_option maxRecDepth 20000 in
theorem ggX3_tier_X3_fileNumbered : GoodIn wsX3_tier wsX3_fileNumbered := goodIn_ca (goodIn_r _ [6, 7, 8, 9, 10, 11, 12, 13, 14, 15, 16, 17, 18, 19, 20, 21, 22, 23, 24, 25, 26, 27, 28, 29, 30, 31, 32, 33, 53, 54, 55, 56, 57, 58, 59] (by decide +kernel) (by decide +kernel)) (goodIn_sub (fun _ h => List.mem_cons_of_mem _ (List.mem_append_right _ h)) (by decide +kernel))
set_option maxRecDepth 20000 in
theorem gX3_tier_X3_fileNumbered : GoodIn wsX3_tier (wsV RX3 86 RX3 yX3_fileNumbered wsX3_fileNumbered) := goodIn_app (goodIn_of _ (by decide +kernel)) ggX3_tier_X3_fileNumbered
set_option maxRecDepth 20000 in
theorem ggX3_tier_X2_tierOn : GoodIn wsX3_tier wsX2_tierOn := goodIn_r _ [38, 39, 40, 41, 42, 37, 43, 44, 45, 46, 47, 14, 48, 16, 49, 50, 51, 52, 60, 61, 62, 63, 64, 65, 57, 58, 59] (by decide +kernel) (by decide +kernel)
set_option maxRecDepth 20000 in
theorem gX3_tier_X2_tierOn : GoodIn wsX3_tier (wsV RX3 115 RX2 yX2_tierOn wsX2_tierOn) := goodIn_app (goodIn_of _ (by decide +kernel)) ggX3_tier_X2_tierOn
theorem dX3_tier_0 : decode cX3_tier 0 = .ok (.aload_n 0, 1) := by decide +kernel
theorem dX3_tier_1 : decode cX3_tier 1 = .ok (.iload_n 1, 1) := by decide +kernel
theorem dX3_tier_2 : decode cX3_tier 2 = .ok (.invokevirtual 86, 3) := by decide +kernel
theorem dX3_tier_5 : decode cX3_tier 5 = .ok (.aload_n 0, 1) := by decide +kernel
theorem dX3_tier_6 : decode cX3_tier 6 = .ok (.getfield 70, 3) := by decide +kernel
theorem dX3_tier_9 : decode cX3_tier 9 = .ok (.invokevirtual 115, 3) := by decide +kernel
theorem dX3_tier_12 : decode cX3_tier 12 = .ok (.ireturn, 1) := by decide +kernel
set_option maxRecDepth 20000 in
theorem ggX3_coins_X3_departmentNumbered : GoodIn wsX3_coins wsX3_departmentNumbered := goodIn_ca (goodIn_r _ [6, 7, 8, 9, 10, 11, 12, 13, 14, 15, 16, 17, 18, 19, 20, 21, 22, 23, 24, 25, 26, 27, 28, 29, 30, 31, 32, 33, 36, 37, 38, 39, 40, 41, 42] (by decide +kernel) (by decide +kernel)) (goodIn_sub (fun _ h => List.mem_cons_of_mem _ (List.mem_append_right _ h)) (by decide +kernel))
set_option maxRecDepth 20000 in
theorem gX3_coins_X3_departmentNumbered : GoodIn wsX3_coins (wsV RX3 58 RX3 yX3_departmentNumbered wsX3_departmentNumbered) := goodIn_app (goodIn_of _ (by decide +kernel)) ggX3_coins_X3_departmentNumbered
theorem dX3_coins_0 : decode cX3_coins 0 = .ok (.aload_n 0, 1) := by decide +kernel
theorem dX3_coins_1 : decode cX3_coins 1 = .ok (.iload_n 1, 1) := by decide +kernel
theorem dX3_coins_2 : decode cX3_coins 2 = .ok (.invokevirtual 58, 3) := by decide +kernel
theorem dX3_coins_5 : decode cX3_coins 5 = .ok (.getfield 156, 3) := by decide +kernel
theorem dX3_coins_8 : decode cX3_coins 8 = .ok (.ireturn, 1) := by decide +kernel
set_option maxRecDepth 20000 in
theorem ggX3_bill_X3_departmentNumbered : GoodIn wsX3_bill wsX3_departmentNumbered := goodIn_ca (goodIn_r _ [6, 7, 8, 9, 10, 11, 12, 13, 14, 15, 16, 17, 18, 19, 20, 21, 22, 23, 24, 25, 26, 27, 28, 29, 30, 31, 32, 33, 68, 69, 70, 71, 72, 73, 74] (by decide +kernel) (by decide +kernel)) (goodIn_sub (fun _ h => List.mem_cons_of_mem _ (List.mem_append_right _ h)) (by decide +kernel))
set_option maxRecDepth 20000 in
theorem gX3_bill_X3_departmentNumbered : GoodIn wsX3_bill (wsV RX3 58 RX3 yX3_departmentNumbered wsX3_departmentNumbered) := goodIn_app (goodIn_of _ (by decide +kernel)) ggX3_bill_X3_departmentNumbered
set_option maxRecDepth 20000 in
theorem ggX3_bill_X0_billOn : GoodIn wsX3_bill wsX0_billOn := goodIn_r _ [38, 39, 40, 41, 12, 13, 14, 15, 16, 42, 18, 19, 20, 21, 22, 23, 24, 25, 26, 27, 28, 29, 30, 31, 32, 33, 43, 44, 45, 46, 47, 48, 49, 50, 51, 52, 53, 54, 55, 56, 57, 58, 59, 60, 61, 62, 63, 64, 65, 66, 67, 75, 76, 72, 73, 74, 77, 78, 79, 80, 81, 82] (by decide +kernel) (by decide +kernel)
set_option maxRecDepth 20000 in
theorem gX3_bill_X0_billOn : GoodIn wsX3_bill (wsV RX3 176 RX0 yX0_billOn wsX0_billOn) := goodIn_app (goodIn_of _ (by decide +kernel)) ggX3_bill_X0_billOn
theorem dX3_bill_0 : decode cX3_bill 0 = .ok (.aload_n 0, 1) := by decide +kernel
theorem dX3_bill_1 : decode cX3_bill 1 = .ok (.iload_n 1, 1) := by decide +kernel
theorem dX3_bill_2 : decode cX3_bill 2 = .ok (.invokevirtual 58, 3) := by decide +kernel
theorem dX3_bill_5 : decode cX3_bill 5 = .ok (.aload_n 0, 1) := by decide +kernel
theorem dX3_bill_6 : decode cX3_bill 6 = .ok (.getfield 70, 3) := by decide +kernel
theorem dX3_bill_9 : decode cX3_bill 9 = .ok (.invokevirtual 176, 3) := by decide +kernel
theorem dX3_bill_12 : decode cX3_bill 12 = .ok (.ireturn, 1) := by decide +kernel
set_option maxRecDepth 20000 in
theorem ggX3_directoryNumbered_Jx4a65c_size_8abf5 : GoodIn wsX3_directoryNumbered wsJx4a65c_size_8abf5 := goodIn_r _ [9, 10, 32, 33, 34] (by decide +kernel) (by decide +kernel)
set_option maxRecDepth 20000 in
theorem gX3_directoryNumbered_Jx4a65c_size_8abf5 : GoodIn wsX3_directoryNumbered (wsV RX3 43 RJx4a65c yJx4a65c_size_8abf5 wsJx4a65c_size_8abf5) := goodIn_app (goodIn_of _ (by decide +kernel)) ggX3_directoryNumbered_Jx4a65c_size_8abf5
set_option maxRecDepth 20000 in
theorem ggX3_directoryNumbered_Jx4a65c_get_915e3 : GoodIn wsX3_directoryNumbered wsJx4a65c_get_915e3 := goodIn_r _ [14, 10, 15, 16, 17, 18, 19, 20, 21, 22, 23, 24, 25, 8, 26, 27, 32, 33, 34] (by decide +kernel) (by decide +kernel)
set_option maxRecDepth 20000 in
theorem gX3_directoryNumbered_Jx4a65c_get_915e3 : GoodIn wsX3_directoryNumbered (wsV RX3 149 RJx4a65c yJx4a65c_get_915e3 wsJx4a65c_get_915e3) := goodIn_app (goodIn_of _ (by decide +kernel)) ggX3_directoryNumbered_Jx4a65c_get_915e3
theorem dX3_directoryNumbered_0 : decode cX3_directoryNumbered 0 = .ok (.iload_n 1, 1) := by decide +kernel
theorem dX3_directoryNumbered_1 : decode cX3_directoryNumbered 1 = .ok (.ifCond .lt 14, 3) := by decide +kernel
theorem dX3_directoryNumbered_4 : decode cX3_directoryNumbered 4 = .ok (.iload_n 1, 1) := by decide +kernel
theorem dX3_directoryNumbered_5 : decode cX3_directoryNumbered 5 = .ok (.aload_n 0, 1) := by decide +kernel
theorem dX3_directoryNumbered_6 : decode cX3_directoryNumbered 6 = .ok (.getfield 10, 3) := by decide +kernel
theorem dX3_directoryNumbered_9 : decode cX3_directoryNumbered 9 = .ok (.invokevirtual 43, 3) := by decide +kernel
theorem dX3_directoryNumbered_12 : decode cX3_directoryNumbered 12 = .ok (.if_icmp .lt 13, 3) := by decide +kernel
theorem dX3_directoryNumbered_15 : decode cX3_directoryNumbered 15 = .ok (.new 179, 3) := by decide +kernel
theorem dX3_directoryNumbered_18 : decode cX3_directoryNumbered 18 = .ok (.dup, 1) := by decide +kernel
theorem dX3_directoryNumbered_19 : decode cX3_directoryNumbered 19 = .ok (.ldc 181, 2) := by decide +kernel
theorem dX3_directoryNumbered_21 : decode cX3_directoryNumbered 21 = .ok (.invokespecial 183, 3) := by decide +kernel
theorem dX3_directoryNumbered_24 : decode cX3_directoryNumbered 24 = .ok (.athrow, 1) := by decide +kernel
theorem dX3_directoryNumbered_25 : decode cX3_directoryNumbered 25 = .ok (.aload_n 0, 1) := by decide +kernel
theorem dX3_directoryNumbered_26 : decode cX3_directoryNumbered 26 = .ok (.getfield 10, 3) := by decide +kernel
theorem dX3_directoryNumbered_29 : decode cX3_directoryNumbered 29 = .ok (.iload_n 1, 1) := by decide +kernel
theorem dX3_directoryNumbered_30 : decode cX3_directoryNumbered 30 = .ok (.invokevirtual 149, 3) := by decide +kernel
theorem dX3_directoryNumbered_33 : decode cX3_directoryNumbered 33 = .ok (.checkcast 22, 3) := by decide +kernel
theorem dX3_directoryNumbered_36 : decode cX3_directoryNumbered 36 = .ok (.areturn, 1) := by decide +kernel
set_option maxRecDepth 20000 in
theorem ggX3_fileNumbered_Jx4a65c_size_8abf5 : GoodIn wsX3_fileNumbered wsJx4a65c_size_8abf5 := goodIn_r _ [9, 10, 32, 33, 34] (by decide +kernel) (by decide +kernel)
set_option maxRecDepth 20000 in
theorem gX3_fileNumbered_Jx4a65c_size_8abf5 : GoodIn wsX3_fileNumbered (wsV RX3 43 RJx4a65c yJx4a65c_size_8abf5 wsJx4a65c_size_8abf5) := goodIn_app (goodIn_of _ (by decide +kernel)) ggX3_fileNumbered_Jx4a65c_size_8abf5
set_option maxRecDepth 20000 in
theorem ggX3_fileNumbered_Jx4a65c_get_915e3 : GoodIn wsX3_fileNumbered wsJx4a65c_get_915e3 := goodIn_r _ [14, 10, 15, 16, 17, 18, 19, 20, 21, 22, 23, 24, 25, 8, 26, 27, 32, 33, 34] (by decide +kernel) (by decide +kernel)
set_option maxRecDepth 20000 in
theorem gX3_fileNumbered_Jx4a65c_get_915e3 : GoodIn wsX3_fileNumbered (wsV RX3 149 RJx4a65c yJx4a65c_get_915e3 wsJx4a65c_get_915e3) := goodIn_app (goodIn_of _ (by decide +kernel)) ggX3_fileNumbered_Jx4a65c_get_915e3
theorem dX3_fileNumbered_0 : decode cX3_fileNumbered 0 = .ok (.iload_n 1, 1) := by decide +kernel
theorem dX3_fileNumbered_1 : decode cX3_fileNumbered 1 = .ok (.ifCond .lt 14, 3) := by decide +kernel
theorem dX3_fileNumbered_4 : decode cX3_fileNumbered 4 = .ok (.iload_n 1, 1) := by decide +kernel
theorem dX3_fileNumbered_5 : decode cX3_fileNumbered 5 = .ok (.aload_n 0, 1) := by decide +kernel
theorem dX3_fileNumbered_6 : decode cX3_fileNumbered 6 = .ok (.getfield 16, 3) := by decide +kernel
theorem dX3_fileNumbered_9 : decode cX3_fileNumbered 9 = .ok (.invokevirtual 43, 3) := by decide +kernel
theorem dX3_fileNumbered_12 : decode cX3_fileNumbered 12 = .ok (.if_icmp .lt 13, 3) := by decide +kernel
theorem dX3_fileNumbered_15 : decode cX3_fileNumbered 15 = .ok (.new 179, 3) := by decide +kernel
theorem dX3_fileNumbered_18 : decode cX3_fileNumbered 18 = .ok (.dup, 1) := by decide +kernel
theorem dX3_fileNumbered_19 : decode cX3_fileNumbered 19 = .ok (.ldc 184, 2) := by decide +kernel
theorem dX3_fileNumbered_21 : decode cX3_fileNumbered 21 = .ok (.invokespecial 183, 3) := by decide +kernel
theorem dX3_fileNumbered_24 : decode cX3_fileNumbered 24 = .ok (.athrow, 1) := by decide +kernel
theorem dX3_fileNumbered_25 : decode cX3_fileNumbered 25 = .ok (.aload_n 0, 1) := by decide +kernel
theorem dX3_fileNumbered_26 : decode cX3_fileNumbered 26 = .ok (.getfield 16, 3) := by decide +kernel
theorem dX3_fileNumbered_29 : decode cX3_fileNumbered 29 = .ok (.iload_n 1, 1) := by decide +kernel
theorem dX3_fileNumbered_30 : decode cX3_fileNumbered 30 = .ok (.invokevirtual 149, 3) := by decide +kernel
theorem dX3_fileNumbered_33 : decode cX3_fileNumbered 33 = .ok (.checkcast 68, 3) := by decide +kernel
theorem dX3_fileNumbered_36 : decode cX3_fileNumbered 36 = .ok (.areturn, 1) := by decide +kernel
set_option maxRecDepth 20000 in
theorem ggX3_departmentNumbered_Jx4a65c_size_8abf5 : GoodIn wsX3_departmentNumbered wsJx4a65c_size_8abf5 := goodIn_r _ [9, 10, 32, 33, 34] (by decide +kernel) (by decide +kernel)
set_option maxRecDepth 20000 in
theorem gX3_departmentNumbered_Jx4a65c_size_8abf5 : GoodIn wsX3_departmentNumbered (wsV RX3 43 RJx4a65c yJx4a65c_size_8abf5 wsJx4a65c_size_8abf5) := goodIn_app (goodIn_of _ (by decide +kernel)) ggX3_departmentNumbered_Jx4a65c_size_8abf5
set_option maxRecDepth 20000 in
theorem ggX3_departmentNumbered_Jx4a65c_get_915e3 : GoodIn wsX3_departmentNumbered wsJx4a65c_get_915e3 := goodIn_r _ [14, 10, 15, 16, 17, 18, 19, 20, 21, 22, 23, 24, 25, 8, 26, 27, 32, 33, 34] (by decide +kernel) (by decide +kernel)
set_option maxRecDepth 20000 in
theorem gX3_departmentNumbered_Jx4a65c_get_915e3 : GoodIn wsX3_departmentNumbered (wsV RX3 149 RJx4a65c yJx4a65c_get_915e3 wsJx4a65c_get_915e3) := goodIn_app (goodIn_of _ (by decide +kernel)) ggX3_departmentNumbered_Jx4a65c_get_915e3
theorem dX3_departmentNumbered_0 : decode cX3_departmentNumbered 0 = .ok (.iload_n 1, 1) := by decide +kernel
theorem dX3_departmentNumbered_1 : decode cX3_departmentNumbered 1 = .ok (.ifCond .lt 14, 3) := by decide +kernel
theorem dX3_departmentNumbered_4 : decode cX3_departmentNumbered 4 = .ok (.iload_n 1, 1) := by decide +kernel
theorem dX3_departmentNumbered_5 : decode cX3_departmentNumbered 5 = .ok (.aload_n 0, 1) := by decide +kernel
theorem dX3_departmentNumbered_6 : decode cX3_departmentNumbered 6 = .ok (.getfield 19, 3) := by decide +kernel
theorem dX3_departmentNumbered_9 : decode cX3_departmentNumbered 9 = .ok (.invokevirtual 43, 3) := by decide +kernel
theorem dX3_departmentNumbered_12 : decode cX3_departmentNumbered 12 = .ok (.if_icmp .lt 13, 3) := by decide +kernel
theorem dX3_departmentNumbered_15 : decode cX3_departmentNumbered 15 = .ok (.new 179, 3) := by decide +kernel
theorem dX3_departmentNumbered_18 : decode cX3_departmentNumbered 18 = .ok (.dup, 1) := by decide +kernel
theorem dX3_departmentNumbered_19 : decode cX3_departmentNumbered 19 = .ok (.ldc 186, 2) := by decide +kernel
theorem dX3_departmentNumbered_21 : decode cX3_departmentNumbered 21 = .ok (.invokespecial 183, 3) := by decide +kernel
theorem dX3_departmentNumbered_24 : decode cX3_departmentNumbered 24 = .ok (.athrow, 1) := by decide +kernel
theorem dX3_departmentNumbered_25 : decode cX3_departmentNumbered 25 = .ok (.aload_n 0, 1) := by decide +kernel
theorem dX3_departmentNumbered_26 : decode cX3_departmentNumbered 26 = .ok (.getfield 19, 3) := by decide +kernel
theorem dX3_departmentNumbered_29 : decode cX3_departmentNumbered 29 = .ok (.iload_n 1, 1) := by decide +kernel
theorem dX3_departmentNumbered_30 : decode cX3_departmentNumbered 30 = .ok (.invokevirtual 149, 3) := by decide +kernel
theorem dX3_departmentNumbered_33 : decode cX3_departmentNumbered 33 = .ok (.checkcast 31, 3) := by decide +kernel
theorem dX3_departmentNumbered_36 : decode cX3_departmentNumbered 36 = .ok (.areturn, 1) := by decide +kernel
theorem dX3_bitOfMatter_0 : decode cX3_bitOfMatter 0 = .ok (.iload_n 0, 1) := by decide +kernel
theorem dX3_bitOfMatter_1 : decode cX3_bitOfMatter 1 = .ok (.ifCond .lt 8, 3) := by decide +kernel
theorem dX3_bitOfMatter_4 : decode cX3_bitOfMatter 4 = .ok (.iload_n 0, 1) := by decide +kernel
theorem dX3_bitOfMatter_5 : decode cX3_bitOfMatter 5 = .ok (.iconst 5, 1) := by decide +kernel
theorem dX3_bitOfMatter_6 : decode cX3_bitOfMatter 6 = .ok (.if_icmp .lt 13, 3) := by decide +kernel
theorem dX3_bitOfMatter_9 : decode cX3_bitOfMatter 9 = .ok (.new 179, 3) := by decide +kernel
theorem dX3_bitOfMatter_12 : decode cX3_bitOfMatter 12 = .ok (.dup, 1) := by decide +kernel
theorem dX3_bitOfMatter_13 : decode cX3_bitOfMatter 13 = .ok (.ldc 188, 2) := by decide +kernel
theorem dX3_bitOfMatter_15 : decode cX3_bitOfMatter 15 = .ok (.invokespecial 183, 3) := by decide +kernel
theorem dX3_bitOfMatter_18 : decode cX3_bitOfMatter 18 = .ok (.athrow, 1) := by decide +kernel
theorem dX3_bitOfMatter_19 : decode cX3_bitOfMatter 19 = .ok (.iconst 1, 1) := by decide +kernel
theorem dX3_bitOfMatter_20 : decode cX3_bitOfMatter 20 = .ok (.iload_n 0, 1) := by decide +kernel
theorem dX3_bitOfMatter_21 : decode cX3_bitOfMatter 21 = .ok (.ishl, 1) := by decide +kernel
theorem dX3_bitOfMatter_22 : decode cX3_bitOfMatter 22 = .ok (.ireturn, 1) := by decide +kernel
theorem dX3_requireBetween_0 : decode cX3_requireBetween 0 = .ok (.iload_n 1, 1) := by decide +kernel
theorem dX3_requireBetween_1 : decode cX3_requireBetween 1 = .ok (.iload_n 0, 1) := by decide +kernel
theorem dX3_requireBetween_2 : decode cX3_requireBetween 2 = .ok (.if_icmp .lt 8, 3) := by decide +kernel
theorem dX3_requireBetween_5 : decode cX3_requireBetween 5 = .ok (.iload_n 1, 1) := by decide +kernel
theorem dX3_requireBetween_6 : decode cX3_requireBetween 6 = .ok (.iload_n 2, 1) := by decide +kernel
theorem dX3_requireBetween_7 : decode cX3_requireBetween 7 = .ok (.if_icmp .le 13, 3) := by decide +kernel
theorem dX3_requireBetween_10 : decode cX3_requireBetween 10 = .ok (.new 190, 3) := by decide +kernel
theorem dX3_requireBetween_13 : decode cX3_requireBetween 13 = .ok (.dup, 1) := by decide +kernel
theorem dX3_requireBetween_14 : decode cX3_requireBetween 14 = .ok (.ldc 192, 2) := by decide +kernel
theorem dX3_requireBetween_16 : decode cX3_requireBetween 16 = .ok (.invokespecial 194, 3) := by decide +kernel
theorem dX3_requireBetween_19 : decode cX3_requireBetween 19 = .ok (.athrow, 1) := by decide +kernel
theorem dX3_requireBetween_20 : decode cX3_requireBetween 20 = .ok (.return_, 1) := by decide +kernel
set_option maxRecDepth 20000 in
theorem ggX3_requireNotGone_X2_isGone : GoodIn wsX3_requireNotGone wsX2_isGone := goodIn_r _ [7, 8, 9, 10, 11, 12, 13, 14, 15, 16, 17, 18, 19, 20, 21, 22, 23] (by decide +kernel) (by decide +kernel)
set_option maxRecDepth 20000 in
theorem gX3_requireNotGone_X2_isGone : GoodIn wsX3_requireNotGone (wsV RX3 195 RX2 yX2_isGone wsX2_isGone) := goodIn_app (goodIn_of _ (by decide +kernel)) ggX3_requireNotGone_X2_isGone
theorem dX3_requireNotGone_0 : decode cX3_requireNotGone 0 = .ok (.aload_n 0, 1) := by decide +kernel
theorem dX3_requireNotGone_1 : decode cX3_requireNotGone 1 = .ok (.invokevirtual 195, 3) := by decide +kernel
theorem dX3_requireNotGone_4 : decode cX3_requireNotGone 4 = .ok (.ifCond .eq 13, 3) := by decide +kernel
theorem dX3_requireNotGone_7 : decode cX3_requireNotGone 7 = .ok (.new 47, 3) := by decide +kernel
theorem dX3_requireNotGone_10 : decode cX3_requireNotGone 10 = .ok (.dup, 1) := by decide +kernel
theorem dX3_requireNotGone_11 : decode cX3_requireNotGone 11 = .ok (.ldc 199, 2) := by decide +kernel
theorem dX3_requireNotGone_13 : decode cX3_requireNotGone 13 = .ok (.invokespecial 51, 3) := by decide +kernel
theorem dX3_requireNotGone_16 : decode cX3_requireNotGone 16 = .ok (.athrow, 1) := by decide +kernel
theorem dX3_requireNotGone_17 : decode cX3_requireNotGone 17 = .ok (.return_, 1) := by decide +kernel
set_option maxRecDepth 20000 in
theorem ggX3_requireGrowthPossible_X1_hasRoomFor : GoodIn wsX3_requireGrowthPossible wsX1_hasRoomFor := goodIn_r _ [8, 9, 10, 11, 14, 15, 16, 17] (by decide +kernel) (by decide +kernel)
set_option maxRecDepth 20000 in
theorem gX3_requireGrowthPossible_X1_hasRoomFor : GoodIn wsX3_requireGrowthPossible (wsV RX3 201 RX1 yX1_hasRoomFor wsX1_hasRoomFor) := goodIn_app (goodIn_of _ (by decide +kernel)) ggX3_requireGrowthPossible_X1_hasRoomFor
theorem dX3_requireGrowthPossible_0 : decode cX3_requireGrowthPossible 0 = .ok (.aload_n 0, 1) := by decide +kernel
theorem dX3_requireGrowthPossible_1 : decode cX3_requireGrowthPossible 1 = .ok (.getfield 156, 3) := by decide +kernel
theorem dX3_requireGrowthPossible_4 : decode cX3_requireGrowthPossible 4 = .ok (.ifCond .eq 11, 3) := by decide +kernel
theorem dX3_requireGrowthPossible_7 : decode cX3_requireGrowthPossible 7 = .ok (.aload_n 1, 1) := by decide +kernel
theorem dX3_requireGrowthPossible_8 : decode cX3_requireGrowthPossible 8 = .ok (.iload_n 2, 1) := by decide +kernel
theorem dX3_requireGrowthPossible_9 : decode cX3_requireGrowthPossible 9 = .ok (.invokevirtual 201, 3) := by decide +kernel
theorem dX3_requireGrowthPossible_12 : decode cX3_requireGrowthPossible 12 = .ok (.ifCond .ne 13, 3) := by decide +kernel
theorem dX3_requireGrowthPossible_15 : decode cX3_requireGrowthPossible 15 = .ok (.new 47, 3) := by decide +kernel
theorem dX3_requireGrowthPossible_18 : decode cX3_requireGrowthPossible 18 = .ok (.dup, 1) := by decide +kernel
theorem dX3_requireGrowthPossible_19 : decode cX3_requireGrowthPossible 19 = .ok (.ldc 204, 2) := by decide +kernel
theorem dX3_requireGrowthPossible_21 : decode cX3_requireGrowthPossible 21 = .ok (.invokespecial 51, 3) := by decide +kernel
theorem dX3_requireGrowthPossible_24 : decode cX3_requireGrowthPossible 24 = .ok (.athrow, 1) := by decide +kernel
theorem dX3_requireGrowthPossible_25 : decode cX3_requireGrowthPossible 25 = .ok (.return_, 1) := by decide +kernel
set_option maxRecDepth 20000 in
theorem ggX3_startBringingBack_X2_costToBringBack : GoodIn wsX3_startBringingBack wsX2_costToBringBack := goodIn_r _ [11, 12, 13, 14, 15, 16, 17, 18] (by decide +kernel) (by decide +kernel)
set_option maxRecDepth 20000 in
theorem gX3_startBringingBack_X2_costToBringBack : GoodIn wsX3_startBringingBack (wsV RX3 206 RX2 yX2_costToBringBack wsX2_costToBringBack) := goodIn_app (goodIn_of _ (by decide +kernel)) ggX3_startBringingBack_X2_costToBringBack
theorem dX3_startBringingBack_0 : decode cX3_startBringingBack 0 = .ok (.aload_n 1, 1) := by decide +kernel
theorem dX3_startBringingBack_1 : decode cX3_startBringingBack 1 = .ok (.invokevirtual 206, 3) := by decide +kernel
theorem dX3_startBringingBack_4 : decode cX3_startBringingBack 4 = .ok (.istore_n 2, 1) := by decide +kernel
theorem dX3_startBringingBack_5 : decode cX3_startBringingBack 5 = .ok (.aload_n 1, 1) := by decide +kernel
theorem dX3_startBringingBack_6 : decode cX3_startBringingBack 6 = .ok (.getfield 121, 3) := by decide +kernel
theorem dX3_startBringingBack_9 : decode cX3_startBringingBack 9 = .ok (.getfield 156, 3) := by decide +kernel
theorem dX3_startBringingBack_12 : decode cX3_startBringingBack 12 = .ok (.iload_n 2, 1) := by decide +kernel
theorem dX3_startBringingBack_13 : decode cX3_startBringingBack 13 = .ok (.if_icmp .ge 13, 3) := by decide +kernel
theorem dX3_startBringingBack_16 : decode cX3_startBringingBack 16 = .ok (.new 47, 3) := by decide +kernel
theorem dX3_startBringingBack_19 : decode cX3_startBringingBack 19 = .ok (.dup, 1) := by decide +kernel
theorem dX3_startBringingBack_20 : decode cX3_startBringingBack 20 = .ok (.ldc 209, 2) := by decide +kernel
theorem dX3_startBringingBack_22 : decode cX3_startBringingBack 22 = .ok (.invokespecial 51, 3) := by decide +kernel
theorem dX3_startBringingBack_25 : decode cX3_startBringingBack 25 = .ok (.athrow, 1) := by decide +kernel
theorem dX3_startBringingBack_26 : decode cX3_startBringingBack 26 = .ok (.aload_n 1, 1) := by decide +kernel
theorem dX3_startBringingBack_27 : decode cX3_startBringingBack 27 = .ok (.getfield 121, 3) := by decide +kernel
theorem dX3_startBringingBack_30 : decode cX3_startBringingBack 30 = .ok (.dup, 1) := by decide +kernel
theorem dX3_startBringingBack_31 : decode cX3_startBringingBack 31 = .ok (.getfield 156, 3) := by decide +kernel
theorem dX3_startBringingBack_34 : decode cX3_startBringingBack 34 = .ok (.iload_n 2, 1) := by decide +kernel
theorem dX3_startBringingBack_35 : decode cX3_startBringingBack 35 = .ok (.isub, 1) := by decide +kernel
theorem dX3_startBringingBack_36 : decode cX3_startBringingBack 36 = .ok (.putfield 156, 3) := by decide +kernel
theorem dX3_startBringingBack_39 : decode cX3_startBringingBack 39 = .ok (.aload_n 1, 1) := by decide +kernel
theorem dX3_startBringingBack_40 : decode cX3_startBringingBack 40 = .ok (.aload_n 0, 1) := by decide +kernel
theorem dX3_startBringingBack_41 : decode cX3_startBringingBack 41 = .ok (.getfield 70, 3) := by decide +kernel
theorem dX3_startBringingBack_44 : decode cX3_startBringingBack 44 = .ok (.iconst 2, 1) := by decide +kernel
theorem dX3_startBringingBack_45 : decode cX3_startBringingBack 45 = .ok (.iadd, 1) := by decide +kernel
theorem dX3_startBringingBack_46 : decode cX3_startBringingBack 46 = .ok (.putfield 125, 3) := by decide +kernel
theorem dX3_startBringingBack_49 : decode cX3_startBringingBack 49 = .ok (.return_, 1) := by decide +kernel
set_option maxRecDepth 20000 in
theorem ggX3_payBills_Jx4a65c_size_8abf5 : GoodIn wsX3_payBills wsJx4a65c_size_8abf5 := goodIn_r _ [13, 14, 72, 73, 74] (by decide +kernel) (by decide +kernel)
set_option maxRecDepth 20000 in
theorem gX3_payBills_Jx4a65c_size_8abf5 : GoodIn wsX3_payBills (wsV RX3 43 RJx4a65c yJx4a65c_size_8abf5 wsJx4a65c_size_8abf5) := goodIn_app (goodIn_of _ (by decide +kernel)) ggX3_payBills_Jx4a65c_size_8abf5
set_option maxRecDepth 20000 in
theorem ggX3_payBills_Jx4a65c_get_915e3 : GoodIn wsX3_payBills wsJx4a65c_get_915e3 := goodIn_r _ [18, 14, 19, 20, 21, 22, 23, 24, 25, 26, 27, 28, 29, 12, 30, 31, 72, 73, 74] (by decide +kernel) (by decide +kernel)
set_option maxRecDepth 20000 in
theorem gX3_payBills_Jx4a65c_get_915e3 : GoodIn wsX3_payBills (wsV RX3 149 RJx4a65c yJx4a65c_get_915e3 wsJx4a65c_get_915e3) := goodIn_app (goodIn_of _ (by decide +kernel)) ggX3_payBills_Jx4a65c_get_915e3
set_option maxRecDepth 20000 in
theorem ggX3_payBills_X0_billOn : GoodIn wsX3_payBills wsX0_billOn := goodIn_r _ [36, 37, 38, 39, 10, 11, 12, 13, 14, 40, 16, 17, 18, 19, 20, 21, 22, 23, 24, 25, 26, 27, 28, 29, 30, 31, 41, 42, 43, 44, 45, 46, 47, 48, 49, 50, 51, 52, 53, 54, 55, 56, 57, 58, 59, 60, 61, 62, 63, 64, 65, 70, 71, 72, 73, 74, 75, 76, 77, 78, 79, 80] (by decide +kernel) (by decide +kernel)
set_option maxRecDepth 20000 in
theorem gX3_payBills_X0_billOn : GoodIn wsX3_payBills (wsV RX3 176 RX0 yX0_billOn wsX0_billOn) := goodIn_app (goodIn_of _ (by decide +kernel)) ggX3_payBills_X0_billOn
theorem dX3_payBills_0 : decode cX3_payBills 0 = .ok (.iconst 0, 1) := by decide +kernel
theorem dX3_payBills_1 : decode cX3_payBills 1 = .ok (.istore_n 1, 1) := by decide +kernel
theorem dX3_payBills_2 : decode cX3_payBills 2 = .ok (.iconst 0, 1) := by decide +kernel
theorem dX3_payBills_3 : decode cX3_payBills 3 = .ok (.istore_n 2, 1) := by decide +kernel
theorem dX3_payBills_4 : decode cX3_payBills 4 = .ok (.iload_n 2, 1) := by decide +kernel
theorem dX3_payBills_5 : decode cX3_payBills 5 = .ok (.aload_n 0, 1) := by decide +kernel
theorem dX3_payBills_6 : decode cX3_payBills 6 = .ok (.getfield 19, 3) := by decide +kernel
theorem dX3_payBills_9 : decode cX3_payBills 9 = .ok (.invokevirtual 43, 3) := by decide +kernel
theorem dX3_payBills_12 : decode cX3_payBills 12 = .ok (.if_icmp .ge 54, 3) := by decide +kernel
theorem dX3_payBills_15 : decode cX3_payBills 15 = .ok (.aload_n 0, 1) := by decide +kernel
theorem dX3_payBills_16 : decode cX3_payBills 16 = .ok (.getfield 19, 3) := by decide +kernel
theorem dX3_payBills_19 : decode cX3_payBills 19 = .ok (.iload_n 2, 1) := by decide +kernel
theorem dX3_payBills_20 : decode cX3_payBills 20 = .ok (.invokevirtual 149, 3) := by decide +kernel
theorem dX3_payBills_23 : decode cX3_payBills 23 = .ok (.checkcast 31, 3) := by decide +kernel
theorem dX3_payBills_26 : decode cX3_payBills 26 = .ok (.astore_n 3, 1) := by decide +kernel
theorem dX3_payBills_27 : decode cX3_payBills 27 = .ok (.aload_n 3, 1) := by decide +kernel
theorem dX3_payBills_28 : decode cX3_payBills 28 = .ok (.aload_n 0, 1) := by decide +kernel
theorem dX3_payBills_29 : decode cX3_payBills 29 = .ok (.getfield 70, 3) := by decide +kernel
theorem dX3_payBills_32 : decode cX3_payBills 32 = .ok (.invokevirtual 176, 3) := by decide +kernel
theorem dX3_payBills_35 : decode cX3_payBills 35 = .ok (.aload_n 3, 1) := by decide +kernel
theorem dX3_payBills_36 : decode cX3_payBills 36 = .ok (.getfield 156, 3) := by decide +kernel
theorem dX3_payBills_39 : decode cX3_payBills 39 = .ok (.invokestatic 211, 3) := by decide +kernel
theorem dX3_payBills_42 : decode cX3_payBills 42 = .ok (.istore 4, 2) := by decide +kernel
theorem dX3_payBills_44 : decode cX3_payBills 44 = .ok (.aload_n 3, 1) := by decide +kernel
theorem dX3_payBills_45 : decode cX3_payBills 45 = .ok (.dup, 1) := by decide +kernel
theorem dX3_payBills_46 : decode cX3_payBills 46 = .ok (.getfield 156, 3) := by decide +kernel
theorem dX3_payBills_49 : decode cX3_payBills 49 = .ok (.iload 4, 2) := by decide +kernel
theorem dX3_payBills_51 : decode cX3_payBills 51 = .ok (.isub, 1) := by decide +kernel
theorem dX3_payBills_52 : decode cX3_payBills 52 = .ok (.putfield 156, 3) := by decide +kernel
theorem dX3_payBills_55 : decode cX3_payBills 55 = .ok (.iload_n 1, 1) := by decide +kernel
theorem dX3_payBills_56 : decode cX3_payBills 56 = .ok (.iload 4, 2) := by decide +kernel
theorem dX3_payBills_58 : decode cX3_payBills 58 = .ok (.iadd, 1) := by decide +kernel
theorem dX3_payBills_59 : decode cX3_payBills 59 = .ok (.istore_n 1, 1) := by decide +kernel
theorem dX3_payBills_60 : decode cX3_payBills 60 = .ok (.iinc 2 1, 3) := by decide +kernel
theorem dX3_payBills_63 : decode cX3_payBills 63 = .ok (.goto (-59), 3) := by decide +kernel
theorem dX3_payBills_66 : decode cX3_payBills 66 = .ok (.iload_n 1, 1) := by decide +kernel
theorem dX3_payBills_67 : decode cX3_payBills 67 = .ok (.ireturn, 1) := by decide +kernel
theorem dX4_init_0 : decode cX4_init 0 = .ok (.aload_n 0, 1) := by decide +kernel
theorem dX4_init_1 : decode cX4_init 1 = .ok (.invokespecial 1, 3) := by decide +kernel
theorem dX4_init_4 : decode cX4_init 4 = .ok (.aload_n 0, 1) := by decide +kernel
theorem dX4_init_5 : decode cX4_init 5 = .ok (.bipush 12, 2) := by decide +kernel
theorem dX4_init_7 : decode cX4_init 7 = .ok (.newarray .int, 2) := by decide +kernel
theorem dX4_init_9 : decode cX4_init 9 = .ok (.putfield 7, 3) := by decide +kernel
theorem dX4_init_12 : decode cX4_init 12 = .ok (.aload_n 0, 1) := by decide +kernel
theorem dX4_init_13 : decode cX4_init 13 = .ok (.bipush 12, 2) := by decide +kernel
theorem dX4_init_15 : decode cX4_init 15 = .ok (.newarray .int, 2) := by decide +kernel
theorem dX4_init_17 : decode cX4_init 17 = .ok (.putfield 13, 3) := by decide +kernel
theorem dX4_init_20 : decode cX4_init 20 = .ok (.aload_n 0, 1) := by decide +kernel
theorem dX4_init_21 : decode cX4_init 21 = .ok (.iconst 1, 1) := by decide +kernel
theorem dX4_init_22 : decode cX4_init 22 = .ok (.putfield 16, 3) := by decide +kernel
theorem dX4_init_25 : decode cX4_init 25 = .ok (.aload_n 0, 1) := by decide +kernel
theorem dX4_init_26 : decode cX4_init 26 = .ok (.bipush 30, 2) := by decide +kernel
theorem dX4_init_28 : decode cX4_init 28 = .ok (.newarray .int, 2) := by decide +kernel
theorem dX4_init_30 : decode cX4_init 30 = .ok (.putfield 20, 3) := by decide +kernel
theorem dX4_init_33 : decode cX4_init 33 = .ok (.aload_n 0, 1) := by decide +kernel
theorem dX4_init_34 : decode cX4_init 34 = .ok (.bipush 30, 2) := by decide +kernel
theorem dX4_init_36 : decode cX4_init 36 = .ok (.newarray .int, 2) := by decide +kernel
theorem dX4_init_38 : decode cX4_init 38 = .ok (.putfield 23, 3) := by decide +kernel
theorem dX4_init_41 : decode cX4_init 41 = .ok (.aload_n 0, 1) := by decide +kernel
theorem dX4_init_42 : decode cX4_init 42 = .ok (.sipush 360, 3) := by decide +kernel
theorem dX4_init_45 : decode cX4_init 45 = .ok (.newarray .int, 2) := by decide +kernel
theorem dX4_init_47 : decode cX4_init 47 = .ok (.putfield 26, 3) := by decide +kernel
theorem dX4_init_50 : decode cX4_init 50 = .ok (.aload_n 0, 1) := by decide +kernel
theorem dX4_init_51 : decode cX4_init 51 = .ok (.bipush 30, 2) := by decide +kernel
theorem dX4_init_53 : decode cX4_init 53 = .ok (.newarray .int, 2) := by decide +kernel
theorem dX4_init_55 : decode cX4_init 55 = .ok (.putfield 29, 3) := by decide +kernel
theorem dX4_init_58 : decode cX4_init 58 = .ok (.aload_n 0, 1) := by decide +kernel
theorem dX4_init_59 : decode cX4_init 59 = .ok (.bipush 30, 2) := by decide +kernel
theorem dX4_init_61 : decode cX4_init 61 = .ok (.newarray .int, 2) := by decide +kernel
theorem dX4_init_63 : decode cX4_init 63 = .ok (.putfield 32, 3) := by decide +kernel
theorem dX4_init_66 : decode cX4_init 66 = .ok (.aload_n 0, 1) := by decide +kernel
theorem dX4_init_67 : decode cX4_init 67 = .ok (.bipush 30, 2) := by decide +kernel
theorem dX4_init_69 : decode cX4_init 69 = .ok (.newarray .int, 2) := by decide +kernel
theorem dX4_init_71 : decode cX4_init 71 = .ok (.putfield 35, 3) := by decide +kernel
theorem dX4_init_74 : decode cX4_init 74 = .ok (.aload_n 0, 1) := by decide +kernel
theorem dX4_init_75 : decode cX4_init 75 = .ok (.bipush 30, 2) := by decide +kernel
theorem dX4_init_77 : decode cX4_init 77 = .ok (.newarray .int, 2) := by decide +kernel
theorem dX4_init_79 : decode cX4_init 79 = .ok (.putfield 38, 3) := by decide +kernel
theorem dX4_init_82 : decode cX4_init 82 = .ok (.aload_n 0, 1) := by decide +kernel
theorem dX4_init_83 : decode cX4_init 83 = .ok (.bipush 30, 2) := by decide +kernel
theorem dX4_init_85 : decode cX4_init 85 = .ok (.newarray .int, 2) := by decide +kernel
theorem dX4_init_87 : decode cX4_init 87 = .ok (.putfield 41, 3) := by decide +kernel
theorem dX4_init_90 : decode cX4_init 90 = .ok (.aload_n 0, 1) := by decide +kernel
theorem dX4_init_91 : decode cX4_init 91 = .ok (.iconst 4, 1) := by decide +kernel
theorem dX4_init_92 : decode cX4_init 92 = .ok (.newarray .int, 2) := by decide +kernel
theorem dX4_init_94 : decode cX4_init 94 = .ok (.putfield 44, 3) := by decide +kernel
theorem dX4_init_97 : decode cX4_init 97 = .ok (.aload_n 0, 1) := by decide +kernel
theorem dX4_init_98 : decode cX4_init 98 = .ok (.getfield 7, 3) := by decide +kernel
theorem dX4_init_101 : decode cX4_init 101 = .ok (.iconst 0, 1) := by decide +kernel
theorem dX4_init_102 : decode cX4_init 102 = .ok (.iconst (-1), 1) := by decide +kernel
theorem dX4_init_103 : decode cX4_init 103 = .ok (.iastore, 1) := by decide +kernel
theorem dX4_init_104 : decode cX4_init 104 = .ok (.aload_n 0, 1) := by decide +kernel
theorem dX4_init_105 : decode cX4_init 105 = .ok (.getfield 13, 3) := by decide +kernel
theorem dX4_init_108 : decode cX4_init 108 = .ok (.iconst 0, 1) := by decide +kernel
theorem dX4_init_109 : decode cX4_init 109 = .ok (.iconst (-1), 1) := by decide +kernel
theorem dX4_init_110 : decode cX4_init 110 = .ok (.iastore, 1) := by decide +kernel
theorem dX4_init_111 : decode cX4_init 111 = .ok (.iconst 0, 1) := by decide +kernel
theorem dX4_init_112 : decode cX4_init 112 = .ok (.istore_n 1, 1) := by decide +kernel
theorem dX4_init_113 : decode cX4_init 113 = .ok (.iload_n 1, 1) := by decide +kernel
theorem dX4_init_114 : decode cX4_init 114 = .ok (.iconst 4, 1) := by decide +kernel
theorem dX4_init_115 : decode cX4_init 115 = .ok (.if_icmp .ge 17, 3) := by decide +kernel
theorem dX4_init_118 : decode cX4_init 118 = .ok (.aload_n 0, 1) := by decide +kernel
theorem dX4_init_119 : decode cX4_init 119 = .ok (.getfield 44, 3) := by decide +kernel
theorem dX4_init_122 : decode cX4_init 122 = .ok (.iload_n 1, 1) := by decide +kernel
theorem dX4_init_123 : decode cX4_init 123 = .ok (.bipush 100, 2) := by decide +kernel
theorem dX4_init_125 : decode cX4_init 125 = .ok (.iastore, 1) := by decide +kernel
theorem dX4_init_126 : decode cX4_init 126 = .ok (.iinc 1 1, 3) := by decide +kernel
theorem dX4_init_129 : decode cX4_init 129 = .ok (.goto (-16), 3) := by decide +kernel
theorem dX4_init_132 : decode cX4_init 132 = .ok (.return_, 1) := by decide +kernel
theorem dX4_thrown_0 : decode cX4_thrown 0 = .ok (.aload_n 0, 1) := by decide +kernel
theorem dX4_thrown_1 : decode cX4_thrown 1 = .ok (.getfield 47, 3) := by decide +kernel
theorem dX4_thrown_4 : decode cX4_thrown 4 = .ok (.ireturn, 1) := by decide +kernel
theorem dX4_in_0 : decode cX4_in 0 = .ok (.iload_n 0, 1) := by decide +kernel
theorem dX4_in_1 : decode cX4_in 1 = .ok (.iload_n 1, 1) := by decide +kernel
theorem dX4_in_2 : decode cX4_in 2 = .ok (.if_icmp .lt 12, 3) := by decide +kernel
theorem dX4_in_5 : decode cX4_in 5 = .ok (.iload_n 0, 1) := by decide +kernel
theorem dX4_in_6 : decode cX4_in 6 = .ok (.iload_n 2, 1) := by decide +kernel
theorem dX4_in_7 : decode cX4_in 7 = .ok (.if_icmp .gt 7, 3) := by decide +kernel
theorem dX4_in_10 : decode cX4_in 10 = .ok (.iconst 1, 1) := by decide +kernel
theorem dX4_in_11 : decode cX4_in 11 = .ok (.goto 4, 3) := by decide +kernel
theorem dX4_in_14 : decode cX4_in 14 = .ok (.iconst 0, 1) := by decide +kernel
theorem dX4_in_15 : decode cX4_in 15 = .ok (.ireturn, 1) := by decide +kernel
theorem dX4_isFine_0 : decode cX4_isFine 0 = .ok (.aload_n 0, 1) := by decide +kernel
theorem dX4_isFine_1 : decode cX4_isFine 1 = .ok (.iload_n 1, 1) := by decide +kernel
theorem dX4_isFine_2 : decode cX4_isFine 2 = .ok (.putfield 47, 3) := by decide +kernel
theorem dX4_isFine_5 : decode cX4_isFine 5 = .ok (.iload_n 1, 1) := by decide +kernel
theorem dX4_isFine_6 : decode cX4_isFine 6 = .ok (.ifCond .ne 7, 3) := by decide +kernel
theorem dX4_isFine_9 : decode cX4_isFine 9 = .ok (.iconst 1, 1) := by decide +kernel
theorem dX4_isFine_10 : decode cX4_isFine 10 = .ok (.goto 4, 3) := by decide +kernel
theorem dX4_isFine_13 : decode cX4_isFine 13 = .ok (.iconst 0, 1) := by decide +kernel
theorem dX4_isFine_14 : decode cX4_isFine 14 = .ok (.ireturn, 1) := by decide +kernel
set_option maxRecDepth 20000 in
theorem ggX4_isDirectory_X4_in : GoodIn wsX4_isDirectory wsX4_in := goodIn_r _ [5] (by decide +kernel) (by decide +kernel)
set_option maxRecDepth 20000 in
theorem gX4_isDirectory_X4_in : GoodIn wsX4_isDirectory (va_wsS RX4 50 yX4_in wsX4_in) := goodIn_app (goodIn_of _ (by decide +kernel)) ggX4_isDirectory_X4_in
theorem dX4_isDirectory_0 : decode cX4_isDirectory 0 = .ok (.iload_n 1, 1) := by decide +kernel
theorem dX4_isDirectory_1 : decode cX4_isDirectory 1 = .ok (.iconst 0, 1) := by decide +kernel
theorem dX4_isDirectory_2 : decode cX4_isDirectory 2 = .ok (.aload_n 0, 1) := by decide +kernel
theorem dX4_isDirectory_3 : decode cX4_isDirectory 3 = .ok (.getfield 16, 3) := by decide +kernel
theorem dX4_isDirectory_6 : decode cX4_isDirectory 6 = .ok (.iconst 1, 1) := by decide +kernel
theorem dX4_isDirectory_7 : decode cX4_isDirectory 7 = .ok (.isub, 1) := by decide +kernel
theorem dX4_isDirectory_8 : decode cX4_isDirectory 8 = .ok (.invokestatic 50, 3) := by decide +kernel
theorem dX4_isDirectory_11 : decode cX4_isDirectory 11 = .ok (.ireturn, 1) := by decide +kernel
set_option maxRecDepth 20000 in
theorem ggX4_isFile_X4_in : GoodIn wsX4_isFile wsX4_in := goodIn_r _ [5] (by decide +kernel) (by decide +kernel)
set_option maxRecDepth 20000 in
theorem gX4_isFile_X4_in : GoodIn wsX4_isFile (va_wsS RX4 50 yX4_in wsX4_in) := goodIn_app (goodIn_of _ (by decide +kernel)) ggX4_isFile_X4_in
theorem dX4_isFile_0 : decode cX4_isFile 0 = .ok (.iload_n 1, 1) := by decide +kernel
theorem dX4_isFile_1 : decode cX4_isFile 1 = .ok (.iconst 0, 1) := by decide +kernel
theorem dX4_isFile_2 : decode cX4_isFile 2 = .ok (.aload_n 0, 1) := by decide +kernel
theorem dX4_isFile_3 : decode cX4_isFile 3 = .ok (.getfield 54, 3) := by decide +kernel
theorem dX4_isFile_6 : decode cX4_isFile 6 = .ok (.iconst 1, 1) := by decide +kernel
theorem dX4_isFile_7 : decode cX4_isFile 7 = .ok (.isub, 1) := by decide +kernel
theorem dX4_isFile_8 : decode cX4_isFile 8 = .ok (.invokestatic 50, 3) := by decide +kernel
theorem dX4_isFile_11 : decode cX4_isFile 11 = .ok (.ireturn, 1) := by decide +kernel
set_option maxRecDepth 20000 in
theorem ggX4_isDepartment_X4_in : GoodIn wsX4_isDepartment wsX4_in := goodIn_r _ [4] (by decide +kernel) (by decide +kernel)
set_option maxRecDepth 20000 in
theorem gX4_isDepartment_X4_in : GoodIn wsX4_isDepartment (va_wsS RX4 50 yX4_in wsX4_in) := goodIn_app (goodIn_of _ (by decide +kernel)) ggX4_isDepartment_X4_in
theorem dX4_isDepartment_0 : decode cX4_isDepartment 0 = .ok (.iload_n 0, 1) := by decide +kernel
theorem dX4_isDepartment_1 : decode cX4_isDepartment 1 = .ok (.iconst 0, 1) := by decide +kernel
theorem dX4_isDepartment_2 : decode cX4_isDepartment 2 = .ok (.iconst 3, 1) := by decide +kernel
theorem dX4_isDepartment_3 : decode cX4_isDepartment 3 = .ok (.invokestatic 50, 3) := by decide +kernel
theorem dX4_isDepartment_6 : decode cX4_isDepartment 6 = .ok (.ireturn, 1) := by decide +kernel
set_option maxRecDepth 20000 in
theorem ggX4_addDirectory_X4_isDirectory : GoodIn wsX4_addDirectory wsX4_isDirectory := goodIn_r _ [9, 2, 10, 11, 8, 12, 18, 19, 20, 21, 22, 23, 24, 25, 26, 27, 28, 29, 30, 31, 32] (by decide +kernel) (by decide +kernel)
set_option maxRecDepth 20000 in
theorem gX4_addDirectory_X4_isDirectory : GoodIn wsX4_addDirectory (wsV RX4 57 RX4 yX4_isDirectory wsX4_isDirectory) := goodIn_app (goodIn_of _ (by decide +kernel)) ggX4_addDirectory_X4_isDirectory
set_option maxRecDepth 20000 in
theorem ggX4_addDirectory_X4_in : GoodIn wsX4_addDirectory wsX4_in := goodIn_r _ [12] (by decide +kernel) (by decide +kernel)
set_option maxRecDepth 20000 in
theorem gX4_addDirectory_X4_in : GoodIn wsX4_addDirectory (va_wsS RX4 50 yX4_in wsX4_in) := goodIn_app (goodIn_of _ (by decide +kernel)) ggX4_addDirectory_X4_in
set_option maxRecDepth 20000 in
theorem ggX4_addDirectory_X4_isFine : GoodIn wsX4_addDirectory wsX4_isFine := goodIn_r _ [16, 17, 18, 19, 20, 21, 22, 23, 24, 25, 26, 27, 28, 29, 30, 31, 32] (by decide +kernel) (by decide +kernel)
set_option maxRecDepth 20000 in
theorem gX4_addDirectory_X4_isFine : GoodIn wsX4_addDirectory (wsV RX4 62 RX4 yX4_isFine wsX4_isFine) := goodIn_app (goodIn_of _ (by decide +kernel)) ggX4_addDirectory_X4_isFine
theorem dX4_addDirectory_0 : decode cX4_addDirectory 0 = .ok (.aload_n 0, 1) := by decide +kernel
theorem dX4_addDirectory_1 : decode cX4_addDirectory 1 = .ok (.aload_n 0, 1) := by decide +kernel
theorem dX4_addDirectory_2 : decode cX4_addDirectory 2 = .ok (.iload_n 1, 1) := by decide +kernel
theorem dX4_addDirectory_3 : decode cX4_addDirectory 3 = .ok (.invokevirtual 57, 3) := by decide +kernel
theorem dX4_addDirectory_6 : decode cX4_addDirectory 6 = .ok (.ifCond .ne 7, 3) := by decide +kernel
theorem dX4_addDirectory_9 : decode cX4_addDirectory 9 = .ok (.iconst 1, 1) := by decide +kernel
theorem dX4_addDirectory_10 : decode cX4_addDirectory 10 = .ok (.goto 31, 3) := by decide +kernel
theorem dX4_addDirectory_13 : decode cX4_addDirectory 13 = .ok (.iload_n 2, 1) := by decide +kernel
theorem dX4_addDirectory_14 : decode cX4_addDirectory 14 = .ok (.iconst (-1), 1) := by decide +kernel
theorem dX4_addDirectory_15 : decode cX4_addDirectory 15 = .ok (.ldc 61, 2) := by decide +kernel
theorem dX4_addDirectory_17 : decode cX4_addDirectory 17 = .ok (.invokestatic 50, 3) := by decide +kernel
theorem dX4_addDirectory_20 : decode cX4_addDirectory 20 = .ok (.ifCond .ne 7, 3) := by decide +kernel
theorem dX4_addDirectory_23 : decode cX4_addDirectory 23 = .ok (.iconst 2, 1) := by decide +kernel
theorem dX4_addDirectory_24 : decode cX4_addDirectory 24 = .ok (.goto 17, 3) := by decide +kernel
theorem dX4_addDirectory_27 : decode cX4_addDirectory 27 = .ok (.aload_n 0, 1) := by decide +kernel
theorem dX4_addDirectory_28 : decode cX4_addDirectory 28 = .ok (.getfield 16, 3) := by decide +kernel
theorem dX4_addDirectory_31 : decode cX4_addDirectory 31 = .ok (.bipush 12, 2) := by decide +kernel
theorem dX4_addDirectory_33 : decode cX4_addDirectory 33 = .ok (.if_icmp .ne 7, 3) := by decide +kernel
theorem dX4_addDirectory_36 : decode cX4_addDirectory 36 = .ok (.iconst 3, 1) := by decide +kernel
theorem dX4_addDirectory_37 : decode cX4_addDirectory 37 = .ok (.goto 4, 3) := by decide +kernel
theorem dX4_addDirectory_40 : decode cX4_addDirectory 40 = .ok (.iconst 0, 1) := by decide +kernel
theorem dX4_addDirectory_41 : decode cX4_addDirectory 41 = .ok (.invokevirtual 62, 3) := by decide +kernel
theorem dX4_addDirectory_44 : decode cX4_addDirectory 44 = .ok (.ifCond .ne 5, 3) := by decide +kernel
theorem dX4_addDirectory_47 : decode cX4_addDirectory 47 = .ok (.iconst 0, 1) := by decide +kernel
theorem dX4_addDirectory_48 : decode cX4_addDirectory 48 = .ok (.ireturn, 1) := by decide +kernel
theorem dX4_addDirectory_49 : decode cX4_addDirectory 49 = .ok (.aload_n 0, 1) := by decide +kernel
theorem dX4_addDirectory_50 : decode cX4_addDirectory 50 = .ok (.getfield 7, 3) := by decide +kernel
theorem dX4_addDirectory_53 : decode cX4_addDirectory 53 = .ok (.aload_n 0, 1) := by decide +kernel
theorem dX4_addDirectory_54 : decode cX4_addDirectory 54 = .ok (.getfield 16, 3) := by decide +kernel
theorem dX4_addDirectory_57 : decode cX4_addDirectory 57 = .ok (.iload_n 1, 1) := by decide +kernel
theorem dX4_addDirectory_58 : decode cX4_addDirectory 58 = .ok (.iastore, 1) := by decide +kernel
theorem dX4_addDirectory_59 : decode cX4_addDirectory 59 = .ok (.aload_n 0, 1) := by decide +kernel
theorem dX4_addDirectory_60 : decode cX4_addDirectory 60 = .ok (.getfield 13, 3) := by decide +kernel
theorem dX4_addDirectory_63 : decode cX4_addDirectory 63 = .ok (.aload_n 0, 1) := by decide +kernel
theorem dX4_addDirectory_64 : decode cX4_addDirectory 64 = .ok (.getfield 16, 3) := by decide +kernel
theorem dX4_addDirectory_67 : decode cX4_addDirectory 67 = .ok (.iload_n 2, 1) := by decide +kernel
theorem dX4_addDirectory_68 : decode cX4_addDirectory 68 = .ok (.iastore, 1) := by decide +kernel
theorem dX4_addDirectory_69 : decode cX4_addDirectory 69 = .ok (.aload_n 0, 1) := by decide +kernel
theorem dX4_addDirectory_70 : decode cX4_addDirectory 70 = .ok (.dup, 1) := by decide +kernel
theorem dX4_addDirectory_71 : decode cX4_addDirectory 71 = .ok (.getfield 16, 3) := by decide +kernel
theorem dX4_addDirectory_74 : decode cX4_addDirectory 74 = .ok (.iconst 1, 1) := by decide +kernel
theorem dX4_addDirectory_75 : decode cX4_addDirectory 75 = .ok (.iadd, 1) := by decide +kernel
theorem dX4_addDirectory_76 : decode cX4_addDirectory 76 = .ok (.putfield 16, 3) := by decide +kernel
theorem dX4_addDirectory_79 : decode cX4_addDirectory 79 = .ok (.aload_n 0, 1) := by decide +kernel
theorem dX4_addDirectory_80 : decode cX4_addDirectory 80 = .ok (.getfield 16, 3) := by decide +kernel
theorem dX4_addDirectory_83 : decode cX4_addDirectory 83 = .ok (.iconst 1, 1) := by decide +kernel
theorem dX4_addDirectory_84 : decode cX4_addDirectory 84 = .ok (.isub, 1) := by decide +kernel
theorem dX4_addDirectory_85 : decode cX4_addDirectory 85 = .ok (.ireturn, 1) := by decide +kernel
set_option maxRecDepth 20000 in
theorem ggX4_setQuota_X4_isDirectory : GoodIn wsX4_setQuota wsX4_isDirectory := goodIn_r _ [7, 8, 9, 10, 6, 11, 17, 18, 19, 20, 21, 22, 23, 24, 25, 26, 27, 28, 29, 30, 31] (by decide +kernel) (by decide +kernel)
set_option maxRecDepth 20000 in
theorem gX4_setQuota_X4_isDirectory : GoodIn wsX4_setQuota (wsV RX4 57 RX4 yX4_isDirectory wsX4_isDirectory) := goodIn_app (goodIn_of _ (by decide +kernel)) ggX4_setQuota_X4_isDirectory
set_option maxRecDepth 20000 in
theorem ggX4_setQuota_X4_in : GoodIn wsX4_setQuota wsX4_in := goodIn_r _ [11] (by decide +kernel) (by decide +kernel)
set_option maxRecDepth 20000 in
theorem gX4_setQuota_X4_in : GoodIn wsX4_setQuota (va_wsS RX4 50 yX4_in wsX4_in) := goodIn_app (goodIn_of _ (by decide +kernel)) ggX4_setQuota_X4_in
set_option maxRecDepth 20000 in
theorem ggX4_setQuota_X4_isFine : GoodIn wsX4_setQuota wsX4_isFine := goodIn_r _ [15, 16, 17, 18, 19, 20, 21, 22, 23, 24, 25, 26, 27, 28, 29, 30, 31] (by decide +kernel) (by decide +kernel)
set_option maxRecDepth 20000 in
theorem gX4_setQuota_X4_isFine : GoodIn wsX4_setQuota (wsV RX4 62 RX4 yX4_isFine wsX4_isFine) := goodIn_app (goodIn_of _ (by decide +kernel)) ggX4_setQuota_X4_isFine
theorem dX4_setQuota_0 : decode cX4_setQuota 0 = .ok (.aload_n 0, 1) := by decide +kernel
theorem dX4_setQuota_1 : decode cX4_setQuota 1 = .ok (.aload_n 0, 1) := by decide +kernel
theorem dX4_setQuota_2 : decode cX4_setQuota 2 = .ok (.iload_n 1, 1) := by decide +kernel
theorem dX4_setQuota_3 : decode cX4_setQuota 3 = .ok (.invokevirtual 57, 3) := by decide +kernel
theorem dX4_setQuota_6 : decode cX4_setQuota 6 = .ok (.ifCond .ne 7, 3) := by decide +kernel
theorem dX4_setQuota_9 : decode cX4_setQuota 9 = .ok (.iconst 1, 1) := by decide +kernel
theorem dX4_setQuota_10 : decode cX4_setQuota 10 = .ok (.goto 18, 3) := by decide +kernel
theorem dX4_setQuota_13 : decode cX4_setQuota 13 = .ok (.iload_n 2, 1) := by decide +kernel
theorem dX4_setQuota_14 : decode cX4_setQuota 14 = .ok (.iconst (-1), 1) := by decide +kernel
theorem dX4_setQuota_15 : decode cX4_setQuota 15 = .ok (.ldc 61, 2) := by decide +kernel
theorem dX4_setQuota_17 : decode cX4_setQuota 17 = .ok (.invokestatic 50, 3) := by decide +kernel
theorem dX4_setQuota_20 : decode cX4_setQuota 20 = .ok (.ifCond .ne 7, 3) := by decide +kernel
theorem dX4_setQuota_23 : decode cX4_setQuota 23 = .ok (.iconst 2, 1) := by decide +kernel
theorem dX4_setQuota_24 : decode cX4_setQuota 24 = .ok (.goto 4, 3) := by decide +kernel
theorem dX4_setQuota_27 : decode cX4_setQuota 27 = .ok (.iconst 0, 1) := by decide +kernel
theorem dX4_setQuota_28 : decode cX4_setQuota 28 = .ok (.invokevirtual 62, 3) := by decide +kernel
theorem dX4_setQuota_31 : decode cX4_setQuota 31 = .ok (.ifCond .ne 5, 3) := by decide +kernel
theorem dX4_setQuota_34 : decode cX4_setQuota 34 = .ok (.iconst 0, 1) := by decide +kernel
theorem dX4_setQuota_35 : decode cX4_setQuota 35 = .ok (.ireturn, 1) := by decide +kernel
theorem dX4_setQuota_36 : decode cX4_setQuota 36 = .ok (.aload_n 0, 1) := by decide +kernel
theorem dX4_setQuota_37 : decode cX4_setQuota 37 = .ok (.getfield 13, 3) := by decide +kernel
theorem dX4_setQuota_40 : decode cX4_setQuota 40 = .ok (.iload_n 1, 1) := by decide +kernel
theorem dX4_setQuota_41 : decode cX4_setQuota 41 = .ok (.iaload, 1) := by decide +kernel
theorem dX4_setQuota_42 : decode cX4_setQuota 42 = .ok (.istore_n 3, 1) := by decide +kernel
theorem dX4_setQuota_43 : decode cX4_setQuota 43 = .ok (.aload_n 0, 1) := by decide +kernel
theorem dX4_setQuota_44 : decode cX4_setQuota 44 = .ok (.getfield 13, 3) := by decide +kernel
theorem dX4_setQuota_47 : decode cX4_setQuota 47 = .ok (.iload_n 1, 1) := by decide +kernel
theorem dX4_setQuota_48 : decode cX4_setQuota 48 = .ok (.iload_n 2, 1) := by decide +kernel
theorem dX4_setQuota_49 : decode cX4_setQuota 49 = .ok (.iastore, 1) := by decide +kernel
theorem dX4_setQuota_50 : decode cX4_setQuota 50 = .ok (.iload_n 3, 1) := by decide +kernel
theorem dX4_setQuota_51 : decode cX4_setQuota 51 = .ok (.ireturn, 1) := by decide +kernel
theorem dX4_homeOf_0 : decode cX4_homeOf 0 = .ok (.aload_n 0, 1) := by decide +kernel
theorem dX4_homeOf_1 : decode cX4_homeOf 1 = .ok (.getfield 29, 3) := by decide +kernel
theorem dX4_homeOf_4 : decode cX4_homeOf 4 = .ok (.iload_n 1, 1) := by decide +kernel
theorem dX4_homeOf_5 : decode cX4_homeOf 5 = .ok (.iaload, 1) := by decide +kernel
theorem dX4_homeOf_6 : decode cX4_homeOf 6 = .ok (.ifCond .ne 7, 3) := by decide +kernel
theorem dX4_homeOf_9 : decode cX4_homeOf 9 = .ok (.iconst (-1), 1) := by decide +kernel
theorem dX4_homeOf_10 : decode cX4_homeOf 10 = .ok (.goto 12, 3) := by decide +kernel
theorem dX4_homeOf_13 : decode cX4_homeOf 13 = .ok (.aload_n 0, 1) := by decide +kernel
theorem dX4_homeOf_14 : decode cX4_homeOf 14 = .ok (.getfield 26, 3) := by decide +kernel
theorem dX4_homeOf_17 : decode cX4_homeOf 17 = .ok (.bipush 12, 2) := by decide +kernel
theorem dX4_homeOf_19 : decode cX4_homeOf 19 = .ok (.iload_n 1, 1) := by decide +kernel
theorem dX4_homeOf_20 : decode cX4_homeOf 20 = .ok (.imul, 1) := by decide +kernel
theorem dX4_homeOf_21 : decode cX4_homeOf 21 = .ok (.iaload, 1) := by decide +kernel
theorem dX4_homeOf_22 : decode cX4_homeOf 22 = .ok (.ireturn, 1) := by decide +kernel
theorem dX4_isOver_0 : decode cX4_isOver 0 = .ok (.iload_n 1, 1) := by decide +kernel
theorem dX4_isOver_1 : decode cX4_isOver 1 = .ok (.istore_n 3, 1) := by decide +kernel
theorem dX4_isOver_2 : decode cX4_isOver 2 = .ok (.iload_n 3, 1) := by decide +kernel
theorem dX4_isOver_3 : decode cX4_isOver 3 = .ok (.iconst (-1), 1) := by decide +kernel
theorem dX4_isOver_4 : decode cX4_isOver 4 = .ok (.if_icmp .eq 18, 3) := by decide +kernel
theorem dX4_isOver_7 : decode cX4_isOver 7 = .ok (.iload_n 3, 1) := by decide +kernel
theorem dX4_isOver_8 : decode cX4_isOver 8 = .ok (.iload_n 2, 1) := by decide +kernel
theorem dX4_isOver_9 : decode cX4_isOver 9 = .ok (.if_icmp .eq 13, 3) := by decide +kernel
theorem dX4_isOver_12 : decode cX4_isOver 12 = .ok (.aload_n 0, 1) := by decide +kernel
theorem dX4_isOver_13 : decode cX4_isOver 13 = .ok (.getfield 7, 3) := by decide +kernel
theorem dX4_isOver_16 : decode cX4_isOver 16 = .ok (.iload_n 3, 1) := by decide +kernel
theorem dX4_isOver_17 : decode cX4_isOver 17 = .ok (.iaload, 1) := by decide +kernel
theorem dX4_isOver_18 : decode cX4_isOver 18 = .ok (.istore_n 3, 1) := by decide +kernel
theorem dX4_isOver_19 : decode cX4_isOver 19 = .ok (.goto (-17), 3) := by decide +kernel
theorem dX4_isOver_22 : decode cX4_isOver 22 = .ok (.iload_n 3, 1) := by decide +kernel
theorem dX4_isOver_23 : decode cX4_isOver 23 = .ok (.iload_n 2, 1) := by decide +kernel
theorem dX4_isOver_24 : decode cX4_isOver 24 = .ok (.if_icmp .ne 7, 3) := by decide +kernel
theorem dX4_isOver_27 : decode cX4_isOver 27 = .ok (.iconst 1, 1) := by decide +kernel
theorem dX4_isOver_28 : decode cX4_isOver 28 = .ok (.goto 4, 3) := by decide +kernel
theorem dX4_isOver_31 : decode cX4_isOver 31 = .ok (.iconst 0, 1) := by decide +kernel
theorem dX4_isOver_32 : decode cX4_isOver 32 = .ok (.ireturn, 1) := by decide +kernel
set_option maxRecDepth 20000 in
theorem ggX4_usageOf_X4_homeOf : GoodIn wsX4_usageOf wsX4_homeOf := goodIn_r _ [8, 2, 9, 15, 16, 17, 18, 19, 20, 21, 22, 23, 24, 25, 26, 27, 28, 29] (by decide +kernel) (by decide +kernel)
set_option maxRecDepth 20000 in
theorem gX4_usageOf_X4_homeOf : GoodIn wsX4_usageOf (wsV RX4 65 RX4 yX4_homeOf wsX4_homeOf) := goodIn_app (goodIn_of _ (by decide +kernel)) ggX4_usageOf_X4_homeOf
set_option maxRecDepth 20000 in
theorem ggX4_usageOf_X4_isOver : GoodIn wsX4_usageOf wsX4_isOver := goodIn_r _ [13, 14, 15, 16, 17, 18, 19, 20, 21, 22, 23, 24, 25, 26, 27, 28, 29] (by decide +kernel) (by decide +kernel)
set_option maxRecDepth 20000 in
theorem gX4_usageOf_X4_isOver : GoodIn wsX4_usageOf (wsV RX4 69 RX4 yX4_isOver wsX4_isOver) := goodIn_app (goodIn_of _ (by decide +kernel)) ggX4_usageOf_X4_isOver
theorem dX4_usageOf_0 : decode cX4_usageOf 0 = .ok (.iconst 0, 1) := by decide +kernel
theorem dX4_usageOf_1 : decode cX4_usageOf 1 = .ok (.istore_n 2, 1) := by decide +kernel
theorem dX4_usageOf_2 : decode cX4_usageOf 2 = .ok (.iconst 0, 1) := by decide +kernel
theorem dX4_usageOf_3 : decode cX4_usageOf 3 = .ok (.istore_n 3, 1) := by decide +kernel
theorem dX4_usageOf_4 : decode cX4_usageOf 4 = .ok (.iload_n 3, 1) := by decide +kernel
theorem dX4_usageOf_5 : decode cX4_usageOf 5 = .ok (.aload_n 0, 1) := by decide +kernel
theorem dX4_usageOf_6 : decode cX4_usageOf 6 = .ok (.getfield 54, 3) := by decide +kernel
theorem dX4_usageOf_9 : decode cX4_usageOf 9 = .ok (.if_icmp .ge 44, 3) := by decide +kernel
theorem dX4_usageOf_12 : decode cX4_usageOf 12 = .ok (.iload_n 2, 1) := by decide +kernel
theorem dX4_usageOf_13 : decode cX4_usageOf 13 = .ok (.aload_n 0, 1) := by decide +kernel
theorem dX4_usageOf_14 : decode cX4_usageOf 14 = .ok (.getfield 29, 3) := by decide +kernel
theorem dX4_usageOf_17 : decode cX4_usageOf 17 = .ok (.iload_n 3, 1) := by decide +kernel
theorem dX4_usageOf_18 : decode cX4_usageOf 18 = .ok (.iaload, 1) := by decide +kernel
theorem dX4_usageOf_19 : decode cX4_usageOf 19 = .ok (.ifCond .le 25, 3) := by decide +kernel
theorem dX4_usageOf_22 : decode cX4_usageOf 22 = .ok (.aload_n 0, 1) := by decide +kernel
theorem dX4_usageOf_23 : decode cX4_usageOf 23 = .ok (.aload_n 0, 1) := by decide +kernel
theorem dX4_usageOf_24 : decode cX4_usageOf 24 = .ok (.iload_n 3, 1) := by decide +kernel
theorem dX4_usageOf_25 : decode cX4_usageOf 25 = .ok (.invokevirtual 65, 3) := by decide +kernel
theorem dX4_usageOf_28 : decode cX4_usageOf 28 = .ok (.iload_n 1, 1) := by decide +kernel
theorem dX4_usageOf_29 : decode cX4_usageOf 29 = .ok (.invokevirtual 69, 3) := by decide +kernel
theorem dX4_usageOf_32 : decode cX4_usageOf 32 = .ok (.ifCond .eq 12, 3) := by decide +kernel
theorem dX4_usageOf_35 : decode cX4_usageOf 35 = .ok (.aload_n 0, 1) := by decide +kernel
theorem dX4_usageOf_36 : decode cX4_usageOf 36 = .ok (.getfield 23, 3) := by decide +kernel
theorem dX4_usageOf_39 : decode cX4_usageOf 39 = .ok (.iload_n 3, 1) := by decide +kernel
theorem dX4_usageOf_40 : decode cX4_usageOf 40 = .ok (.iaload, 1) := by decide +kernel
theorem dX4_usageOf_41 : decode cX4_usageOf 41 = .ok (.goto 4, 3) := by decide +kernel
theorem dX4_usageOf_44 : decode cX4_usageOf 44 = .ok (.iconst 0, 1) := by decide +kernel
theorem dX4_usageOf_45 : decode cX4_usageOf 45 = .ok (.iadd, 1) := by decide +kernel
theorem dX4_usageOf_46 : decode cX4_usageOf 46 = .ok (.istore_n 2, 1) := by decide +kernel
theorem dX4_usageOf_47 : decode cX4_usageOf 47 = .ok (.iinc 3 1, 3) := by decide +kernel
theorem dX4_usageOf_50 : decode cX4_usageOf 50 = .ok (.goto (-46), 3) := by decide +kernel
theorem dX4_usageOf_53 : decode cX4_usageOf 53 = .ok (.iload_n 2, 1) := by decide +kernel
theorem dX4_usageOf_54 : decode cX4_usageOf 54 = .ok (.ireturn, 1) := by decide +kernel
set_option maxRecDepth 20000 in
theorem ggX4_canGrow_X4_usageOf : GoodIn wsX4_canGrow wsX4_usageOf := goodIn_r _ [8, 9, 10, 11, 12, 13, 14, 7, 15, 16, 17, 18, 19, 20, 3, 21, 22, 23, 24, 25, 26, 27, 28, 29, 30, 31, 32, 33, 34, 35] (by decide +kernel) (by decide +kernel)
set_option maxRecDepth 20000 in
theorem gX4_canGrow_X4_usageOf : GoodIn wsX4_canGrow (wsV RX4 73 RX4 yX4_usageOf wsX4_usageOf) := goodIn_app (goodIn_of _ (by decide +kernel)) ggX4_canGrow_X4_usageOf
theorem dX4_canGrow_0 : decode cX4_canGrow 0 = .ok (.aload_n 0, 1) := by decide +kernel
theorem dX4_canGrow_1 : decode cX4_canGrow 1 = .ok (.getfield 44, 3) := by decide +kernel
theorem dX4_canGrow_4 : decode cX4_canGrow 4 = .ok (.iload_n 1, 1) := by decide +kernel
theorem dX4_canGrow_5 : decode cX4_canGrow 5 = .ok (.iaload, 1) := by decide +kernel
theorem dX4_canGrow_6 : decode cX4_canGrow 6 = .ok (.ifCond .le 7, 3) := by decide +kernel
theorem dX4_canGrow_9 : decode cX4_canGrow 9 = .ok (.iconst 1, 1) := by decide +kernel
theorem dX4_canGrow_10 : decode cX4_canGrow 10 = .ok (.goto 4, 3) := by decide +kernel
theorem dX4_canGrow_13 : decode cX4_canGrow 13 = .ok (.iconst 0, 1) := by decide +kernel
theorem dX4_canGrow_14 : decode cX4_canGrow 14 = .ok (.istore 4, 2) := by decide +kernel
theorem dX4_canGrow_16 : decode cX4_canGrow 16 = .ok (.iload_n 2, 1) := by decide +kernel
theorem dX4_canGrow_17 : decode cX4_canGrow 17 = .ok (.istore 5, 2) := by decide +kernel
theorem dX4_canGrow_19 : decode cX4_canGrow 19 = .ok (.iload 5, 2) := by decide +kernel
theorem dX4_canGrow_21 : decode cX4_canGrow 21 = .ok (.iconst (-1), 1) := by decide +kernel
theorem dX4_canGrow_22 : decode cX4_canGrow 22 = .ok (.if_icmp .eq 56, 3) := by decide +kernel
theorem dX4_canGrow_25 : decode cX4_canGrow 25 = .ok (.iload 4, 2) := by decide +kernel
theorem dX4_canGrow_27 : decode cX4_canGrow 27 = .ok (.ifCond .eq 36, 3) := by decide +kernel
theorem dX4_canGrow_30 : decode cX4_canGrow 30 = .ok (.aload_n 0, 1) := by decide +kernel
theorem dX4_canGrow_31 : decode cX4_canGrow 31 = .ok (.getfield 13, 3) := by decide +kernel
theorem dX4_canGrow_34 : decode cX4_canGrow 34 = .ok (.iload 5, 2) := by decide +kernel
theorem dX4_canGrow_36 : decode cX4_canGrow 36 = .ok (.iaload, 1) := by decide +kernel
theorem dX4_canGrow_37 : decode cX4_canGrow 37 = .ok (.iconst (-1), 1) := by decide +kernel
theorem dX4_canGrow_38 : decode cX4_canGrow 38 = .ok (.if_icmp .eq 21, 3) := by decide +kernel
theorem dX4_canGrow_41 : decode cX4_canGrow 41 = .ok (.aload_n 0, 1) := by decide +kernel
theorem dX4_canGrow_42 : decode cX4_canGrow 42 = .ok (.iload 5, 2) := by decide +kernel
theorem dX4_canGrow_44 : decode cX4_canGrow 44 = .ok (.invokevirtual 73, 3) := by decide +kernel
theorem dX4_canGrow_47 : decode cX4_canGrow 47 = .ok (.iload_n 3, 1) := by decide +kernel
theorem dX4_canGrow_48 : decode cX4_canGrow 48 = .ok (.iadd, 1) := by decide +kernel
theorem dX4_canGrow_49 : decode cX4_canGrow 49 = .ok (.aload_n 0, 1) := by decide +kernel
theorem dX4_canGrow_50 : decode cX4_canGrow 50 = .ok (.getfield 13, 3) := by decide +kernel
theorem dX4_canGrow_53 : decode cX4_canGrow 53 = .ok (.iload 5, 2) := by decide +kernel
theorem dX4_canGrow_55 : decode cX4_canGrow 55 = .ok (.iaload, 1) := by decide +kernel
theorem dX4_canGrow_56 : decode cX4_canGrow 56 = .ok (.if_icmp .gt 7, 3) := by decide +kernel
theorem dX4_canGrow_59 : decode cX4_canGrow 59 = .ok (.iconst 1, 1) := by decide +kernel
theorem dX4_canGrow_60 : decode cX4_canGrow 60 = .ok (.goto 4, 3) := by decide +kernel
theorem dX4_canGrow_63 : decode cX4_canGrow 63 = .ok (.iconst 0, 1) := by decide +kernel
theorem dX4_canGrow_64 : decode cX4_canGrow 64 = .ok (.istore 4, 2) := by decide +kernel
theorem dX4_canGrow_66 : decode cX4_canGrow 66 = .ok (.aload_n 0, 1) := by decide +kernel
theorem dX4_canGrow_67 : decode cX4_canGrow 67 = .ok (.getfield 7, 3) := by decide +kernel
theorem dX4_canGrow_70 : decode cX4_canGrow 70 = .ok (.iload 5, 2) := by decide +kernel
theorem dX4_canGrow_72 : decode cX4_canGrow 72 = .ok (.iaload, 1) := by decide +kernel
theorem dX4_canGrow_73 : decode cX4_canGrow 73 = .ok (.istore 5, 2) := by decide +kernel
theorem dX4_canGrow_75 : decode cX4_canGrow 75 = .ok (.goto (-56), 3) := by decide +kernel
theorem dX4_canGrow_78 : decode cX4_canGrow 78 = .ok (.iload 4, 2) := by decide +kernel
theorem dX4_canGrow_80 : decode cX4_canGrow 80 = .ok (.ireturn, 1) := by decide +kernel
set_option maxRecDepth 20000 in
theorem ggX4_make_X4_isDepartment : GoodIn wsX4_make wsX4_isDepartment := goodIn_r _ [12, 13, 14, 11, 15] (by decide +kernel) (by decide +kernel)
set_option maxRecDepth 20000 in
theorem gX4_make_X4_isDepartment : GoodIn wsX4_make (va_wsS RX4 76 yX4_isDepartment wsX4_isDepartment) := goodIn_app (goodIn_of _ (by decide +kernel)) ggX4_make_X4_isDepartment
set_option maxRecDepth 20000 in
theorem ggX4_make_X4_isDirectory : GoodIn wsX4_make wsX4_isDirectory := goodIn_r _ [19, 20, 13, 14, 11, 15, 45, 46, 47, 48, 49, 50, 51, 52, 53, 54, 55, 56, 57, 58, 59] (by decide +kernel) (by decide +kernel)
set_option maxRecDepth 20000 in
theorem gX4_make_X4_isDirectory : GoodIn wsX4_make (wsV RX4 57 RX4 yX4_isDirectory wsX4_isDirectory) := goodIn_app (goodIn_of _ (by decide +kernel)) ggX4_make_X4_isDirectory
set_option maxRecDepth 20000 in
theorem ggX4_make_X4_in : GoodIn wsX4_make wsX4_in := goodIn_r _ [15] (by decide +kernel) (by decide +kernel)
set_option maxRecDepth 20000 in
theorem gX4_make_X4_in : GoodIn wsX4_make (va_wsS RX4 50 yX4_in wsX4_in) := goodIn_app (goodIn_of _ (by decide +kernel)) ggX4_make_X4_in
set_option maxRecDepth 20000 in
theorem ggX4_make_X4_canGrow : GoodIn wsX4_make wsX4_canGrow := goodIn_r _ [24, 25, 26, 27, 28, 29, 30, 11, 31, 1, 5, 3, 32, 33, 34, 35, 4, 36, 37, 38, 39, 45, 46, 47, 48, 49, 50, 51, 52, 53, 54, 55, 56, 57, 58, 59] (by decide +kernel) (by decide +kernel)
set_option maxRecDepth 20000 in
theorem gX4_make_X4_canGrow : GoodIn wsX4_make (wsV RX4 79 RX4 yX4_canGrow wsX4_canGrow) := goodIn_app (goodIn_of _ (by decide +kernel)) ggX4_make_X4_canGrow
set_option maxRecDepth 20000 in
theorem ggX4_make_X4_isFine : GoodIn wsX4_make wsX4_isFine := goodIn_r _ [43, 44, 45, 46, 47, 48, 49, 50, 51, 52, 53, 54, 55, 56, 57, 58, 59] (by decide +kernel) (by decide +kernel)
set_option maxRecDepth 20000 in
theorem gX4_make_X4_isFine : GoodIn wsX4_make (wsV RX4 62 RX4 yX4_isFine wsX4_isFine) := goodIn_app (goodIn_of _ (by decide +kernel)) ggX4_make_X4_isFine
theorem dX4_make_0 : decode cX4_make 0 = .ok (.iload_n 1, 1) := by decide +kernel
theorem dX4_make_1 : decode cX4_make 1 = .ok (.invokestatic 76, 3) := by decide +kernel
theorem dX4_make_4 : decode cX4_make 4 = .ok (.ifCond .eq 11, 3) := by decide +kernel
theorem dX4_make_7 : decode cX4_make 7 = .ok (.aload_n 0, 1) := by decide +kernel
theorem dX4_make_8 : decode cX4_make 8 = .ok (.iload_n 2, 1) := by decide +kernel
theorem dX4_make_9 : decode cX4_make 9 = .ok (.invokevirtual 57, 3) := by decide +kernel
theorem dX4_make_12 : decode cX4_make 12 = .ok (.ifCond .ne 7, 3) := by decide +kernel
theorem dX4_make_15 : decode cX4_make 15 = .ok (.iconst 1, 1) := by decide +kernel
theorem dX4_make_16 : decode cX4_make 16 = .ok (.goto 19, 3) := by decide +kernel
theorem dX4_make_19 : decode cX4_make 19 = .ok (.iload_n 3, 1) := by decide +kernel
theorem dX4_make_20 : decode cX4_make 20 = .ok (.iconst 1, 1) := by decide +kernel
theorem dX4_make_21 : decode cX4_make 21 = .ok (.sipush 1000, 3) := by decide +kernel
theorem dX4_make_24 : decode cX4_make 24 = .ok (.invokestatic 50, 3) := by decide +kernel
theorem dX4_make_27 : decode cX4_make 27 = .ok (.ifCond .ne 7, 3) := by decide +kernel
theorem dX4_make_30 : decode cX4_make 30 = .ok (.iconst 2, 1) := by decide +kernel
theorem dX4_make_31 : decode cX4_make 31 = .ok (.goto 4, 3) := by decide +kernel
theorem dX4_make_34 : decode cX4_make 34 = .ok (.iconst 0, 1) := by decide +kernel
theorem dX4_make_35 : decode cX4_make 35 = .ok (.istore 4, 2) := by decide +kernel
theorem dX4_make_37 : decode cX4_make 37 = .ok (.aload_n 0, 1) := by decide +kernel
theorem dX4_make_38 : decode cX4_make 38 = .ok (.iload 4, 2) := by decide +kernel
theorem dX4_make_40 : decode cX4_make 40 = .ok (.ifCond .ne 26, 3) := by decide +kernel
theorem dX4_make_43 : decode cX4_make 43 = .ok (.aload_n 0, 1) := by decide +kernel
theorem dX4_make_44 : decode cX4_make 44 = .ok (.getfield 54, 3) := by decide +kernel
theorem dX4_make_47 : decode cX4_make 47 = .ok (.bipush 30, 2) := by decide +kernel
theorem dX4_make_49 : decode cX4_make 49 = .ok (.if_icmp .eq 13, 3) := by decide +kernel
theorem dX4_make_52 : decode cX4_make 52 = .ok (.aload_n 0, 1) := by decide +kernel
theorem dX4_make_53 : decode cX4_make 53 = .ok (.iload_n 1, 1) := by decide +kernel
theorem dX4_make_54 : decode cX4_make 54 = .ok (.iload_n 2, 1) := by decide +kernel
theorem dX4_make_55 : decode cX4_make 55 = .ok (.iload_n 3, 1) := by decide +kernel
theorem dX4_make_56 : decode cX4_make 56 = .ok (.invokevirtual 79, 3) := by decide +kernel
theorem dX4_make_59 : decode cX4_make 59 = .ok (.ifCond .ne 7, 3) := by decide +kernel
theorem dX4_make_62 : decode cX4_make 62 = .ok (.iconst 3, 1) := by decide +kernel
theorem dX4_make_63 : decode cX4_make 63 = .ok (.goto 5, 3) := by decide +kernel
theorem dX4_make_66 : decode cX4_make 66 = .ok (.iload 4, 2) := by decide +kernel
theorem dX4_make_68 : decode cX4_make 68 = .ok (.invokevirtual 62, 3) := by decide +kernel
theorem dX4_make_71 : decode cX4_make 71 = .ok (.ifCond .ne 5, 3) := by decide +kernel
theorem dX4_make_74 : decode cX4_make 74 = .ok (.iconst 0, 1) := by decide +kernel
theorem dX4_make_75 : decode cX4_make 75 = .ok (.ireturn, 1) := by decide +kernel
theorem dX4_make_76 : decode cX4_make 76 = .ok (.aload_n 0, 1) := by decide +kernel
theorem dX4_make_77 : decode cX4_make 77 = .ok (.getfield 20, 3) := by decide +kernel
theorem dX4_make_80 : decode cX4_make 80 = .ok (.aload_n 0, 1) := by decide +kernel
theorem dX4_make_81 : decode cX4_make 81 = .ok (.getfield 54, 3) := by decide +kernel
theorem dX4_make_84 : decode cX4_make 84 = .ok (.iload_n 1, 1) := by decide +kernel
theorem dX4_make_85 : decode cX4_make 85 = .ok (.iastore, 1) := by decide +kernel
theorem dX4_make_86 : decode cX4_make 86 = .ok (.aload_n 0, 1) := by decide +kernel
theorem dX4_make_87 : decode cX4_make 87 = .ok (.getfield 23, 3) := by decide +kernel
theorem dX4_make_90 : decode cX4_make 90 = .ok (.aload_n 0, 1) := by decide +kernel
theorem dX4_make_91 : decode cX4_make 91 = .ok (.getfield 54, 3) := by decide +kernel
theorem dX4_make_94 : decode cX4_make 94 = .ok (.iload_n 3, 1) := by decide +kernel
theorem dX4_make_95 : decode cX4_make 95 = .ok (.iastore, 1) := by decide +kernel
theorem dX4_make_96 : decode cX4_make 96 = .ok (.aload_n 0, 1) := by decide +kernel
theorem dX4_make_97 : decode cX4_make 97 = .ok (.getfield 26, 3) := by decide +kernel
theorem dX4_make_100 : decode cX4_make 100 = .ok (.bipush 12, 2) := by decide +kernel
theorem dX4_make_102 : decode cX4_make 102 = .ok (.aload_n 0, 1) := by decide +kernel
theorem dX4_make_103 : decode cX4_make 103 = .ok (.getfield 54, 3) := by decide +kernel
theorem dX4_make_106 : decode cX4_make 106 = .ok (.imul, 1) := by decide +kernel
theorem dX4_make_107 : decode cX4_make 107 = .ok (.iload_n 2, 1) := by decide +kernel
theorem dX4_make_108 : decode cX4_make 108 = .ok (.iastore, 1) := by decide +kernel
theorem dX4_make_109 : decode cX4_make 109 = .ok (.aload_n 0, 1) := by decide +kernel
theorem dX4_make_110 : decode cX4_make 110 = .ok (.getfield 29, 3) := by decide +kernel
theorem dX4_make_113 : decode cX4_make 113 = .ok (.aload_n 0, 1) := by decide +kernel
theorem dX4_make_114 : decode cX4_make 114 = .ok (.getfield 54, 3) := by decide +kernel
theorem dX4_make_117 : decode cX4_make 117 = .ok (.iconst 1, 1) := by decide +kernel
theorem dX4_make_118 : decode cX4_make 118 = .ok (.iastore, 1) := by decide +kernel
theorem dX4_make_119 : decode cX4_make 119 = .ok (.aload_n 0, 1) := by decide +kernel
theorem dX4_make_120 : decode cX4_make 120 = .ok (.getfield 38, 3) := by decide +kernel
theorem dX4_make_123 : decode cX4_make 123 = .ok (.aload_n 0, 1) := by decide +kernel
theorem dX4_make_124 : decode cX4_make 124 = .ok (.getfield 54, 3) := by decide +kernel
theorem dX4_make_127 : decode cX4_make 127 = .ok (.aload_n 0, 1) := by decide +kernel
theorem dX4_make_128 : decode cX4_make 128 = .ok (.getfield 82, 3) := by decide +kernel
theorem dX4_make_131 : decode cX4_make 131 = .ok (.iastore, 1) := by decide +kernel
theorem dX4_make_132 : decode cX4_make 132 = .ok (.aload_n 0, 1) := by decide +kernel
theorem dX4_make_133 : decode cX4_make 133 = .ok (.getfield 41, 3) := by decide +kernel
theorem dX4_make_136 : decode cX4_make 136 = .ok (.aload_n 0, 1) := by decide +kernel
theorem dX4_make_137 : decode cX4_make 137 = .ok (.getfield 54, 3) := by decide +kernel
theorem dX4_make_140 : decode cX4_make 140 = .ok (.iconst (-1), 1) := by decide +kernel
theorem dX4_make_141 : decode cX4_make 141 = .ok (.iastore, 1) := by decide +kernel
theorem dX4_make_142 : decode cX4_make 142 = .ok (.aload_n 0, 1) := by decide +kernel
theorem dX4_make_143 : decode cX4_make 143 = .ok (.dup, 1) := by decide +kernel
theorem dX4_make_144 : decode cX4_make 144 = .ok (.getfield 54, 3) := by decide +kernel
theorem dX4_make_147 : decode cX4_make 147 = .ok (.iconst 1, 1) := by decide +kernel
theorem dX4_make_148 : decode cX4_make 148 = .ok (.iadd, 1) := by decide +kernel
theorem dX4_make_149 : decode cX4_make 149 = .ok (.putfield 54, 3) := by decide +kernel
theorem dX4_make_152 : decode cX4_make 152 = .ok (.aload_n 0, 1) := by decide +kernel
theorem dX4_make_153 : decode cX4_make 153 = .ok (.getfield 54, 3) := by decide +kernel
theorem dX4_make_156 : decode cX4_make 156 = .ok (.iconst 1, 1) := by decide +kernel
theorem dX4_make_157 : decode cX4_make 157 = .ok (.isub, 1) := by decide +kernel
theorem dX4_make_158 : decode cX4_make 158 = .ok (.ireturn, 1) := by decide +kernel
theorem dX4_linkTo_0 : decode cX4_linkTo 0 = .ok (.iconst (-1), 1) := by decide +kernel
theorem dX4_linkTo_1 : decode cX4_linkTo 1 = .ok (.istore_n 3, 1) := by decide +kernel
theorem dX4_linkTo_2 : decode cX4_linkTo 2 = .ok (.iconst 0, 1) := by decide +kernel
theorem dX4_linkTo_3 : decode cX4_linkTo 3 = .ok (.istore 4, 2) := by decide +kernel
theorem dX4_linkTo_5 : decode cX4_linkTo 5 = .ok (.iload 4, 2) := by decide +kernel
theorem dX4_linkTo_7 : decode cX4_linkTo 7 = .ok (.aload_n 0, 1) := by decide +kernel
theorem dX4_linkTo_8 : decode cX4_linkTo 8 = .ok (.getfield 29, 3) := by decide +kernel
theorem dX4_linkTo_11 : decode cX4_linkTo 11 = .ok (.iload_n 1, 1) := by decide +kernel
theorem dX4_linkTo_12 : decode cX4_linkTo 12 = .ok (.iaload, 1) := by decide +kernel
theorem dX4_linkTo_13 : decode cX4_linkTo 13 = .ok (.if_icmp .ge 32, 3) := by decide +kernel
theorem dX4_linkTo_16 : decode cX4_linkTo 16 = .ok (.aload_n 0, 1) := by decide +kernel
theorem dX4_linkTo_17 : decode cX4_linkTo 17 = .ok (.getfield 26, 3) := by decide +kernel
theorem dX4_linkTo_20 : decode cX4_linkTo 20 = .ok (.bipush 12, 2) := by decide +kernel
theorem dX4_linkTo_22 : decode cX4_linkTo 22 = .ok (.iload_n 1, 1) := by decide +kernel
theorem dX4_linkTo_23 : decode cX4_linkTo 23 = .ok (.imul, 1) := by decide +kernel
theorem dX4_linkTo_24 : decode cX4_linkTo 24 = .ok (.iload 4, 2) := by decide +kernel
theorem dX4_linkTo_26 : decode cX4_linkTo 26 = .ok (.iadd, 1) := by decide +kernel
theorem dX4_linkTo_27 : decode cX4_linkTo 27 = .ok (.iaload, 1) := by decide +kernel
theorem dX4_linkTo_28 : decode cX4_linkTo 28 = .ok (.iload_n 2, 1) := by decide +kernel
theorem dX4_linkTo_29 : decode cX4_linkTo 29 = .ok (.if_icmp .ne 8, 3) := by decide +kernel
theorem dX4_linkTo_32 : decode cX4_linkTo 32 = .ok (.iload 4, 2) := by decide +kernel
theorem dX4_linkTo_34 : decode cX4_linkTo 34 = .ok (.goto 4, 3) := by decide +kernel
theorem dX4_linkTo_37 : decode cX4_linkTo 37 = .ok (.iload_n 3, 1) := by decide +kernel
theorem dX4_linkTo_38 : decode cX4_linkTo 38 = .ok (.istore_n 3, 1) := by decide +kernel
theorem dX4_linkTo_39 : decode cX4_linkTo 39 = .ok (.iinc 4 1, 3) := by decide +kernel
theorem dX4_linkTo_42 : decode cX4_linkTo 42 = .ok (.goto (-37), 3) := by decide +kernel
theorem dX4_linkTo_45 : decode cX4_linkTo 45 = .ok (.iload_n 3, 1) := by decide +kernel
theorem dX4_linkTo_46 : decode cX4_linkTo 46 = .ok (.ireturn, 1) := by decide +kernel
set_option maxRecDepth 20000 in
theorem ggX4_link_X4_isFile : GoodIn wsX4_link wsX4_isFile := goodIn_r _ [7, 8, 9, 10, 6, 11, 26, 27, 28, 29, 30, 31, 32, 33, 34, 35, 36, 37, 38, 39, 40] (by decide +kernel) (by decide +kernel)
set_option maxRecDepth 20000 in
theorem gX4_link_X4_isFile : GoodIn wsX4_link (wsV RX4 85 RX4 yX4_isFile wsX4_isFile) := goodIn_app (goodIn_of _ (by decide +kernel)) ggX4_link_X4_isFile
set_option maxRecDepth 20000 in
theorem ggX4_link_X4_isDirectory : GoodIn wsX4_link wsX4_isDirectory := goodIn_r _ [15, 16, 9, 10, 6, 11, 26, 27, 28, 29, 30, 31, 32, 33, 34, 35, 36, 37, 38, 39, 40] (by decide +kernel) (by decide +kernel)
set_option maxRecDepth 20000 in
theorem gX4_link_X4_isDirectory : GoodIn wsX4_link (wsV RX4 57 RX4 yX4_isDirectory wsX4_isDirectory) := goodIn_app (goodIn_of _ (by decide +kernel)) ggX4_link_X4_isDirectory
set_option maxRecDepth 20000 in
theorem ggX4_link_X4_linkTo : GoodIn wsX4_link wsX4_linkTo := goodIn_r _ [20, 1, 2, 26, 27, 28, 29, 30, 31, 32, 33, 34, 35, 36, 37, 38, 39, 40] (by decide +kernel) (by decide +kernel)
set_option maxRecDepth 20000 in
theorem gX4_link_X4_linkTo : GoodIn wsX4_link (wsV RX4 88 RX4 yX4_linkTo wsX4_linkTo) := goodIn_app (goodIn_of _ (by decide +kernel)) ggX4_link_X4_linkTo
set_option maxRecDepth 20000 in
theorem ggX4_link_X4_isFine : GoodIn wsX4_link wsX4_isFine := goodIn_r _ [24, 25, 26, 27, 28, 29, 30, 31, 32, 33, 34, 35, 36, 37, 38, 39, 40] (by decide +kernel) (by decide +kernel)
set_option maxRecDepth 20000 in
theorem gX4_link_X4_isFine : GoodIn wsX4_link (wsV RX4 62 RX4 yX4_isFine wsX4_isFine) := goodIn_app (goodIn_of _ (by decide +kernel)) ggX4_link_X4_isFine
theorem dX4_link_0 : decode cX4_link 0 = .ok (.aload_n 0, 1) := by decide +kernel
theorem dX4_link_1 : decode cX4_link 1 = .ok (.iload_n 1, 1) := by decide +kernel
theorem dX4_link_2 : decode cX4_link 2 = .ok (.invokevirtual 85, 3) := by decide +kernel
theorem dX4_link_5 : decode cX4_link 5 = .ok (.ifCond .eq 11, 3) := by decide +kernel
theorem dX4_link_8 : decode cX4_link 8 = .ok (.aload_n 0, 1) := by decide +kernel
theorem dX4_link_9 : decode cX4_link 9 = .ok (.iload_n 2, 1) := by decide +kernel
