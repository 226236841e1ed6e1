theorem dX3_release_7 : decode cX3_release 7 = .ok (.iconst 0, 1) := by decide +kernel
theorem dX3_release_8 : decode cX3_release 8 = .ok (.istore 4, 2) := by decide +kernel
theorem dX3_release_10 : decode cX3_release 10 = .ok (.iload 4, 2) := by decide +kernel
theorem dX3_release_12 : decode cX3_release 12 = .ok (.aload_n 0, 1) := by decide +kernel
theorem dX3_release_13 : decode cX3_release 13 = .ok (.getfield 16, 3) := by decide +kernel
theorem dX3_release_16 : decode cX3_release 16 = .ok (.invokevirtual 43, 3) := by decide +kernel
theorem dX3_release_19 : decode cX3_release 19 = .ok (.if_icmp .ge 28, 3) := by decide +kernel
theorem dX3_release_22 : decode cX3_release 22 = .ok (.iload_n 3, 1) := by decide +kernel
theorem dX3_release_23 : decode cX3_release 23 = .ok (.aload_n 0, 1) := by decide +kernel
theorem dX3_release_24 : decode cX3_release 24 = .ok (.getfield 16, 3) := by decide +kernel
theorem dX3_release_27 : decode cX3_release 27 = .ok (.iload 4, 2) := by decide +kernel
theorem dX3_release_29 : decode cX3_release 29 = .ok (.invokevirtual 149, 3) := by decide +kernel
theorem dX3_release_32 : decode cX3_release 32 = .ok (.checkcast 68, 3) := by decide +kernel
theorem dX3_release_35 : decode cX3_release 35 = .ok (.iload_n 2, 1) := by decide +kernel
theorem dX3_release_36 : decode cX3_release 36 = .ok (.invokevirtual 153, 3) := by decide +kernel
theorem dX3_release_39 : decode cX3_release 39 = .ok (.iadd, 1) := by decide +kernel
theorem dX3_release_40 : decode cX3_release 40 = .ok (.istore_n 3, 1) := by decide +kernel
theorem dX3_release_41 : decode cX3_release 41 = .ok (.iinc 4 1, 3) := by decide +kernel
theorem dX3_release_44 : decode cX3_release 44 = .ok (.goto (-34), 3) := by decide +kernel
theorem dX3_release_47 : decode cX3_release 47 = .ok (.iload_n 3, 1) := by decide +kernel
theorem dX3_release_48 : decode cX3_release 48 = .ok (.ireturn, 1) := by decide +kernel
set_option maxRecDepth 20000 in
theorem ggX3_fund_X3_departmentNumbered : GoodIn wsX3_fund wsX3_departmentNumbered := goodIn_ca (goodIn_r _ [9, 10, 11, 12, 13, 14, 15, 16, 17, 18, 19, 20, 21, 22, 23, 24, 25, 26, 27, 28, 29, 30, 31, 32, 33, 34, 35, 36, 44, 45, 46, 47, 48, 49, 50] (by decide +kernel) (by decide +kernel)) (goodIn_sub (fun _ h => List.mem_cons_of_mem _ (List.mem_append_left _ (List.mem_append_right _ h))) (by decide +kernel))
set_option maxRecDepth 20000 in
theorem gX3_fund_X3_departmentNumbered : GoodIn wsX3_fund (wsV RX3 58 RX3 yX3_departmentNumbered wsX3_departmentNumbered) := goodIn_app (goodIn_of _ (by decide +kernel)) ggX3_fund_X3_departmentNumbered
set_option maxRecDepth 20000 in
theorem ggX3_fund_X3_requireBetween : GoodIn wsX3_fund wsX3_requireBetween := goodIn_ca (goodIn_r _ [39, 40, 41] (by decide +kernel) (by decide +kernel)) (goodIn_sub (fun _ h => List.mem_cons_of_mem _ (List.mem_append_right _ h)) (by decide +kernel))
set_option maxRecDepth 20000 in
theorem gX3_fund_X3_requireBetween : GoodIn wsX3_fund (va_wsS RX3 39 yX3_requireBetween wsX3_requireBetween) := goodIn_app (goodIn_of _ (by decide +kernel)) ggX3_fund_X3_requireBetween
theorem dX3_fund_0 : decode cX3_fund 0 = .ok (.aload_n 0, 1) := by decide +kernel
theorem dX3_fund_1 : decode cX3_fund 1 = .ok (.iload_n 1, 1) := by decide +kernel
theorem dX3_fund_2 : decode cX3_fund 2 = .ok (.invokevirtual 58, 3) := by decide +kernel
theorem dX3_fund_5 : decode cX3_fund 5 = .ok (.astore_n 3, 1) := by decide +kernel
theorem dX3_fund_6 : decode cX3_fund 6 = .ok (.iconst 1, 1) := by decide +kernel
theorem dX3_fund_7 : decode cX3_fund 7 = .ok (.iload_n 2, 1) := by decide +kernel
theorem dX3_fund_8 : decode cX3_fund 8 = .ok (.sipush 10000, 3) := by decide +kernel
theorem dX3_fund_11 : decode cX3_fund 11 = .ok (.invokestatic 39, 3) := by decide +kernel
theorem dX3_fund_14 : decode cX3_fund 14 = .ok (.aload_n 3, 1) := by decide +kernel
theorem dX3_fund_15 : decode cX3_fund 15 = .ok (.getfield 156, 3) := by decide +kernel
theorem dX3_fund_18 : decode cX3_fund 18 = .ok (.iload_n 2, 1) := by decide +kernel
theorem dX3_fund_19 : decode cX3_fund 19 = .ok (.iadd, 1) := by decide +kernel
theorem dX3_fund_20 : decode cX3_fund 20 = .ok (.ldc 159, 2) := by decide +kernel
theorem dX3_fund_22 : decode cX3_fund 22 = .ok (.if_icmp .le 13, 3) := by decide +kernel
theorem dX3_fund_25 : decode cX3_fund 25 = .ok (.new 47, 3) := by decide +kernel
theorem dX3_fund_28 : decode cX3_fund 28 = .ok (.dup, 1) := by decide +kernel
theorem dX3_fund_29 : decode cX3_fund 29 = .ok (.ldc 160, 2) := by decide +kernel
theorem dX3_fund_31 : decode cX3_fund 31 = .ok (.invokespecial 51, 3) := by decide +kernel
theorem dX3_fund_34 : decode cX3_fund 34 = .ok (.athrow, 1) := by decide +kernel
theorem dX3_fund_35 : decode cX3_fund 35 = .ok (.aload_n 3, 1) := by decide +kernel
theorem dX3_fund_36 : decode cX3_fund 36 = .ok (.dup, 1) := by decide +kernel
theorem dX3_fund_37 : decode cX3_fund 37 = .ok (.getfield 156, 3) := by decide +kernel
theorem dX3_fund_40 : decode cX3_fund 40 = .ok (.iload_n 2, 1) := by decide +kernel
theorem dX3_fund_41 : decode cX3_fund 41 = .ok (.iadd, 1) := by decide +kernel
theorem dX3_fund_42 : decode cX3_fund 42 = .ok (.putfield 156, 3) := by decide +kernel
theorem dX3_fund_45 : decode cX3_fund 45 = .ok (.aload_n 3, 1) := by decide +kernel
theorem dX3_fund_46 : decode cX3_fund 46 = .ok (.getfield 156, 3) := by decide +kernel
theorem dX3_fund_49 : decode cX3_fund 49 = .ok (.ireturn, 1) := by decide +kernel
set_option maxRecDepth 20000 in
theorem ggX3_pass_X3_requireBetween : GoodIn wsX3_pass wsX3_requireBetween := goodIn_ca (goodIn_r _ [7, 8, 9] (by decide +kernel) (by decide +kernel)) (goodIn_sub (fun _ h => List.mem_cons_of_mem _ (List.mem_append_right _ h)) (by decide +kernel))
set_option maxRecDepth 20000 in
theorem gX3_pass_X3_requireBetween : GoodIn wsX3_pass (va_wsS RX3 39 yX3_requireBetween wsX3_requireBetween) := goodIn_app (goodIn_of _ (by decide +kernel)) ggX3_pass_X3_requireBetween
set_option maxRecDepth 20000 in
theorem ggX3_pass_X3_payBills : GoodIn wsX3_pass wsX3_payBills := goodIn_r _ [13, 14, 15, 3, 16, 17, 18, 19, 20, 21, 22, 23, 24, 25, 26, 27, 28, 29, 30, 31, 32, 33, 34, 35, 36, 37, 38, 39, 40, 41, 42, 43, 44, 45, 46, 47, 48, 49, 50, 51, 52, 53, 54, 55, 56, 57, 58, 59, 60, 61, 62, 63, 64, 65, 66, 67, 68, 69, 70, 71, 72, 73, 74, 75, 76, 77, 78, 79, 80, 81, 82, 83, 84, 85, 86, 87, 88, 89, 90, 91, 92] (by decide +kernel) (by decide +kernel)
set_option maxRecDepth 20000 in
theorem gX3_pass_X3_payBills : GoodIn wsX3_pass (wsV RX3 164 RX3 yX3_payBills wsX3_payBills) := goodIn_app (goodIn_of _ (by decide +kernel)) ggX3_pass_X3_payBills
theorem dX3_pass_0 : decode cX3_pass 0 = .ok (.iconst 1, 1) := by decide +kernel
theorem dX3_pass_1 : decode cX3_pass 1 = .ok (.iload_n 1, 1) := by decide +kernel
theorem dX3_pass_2 : decode cX3_pass 2 = .ok (.bipush 100, 2) := by decide +kernel
theorem dX3_pass_4 : decode cX3_pass 4 = .ok (.invokestatic 39, 3) := by decide +kernel
theorem dX3_pass_7 : decode cX3_pass 7 = .ok (.aload_n 0, 1) := by decide +kernel
theorem dX3_pass_8 : decode cX3_pass 8 = .ok (.getfield 70, 3) := by decide +kernel
theorem dX3_pass_11 : decode cX3_pass 11 = .ok (.iload_n 1, 1) := by decide +kernel
theorem dX3_pass_12 : decode cX3_pass 12 = .ok (.iadd, 1) := by decide +kernel
theorem dX3_pass_13 : decode cX3_pass 13 = .ok (.sipush 10000, 3) := by decide +kernel
theorem dX3_pass_16 : decode cX3_pass 16 = .ok (.if_icmp .le 13, 3) := by decide +kernel
theorem dX3_pass_19 : decode cX3_pass 19 = .ok (.new 47, 3) := by decide +kernel
theorem dX3_pass_22 : decode cX3_pass 22 = .ok (.dup, 1) := by decide +kernel
theorem dX3_pass_23 : decode cX3_pass 23 = .ok (.ldc 162, 2) := by decide +kernel
theorem dX3_pass_25 : decode cX3_pass 25 = .ok (.invokespecial 51, 3) := by decide +kernel
theorem dX3_pass_28 : decode cX3_pass 28 = .ok (.athrow, 1) := by decide +kernel
theorem dX3_pass_29 : decode cX3_pass 29 = .ok (.iconst 0, 1) := by decide +kernel
theorem dX3_pass_30 : decode cX3_pass 30 = .ok (.istore_n 2, 1) := by decide +kernel
theorem dX3_pass_31 : decode cX3_pass 31 = .ok (.iconst 0, 1) := by decide +kernel
theorem dX3_pass_32 : decode cX3_pass 32 = .ok (.istore_n 3, 1) := by decide +kernel
theorem dX3_pass_33 : decode cX3_pass 33 = .ok (.iload_n 3, 1) := by decide +kernel
theorem dX3_pass_34 : decode cX3_pass 34 = .ok (.iload_n 1, 1) := by decide +kernel
theorem dX3_pass_35 : decode cX3_pass 35 = .ok (.if_icmp .ge 26, 3) := by decide +kernel
theorem dX3_pass_38 : decode cX3_pass 38 = .ok (.iload_n 2, 1) := by decide +kernel
theorem dX3_pass_39 : decode cX3_pass 39 = .ok (.aload_n 0, 1) := by decide +kernel
theorem dX3_pass_40 : decode cX3_pass 40 = .ok (.invokevirtual 164, 3) := by decide +kernel
theorem dX3_pass_43 : decode cX3_pass 43 = .ok (.iadd, 1) := by decide +kernel
theorem dX3_pass_44 : decode cX3_pass 44 = .ok (.istore_n 2, 1) := by decide +kernel
theorem dX3_pass_45 : decode cX3_pass 45 = .ok (.aload_n 0, 1) := by decide +kernel
theorem dX3_pass_46 : decode cX3_pass 46 = .ok (.dup, 1) := by decide +kernel
theorem dX3_pass_47 : decode cX3_pass 47 = .ok (.getfield 70, 3) := by decide +kernel
theorem dX3_pass_50 : decode cX3_pass 50 = .ok (.iconst 1, 1) := by decide +kernel
theorem dX3_pass_51 : decode cX3_pass 51 = .ok (.iadd, 1) := by decide +kernel
theorem dX3_pass_52 : decode cX3_pass 52 = .ok (.putfield 70, 3) := by decide +kernel
theorem dX3_pass_55 : decode cX3_pass 55 = .ok (.iinc 3 1, 3) := by decide +kernel
theorem dX3_pass_58 : decode cX3_pass 58 = .ok (.goto (-25), 3) := by decide +kernel
theorem dX3_pass_61 : decode cX3_pass 61 = .ok (.iload_n 2, 1) := by decide +kernel
theorem dX3_pass_62 : decode cX3_pass 62 = .ok (.ireturn, 1) := by decide +kernel
set_option maxRecDepth 20000 in
theorem ggX3_directories_Jx4a65c_size_8abf5 : GoodIn wsX3_directories wsJx4a65c_size_8abf5 := goodIn_r _ [6, 7, 12, 13, 14] (by decide +kernel) (by decide +kernel)
set_option maxRecDepth 20000 in
theorem gX3_directories_Jx4a65c_size_8abf5 : GoodIn wsX3_directories (wsV RX3 43 RJx4a65c yJx4a65c_size_8abf5 wsJx4a65c_size_8abf5) := goodIn_app (goodIn_of _ (by decide +kernel)) ggX3_directories_Jx4a65c_size_8abf5
theorem dX3_directories_0 : decode cX3_directories 0 = .ok (.aload_n 0, 1) := by decide +kernel
theorem dX3_directories_1 : decode cX3_directories 1 = .ok (.getfield 10, 3) := by decide +kernel
theorem dX3_directories_4 : decode cX3_directories 4 = .ok (.invokevirtual 43, 3) := by decide +kernel
theorem dX3_directories_7 : decode cX3_directories 7 = .ok (.ireturn, 1) := by decide +kernel
set_option maxRecDepth 20000 in
theorem ggX3_files_Jx4a65c_size_8abf5 : GoodIn wsX3_files wsJx4a65c_size_8abf5 := goodIn_r _ [6, 7, 12, 13, 14] (by decide +kernel) (by decide +kernel)
set_option maxRecDepth 20000 in
theorem gX3_files_Jx4a65c_size_8abf5 : GoodIn wsX3_files (wsV RX3 43 RJx4a65c yJx4a65c_size_8abf5 wsJx4a65c_size_8abf5) := goodIn_app (goodIn_of _ (by decide +kernel)) ggX3_files_Jx4a65c_size_8abf5
theorem dX3_files_0 : decode cX3_files 0 = .ok (.aload_n 0, 1) := by decide +kernel
theorem dX3_files_1 : decode cX3_files 1 = .ok (.getfield 16, 3) := by decide +kernel
theorem dX3_files_4 : decode cX3_files 4 = .ok (.invokevirtual 43, 3) := by decide +kernel
theorem dX3_files_7 : decode cX3_files 7 = .ok (.ireturn, 1) := by decide +kernel
set_option maxRecDepth 20000 in
theorem ggX3_usage_X3_directoryNumbered : GoodIn wsX3_usage wsX3_directoryNumbered := goodIn_ca (goodIn_r _ [6, 7, 8, 9, 10, 11, 12, 13, 14, 15, 16, 17, 18, 19, 20, 21, 22, 23, 24, 25, 26, 27, 28, 29, 30, 31, 32, 33, 38, 39, 40, 41, 42, 43, 44] (by decide +kernel) (by decide +kernel)) (goodIn_sub (fun _ h => List.mem_cons_of_mem _ (List.mem_append_right _ h)) (by decide +kernel))
set_option maxRecDepth 20000 in
theorem gX3_usage_X3_directoryNumbered : GoodIn wsX3_usage (wsV RX3 34 RX3 yX3_directoryNumbered wsX3_directoryNumbered) := goodIn_app (goodIn_of _ (by decide +kernel)) ggX3_usage_X3_directoryNumbered
theorem dX3_usage_0 : decode cX3_usage 0 = .ok (.aload_n 0, 1) := by decide +kernel
theorem dX3_usage_1 : decode cX3_usage 1 = .ok (.iload_n 1, 1) := by decide +kernel
theorem dX3_usage_2 : decode cX3_usage 2 = .ok (.invokevirtual 34, 3) := by decide +kernel
theorem dX3_usage_5 : decode cX3_usage 5 = .ok (.getfield 167, 3) := by decide +kernel
theorem dX3_usage_8 : decode cX3_usage 8 = .ok (.ireturn, 1) := by decide +kernel
set_option maxRecDepth 20000 in
theorem ggX3_usageByWalking_X3_directoryNumbered : GoodIn wsX3_usageByWalking wsX3_directoryNumbered := goodIn_ca (goodIn_r _ [8, 9, 10, 11, 12, 13, 14, 15, 16, 17, 18, 19, 20, 21, 22, 23, 24, 25, 26, 27, 28, 29, 30, 31, 32, 33, 34, 35, 54, 55, 56, 57, 64, 65, 66] (by decide +kernel) (by decide +kernel)) (goodIn_sub (fun _ h => List.mem_cons_of_mem _ (List.mem_append_right _ h)) (by decide +kernel))
set_option maxRecDepth 20000 in
theorem gX3_usageByWalking_X3_directoryNumbered : GoodIn wsX3_usageByWalking (wsV RX3 34 RX3 yX3_directoryNumbered wsX3_directoryNumbered) := goodIn_app (goodIn_of _ (by decide +kernel)) ggX3_usageByWalking_X3_directoryNumbered
set_option maxRecDepth 20000 in
theorem ggX3_usageByWalking_Jx4a65c_size_8abf5 : GoodIn wsX3_usageByWalking wsJx4a65c_size_8abf5 := goodIn_r _ [17, 18, 64, 65, 66] (by decide +kernel) (by decide +kernel)
set_option maxRecDepth 20000 in
theorem gX3_usageByWalking_Jx4a65c_size_8abf5 : GoodIn wsX3_usageByWalking (wsV RX3 43 RJx4a65c yJx4a65c_size_8abf5 wsJx4a65c_size_8abf5) := goodIn_app (goodIn_of _ (by decide +kernel)) ggX3_usageByWalking_Jx4a65c_size_8abf5
set_option maxRecDepth 20000 in
theorem ggX3_usageByWalking_Jx4a65c_get_915e3 : GoodIn wsX3_usageByWalking wsJx4a65c_get_915e3 := goodIn_r _ [22, 18, 23, 24, 25, 26, 27, 28, 29, 30, 31, 32, 33, 16, 34, 35, 64, 65, 66] (by decide +kernel) (by decide +kernel)
set_option maxRecDepth 20000 in
theorem gX3_usageByWalking_Jx4a65c_get_915e3 : GoodIn wsX3_usageByWalking (wsV RX3 149 RJx4a65c yJx4a65c_get_915e3 wsJx4a65c_get_915e3) := goodIn_app (goodIn_of _ (by decide +kernel)) ggX3_usageByWalking_Jx4a65c_get_915e3
set_option maxRecDepth 20000 in
theorem ggX3_usageByWalking_X2_firstLink : GoodIn wsX3_usageByWalking wsX2_firstLink := goodIn_r _ [40, 41, 42, 43, 44, 45, 16, 46, 18, 47, 20, 21, 22, 23, 24, 25, 26, 27, 28, 29, 30, 31, 32, 33, 34, 35, 58, 59, 60, 61, 62, 63, 64, 65, 66] (by decide +kernel) (by decide +kernel)
set_option maxRecDepth 20000 in
theorem gX3_usageByWalking_X2_firstLink : GoodIn wsX3_usageByWalking (wsV RX3 100 RX2 yX2_firstLink wsX2_firstLink) := goodIn_app (goodIn_of _ (by decide +kernel)) ggX3_usageByWalking_X2_firstLink
set_option maxRecDepth 20000 in
theorem ggX3_usageByWalking_X1_hasOnItsWay : GoodIn wsX3_usageByWalking wsX1_hasOnItsWay := goodIn_r _ [52, 53, 67, 68, 69, 70] (by decide +kernel) (by decide +kernel)
set_option maxRecDepth 20000 in
theorem gX3_usageByWalking_X1_hasOnItsWay : GoodIn wsX3_usageByWalking (wsV RX3 170 RX1 yX1_hasOnItsWay wsX1_hasOnItsWay) := goodIn_app (goodIn_of _ (by decide +kernel)) ggX3_usageByWalking_X1_hasOnItsWay
theorem dX3_usageByWalking_0 : decode cX3_usageByWalking 0 = .ok (.aload_n 0, 1) := by decide +kernel
theorem dX3_usageByWalking_1 : decode cX3_usageByWalking 1 = .ok (.iload_n 1, 1) := by decide +kernel
theorem dX3_usageByWalking_2 : decode cX3_usageByWalking 2 = .ok (.invokevirtual 34, 3) := by decide +kernel
theorem dX3_usageByWalking_5 : decode cX3_usageByWalking 5 = .ok (.astore_n 2, 1) := by decide +kernel
theorem dX3_usageByWalking_6 : decode cX3_usageByWalking 6 = .ok (.iconst 0, 1) := by decide +kernel
theorem dX3_usageByWalking_7 : decode cX3_usageByWalking 7 = .ok (.istore_n 3, 1) := by decide +kernel
theorem dX3_usageByWalking_8 : decode cX3_usageByWalking 8 = .ok (.iconst 0, 1) := by decide +kernel
theorem dX3_usageByWalking_9 : decode cX3_usageByWalking 9 = .ok (.istore 4, 2) := by decide +kernel
theorem dX3_usageByWalking_11 : decode cX3_usageByWalking 11 = .ok (.iload 4, 2) := by decide +kernel
theorem dX3_usageByWalking_13 : decode cX3_usageByWalking 13 = .ok (.aload_n 0, 1) := by decide +kernel
theorem dX3_usageByWalking_14 : decode cX3_usageByWalking 14 = .ok (.getfield 16, 3) := by decide +kernel
theorem dX3_usageByWalking_17 : decode cX3_usageByWalking 17 = .ok (.invokevirtual 43, 3) := by decide +kernel
theorem dX3_usageByWalking_20 : decode cX3_usageByWalking 20 = .ok (.if_icmp .ge 52, 3) := by decide +kernel
theorem dX3_usageByWalking_23 : decode cX3_usageByWalking 23 = .ok (.aload_n 0, 1) := by decide +kernel
theorem dX3_usageByWalking_24 : decode cX3_usageByWalking 24 = .ok (.getfield 16, 3) := by decide +kernel
theorem dX3_usageByWalking_27 : decode cX3_usageByWalking 27 = .ok (.iload 4, 2) := by decide +kernel
theorem dX3_usageByWalking_29 : decode cX3_usageByWalking 29 = .ok (.invokevirtual 149, 3) := by decide +kernel
theorem dX3_usageByWalking_32 : decode cX3_usageByWalking 32 = .ok (.checkcast 68, 3) := by decide +kernel
theorem dX3_usageByWalking_35 : decode cX3_usageByWalking 35 = .ok (.astore 5, 2) := by decide +kernel
theorem dX3_usageByWalking_37 : decode cX3_usageByWalking 37 = .ok (.aload 5, 2) := by decide +kernel
theorem dX3_usageByWalking_39 : decode cX3_usageByWalking 39 = .ok (.invokevirtual 100, 3) := by decide +kernel
theorem dX3_usageByWalking_42 : decode cX3_usageByWalking 42 = .ok (.astore 6, 2) := by decide +kernel
theorem dX3_usageByWalking_44 : decode cX3_usageByWalking 44 = .ok (.aload 6, 2) := by decide +kernel
theorem dX3_usageByWalking_46 : decode cX3_usageByWalking 46 = .ok (.ifnull 20, 3) := by decide +kernel
theorem dX3_usageByWalking_49 : decode cX3_usageByWalking 49 = .ok (.aload 6, 2) := by decide +kernel
theorem dX3_usageByWalking_51 : decode cX3_usageByWalking 51 = .ok (.aload_n 2, 1) := by decide +kernel
theorem dX3_usageByWalking_52 : decode cX3_usageByWalking 52 = .ok (.invokevirtual 170, 3) := by decide +kernel
theorem dX3_usageByWalking_55 : decode cX3_usageByWalking 55 = .ok (.ifCond .eq 11, 3) := by decide +kernel
theorem dX3_usageByWalking_58 : decode cX3_usageByWalking 58 = .ok (.iload_n 3, 1) := by decide +kernel
theorem dX3_usageByWalking_59 : decode cX3_usageByWalking 59 = .ok (.aload 5, 2) := by decide +kernel
theorem dX3_usageByWalking_61 : decode cX3_usageByWalking 61 = .ok (.getfield 110, 3) := by decide +kernel
theorem dX3_usageByWalking_64 : decode cX3_usageByWalking 64 = .ok (.iadd, 1) := by decide +kernel
theorem dX3_usageByWalking_65 : decode cX3_usageByWalking 65 = .ok (.istore_n 3, 1) := by decide +kernel
theorem dX3_usageByWalking_66 : decode cX3_usageByWalking 66 = .ok (.iinc 4 1, 3) := by decide +kernel
theorem dX3_usageByWalking_69 : decode cX3_usageByWalking 69 = .ok (.goto (-58), 3) := by decide +kernel
theorem dX3_usageByWalking_72 : decode cX3_usageByWalking 72 = .ok (.iload_n 3, 1) := by decide +kernel
theorem dX3_usageByWalking_73 : decode cX3_usageByWalking 73 = .ok (.ireturn, 1) := by decide +kernel
set_option maxRecDepth 20000 in
theorem ggX3_size_X3_fileNumbered : GoodIn wsX3_size wsX3_fileNumbered := goodIn_ca (goodIn_r _ [6, 7, 8, 9, 10, 11, 12, 13, 14, 15, 16, 17, 18, 19, 20, 21, 22, 23, 24, 25, 26, 27, 28, 29, 30, 31, 32, 33, 40, 41, 42, 43, 44, 45, 46] (by decide +kernel) (by decide +kernel)) (goodIn_sub (fun _ h => List.mem_cons_of_mem _ (List.mem_append_right _ h)) (by decide +kernel))
set_option maxRecDepth 20000 in
theorem gX3_size_X3_fileNumbered : GoodIn wsX3_size (wsV RX3 86 RX3 yX3_fileNumbered wsX3_fileNumbered) := goodIn_app (goodIn_of _ (by decide +kernel)) ggX3_size_X3_fileNumbered
theorem dX3_size_0 : decode cX3_size 0 = .ok (.aload_n 0, 1) := by decide +kernel
theorem dX3_size_1 : decode cX3_size 1 = .ok (.iload_n 1, 1) := by decide +kernel
theorem dX3_size_2 : decode cX3_size 2 = .ok (.invokevirtual 86, 3) := by decide +kernel
theorem dX3_size_5 : decode cX3_size 5 = .ok (.getfield 110, 3) := by decide +kernel
theorem dX3_size_8 : decode cX3_size 8 = .ok (.ireturn, 1) := by decide +kernel
set_option maxRecDepth 20000 in
theorem ggX3_home_X3_fileNumbered : GoodIn wsX3_home wsX3_fileNumbered := goodIn_ca (goodIn_r _ [6, 7, 8, 9, 10, 11, 12, 13, 14, 15, 16, 17, 18, 19, 20, 21, 22, 23, 24, 25, 26, 27, 28, 29, 30, 31, 32, 33, 50, 51, 52, 53, 54, 55, 56] (by decide +kernel) (by decide +kernel)) (goodIn_sub (fun _ h => List.mem_cons_of_mem _ (List.mem_append_right _ h)) (by decide +kernel))
set_option maxRecDepth 20000 in
theorem gX3_home_X3_fileNumbered : GoodIn wsX3_home (wsV RX3 86 RX3 yX3_fileNumbered wsX3_fileNumbered) := goodIn_app (goodIn_of _ (by decide +kernel)) ggX3_home_X3_fileNumbered
set_option maxRecDepth 20000 in
theorem ggX3_home_X2_firstLink : GoodIn wsX3_home wsX2_firstLink := goodIn_r _ [38, 39, 40, 41, 42, 43, 14, 44, 16, 45, 18, 19, 20, 21, 22, 23, 24, 25, 26, 27, 28, 29, 30, 31, 32, 33, 57, 58, 59, 60, 61, 62, 54, 55, 56] (by decide +kernel) (by decide +kernel)
set_option maxRecDepth 20000 in
theorem gX3_home_X2_firstLink : GoodIn wsX3_home (wsV RX3 100 RX2 yX2_firstLink wsX2_firstLink) := goodIn_app (goodIn_of _ (by decide +kernel)) ggX3_home_X2_firstLink
theorem dX3_home_0 : decode cX3_home 0 = .ok (.aload_n 0, 1) := by decide +kernel
theorem dX3_home_1 : decode cX3_home 1 = .ok (.iload_n 1, 1) := by decide +kernel
theorem dX3_home_2 : decode cX3_home 2 = .ok (.invokevirtual 86, 3) := by decide +kernel
theorem dX3_home_5 : decode cX3_home 5 = .ok (.invokevirtual 100, 3) := by decide +kernel
theorem dX3_home_8 : decode cX3_home 8 = .ok (.astore_n 2, 1) := by decide +kernel
theorem dX3_home_9 : decode cX3_home 9 = .ok (.aload_n 2, 1) := by decide +kernel
theorem dX3_home_10 : decode cX3_home 10 = .ok (.ifnonnull 7, 3) := by decide +kernel
theorem dX3_home_13 : decode cX3_home 13 = .ok (.iconst (-1), 1) := by decide +kernel
theorem dX3_home_14 : decode cX3_home 14 = .ok (.goto 7, 3) := by decide +kernel
theorem dX3_home_17 : decode cX3_home 17 = .ok (.aload_n 2, 1) := by decide +kernel
theorem dX3_home_18 : decode cX3_home 18 = .ok (.getfield 173, 3) := by decide +kernel
theorem dX3_home_21 : decode cX3_home 21 = .ok (.ireturn, 1) := by decide +kernel
set_option maxRecDepth 20000 in
theorem ggX3_kept_X3_fileNumbered : GoodIn wsX3_kept wsX3_fileNumbered := goodIn_ca (goodIn_r _ [6, 7, 8, 9, 10, 11, 12, 13, 14, 15, 16, 17, 18, 19, 20, 21, 22, 23, 24, 25, 26, 27, 28, 29, 30, 31, 32, 33, 40, 41, 42, 43, 44, 45, 46] (by decide +kernel) (by decide +kernel)) (goodIn_sub (fun _ h => List.mem_cons_of_mem _ (List.mem_append_right _ h)) (by decide +kernel))
set_option maxRecDepth 20000 in
theorem gX3_kept_X3_fileNumbered : GoodIn wsX3_kept (wsV RX3 86 RX3 yX3_fileNumbered wsX3_fileNumbered) := goodIn_app (goodIn_of _ (by decide +kernel)) ggX3_kept_X3_fileNumbered
theorem dX3_kept_0 : decode cX3_kept 0 = .ok (.aload_n 0, 1) := by decide +kernel
theorem dX3_kept_1 : decode cX3_kept 1 = .ok (.iload_n 1, 1) := by decide +kernel
theorem dX3_kept_2 : decode cX3_kept 2 = .ok (.invokevirtual 86, 3) := by decide +kernel
theorem dX3_kept_5 : decode cX3_kept 5 = .ok (.getfield 128, 3) := by decide +kernel
theorem dX3_kept_8 : decode cX3_kept 8 = .ok (.ireturn, 1) := by decide +kernel
set_option maxRecDepth 20000 in
theorem ggX3_holders_X3_fileNumbered : GoodIn wsX3_holders wsX3_fileNumbered := goodIn_ca (goodIn_r _ [6, 7, 8, 9, 10, 11, 12, 13, 14, 15, 16, 17, 18, 19, 20, 21, 22, 23, 24, 25, 26, 27, 28, 29, 30, 31, 32, 33, 40, 41, 42, 43, 44, 45, 46] (by decide +kernel) (by decide +kernel)) (goodIn_sub (fun _ h => List.mem_cons_of_mem _ (List.mem_append_right _ h)) (by decide +kernel))
set_option maxRecDepth 20000 in
theorem gX3_holders_X3_fileNumbered : GoodIn wsX3_holders (wsV RX3 86 RX3 yX3_fileNumbered wsX3_fileNumbered) := goodIn_app (goodIn_of _ (by decide +kernel)) ggX3_holders_X3_fileNumbered
theorem dX3_holders_0 : decode cX3_holders 0 = .ok (.aload_n 0, 1) := by decide +kernel
theorem dX3_holders_1 : decode cX3_holders 1 = .ok (.iload_n 1, 1) := by decide +kernel
theorem dX3_holders_2 : decode cX3_holders 2 = .ok (.invokevirtual 86, 3) := by decide +kernel
theorem dX3_holders_5 : decode cX3_holders 5 = .ok (.getfield 141, 3) := by decide +kernel
theorem dX3_holders_8 : decode cX3_holders 8 = .ok (.ireturn, 1) := by decide +kernel
set_option maxRecDepth 20000 in
theorem ggX3_tier_X3_fileNumbered : GoodIn wsX3_tier wsX3_fileNumbered := goodIn_ca (goodIn_r _ [6, 7, 8, 9, 10, 11, 12, 13, 14, 15, 16, 17, 18, 19, 20, 21, 22, 23, 24, 25, 26, 27, 28, 29, 30, 31, 32, 33, 53, 54, 55, 56, 57, 58, 59] (by decide +kernel) (by decide +kernel)) (goodIn_sub (fun _ h => List.mem_cons_of_mem _ (List.mem_append_right _ h)) (by decide +kernel))
set_option maxRecDepth 20000 in
theorem gX3_tier_X3_fileNumbered : GoodIn wsX3_tier (wsV RX3 86 RX3 yX3_fileNumbered wsX3_fileNumbered) := goodIn_app (goodIn_of _ (by decide +kernel)) ggX3_tier_X3_fileNumbered
set_option maxRecDepth 20000 in
theorem ggX3_tier_X2_tierOn : GoodIn wsX3_tier wsX2_tierOn := goodIn_r _ [38, 39, 40, 41, 42, 37, 43, 44, 45, 46, 47, 14, 48, 16, 49, 50, 51, 52, 60, 61, 62, 63, 64, 65, 57, 58, 59] (by decide +kernel) (by decide +kernel)
set_option maxRecDepth 20000 in
theorem gX3_tier_X2_tierOn : GoodIn wsX3_tier (wsV RX3 115 RX2 yX2_tierOn wsX2_tierOn) := goodIn_app (goodIn_of _ (by decide +kernel)) ggX3_tier_X2_tierOn
theorem dX3_tier_0 : decode cX3_tier 0 = .ok (.aload_n 0, 1) := by decide +kernel
theorem dX3_tier_1 : decode cX3_tier 1 = .ok (.iload_n 1, 1) := by decide +kernel
theorem dX3_tier_2 : decode cX3_tier 2 = .ok (.invokevirtual 86, 3) := by decide +kernel
theorem dX3_tier_5 : decode cX3_tier 5 = .ok (.aload_n 0, 1) := by decide +kernel
theorem dX3_tier_6 : decode cX3_tier 6 = .ok (.getfield 70, 3) := by decide +kernel
theorem dX3_tier_9 : decode cX3_tier 9 = .ok (.invokevirtual 115, 3) := by decide +kernel
theorem dX3_tier_12 : decode cX3_tier 12 = .ok (.ireturn, 1) := by decide +kernel
set_option maxRecDepth 20000 in
theorem ggX3_coins_X3_departmentNumbered : GoodIn wsX3_coins wsX3_departmentNumbered := goodIn_ca (goodIn_r _ [6, 7, 8, 9, 10, 11, 12, 13, 14, 15, 16, 17, 18, 19, 20, 21, 22, 23, 24, 25, 26, 27, 28, 29, 30, 31, 32, 33, 36, 37, 38, 39, 40, 41, 42] (by decide +kernel) (by decide +kernel)) (goodIn_sub (fun _ h => List.mem_cons_of_mem _ (List.mem_append_right _ h)) (by decide +kernel))
set_option maxRecDepth 20000 in
theorem gX3_coins_X3_departmentNumbered : GoodIn wsX3_coins (wsV RX3 58 RX3 yX3_departmentNumbered wsX3_departmentNumbered) := goodIn_app (goodIn_of _ (by decide +kernel)) ggX3_coins_X3_departmentNumbered
theorem dX3_coins_0 : decode cX3_coins 0 = .ok (.aload_n 0, 1) := by decide +kernel
theorem dX3_coins_1 : decode cX3_coins 1 = .ok (.iload_n 1, 1) := by decide +kernel
theorem dX3_coins_2 : decode cX3_coins 2 = .ok (.invokevirtual 58, 3) := by decide +kernel
theorem dX3_coins_5 : decode cX3_coins 5 = .ok (.getfield 156, 3) := by decide +kernel
theorem dX3_coins_8 : decode cX3_coins 8 = .ok (.ireturn, 1) := by decide +kernel
set_option maxRecDepth 20000 in
theorem ggX3_bill_X3_departmentNumbered : GoodIn wsX3_bill wsX3_departmentNumbered := goodIn_ca (goodIn_r _ [6, 7, 8, 9, 10, 11, 12, 13, 14, 15, 16, 17, 18, 19, 20, 21, 22, 23, 24, 25, 26, 27, 28, 29, 30, 31, 32, 33, 68, 69, 70, 71, 72, 73, 74] (by decide +kernel) (by decide +kernel)) (goodIn_sub (fun _ h => List.mem_cons_of_mem _ (List.mem_append_right _ h)) (by decide +kernel))
set_option maxRecDepth 20000 in
theorem gX3_bill_X3_departmentNumbered : GoodIn wsX3_bill (wsV RX3 58 RX3 yX3_departmentNumbered wsX3_departmentNumbered) := goodIn_app (goodIn_of _ (by decide +kernel)) ggX3_bill_X3_departmentNumbered
set_option maxRecDepth 20000 in
theorem ggX3_bill_X0_billOn : GoodIn wsX3_bill wsX0_billOn := goodIn_r _ [38, 39, 40, 41, 12, 13, 14, 15, 16, 42, 18, 19, 20, 21, 22, 23, 24, 25, 26, 27, 28, 29, 30, 31, 32, 33, 43, 44, 45, 46, 47, 48, 49, 50, 51, 52, 53, 54, 55, 56, 57, 58, 59, 60, 61, 62, 63, 64, 65, 66, 67, 75, 76, 72, 73, 74, 77, 78, 79, 80, 81, 82] (by decide +kernel) (by decide +kernel)
set_option maxRecDepth 20000 in
theorem gX3_bill_X0_billOn : GoodIn wsX3_bill (wsV RX3 176 RX0 yX0_billOn wsX0_billOn) := goodIn_app (goodIn_of _ (by decide +kernel)) ggX3_bill_X0_billOn
theorem dX3_bill_0 : decode cX3_bill 0 = .ok (.aload_n 0, 1) := by decide +kernel
theorem dX3_bill_1 : decode cX3_bill 1 = .ok (.iload_n 1, 1) := by decide +kernel
theorem dX3_bill_2 : decode cX3_bill 2 = .ok (.invokevirtual 58, 3) := by decide +kernel
theorem dX3_bill_5 : decode cX3_bill 5 = .ok (.aload_n 0, 1) := by decide +kernel
theorem dX3_bill_6 : decode cX3_bill 6 = .ok (.getfield 70, 3) := by decide +kernel
theorem dX3_bill_9 : decode cX3_bill 9 = .ok (.invokevirtual 176, 3) := by decide +kernel
theorem dX3_bill_12 : decode cX3_bill 12 = .ok (.ireturn, 1) := by decide +kernel
set_option maxRecDepth 20000 in
theorem ggX3_directoryNumbered_Jx4a65c_size_8abf5 : GoodIn wsX3_directoryNumbered wsJx4a65c_size_8abf5 := goodIn_r _ [9, 10, 32, 33, 34] (by decide +kernel) (by decide +kernel)
set_option maxRecDepth 20000 in
theorem gX3_directoryNumbered_Jx4a65c_size_8abf5 : GoodIn wsX3_directoryNumbered (wsV RX3 43 RJx4a65c yJx4a65c_size_8abf5 wsJx4a65c_size_8abf5) := goodIn_app (goodIn_of _ (by decide +kernel)) ggX3_directoryNumbered_Jx4a65c_size_8abf5
set_option maxRecDepth 20000 in
theorem ggX3_directoryNumbered_Jx4a65c_get_915e3 : GoodIn wsX3_directoryNumbered wsJx4a65c_get_915e3 := goodIn_r _ [14, 10, 15, 16, 17, 18, 19, 20, 21, 22, 23, 24, 25, 8, 26, 27, 32, 33, 34] (by decide +kernel) (by decide +kernel)
set_option maxRecDepth 20000 in
theorem gX3_directoryNumbered_Jx4a65c_get_915e3 : GoodIn wsX3_directoryNumbered (wsV RX3 149 RJx4a65c yJx4a65c_get_915e3 wsJx4a65c_get_915e3) := goodIn_app (goodIn_of _ (by decide +kernel)) ggX3_directoryNumbered_Jx4a65c_get_915e3
theorem dX3_directoryNumbered_0 : decode cX3_directoryNumbered 0 = .ok (.iload_n 1, 1) := by decide +kernel
theorem dX3_directoryNumbered_1 : decode cX3_directoryNumbered 1 = .ok (.ifCond .lt 14, 3) := by decide +kernel
theorem dX3_directoryNumbered_4 : decode cX3_directoryNumbered 4 = .ok (.iload_n 1, 1) := by decide +kernel
theorem dX3_directoryNumbered_5 : decode cX3_directoryNumbered 5 = .ok (.aload_n 0, 1) := by decide +kernel
theorem dX3_directoryNumbered_6 : decode cX3_directoryNumbered 6 = .ok (.getfield 10, 3) := by decide +kernel
theorem dX3_directoryNumbered_9 : decode cX3_directoryNumbered 9 = .ok (.invokevirtual 43, 3) := by decide +kernel
theorem dX3_directoryNumbered_12 : decode cX3_directoryNumbered 12 = .ok (.if_icmp .lt 13, 3) := by decide +kernel
theorem dX3_directoryNumbered_15 : decode cX3_directoryNumbered 15 = .ok (.new 179, 3) := by decide +kernel
theorem dX3_directoryNumbered_18 : decode cX3_directoryNumbered 18 = .ok (.dup, 1) := by decide +kernel
theorem dX3_directoryNumbered_19 : decode cX3_directoryNumbered 19 = .ok (.ldc 181, 2) := by decide +kernel
theorem dX3_directoryNumbered_21 : decode cX3_directoryNumbered 21 = .ok (.invokespecial 183, 3) := by decide +kernel
theorem dX3_directoryNumbered_24 : decode cX3_directoryNumbered 24 = .ok (.athrow, 1) := by decide +kernel
theorem dX3_directoryNumbered_25 : decode cX3_directoryNumbered 25 = .ok (.aload_n 0, 1) := by decide +kernel
theorem dX3_directoryNumbered_26 : decode cX3_directoryNumbered 26 = .ok (.getfield 10, 3) := by decide +kernel
theorem dX3_directoryNumbered_29 : decode cX3_directoryNumbered 29 = .ok (.iload_n 1, 1) := by decide +kernel
theorem dX3_directoryNumbered_30 : decode cX3_directoryNumbered 30 = .ok (.invokevirtual 149, 3) := by decide +kernel
theorem dX3_directoryNumbered_33 : decode cX3_directoryNumbered 33 = .ok (.checkcast 22, 3) := by decide +kernel
theorem dX3_directoryNumbered_36 : decode cX3_directoryNumbered 36 = .ok (.areturn, 1) := by decide +kernel
set_option maxRecDepth 20000 in
theorem ggX3_fileNumbered_Jx4a65c_size_8abf5 : GoodIn wsX3_fileNumbered wsJx4a65c_size_8abf5 := goodIn_r _ [9, 10, 32, 33, 34] (by decide +kernel) (by decide +kernel)
set_option maxRecDepth 20000 in
theorem gX3_fileNumbered_Jx4a65c_size_8abf5 : GoodIn wsX3_fileNumbered (wsV RX3 43 RJx4a65c yJx4a65c_size_8abf5 wsJx4a65c_size_8abf5) := goodIn_app (goodIn_of _ (by decide +kernel)) ggX3_fileNumbered_Jx4a65c_size_8abf5
set_option maxRecDepth 20000 in
theorem ggX3_fileNumbered_Jx4a65c_get_915e3 : GoodIn wsX3_fileNumbered wsJx4a65c_get_915e3 := goodIn_r _ [14, 10, 15, 16, 17, 18, 19, 20, 21, 22, 23, 24, 25, 8, 26, 27, 32, 33, 34] (by decide +kernel) (by decide +kernel)
set_option maxRecDepth 20000 in
theorem gX3_fileNumbered_Jx4a65c_get_915e3 : GoodIn wsX3_fileNumbered (wsV RX3 149 RJx4a65c yJx4a65c_get_915e3 wsJx4a65c_get_915e3) := goodIn_app (goodIn_of _ (by decide +kernel)) ggX3_fileNumbered_Jx4a65c_get_915e3
theorem dX3_fileNumbered_0 : decode cX3_fileNumbered 0 = .ok (.iload_n 1, 1) := by decide +kernel
theorem dX3_fileNumbered_1 : decode cX3_fileNumbered 1 = .ok (.ifCond .lt 14, 3) := by decide +kernel
theorem dX3_fileNumbered_4 : decode cX3_fileNumbered 4 = .ok (.iload_n 1, 1) := by decide +kernel
theorem dX3_fileNumbered_5 : decode cX3_fileNumbered 5 = .ok (.aload_n 0, 1) := by decide +kernel
theorem dX3_fileNumbered_6 : decode cX3_fileNumbered 6 = .ok (.getfield 16, 3) := by decide +kernel
theorem dX3_fileNumbered_9 : decode cX3_fileNumbered 9 = .ok (.invokevirtual 43, 3) := by decide +kernel
theorem dX3_fileNumbered_12 : decode cX3_fileNumbered 12 = .ok (.if_icmp .lt 13, 3) := by decide +kernel
theorem dX3_fileNumbered_15 : decode cX3_fileNumbered 15 = .ok (.new 179, 3) := by decide +kernel
theorem dX3_fileNumbered_18 : decode cX3_fileNumbered 18 = .ok (.dup, 1) := by decide +kernel
theorem dX3_fileNumbered_19 : decode cX3_fileNumbered 19 = .ok (.ldc 184, 2) := by decide +kernel
theorem dX3_fileNumbered_21 : decode cX3_fileNumbered 21 = .ok (.invokespecial 183, 3) := by decide +kernel
theorem dX3_fileNumbered_24 : decode cX3_fileNumbered 24 = .ok (.athrow, 1) := by decide +kernel
theorem dX3_fileNumbered_25 : decode cX3_fileNumbered 25 = .ok (.aload_n 0, 1) := by decide +kernel
theorem dX3_fileNumbered_26 : decode cX3_fileNumbered 26 = .ok (.getfield 16, 3) := by decide +kernel
theorem dX3_fileNumbered_29 : decode cX3_fileNumbered 29 = .ok (.iload_n 1, 1) := by decide +kernel
theorem dX3_fileNumbered_30 : decode cX3_fileNumbered 30 = .ok (.invokevirtual 149, 3) := by decide +kernel
theorem dX3_fileNumbered_33 : decode cX3_fileNumbered 33 = .ok (.checkcast 68, 3) := by decide +kernel
theorem dX3_fileNumbered_36 : decode cX3_fileNumbered 36 = .ok (.areturn, 1) := by decide +kernel
set_option maxRecDepth 20000 in
theorem ggX3_departmentNumbered_Jx4a65c_size_8abf5 : GoodIn wsX3_departmentNumbered wsJx4a65c_size_8abf5 := goodIn_r _ [9, 10, 32, 33, 34] (by decide +kernel) (by decide +kernel)
set_option maxRecDepth 20000 in
theorem gX3_departmentNumbered_Jx4a65c_size_8abf5 : GoodIn wsX3_departmentNumbered (wsV RX3 43 RJx4a65c yJx4a65c_size_8abf5 wsJx4a65c_size_8abf5) := goodIn_app (goodIn_of _ (by decide +kernel)) ggX3_departmentNumbered_Jx4a65c_size_8abf5
set_option maxRecDepth 20000 in
theorem ggX3_departmentNumbered_Jx4a65c_get_915e3 : GoodIn wsX3_departmentNumbered wsJx4a65c_get_915e3 := goodIn_r _ [14, 10, 15, 16, 17, 18, 19, 20, 21, 22, 23, 24, 25, 8, 26, 27, 32, 33, 34] (by decide +kernel) (by decide +kernel)
set_option maxRecDepth 20000 in
theorem gX3_departmentNumbered_Jx4a65c_get_915e3 : GoodIn wsX3_departmentNumbered (wsV RX3 149 RJx4a65c yJx4a65c_get_915e3 wsJx4a65c_get_915e3) := goodIn_app (goodIn_of _ (by decide +kernel)) ggX3_departmentNumbered_Jx4a65c_get_915e3
theorem dX3_departmentNumbered_0 : decode cX3_departmentNumbered 0 = .ok (.iload_n 1, 1) := by decide +kernel
theorem dX3_departmentNumbered_1 : decode cX3_departmentNumbered 1 = .ok (.ifCond .lt 14, 3) := by decide +kernel
theorem dX3_departmentNumbered_4 : decode cX3_departmentNumbered 4 = .ok (.iload_n 1, 1) := by decide +kernel
theorem dX3_departmentNumbered_5 : decode cX3_departmentNumbered 5 = .ok (.aload_n 0, 1) := by decide +kernel
theorem dX3_departmentNumbered_6 : decode cX3_departmentNumbered 6 = .ok (.getfield 19, 3) := by decide +kernel
theorem dX3_departmentNumbered_9 : decode cX3_departmentNumbered 9 = .ok (.invokevirtual 43, 3) := by decide +kernel
theorem dX3_departmentNumbered_12 : decode cX3_departmentNumbered 12 = .ok (.if_icmp .lt 13, 3) := by decide +kernel
theorem dX3_departmentNumbered_15 : decode cX3_departmentNumbered 15 = .ok (.new 179, 3) := by decide +kernel
theorem dX3_departmentNumbered_18 : decode cX3_departmentNumbered 18 = .ok (.dup, 1) := by decide +kernel
theorem dX3_departmentNumbered_19 : decode cX3_departmentNumbered 19 = .ok (.ldc 186, 2) := by decide +kernel
theorem dX3_departmentNumbered_21 : decode cX3_departmentNumbered 21 = .ok (.invokespecial 183, 3) := by decide +kernel
theorem dX3_departmentNumbered_24 : decode cX3_departmentNumbered 24 = .ok (.athrow, 1) := by decide +kernel
theorem dX3_departmentNumbered_25 : decode cX3_departmentNumbered 25 = .ok (.aload_n 0, 1) := by decide +kernel
theorem dX3_departmentNumbered_26 : decode cX3_departmentNumbered 26 = .ok (.getfield 19, 3) := by decide +kernel
theorem dX3_departmentNumbered_29 : decode cX3_departmentNumbered 29 = .ok (.iload_n 1, 1) := by decide +kernel
theorem dX3_departmentNumbered_30 : decode cX3_departmentNumbered 30 = .ok (.invokevirtual 149, 3) := by decide +kernel
theorem dX3_departmentNumbered_33 : decode cX3_departmentNumbered 33 = .ok (.checkcast 31, 3) := by decide +kernel
theorem dX3_departmentNumbered_36 : decode cX3_departmentNumbered 36 = .ok (.areturn, 1) := by decide +kernel
theorem dX3_bitOfMatter_0 : decode cX3_bitOfMatter 0 = .ok (.iload_n 0, 1) := by decide +kernel
theorem dX3_bitOfMatter_1 : decode cX3_bitOfMatter 1 = .ok (.ifCond .lt 8, 3) := by decide +kernel
theorem dX3_bitOfMatter_4 : decode cX3_bitOfMatter 4 = .ok (.iload_n 0, 1) := by decide +kernel
theorem dX3_bitOfMatter_5 : decode cX3_bitOfMatter 5 = .ok (.iconst 5, 1) := by decide +kernel
theorem dX3_bitOfMatter_6 : decode cX3_bitOfMatter 6 = .ok (.if_icmp .lt 13, 3) := by decide +kernel
theorem dX3_bitOfMatter_9 : decode cX3_bitOfMatter 9 = .ok (.new 179, 3) := by decide +kernel
theorem dX3_bitOfMatter_12 : decode cX3_bitOfMatter 12 = .ok (.dup, 1) := by decide +kernel
theorem dX3_bitOfMatter_13 : decode cX3_bitOfMatter 13 = .ok (.ldc 188, 2) := by decide +kernel
theorem dX3_bitOfMatter_15 : decode cX3_bitOfMatter 15 = .ok (.invokespecial 183, 3) := by decide +kernel
theorem dX3_bitOfMatter_18 : decode cX3_bitOfMatter 18 = .ok (.athrow, 1) := by decide +kernel
theorem dX3_bitOfMatter_19 : decode cX3_bitOfMatter 19 = .ok (.iconst 1, 1) := by decide +kernel
theorem dX3_bitOfMatter_20 : decode cX3_bitOfMatter 20 = .ok (.iload_n 0, 1) := by decide +kernel
theorem dX3_bitOfMatter_21 : decode cX3_bitOfMatter 21 = .ok (.ishl, 1) := by decide +kernel
theorem dX3_bitOfMatter_22 : decode cX3_bitOfMatter 22 = .ok (.ireturn, 1) := by decide +kernel
theorem dX3_requireBetween_0 : decode cX3_requireBetween 0 = .ok (.iload_n 1, 1) := by decide +kernel
theorem dX3_requireBetween_1 : decode cX3_requireBetween 1 = .ok (.iload_n 0, 1) := by decide +kernel
theorem dX3_requireBetween_2 : decode cX3_requireBetween 2 = .ok (.if_icmp .lt 8, 3) := by decide +kernel
theorem dX3_requireBetween_5 : decode cX3_requireBetween 5 = .ok (.iload_n 1, 1) := by decide +kernel
theorem dX3_requireBetween_6 : decode cX3_requireBetween 6 = .ok (.iload_n 2, 1) := by decide +kernel
theorem dX3_requireBetween_7 : decode cX3_requireBetween 7 = .ok (.if_icmp .le 13, 3) := by decide +kernel
theorem dX3_requireBetween_10 : decode cX3_requireBetween 10 = .ok (.new 190, 3) := by decide +kernel
theorem dX3_requireBetween_13 : decode cX3_requireBetween 13 = .ok (.dup, 1) := by decide +kernel
theorem dX3_requireBetween_14 : decode cX3_requireBetween 14 = .ok (.ldc 192, 2) := by decide +kernel
theorem dX3_requireBetween_16 : decode cX3_requireBetween 16 = .ok (.invokespecial 194, 3) := by decide +kernel
theorem dX3_requireBetween_19 : decode cX3_requireBetween 19 = .ok (.athrow, 1) := by decide +kernel
theorem dX3_requireBetween_20 : decode cX3_requireBetween 20 = .ok (.return_, 1) := by decide +kernel
set_option maxRecDepth 20000 in
theorem ggX3_requireNotGone_X2_isGone : GoodIn wsX3_requireNotGone wsX2_isGone := goodIn_r _ [7, 8, 9, 10, 11, 12, 13, 14, 15, 16, 17, 18, 19, 20, 21, 22, 23] (by decide +kernel) (by decide +kernel)
set_option maxRecDepth 20000 in
theorem gX3_requireNotGone_X2_isGone : GoodIn wsX3_requireNotGone (wsV RX3 195 RX2 yX2_isGone wsX2_isGone) := goodIn_app (goodIn_of _ (by decide +kernel)) ggX3_requireNotGone_X2_isGone
theorem dX3_requireNotGone_0 : decode cX3_requireNotGone 0 = .ok (.aload_n 0, 1) := by decide +kernel
theorem dX3_requireNotGone_1 : decode cX3_requireNotGone 1 = .ok (.invokevirtual 195, 3) := by decide +kernel
theorem dX3_requireNotGone_4 : decode cX3_requireNotGone 4 = .ok (.ifCond .eq 13, 3) := by decide +kernel
theorem dX3_requireNotGone_7 : decode cX3_requireNotGone 7 = .ok (.new 47, 3) := by decide +kernel
theorem dX3_requireNotGone_10 : decode cX3_requireNotGone 10 = .ok (.dup, 1) := by decide +kernel
theorem dX3_requireNotGone_11 : decode cX3_requireNotGone 11 = .ok (.ldc 199, 2) := by decide +kernel
theorem dX3_requireNotGone_13 : decode cX3_requireNotGone 13 = .ok (.invokespecial 51, 3) := by decide +kernel
theorem dX3_requireNotGone_16 : decode cX3_requireNotGone 16 = .ok (.athrow, 1) := by decide +kernel
theorem dX3_requireNotGone_17 : decode cX3_requireNotGone 17 = .ok (.return_, 1) := by decide +kernel
set_option maxRecDepth 20000 in
theorem ggX3_requireGrowthPossible_X1_hasRoomFor : GoodIn wsX3_requireGrowthPossible wsX1_hasRoomFor := goodIn_r _ [8, 9, 10, 11, 14, 15, 16, 17] (by decide +kernel) (by decide +kernel)
set_option maxRecDepth 20000 in
theorem gX3_requireGrowthPossible_X1_hasRoomFor : GoodIn wsX3_requireGrowthPossible (wsV RX3 201 RX1 yX1_hasRoomFor wsX1_hasRoomFor) := goodIn_app (goodIn_of _ (by decide +kernel)) ggX3_requireGrowthPossible_X1_hasRoomFor
theorem dX3_requireGrowthPossible_0 : decode cX3_requireGrowthPossible 0 = .ok (.aload_n 0, 1) := by decide +kernel
theorem dX3_requireGrowthPossible_1 : decode cX3_requireGrowthPossible 1 = .ok (.getfield 156, 3) := by decide +kernel
theorem dX3_requireGrowthPossible_4 : decode cX3_requireGrowthPossible 4 = .ok (.ifCond .eq 11, 3) := by decide +kernel
theorem dX3_requireGrowthPossible_7 : decode cX3_requireGrowthPossible 7 = .ok (.aload_n 1, 1) := by decide +kernel
theorem dX3_requireGrowthPossible_8 : decode cX3_requireGrowthPossible 8 = .ok (.iload_n 2, 1) := by decide +kernel
theorem dX3_requireGrowthPossible_9 : decode cX3_requireGrowthPossible 9 = .ok (.invokevirtual 201, 3) := by decide +kernel
theorem dX3_requireGrowthPossible_12 : decode cX3_requireGrowthPossible 12 = .ok (.ifCond .ne 13, 3) := by decide +kernel
theorem dX3_requireGrowthPossible_15 : decode cX3_requireGrowthPossible 15 = .ok (.new 47, 3) := by decide +kernel
theorem dX3_requireGrowthPossible_18 : decode cX3_requireGrowthPossible 18 = .ok (.dup, 1) := by decide +kernel
theorem dX3_requireGrowthPossible_19 : decode cX3_requireGrowthPossible 19 = .ok (.ldc 204, 2) := by decide +kernel
theorem dX3_requireGrowthPossible_21 : decode cX3_requireGrowthPossible 21 = .ok (.invokespecial 51, 3) := by decide +kernel
theorem dX3_requireGrowthPossible_24 : decode cX3_requireGrowthPossible 24 = .ok (.athrow, 1) := by decide +kernel
theorem dX3_requireGrowthPossible_25 : decode cX3_requireGrowthPossible 25 = .ok (.return_, 1) := by decide +kernel
set_option maxRecDepth 20000 in
theorem ggX3_startBringingBack_X2_costToBringBack : GoodIn wsX3_startBringingBack wsX2_costToBringBack := goodIn_r _ [11, 12, 13, 14, 15, 16, 17, 18] (by decide +kernel) (by decide +kernel)
set_option maxRecDepth 20000 in
theorem gX3_startBringingBack_X2_costToBringBack : GoodIn wsX3_startBringingBack (wsV RX3 206 RX2 yX2_costToBringBack wsX2_costToBringBack) := goodIn_app (goodIn_of _ (by decide +kernel)) ggX3_startBringingBack_X2_costToBringBack
theorem dX3_startBringingBack_0 : decode cX3_startBringingBack 0 = .ok (.aload_n 1, 1) := by decide +kernel
theorem dX3_startBringingBack_1 : decode cX3_startBringingBack 1 = .ok (.invokevirtual 206, 3) := by decide +kernel
theorem dX3_startBringingBack_4 : decode cX3_startBringingBack 4 = .ok (.istore_n 2, 1) := by decide +kernel
theorem dX3_startBringingBack_5 : decode cX3_startBringingBack 5 = .ok (.aload_n 1, 1) := by decide +kernel
theorem dX3_startBringingBack_6 : decode cX3_startBringingBack 6 = .ok (.getfield 121, 3) := by decide +kernel
theorem dX3_startBringingBack_9 : decode cX3_startBringingBack 9 = .ok (.getfield 156, 3) := by decide +kernel
theorem dX3_startBringingBack_12 : decode cX3_startBringingBack 12 = .ok (.iload_n 2, 1) := by decide +kernel
theorem dX3_startBringingBack_13 : decode cX3_startBringingBack 13 = .ok (.if_icmp .ge 13, 3) := by decide +kernel
theorem dX3_startBringingBack_16 : decode cX3_startBringingBack 16 = .ok (.new 47, 3) := by decide +kernel
theorem dX3_startBringingBack_19 : decode cX3_startBringingBack 19 = .ok (.dup, 1) := by decide +kernel
theorem dX3_startBringingBack_20 : decode cX3_startBringingBack 20 = .ok (.ldc 209, 2) := by decide +kernel
theorem dX3_startBringingBack_22 : decode cX3_startBringingBack 22 = .ok (.invokespecial 51, 3) := by decide +kernel
theorem dX3_startBringingBack_25 : decode cX3_startBringingBack 25 = .ok (.athrow, 1) := by decide +kernel
theorem dX3_startBringingBack_26 : decode cX3_startBringingBack 26 = .ok (.aload_n 1, 1) := by decide +kernel
theorem dX3_startBringingBack_27 : decode cX3_startBringingBack 27 = .ok (.getfield 121, 3) := by decide +kernel
theorem dX3_startBringingBack_30 : decode cX3_startBringingBack 30 = .ok (.dup, 1) := by decide +kernel
theorem dX3_startBringingBack_31 : decode cX3_startBringingBack 31 = .ok (.getfield 156, 3) := by decide +kernel
theorem dX3_startBringingBack_34 : decode cX3_startBringingBack 34 = .ok (.iload_n 2, 1) := by decide +kernel
theorem dX3_startBringingBack_35 : decode cX3_startBringingBack 35 = .ok (.isub, 1) := by decide +kernel
theorem dX3_startBringingBack_36 : decode cX3_startBringingBack 36 = .ok (.putfield 156, 3) := by decide +kernel
theorem dX3_startBringingBack_39 : decode cX3_startBringingBack 39 = .ok (.aload_n 1, 1) := by decide +kernel
theorem dX3_startBringingBack_40 : decode cX3_startBringingBack 40 = .ok (.aload_n 0, 1) := by decide +kernel
theorem dX3_startBringingBack_41 : decode cX3_startBringingBack 41 = .ok (.getfield 70, 3) := by decide +kernel
theorem dX3_startBringingBack_44 : decode cX3_startBringingBack 44 = .ok (.iconst 2, 1) := by decide +kernel
theorem dX3_startBringingBack_45 : decode cX3_startBringingBack 45 = .ok (.iadd, 1) := by decide +kernel
theorem dX3_startBringingBack_46 : decode cX3_startBringingBack 46 = .ok (.putfield 125, 3) := by decide +kernel
theorem dX3_startBringingBack_49 : decode cX3_startBringingBack 49 = .ok (.return_, 1) := by decide +kernel
set_option maxRecDepth 20000 in
theorem ggX3_payBills_Jx4a65c_size_8abf5 : GoodIn wsX3_payBills wsJx4a65c_size_8abf5 := goodIn_r _ [13, 14, 72, 73, 74] (by decide +kernel) (by decide +kernel)
set_option maxRecDepth 20000 in
theorem gX3_payBills_Jx4a65c_size_8abf5 : GoodIn wsX3_payBills (wsV RX3 43 RJx4a65c yJx4a65c_size_8abf5 wsJx4a65c_size_8abf5) := goodIn_app (goodIn_of _ (by decide +kernel)) ggX3_payBills_Jx4a65c_size_8abf5
set_option maxRecDepth 20000 in
theorem ggX3_payBills_Jx4a65c_get_915e3 : GoodIn wsX3_payBills wsJx4a65c_get_915e3 := goodIn_r _ [18, 14, 19, 20, 21, 22, 23, 24, 25, 26, 27, 28, 29, 12, 30, 31, 72, 73, 74] (by decide +kernel) (by decide +kernel)
set_option maxRecDepth 20000 in
theorem gX3_payBills_Jx4a65c_get_915e3 : GoodIn wsX3_payBills (wsV RX3 149 RJx4a65c yJx4a65c_get_915e3 wsJx4a65c_get_915e3) := goodIn_app (goodIn_of _ (by decide +kernel)) ggX3_payBills_Jx4a65c_get_915e3
set_option maxRecDepth 20000 in
theorem ggX3_payBills_X0_billOn : GoodIn wsX3_payBills wsX0_billOn := goodIn_r _ [36, 37, 38, 39, 10, 11, 12, 13, 14, 40, 16, 17, 18, 19, 20, 21, 22, 23, 24, 25, 26, 27, 28, 29, 30, 31, 41, 42, 43, 44, 45, 46, 47, 48, 49, 50, 51, 52, 53, 54, 55, 56, 57, 58, 59, 60, 61, 62, 63, 64, 65, 70, 71, 72, 73, 74, 75, 76, 77, 78, 79, 80] (by decide +kernel) (by decide +kernel)
set_option maxRecDepth 20000 in
theorem gX3_payBills_X0_billOn : GoodIn wsX3_payBills (wsV RX3 176 RX0 yX0_billOn wsX0_billOn) := goodIn_app (goodIn_of _ (by decide +kernel)) ggX3_payBills_X0_billOn
theorem dX3_payBills_0 : decode cX3_payBills 0 = .ok (.iconst 0, 1) := by decide +kernel
theorem dX3_payBills_1 : decode cX3_payBills 1 = .ok (.istore_n 1, 1) := by decide +kernel
theorem dX3_payBills_2 : decode cX3_payBills 2 = .ok (.iconst 0, 1) := by decide +kernel
theorem dX3_payBills_3 : decode cX3_payBills 3 = .ok (.istore_n 2, 1) := by decide +kernel
theorem dX3_payBills_4 : decode cX3_payBills 4 = .ok (.iload_n 2, 1) := by decide +kernel
theorem dX3_payBills_5 : decode cX3_payBills 5 = .ok (.aload_n 0, 1) := by decide +kernel
theorem dX3_payBills_6 : decode cX3_payBills 6 = .ok (.getfield 19, 3) := by decide +kernel
theorem dX3_payBills_9 : decode cX3_payBills 9 = .ok (.invokevirtual 43, 3) := by decide +kernel
theorem dX3_payBills_12 : decode cX3_payBills 12 = .ok (.if_icmp .ge 54, 3) := by decide +kernel
theorem dX3_payBills_15 : decode cX3_payBills 15 = .ok (.aload_n 0, 1) := by decide +kernel
theorem dX3_payBills_16 : decode cX3_payBills 16 = .ok (.getfield 19, 3) := by decide +kernel
theorem dX3_payBills_19 : decode cX3_payBills 19 = .ok (.iload_n 2, 1) := by decide +kernel
theorem dX3_payBills_20 : decode cX3_payBills 20 = .ok (.invokevirtual 149, 3) := by decide +kernel
theorem dX3_payBills_23 : decode cX3_payBills 23 = .ok (.checkcast 31, 3) := by decide +kernel
theorem dX3_payBills_26 : decode cX3_payBills 26 = .ok (.astore_n 3, 1) := by decide +kernel
theorem dX3_payBills_27 : decode cX3_payBills 27 = .ok (.aload_n 3, 1) := by decide +kernel
theorem dX3_payBills_28 : decode cX3_payBills 28 = .ok (.aload_n 0, 1) := by decide +kernel
theorem dX3_payBills_29 : decode cX3_payBills 29 = .ok (.getfield 70, 3) := by decide +kernel
theorem dX3_payBills_32 : decode cX3_payBills 32 = .ok (.invokevirtual 176, 3) := by decide +kernel
theorem dX3_payBills_35 : decode cX3_payBills 35 = .ok (.aload_n 3, 1) := by decide +kernel
theorem dX3_payBills_36 : decode cX3_payBills 36 = .ok (.getfield 156, 3) := by decide +kernel
theorem dX3_payBills_39 : decode cX3_payBills 39 = .ok (.invokestatic 211, 3) := by decide +kernel
theorem dX3_payBills_42 : decode cX3_payBills 42 = .ok (.istore 4, 2) := by decide +kernel
theorem dX3_payBills_44 : decode cX3_payBills 44 = .ok (.aload_n 3, 1) := by decide +kernel
theorem dX3_payBills_45 : decode cX3_payBills 45 = .ok (.dup, 1) := by decide +kernel
theorem dX3_payBills_46 : decode cX3_payBills 46 = .ok (.getfield 156, 3) := by decide +kernel
theorem dX3_payBills_49 : decode cX3_payBills 49 = .ok (.iload 4, 2) := by decide +kernel
theorem dX3_payBills_51 : decode cX3_payBills 51 = .ok (.isub, 1) := by decide +kernel
theorem dX3_payBills_52 : decode cX3_payBills 52 = .ok (.putfield 156, 3) := by decide +kernel
theorem dX3_payBills_55 : decode cX3_payBills 55 = .ok (.iload_n 1, 1) := by decide +kernel
theorem dX3_payBills_56 : decode cX3_payBills 56 = .ok (.iload 4, 2) := by decide +kernel
theorem dX3_payBills_58 : decode cX3_payBills 58 = .ok (.iadd, 1) := by decide +kernel
theorem dX3_payBills_59 : decode cX3_payBills 59 = .ok (.istore_n 1, 1) := by decide +kernel
theorem dX3_payBills_60 : decode cX3_payBills 60 = .ok (.iinc 2 1, 3) := by decide +kernel
theorem dX3_payBills_63 : decode cX3_payBills 63 = .ok (.goto (-59), 3) := by decide +kernel
theorem dX3_payBills_66 : decode cX3_payBills 66 = .ok (.iload_n 1, 1) := by decide +kernel
theorem dX3_payBills_67 : decode cX3_payBills 67 = .ok (.ireturn, 1) := by decide +kernel
theorem dJ6_bitCount_0f7a4_0 : decode cJ6_bitCount_0f7a4 0 = .ok (.iload_n 0, 1) := by decide +kernel
theorem dJ6_bitCount_0f7a4_1 : decode cJ6_bitCount_0f7a4 1 = .ok (.iload_n 0, 1) := by decide +kernel
theorem dJ6_bitCount_0f7a4_2 : decode cJ6_bitCount_0f7a4 2 = .ok (.iconst 1, 1) := by decide +kernel
theorem dJ6_bitCount_0f7a4_3 : decode cJ6_bitCount_0f7a4 3 = .ok (.iushr, 1) := by decide +kernel
theorem dJ6_bitCount_0f7a4_4 : decode cJ6_bitCount_0f7a4 4 = .ok (.ldc_w 265, 3) := by decide +kernel
theorem dJ6_bitCount_0f7a4_7 : decode cJ6_bitCount_0f7a4 7 = .ok (.iand, 1) := by decide +kernel
theorem dJ6_bitCount_0f7a4_8 : decode cJ6_bitCount_0f7a4 8 = .ok (.isub, 1) := by decide +kernel
theorem dJ6_bitCount_0f7a4_9 : decode cJ6_bitCount_0f7a4 9 = .ok (.istore_n 0, 1) := by decide +kernel
theorem dJ6_bitCount_0f7a4_10 : decode cJ6_bitCount_0f7a4 10 = .ok (.iload_n 0, 1) := by decide +kernel
theorem dJ6_bitCount_0f7a4_11 : decode cJ6_bitCount_0f7a4 11 = .ok (.ldc_w 266, 3) := by decide +kernel
theorem dJ6_bitCount_0f7a4_14 : decode cJ6_bitCount_0f7a4 14 = .ok (.iand, 1) := by decide +kernel
theorem dJ6_bitCount_0f7a4_15 : decode cJ6_bitCount_0f7a4 15 = .ok (.iload_n 0, 1) := by decide +kernel
theorem dJ6_bitCount_0f7a4_16 : decode cJ6_bitCount_0f7a4 16 = .ok (.iconst 2, 1) := by decide +kernel
theorem dJ6_bitCount_0f7a4_17 : decode cJ6_bitCount_0f7a4 17 = .ok (.iushr, 1) := by decide +kernel
theorem dJ6_bitCount_0f7a4_18 : decode cJ6_bitCount_0f7a4 18 = .ok (.ldc_w 266, 3) := by decide +kernel
theorem dJ6_bitCount_0f7a4_21 : decode cJ6_bitCount_0f7a4 21 = .ok (.iand, 1) := by decide +kernel
theorem dJ6_bitCount_0f7a4_22 : decode cJ6_bitCount_0f7a4 22 = .ok (.iadd, 1) := by decide +kernel
theorem dJ6_bitCount_0f7a4_23 : decode cJ6_bitCount_0f7a4 23 = .ok (.istore_n 0, 1) := by decide +kernel
theorem dJ6_bitCount_0f7a4_24 : decode cJ6_bitCount_0f7a4 24 = .ok (.iload_n 0, 1) := by decide +kernel
theorem dJ6_bitCount_0f7a4_25 : decode cJ6_bitCount_0f7a4 25 = .ok (.iload_n 0, 1) := by decide +kernel
theorem dJ6_bitCount_0f7a4_26 : decode cJ6_bitCount_0f7a4 26 = .ok (.iconst 4, 1) := by decide +kernel
theorem dJ6_bitCount_0f7a4_27 : decode cJ6_bitCount_0f7a4 27 = .ok (.iushr, 1) := by decide +kernel
theorem dJ6_bitCount_0f7a4_28 : decode cJ6_bitCount_0f7a4 28 = .ok (.iadd, 1) := by decide +kernel
theorem dJ6_bitCount_0f7a4_29 : decode cJ6_bitCount_0f7a4 29 = .ok (.ldc_w 267, 3) := by decide +kernel
theorem dJ6_bitCount_0f7a4_32 : decode cJ6_bitCount_0f7a4 32 = .ok (.iand, 1) := by decide +kernel
theorem dJ6_bitCount_0f7a4_33 : decode cJ6_bitCount_0f7a4 33 = .ok (.istore_n 0, 1) := by decide +kernel
theorem dJ6_bitCount_0f7a4_34 : decode cJ6_bitCount_0f7a4 34 = .ok (.iload_n 0, 1) := by decide +kernel
theorem dJ6_bitCount_0f7a4_35 : decode cJ6_bitCount_0f7a4 35 = .ok (.iload_n 0, 1) := by decide +kernel
theorem dJ6_bitCount_0f7a4_36 : decode cJ6_bitCount_0f7a4 36 = .ok (.bipush 8, 2) := by decide +kernel
theorem dJ6_bitCount_0f7a4_38 : decode cJ6_bitCount_0f7a4 38 = .ok (.iushr, 1) := by decide +kernel
theorem dJ6_bitCount_0f7a4_39 : decode cJ6_bitCount_0f7a4 39 = .ok (.iadd, 1) := by decide +kernel
theorem dJ6_bitCount_0f7a4_40 : decode cJ6_bitCount_0f7a4 40 = .ok (.istore_n 0, 1) := by decide +kernel
theorem dJ6_bitCount_0f7a4_41 : decode cJ6_bitCount_0f7a4 41 = .ok (.iload_n 0, 1) := by decide +kernel
theorem dJ6_bitCount_0f7a4_42 : decode cJ6_bitCount_0f7a4 42 = .ok (.iload_n 0, 1) := by decide +kernel
theorem dJ6_bitCount_0f7a4_43 : decode cJ6_bitCount_0f7a4 43 = .ok (.bipush 16, 2) := by decide +kernel
theorem dJ6_bitCount_0f7a4_45 : decode cJ6_bitCount_0f7a4 45 = .ok (.iushr, 1) := by decide +kernel
theorem dJ6_bitCount_0f7a4_46 : decode cJ6_bitCount_0f7a4 46 = .ok (.iadd, 1) := by decide +kernel
theorem dJ6_bitCount_0f7a4_47 : decode cJ6_bitCount_0f7a4 47 = .ok (.istore_n 0, 1) := by decide +kernel
theorem dJ6_bitCount_0f7a4_48 : decode cJ6_bitCount_0f7a4 48 = .ok (.iload_n 0, 1) := by decide +kernel
theorem dJ6_bitCount_0f7a4_49 : decode cJ6_bitCount_0f7a4 49 = .ok (.bipush 63, 2) := by decide +kernel
theorem dJ6_bitCount_0f7a4_51 : decode cJ6_bitCount_0f7a4 51 = .ok (.iand, 1) := by decide +kernel
theorem dJ6_bitCount_0f7a4_52 : decode cJ6_bitCount_0f7a4 52 = .ok (.ireturn, 1) := by decide +kernel
theorem dJ9_max_7cf53_0 : decode cJ9_max_7cf53 0 = .ok (.iload_n 0, 1) := by decide +kernel
theorem dJ9_max_7cf53_1 : decode cJ9_max_7cf53 1 = .ok (.iload_n 1, 1) := by decide +kernel
theorem dJ9_max_7cf53_2 : decode cJ9_max_7cf53 2 = .ok (.if_icmp .lt 7, 3) := by decide +kernel
theorem dJ9_max_7cf53_5 : decode cJ9_max_7cf53 5 = .ok (.iload_n 0, 1) := by decide +kernel
theorem dJ9_max_7cf53_6 : decode cJ9_max_7cf53 6 = .ok (.goto 4, 3) := by decide +kernel
theorem dJ9_max_7cf53_9 : decode cJ9_max_7cf53 9 = .ok (.iload_n 1, 1) := by decide +kernel
theorem dJ9_max_7cf53_10 : decode cJ9_max_7cf53 10 = .ok (.ireturn, 1) := by decide +kernel
theorem dJ9_min_7cf53_0 : decode cJ9_min_7cf53 0 = .ok (.iload_n 0, 1) := by decide +kernel
theorem dJ9_min_7cf53_1 : decode cJ9_min_7cf53 1 = .ok (.iload_n 1, 1) := by decide +kernel
theorem dJ9_min_7cf53_2 : decode cJ9_min_7cf53 2 = .ok (.if_icmp .gt 7, 3) := by decide +kernel
theorem dJ9_min_7cf53_5 : decode cJ9_min_7cf53 5 = .ok (.iload_n 0, 1) := by decide +kernel
theorem dJ9_min_7cf53_6 : decode cJ9_min_7cf53 6 = .ok (.goto 4, 3) := by decide +kernel
theorem dJ9_min_7cf53_9 : decode cJ9_min_7cf53 9 = .ok (.iload_n 1, 1) := by decide +kernel
theorem dJ9_min_7cf53_10 : decode cJ9_min_7cf53 10 = .ok (.ireturn, 1) := by decide +kernel
theorem dJxa1e45_init_da8c8_0 : decode cJxa1e45_init_da8c8 0 = .ok (.aload_n 0, 1) := by decide +kernel
theorem dJxa1e45_init_da8c8_1 : decode cJxa1e45_init_da8c8 1 = .ok (.invokespecial 1, 3) := by decide +kernel
theorem dJxa1e45_init_da8c8_4 : decode cJxa1e45_init_da8c8 4 = .ok (.return_, 1) := by decide +kernel
set_option maxRecDepth 20000 in
theorem ggJxc12de_init_da8c8_Jxa1e45_init_da8c8 : GoodIn wsJxc12de_init_da8c8 wsJxa1e45_init_da8c8 := goodIn_r _ [5, 6, 7, 8] (by decide +kernel) (by decide +kernel)
set_option maxRecDepth 20000 in
theorem gJxc12de_init_da8c8_Jxa1e45_init_da8c8 : GoodIn wsJxc12de_init_da8c8 (wsJxa1e45_init_da8c8) := ggJxc12de_init_da8c8_Jxa1e45_init_da8c8
theorem dJxc12de_init_da8c8_0 : decode cJxc12de_init_da8c8 0 = .ok (.aload_n 0, 1) := by decide +kernel
theorem dJxc12de_init_da8c8_1 : decode cJxc12de_init_da8c8 1 = .ok (.invokespecial 1, 3) := by decide +kernel
theorem dJxc12de_init_da8c8_4 : decode cJxc12de_init_da8c8 4 = .ok (.aload_n 0, 1) := by decide +kernel
theorem dJxc12de_init_da8c8_5 : decode cJxc12de_init_da8c8 5 = .ok (.iconst 0, 1) := by decide +kernel
theorem dJxc12de_init_da8c8_6 : decode cJxc12de_init_da8c8 6 = .ok (.putfield 7, 3) := by decide +kernel
theorem dJxc12de_init_da8c8_9 : decode cJxc12de_init_da8c8 9 = .ok (.return_, 1) := by decide +kernel
set_option maxRecDepth 20000 in
theorem ggJx4a65c_init_da8c8_Jxc12de_init_da8c8 : GoodIn wsJx4a65c_init_da8c8 wsJxc12de_init_da8c8 := goodIn_r _ [6, 7, 8, 9, 10, 11, 12, 13, 14, 15, 16, 17] (by decide +kernel) (by decide +kernel)
set_option maxRecDepth 20000 in
theorem gJx4a65c_init_da8c8_Jxc12de_init_da8c8 : GoodIn wsJx4a65c_init_da8c8 (wsJxc12de_init_da8c8) := ggJx4a65c_init_da8c8_Jxc12de_init_da8c8
theorem dJx4a65c_init_da8c8_0 : decode cJx4a65c_init_da8c8 0 = .ok (.aload_n 0, 1) := by decide +kernel
theorem dJx4a65c_init_da8c8_1 : decode cJx4a65c_init_da8c8 1 = .ok (.invokespecial 1, 3) := by decide +kernel
theorem dJx4a65c_init_da8c8_4 : decode cJx4a65c_init_da8c8 4 = .ok (.aload_n 0, 1) := by decide +kernel
theorem dJx4a65c_init_da8c8_5 : decode cJx4a65c_init_da8c8 5 = .ok (.getstatic 39, 3) := by decide +kernel
theorem dJx4a65c_init_da8c8_8 : decode cJx4a65c_init_da8c8 8 = .ok (.putfield 9, 3) := by decide +kernel
theorem dJx4a65c_init_da8c8_11 : decode cJx4a65c_init_da8c8 11 = .ok (.return_, 1) := by decide +kernel
set_option maxRecDepth 20000 in
theorem ggJx4a65c_grow_92f84_J8_newLength_cabcc : GoodIn wsJx4a65c_grow_92f84 wsJ8_newLength_cabcc := goodIn_r _ [11, 12, 4, 5, 6, 13, 14, 15, 10, 16] (by decide +kernel) (by decide +kernel)
set_option maxRecDepth 20000 in
theorem gJx4a65c_grow_92f84_J8_newLength_cabcc : GoodIn wsJx4a65c_grow_92f84 (va_wsS RJx4a65c 73 yJ8_newLength_cabcc wsJ8_newLength_cabcc) := goodIn_app (goodIn_of _ (by decide +kernel)) ggJx4a65c_grow_92f84_J8_newLength_cabcc
set_option maxRecDepth 20000 in
theorem ggJx4a65c_grow_92f84_J7_copyOf_1904c : GoodIn wsJx4a65c_grow_92f84 wsJ7_copyOf_1904c := goodIn_r _ [20, 21, 22, 23, 24, 25, 26, 19, 27, 28, 29, 30, 31, 5, 32, 33, 34, 35, 36] (by decide +kernel) (by decide +kernel)
set_option maxRecDepth 20000 in
theorem gJx4a65c_grow_92f84_J7_copyOf_1904c : GoodIn wsJx4a65c_grow_92f84 (va_wsS RJx4a65c 66 yJ7_copyOf_1904c wsJ7_copyOf_1904c) := goodIn_app (goodIn_of _ (by decide +kernel)) ggJx4a65c_grow_92f84_J7_copyOf_1904c
theorem dJx4a65c_grow_92f84_0 : decode cJx4a65c_grow_92f84 0 = .ok (.aload_n 0, 1) := by decide +kernel
theorem dJx4a65c_grow_92f84_1 : decode cJx4a65c_grow_92f84 1 = .ok (.getfield 9, 3) := by decide +kernel
theorem dJx4a65c_grow_92f84_4 : decode cJx4a65c_grow_92f84 4 = .ok (.arraylength, 1) := by decide +kernel
theorem dJx4a65c_grow_92f84_5 : decode cJx4a65c_grow_92f84 5 = .ok (.istore_n 2, 1) := by decide +kernel
theorem dJx4a65c_grow_92f84_6 : decode cJx4a65c_grow_92f84 6 = .ok (.iload_n 2, 1) := by decide +kernel
theorem dJx4a65c_grow_92f84_7 : decode cJx4a65c_grow_92f84 7 = .ok (.ifCond .gt 13, 3) := by decide +kernel
theorem dJx4a65c_grow_92f84_10 : decode cJx4a65c_grow_92f84 10 = .ok (.aload_n 0, 1) := by decide +kernel
theorem dJx4a65c_grow_92f84_11 : decode cJx4a65c_grow_92f84 11 = .ok (.getfield 9, 3) := by decide +kernel
theorem dJx4a65c_grow_92f84_14 : decode cJx4a65c_grow_92f84 14 = .ok (.getstatic 39, 3) := by decide +kernel
theorem dJx4a65c_grow_92f84_17 : decode cJx4a65c_grow_92f84 17 = .ok (.if_acmp .eq 28, 3) := by decide +kernel
theorem dJx4a65c_grow_92f84_20 : decode cJx4a65c_grow_92f84 20 = .ok (.iload_n 2, 1) := by decide +kernel
theorem dJx4a65c_grow_92f84_21 : decode cJx4a65c_grow_92f84 21 = .ok (.iload_n 1, 1) := by decide +kernel
theorem dJx4a65c_grow_92f84_22 : decode cJx4a65c_grow_92f84 22 = .ok (.iload_n 2, 1) := by decide +kernel
theorem dJx4a65c_grow_92f84_23 : decode cJx4a65c_grow_92f84 23 = .ok (.isub, 1) := by decide +kernel
theorem dJx4a65c_grow_92f84_24 : decode cJx4a65c_grow_92f84 24 = .ok (.iload_n 2, 1) := by decide +kernel
theorem dJx4a65c_grow_92f84_25 : decode cJx4a65c_grow_92f84 25 = .ok (.iconst 1, 1) := by decide +kernel
theorem dJx4a65c_grow_92f84_26 : decode cJx4a65c_grow_92f84 26 = .ok (.ishr, 1) := by decide +kernel
theorem dJx4a65c_grow_92f84_27 : decode cJx4a65c_grow_92f84 27 = .ok (.invokestatic 73, 3) := by decide +kernel
theorem dJx4a65c_grow_92f84_30 : decode cJx4a65c_grow_92f84 30 = .ok (.istore_n 3, 1) := by decide +kernel
theorem dJx4a65c_grow_92f84_31 : decode cJx4a65c_grow_92f84 31 = .ok (.aload_n 0, 1) := by decide +kernel
theorem dJx4a65c_grow_92f84_32 : decode cJx4a65c_grow_92f84 32 = .ok (.aload_n 0, 1) := by decide +kernel
theorem dJx4a65c_grow_92f84_33 : decode cJx4a65c_grow_92f84 33 = .ok (.getfield 9, 3) := by decide +kernel
theorem dJx4a65c_grow_92f84_36 : decode cJx4a65c_grow_92f84 36 = .ok (.iload_n 3, 1) := by decide +kernel
theorem dJx4a65c_grow_92f84_37 : decode cJx4a65c_grow_92f84 37 = .ok (.invokestatic 66, 3) := by decide +kernel
theorem dJx4a65c_grow_92f84_40 : decode cJx4a65c_grow_92f84 40 = .ok (.dup_x1, 1) := by decide +kernel
theorem dJx4a65c_grow_92f84_41 : decode cJx4a65c_grow_92f84 41 = .ok (.putfield 9, 3) := by decide +kernel
theorem dJx4a65c_grow_92f84_44 : decode cJx4a65c_grow_92f84 44 = .ok (.areturn, 1) := by decide +kernel
theorem dJx4a65c_grow_92f84_45 : decode cJx4a65c_grow_92f84 45 = .ok (.aload_n 0, 1) := by decide +kernel
theorem dJx4a65c_grow_92f84_46 : decode cJx4a65c_grow_92f84 46 = .ok (.bipush 10, 2) := by decide +kernel
theorem dJx4a65c_grow_92f84_48 : decode cJx4a65c_grow_92f84 48 = .ok (.iload_n 1, 1) := by decide +kernel
theorem dJx4a65c_grow_92f84_49 : decode cJx4a65c_grow_92f84 49 = .ok (.invokestatic 79, 3) := by decide +kernel
theorem dJx4a65c_grow_92f84_52 : decode cJx4a65c_grow_92f84 52 = .ok (.anewarray 7, 3) := by decide +kernel
theorem dJx4a65c_grow_92f84_55 : decode cJx4a65c_grow_92f84 55 = .ok (.dup_x1, 1) := by decide +kernel
theorem dJx4a65c_grow_92f84_56 : decode cJx4a65c_grow_92f84 56 = .ok (.putfield 9, 3) := by decide +kernel
theorem dJx4a65c_grow_92f84_59 : decode cJx4a65c_grow_92f84 59 = .ok (.areturn, 1) := by decide +kernel
set_option maxRecDepth 20000 in
theorem ggJx4a65c_grow_d5877_Jx4a65c_grow_92f84 : GoodIn wsJx4a65c_grow_d5877 wsJx4a65c_grow_92f84 := goodIn_r _ [6, 7, 8, 9, 10, 11, 12, 13, 14, 15, 16, 17, 18, 19, 20, 21, 22, 23, 24, 25, 26, 27, 28, 29, 30, 31, 32, 33, 34, 35, 36, 37, 38, 39, 40, 41, 42, 43, 44, 45] (by decide +kernel) (by decide +kernel)
set_option maxRecDepth 20000 in
theorem gJx4a65c_grow_d5877_Jx4a65c_grow_92f84 : GoodIn wsJx4a65c_grow_d5877 (wsV RJx4a65c 69 RJx4a65c yJx4a65c_grow_92f84 wsJx4a65c_grow_92f84) := goodIn_app (goodIn_of _ (by decide +kernel)) ggJx4a65c_grow_d5877_Jx4a65c_grow_92f84
theorem dJx4a65c_grow_d5877_0 : decode cJx4a65c_grow_d5877 0 = .ok (.aload_n 0, 1) := by decide +kernel
theorem dJx4a65c_grow_d5877_1 : decode cJx4a65c_grow_d5877 1 = .ok (.aload_n 0, 1) := by decide +kernel
theorem dJx4a65c_grow_d5877_2 : decode cJx4a65c_grow_d5877 2 = .ok (.getfield 48, 3) := by decide +kernel
theorem dJx4a65c_grow_d5877_5 : decode cJx4a65c_grow_d5877 5 = .ok (.iconst 1, 1) := by decide +kernel
theorem dJx4a65c_grow_d5877_6 : decode cJx4a65c_grow_d5877 6 = .ok (.iadd, 1) := by decide +kernel
theorem dJx4a65c_grow_d5877_7 : decode cJx4a65c_grow_d5877 7 = .ok (.invokevirtual 69, 3) := by decide +kernel
theorem dJx4a65c_grow_d5877_10 : decode cJx4a65c_grow_d5877 10 = .ok (.areturn, 1) := by decide +kernel
theorem dJx4a65c_size_8abf5_0 : decode cJx4a65c_size_8abf5 0 = .ok (.aload_n 0, 1) := by decide +kernel
theorem dJx4a65c_size_8abf5_1 : decode cJx4a65c_size_8abf5 1 = .ok (.getfield 48, 3) := by decide +kernel
theorem dJx4a65c_size_8abf5_4 : decode cJx4a65c_size_8abf5 4 = .ok (.ireturn, 1) := by decide +kernel
theorem dJx4a65c_isEmpty_aae02_0 : decode cJx4a65c_isEmpty_aae02 0 = .ok (.aload_n 0, 1) := by decide +kernel
theorem dJx4a65c_isEmpty_aae02_1 : decode cJx4a65c_isEmpty_aae02 1 = .ok (.getfield 48, 3) := by decide +kernel
theorem dJx4a65c_isEmpty_aae02_4 : decode cJx4a65c_isEmpty_aae02 4 = .ok (.ifCond .ne 7, 3) := by decide +kernel
theorem dJx4a65c_isEmpty_aae02_7 : decode cJx4a65c_isEmpty_aae02 7 = .ok (.iconst 1, 1) := by decide +kernel
theorem dJx4a65c_isEmpty_aae02_8 : decode cJx4a65c_isEmpty_aae02 8 = .ok (.goto 4, 3) := by decide +kernel
theorem dJx4a65c_isEmpty_aae02_11 : decode cJx4a65c_isEmpty_aae02 11 = .ok (.iconst 0, 1) := by decide +kernel
theorem dJx4a65c_isEmpty_aae02_12 : decode cJx4a65c_isEmpty_aae02 12 = .ok (.ireturn, 1) := by decide +kernel
theorem dJx4a65c_elementData_915e3_0 : decode cJx4a65c_elementData_915e3 0 = .ok (.aload_n 0, 1) := by decide +kernel
theorem dJx4a65c_elementData_915e3_1 : decode cJx4a65c_elementData_915e3 1 = .ok (.getfield 9, 3) := by decide +kernel
theorem dJx4a65c_elementData_915e3_4 : decode cJx4a65c_elementData_915e3 4 = .ok (.iload_n 1, 1) := by decide +kernel
theorem dJx4a65c_elementData_915e3_5 : decode cJx4a65c_elementData_915e3 5 = .ok (.aaload, 1) := by decide +kernel
theorem dJx4a65c_elementData_915e3_6 : decode cJx4a65c_elementData_915e3 6 = .ok (.areturn, 1) := by decide +kernel
set_option maxRecDepth 20000 in
theorem ggJx4a65c_get_915e3_J15_checkIndex_7cf53 : GoodIn wsJx4a65c_get_915e3 wsJ15_checkIndex_7cf53 := goodIn_r _ [5, 6, 7, 8, 9] (by decide +kernel) (by decide +kernel)
set_option maxRecDepth 20000 in
theorem gJx4a65c_get_915e3_J15_checkIndex_7cf53 : GoodIn wsJx4a65c_get_915e3 (va_wsS RJx4a65c 118 yJ15_checkIndex_7cf53 wsJ15_checkIndex_7cf53) := goodIn_app (goodIn_of _ (by decide +kernel)) ggJx4a65c_get_915e3_J15_checkIndex_7cf53
set_option maxRecDepth 20000 in
theorem ggJx4a65c_get_915e3_Jx4a65c_elementData_915e3 : GoodIn wsJx4a65c_get_915e3 wsJx4a65c_elementData_915e3 := goodIn_r _ [14, 15, 16, 17, 18] (by decide +kernel) (by decide +kernel)
set_option maxRecDepth 20000 in
theorem gJx4a65c_get_915e3_Jx4a65c_elementData_915e3 : GoodIn wsJx4a65c_get_915e3 (wsV RJx4a65c 123 RJx4a65c yJx4a65c_elementData_915e3 wsJx4a65c_elementData_915e3) := goodIn_app (goodIn_of _ (by decide +kernel)) ggJx4a65c_get_915e3_Jx4a65c_elementData_915e3
theorem dJx4a65c_get_915e3_0 : decode cJx4a65c_get_915e3 0 = .ok (.iload_n 1, 1) := by decide +kernel
theorem dJx4a65c_get_915e3_1 : decode cJx4a65c_get_915e3 1 = .ok (.aload_n 0, 1) := by decide +kernel
theorem dJx4a65c_get_915e3_2 : decode cJx4a65c_get_915e3 2 = .ok (.getfield 48, 3) := by decide +kernel
theorem dJx4a65c_get_915e3_5 : decode cJx4a65c_get_915e3 5 = .ok (.invokestatic 118, 3) := by decide +kernel
theorem dJx4a65c_get_915e3_8 : decode cJx4a65c_get_915e3 8 = .ok (.pop, 1) := by decide +kernel
theorem dJx4a65c_get_915e3_9 : decode cJx4a65c_get_915e3 9 = .ok (.aload_n 0, 1) := by decide +kernel
theorem dJx4a65c_get_915e3_10 : decode cJx4a65c_get_915e3 10 = .ok (.iload_n 1, 1) := by decide +kernel
theorem dJx4a65c_get_915e3_11 : decode cJx4a65c_get_915e3 11 = .ok (.invokevirtual 123, 3) := by decide +kernel
theorem dJx4a65c_get_915e3_14 : decode cJx4a65c_get_915e3 14 = .ok (.areturn, 1) := by decide +kernel
set_option maxRecDepth 20000 in
theorem ggJx4a65c_add_72be8_Jx4a65c_grow_d5877 : GoodIn wsJx4a65c_add_72be8 wsJx4a65c_grow_d5877 := goodIn_r _ [6, 1, 7, 8, 9, 5, 10, 11, 12, 13, 14, 15, 16, 17, 18, 19, 20, 21, 22, 23, 24, 25, 26, 27, 28, 29, 30, 31, 32, 33, 34, 35, 36, 37, 38, 39, 40, 41, 42, 43, 44, 45, 46, 47, 48, 49] (by decide +kernel) (by decide +kernel)
set_option maxRecDepth 20000 in
theorem gJx4a65c_add_72be8_Jx4a65c_grow_d5877 : GoodIn wsJx4a65c_add_72be8 (wsV RJx4a65c 129 RJx4a65c yJx4a65c_grow_d5877 wsJx4a65c_grow_d5877) := goodIn_app (goodIn_of _ (by decide +kernel)) ggJx4a65c_add_72be8_Jx4a65c_grow_d5877
theorem dJx4a65c_add_72be8_0 : decode cJx4a65c_add_72be8 0 = .ok (.iload_n 3, 1) := by decide +kernel
theorem dJx4a65c_add_72be8_1 : decode cJx4a65c_add_72be8 1 = .ok (.aload_n 2, 1) := by decide +kernel
theorem dJx4a65c_add_72be8_2 : decode cJx4a65c_add_72be8 2 = .ok (.arraylength, 1) := by decide +kernel
theorem dJx4a65c_add_72be8_3 : decode cJx4a65c_add_72be8 3 = .ok (.if_icmp .ne 8, 3) := by decide +kernel
theorem dJx4a65c_add_72be8_6 : decode cJx4a65c_add_72be8 6 = .ok (.aload_n 0, 1) := by decide +kernel
theorem dJx4a65c_add_72be8_7 : decode cJx4a65c_add_72be8 7 = .ok (.invokevirtual 129, 3) := by decide +kernel
theorem dJx4a65c_add_72be8_10 : decode cJx4a65c_add_72be8 10 = .ok (.astore_n 2, 1) := by decide +kernel
theorem dJx4a65c_add_72be8_11 : decode cJx4a65c_add_72be8 11 = .ok (.aload_n 2, 1) := by decide +kernel
theorem dJx4a65c_add_72be8_12 : decode cJx4a65c_add_72be8 12 = .ok (.iload_n 3, 1) := by decide +kernel
theorem dJx4a65c_add_72be8_13 : decode cJx4a65c_add_72be8 13 = .ok (.aload_n 1, 1) := by decide +kernel
theorem dJx4a65c_add_72be8_14 : decode cJx4a65c_add_72be8 14 = .ok (.aastore, 1) := by decide +kernel
theorem dJx4a65c_add_72be8_15 : decode cJx4a65c_add_72be8 15 = .ok (.aload_n 0, 1) := by decide +kernel
theorem dJx4a65c_add_72be8_16 : decode cJx4a65c_add_72be8 16 = .ok (.iload_n 3, 1) := by decide +kernel
theorem dJx4a65c_add_72be8_17 : decode cJx4a65c_add_72be8 17 = .ok (.iconst 1, 1) := by decide +kernel
theorem dJx4a65c_add_72be8_18 : decode cJx4a65c_add_72be8 18 = .ok (.iadd, 1) := by decide +kernel
theorem dJx4a65c_add_72be8_19 : decode cJx4a65c_add_72be8 19 = .ok (.putfield 48, 3) := by decide +kernel
theorem dJx4a65c_add_72be8_22 : decode cJx4a65c_add_72be8 22 = .ok (.return_, 1) := by decide +kernel
set_option maxRecDepth 20000 in
theorem ggJx4a65c_add_9ea2d_Jx4a65c_add_72be8 : GoodIn wsJx4a65c_add_9ea2d wsJx4a65c_add_72be8 := goodIn_r _ [9, 4, 10, 11, 12, 8, 13, 14, 15, 16, 17, 3, 18, 19, 20, 21, 22, 23, 24, 25, 26, 27, 28, 29, 30, 31, 32, 33, 34, 35, 36, 37, 38, 39, 40, 41, 42, 43, 44, 45, 46, 47, 48, 49, 50, 51, 52, 53, 54, 55] (by decide +kernel) (by decide +kernel)
set_option maxRecDepth 20000 in
theorem gJx4a65c_add_9ea2d_Jx4a65c_add_72be8 : GoodIn wsJx4a65c_add_9ea2d (wsV RJx4a65c 131 RJx4a65c yJx4a65c_add_72be8 wsJx4a65c_add_72be8) := goodIn_app (goodIn_of _ (by decide +kernel)) ggJx4a65c_add_9ea2d_Jx4a65c_add_72be8
theorem dJx4a65c_add_9ea2d_0 : decode cJx4a65c_add_9ea2d 0 = .ok (.aload_n 0, 1) := by decide +kernel
theorem dJx4a65c_add_9ea2d_1 : decode cJx4a65c_add_9ea2d 1 = .ok (.dup, 1) := by decide +kernel
theorem dJx4a65c_add_9ea2d_2 : decode cJx4a65c_add_9ea2d 2 = .ok (.getfield 63, 3) := by decide +kernel
theorem dJx4a65c_add_9ea2d_5 : decode cJx4a65c_add_9ea2d 5 = .ok (.iconst 1, 1) := by decide +kernel
theorem dJx4a65c_add_9ea2d_6 : decode cJx4a65c_add_9ea2d 6 = .ok (.iadd, 1) := by decide +kernel
theorem dJx4a65c_add_9ea2d_7 : decode cJx4a65c_add_9ea2d 7 = .ok (.putfield 63, 3) := by decide +kernel
theorem dJx4a65c_add_9ea2d_10 : decode cJx4a65c_add_9ea2d 10 = .ok (.aload_n 0, 1) := by decide +kernel
theorem dJx4a65c_add_9ea2d_11 : decode cJx4a65c_add_9ea2d 11 = .ok (.aload_n 1, 1) := by decide +kernel
theorem dJx4a65c_add_9ea2d_12 : decode cJx4a65c_add_9ea2d 12 = .ok (.aload_n 0, 1) := by decide +kernel
theorem dJx4a65c_add_9ea2d_13 : decode cJx4a65c_add_9ea2d 13 = .ok (.getfield 9, 3) := by decide +kernel
theorem dJx4a65c_add_9ea2d_16 : decode cJx4a65c_add_9ea2d 16 = .ok (.aload_n 0, 1) := by decide +kernel
theorem dJx4a65c_add_9ea2d_17 : decode cJx4a65c_add_9ea2d 17 = .ok (.getfield 48, 3) := by decide +kernel
theorem dJx4a65c_add_9ea2d_20 : decode cJx4a65c_add_9ea2d 20 = .ok (.invokevirtual 131, 3) := by decide +kernel
theorem dJx4a65c_add_9ea2d_23 : decode cJx4a65c_add_9ea2d 23 = .ok (.iconst 1, 1) := by decide +kernel
theorem dJx4a65c_add_9ea2d_24 : decode cJx4a65c_add_9ea2d 24 = .ok (.ireturn, 1) := by decide +kernel
set_option maxRecDepth 20000 in
theorem ggJx4a65c_remove_915e3_J15_checkIndex_7cf53 : GoodIn wsJx4a65c_remove_915e3 wsJ15_checkIndex_7cf53 := goodIn_r _ [6, 7, 8, 9, 10] (by decide +kernel) (by decide +kernel)
set_option maxRecDepth 20000 in
theorem gJx4a65c_remove_915e3_J15_checkIndex_7cf53 : GoodIn wsJx4a65c_remove_915e3 (va_wsS RJx4a65c 118 yJ15_checkIndex_7cf53 wsJ15_checkIndex_7cf53) := goodIn_app (goodIn_of _ (by decide +kernel)) ggJx4a65c_remove_915e3_J15_checkIndex_7cf53
set_option maxRecDepth 20000 in
theorem ggJx4a65c_remove_915e3_Jx4a65c_fastRemove_b59b0 : GoodIn wsJx4a65c_remove_915e3 wsJx4a65c_fastRemove_b59b0 := goodIn_r _ [15, 16, 17, 1, 18, 19, 20, 21, 22, 23, 24] (by decide +kernel) (by decide +kernel)
set_option maxRecDepth 20000 in
theorem gJx4a65c_remove_915e3_Jx4a65c_fastRemove_b59b0 : GoodIn wsJx4a65c_remove_915e3 (wsV RJx4a65c 144 RJx4a65c yJx4a65c_fastRemove_b59b0 wsJx4a65c_fastRemove_b59b0) := goodIn_app (goodIn_of _ (by decide +kernel)) ggJx4a65c_remove_915e3_Jx4a65c_fastRemove_b59b0
theorem dJx4a65c_remove_915e3_0 : decode cJx4a65c_remove_915e3 0 = .ok (.iload_n 1, 1) := by decide +kernel
theorem dJx4a65c_remove_915e3_1 : decode cJx4a65c_remove_915e3 1 = .ok (.aload_n 0, 1) := by decide +kernel
theorem dJx4a65c_remove_915e3_2 : decode cJx4a65c_remove_915e3 2 = .ok (.getfield 48, 3) := by decide +kernel
theorem dJx4a65c_remove_915e3_5 : decode cJx4a65c_remove_915e3 5 = .ok (.invokestatic 118, 3) := by decide +kernel
theorem dJx4a65c_remove_915e3_8 : decode cJx4a65c_remove_915e3 8 = .ok (.pop, 1) := by decide +kernel
theorem dJx4a65c_remove_915e3_9 : decode cJx4a65c_remove_915e3 9 = .ok (.aload_n 0, 1) := by decide +kernel
theorem dJx4a65c_remove_915e3_10 : decode cJx4a65c_remove_915e3 10 = .ok (.getfield 9, 3) := by decide +kernel
theorem dJx4a65c_remove_915e3_13 : decode cJx4a65c_remove_915e3 13 = .ok (.astore_n 2, 1) := by decide +kernel
theorem dJx4a65c_remove_915e3_14 : decode cJx4a65c_remove_915e3 14 = .ok (.aload_n 2, 1) := by decide +kernel
theorem dJx4a65c_remove_915e3_15 : decode cJx4a65c_remove_915e3 15 = .ok (.iload_n 1, 1) := by decide +kernel
theorem dJx4a65c_remove_915e3_16 : decode cJx4a65c_remove_915e3 16 = .ok (.aaload, 1) := by decide +kernel
theorem dJx4a65c_remove_915e3_17 : decode cJx4a65c_remove_915e3 17 = .ok (.astore_n 3, 1) := by decide +kernel
theorem dJx4a65c_remove_915e3_18 : decode cJx4a65c_remove_915e3 18 = .ok (.aload_n 0, 1) := by decide +kernel
theorem dJx4a65c_remove_915e3_19 : decode cJx4a65c_remove_915e3 19 = .ok (.aload_n 2, 1) := by decide +kernel
theorem dJx4a65c_remove_915e3_20 : decode cJx4a65c_remove_915e3 20 = .ok (.iload_n 1, 1) := by decide +kernel
theorem dJx4a65c_remove_915e3_21 : decode cJx4a65c_remove_915e3 21 = .ok (.invokevirtual 144, 3) := by decide +kernel
theorem dJx4a65c_remove_915e3_24 : decode cJx4a65c_remove_915e3 24 = .ok (.aload_n 3, 1) := by decide +kernel
theorem dJx4a65c_remove_915e3_25 : decode cJx4a65c_remove_915e3 25 = .ok (.areturn, 1) := by decide +kernel
theorem dJx4a65c_fastRemove_b59b0_0 : decode cJx4a65c_fastRemove_b59b0 0 = .ok (.aload_n 0, 1) := by decide +kernel
theorem dJx4a65c_fastRemove_b59b0_1 : decode cJx4a65c_fastRemove_b59b0 1 = .ok (.dup, 1) := by decide +kernel
theorem dJx4a65c_fastRemove_b59b0_2 : decode cJx4a65c_fastRemove_b59b0 2 = .ok (.getfield 63, 3) := by decide +kernel
theorem dJx4a65c_fastRemove_b59b0_5 : decode cJx4a65c_fastRemove_b59b0 5 = .ok (.iconst 1, 1) := by decide +kernel
theorem dJx4a65c_fastRemove_b59b0_6 : decode cJx4a65c_fastRemove_b59b0 6 = .ok (.iadd, 1) := by decide +kernel
theorem dJx4a65c_fastRemove_b59b0_7 : decode cJx4a65c_fastRemove_b59b0 7 = .ok (.putfield 63, 3) := by decide +kernel
theorem dJx4a65c_fastRemove_b59b0_10 : decode cJx4a65c_fastRemove_b59b0 10 = .ok (.aload_n 0, 1) := by decide +kernel
theorem dJx4a65c_fastRemove_b59b0_11 : decode cJx4a65c_fastRemove_b59b0 11 = .ok (.getfield 48, 3) := by decide +kernel
theorem dJx4a65c_fastRemove_b59b0_14 : decode cJx4a65c_fastRemove_b59b0 14 = .ok (.iconst 1, 1) := by decide +kernel
theorem dJx4a65c_fastRemove_b59b0_15 : decode cJx4a65c_fastRemove_b59b0 15 = .ok (.isub, 1) := by decide +kernel
theorem dJx4a65c_fastRemove_b59b0_16 : decode cJx4a65c_fastRemove_b59b0 16 = .ok (.dup, 1) := by decide +kernel
theorem dJx4a65c_fastRemove_b59b0_17 : decode cJx4a65c_fastRemove_b59b0 17 = .ok (.istore_n 3, 1) := by decide +kernel
theorem dJx4a65c_fastRemove_b59b0_18 : decode cJx4a65c_fastRemove_b59b0 18 = .ok (.iload_n 2, 1) := by decide +kernel
theorem dJx4a65c_fastRemove_b59b0_19 : decode cJx4a65c_fastRemove_b59b0 19 = .ok (.if_icmp .le 15, 3) := by decide +kernel
theorem dJx4a65c_fastRemove_b59b0_22 : decode cJx4a65c_fastRemove_b59b0 22 = .ok (.aload_n 1, 1) := by decide +kernel
theorem dJx4a65c_fastRemove_b59b0_23 : decode cJx4a65c_fastRemove_b59b0 23 = .ok (.iload_n 2, 1) := by decide +kernel
theorem dJx4a65c_fastRemove_b59b0_24 : decode cJx4a65c_fastRemove_b59b0 24 = .ok (.iconst 1, 1) := by decide +kernel
theorem dJx4a65c_fastRemove_b59b0_25 : decode cJx4a65c_fastRemove_b59b0 25 = .ok (.iadd, 1) := by decide +kernel
theorem dJx4a65c_fastRemove_b59b0_26 : decode cJx4a65c_fastRemove_b59b0 26 = .ok (.aload_n 1, 1) := by decide +kernel
theorem dJx4a65c_fastRemove_b59b0_27 : decode cJx4a65c_fastRemove_b59b0 27 = .ok (.iload_n 2, 1) := by decide +kernel
theorem dJx4a65c_fastRemove_b59b0_28 : decode cJx4a65c_fastRemove_b59b0 28 = .ok (.iload_n 3, 1) := by decide +kernel
theorem dJx4a65c_fastRemove_b59b0_29 : decode cJx4a65c_fastRemove_b59b0 29 = .ok (.iload_n 2, 1) := by decide +kernel
theorem dJx4a65c_fastRemove_b59b0_30 : decode cJx4a65c_fastRemove_b59b0 30 = .ok (.isub, 1) := by decide +kernel
theorem dJx4a65c_fastRemove_b59b0_31 : decode cJx4a65c_fastRemove_b59b0 31 = .ok (.invokestatic 112, 3) := by decide +kernel
theorem dJx4a65c_fastRemove_b59b0_34 : decode cJx4a65c_fastRemove_b59b0 34 = .ok (.aload_n 1, 1) := by decide +kernel
theorem dJx4a65c_fastRemove_b59b0_35 : decode cJx4a65c_fastRemove_b59b0 35 = .ok (.aload_n 0, 1) := by decide +kernel
theorem dJx4a65c_fastRemove_b59b0_36 : decode cJx4a65c_fastRemove_b59b0 36 = .ok (.iload_n 3, 1) := by decide +kernel
theorem dJx4a65c_fastRemove_b59b0_37 : decode cJx4a65c_fastRemove_b59b0 37 = .ok (.dup_x1, 1) := by decide +kernel
theorem dJx4a65c_fastRemove_b59b0_38 : decode cJx4a65c_fastRemove_b59b0 38 = .ok (.putfield 48, 3) := by decide +kernel
theorem dJx4a65c_fastRemove_b59b0_41 : decode cJx4a65c_fastRemove_b59b0 41 = .ok (.aconst_null, 1) := by decide +kernel
theorem dJx4a65c_fastRemove_b59b0_42 : decode cJx4a65c_fastRemove_b59b0 42 = .ok (.aastore, 1) := by decide +kernel
theorem dJx4a65c_fastRemove_b59b0_43 : decode cJx4a65c_fastRemove_b59b0 43 = .ok (.return_, 1) := by decide +kernel
set_option maxRecDepth 20000 in
theorem ggJ7_copyOf_1904c_J7_copyOf_6403c : GoodIn wsJ7_copyOf_1904c wsJ7_copyOf_6403c := goodIn_r _ [8, 9, 10, 11, 12, 13, 14, 15, 16, 17, 18] (by decide +kernel) (by decide +kernel)
set_option maxRecDepth 20000 in
theorem gJ7_copyOf_1904c_J7_copyOf_6403c : GoodIn wsJ7_copyOf_1904c (va_wsS RJ7 300 yJ7_copyOf_6403c wsJ7_copyOf_6403c) := goodIn_app (goodIn_of _ (by decide +kernel)) ggJ7_copyOf_1904c_J7_copyOf_6403c
theorem dJ7_copyOf_1904c_0 : decode cJ7_copyOf_1904c 0 = .ok (.aload_n 0, 1) := by decide +kernel
theorem dJ7_copyOf_1904c_1 : decode cJ7_copyOf_1904c 1 = .ok (.iload_n 1, 1) := by decide +kernel
theorem dJ7_copyOf_1904c_2 : decode cJ7_copyOf_1904c 2 = .ok (.aload_n 0, 1) := by decide +kernel
theorem dJ7_copyOf_1904c_3 : decode cJ7_copyOf_1904c 3 = .ok (.invokevirtual 86, 3) := by decide +kernel
theorem dJ7_copyOf_1904c_6 : decode cJ7_copyOf_1904c 6 = .ok (.invokestatic 300, 3) := by decide +kernel
theorem dJ7_copyOf_1904c_9 : decode cJ7_copyOf_1904c 9 = .ok (.areturn, 1) := by decide +kernel
theorem dJ7_copyOf_6403c_0 : decode cJ7_copyOf_6403c 0 = .ok (.aload_n 2, 1) := by decide +kernel
theorem dJ7_copyOf_6403c_1 : decode cJ7_copyOf_6403c 1 = .ok (.ldc 110, 2) := by decide +kernel
theorem dJ7_copyOf_6403c_3 : decode cJ7_copyOf_6403c 3 = .ok (.if_acmp .ne 10, 3) := by decide +kernel
theorem dJ7_copyOf_6403c_6 : decode cJ7_copyOf_6403c 6 = .ok (.iload_n 1, 1) := by decide +kernel
theorem dJ7_copyOf_6403c_7 : decode cJ7_copyOf_6403c 7 = .ok (.anewarray 2, 3) := by decide +kernel
theorem dJ7_copyOf_6403c_10 : decode cJ7_copyOf_6403c 10 = .ok (.goto 14, 3) := by decide +kernel
theorem dJ7_copyOf_6403c_13 : decode cJ7_copyOf_6403c 13 = .ok (.aload_n 2, 1) := by decide +kernel
theorem dJ7_copyOf_6403c_14 : decode cJ7_copyOf_6403c 14 = .ok (.invokevirtual 90, 3) := by decide +kernel
theorem dJ7_copyOf_6403c_17 : decode cJ7_copyOf_6403c 17 = .ok (.iload_n 1, 1) := by decide +kernel
theorem dJ7_copyOf_6403c_18 : decode cJ7_copyOf_6403c 18 = .ok (.invokestatic 95, 3) := by decide +kernel
theorem dJ7_copyOf_6403c_21 : decode cJ7_copyOf_6403c 21 = .ok (.checkcast 110, 3) := by decide +kernel
theorem dJ7_copyOf_6403c_24 : decode cJ7_copyOf_6403c 24 = .ok (.astore_n 3, 1) := by decide +kernel
theorem dJ7_copyOf_6403c_25 : decode cJ7_copyOf_6403c 25 = .ok (.aload_n 0, 1) := by decide +kernel
theorem dJ7_copyOf_6403c_26 : decode cJ7_copyOf_6403c 26 = .ok (.iconst 0, 1) := by decide +kernel
theorem dJ7_copyOf_6403c_27 : decode cJ7_copyOf_6403c 27 = .ok (.aload_n 3, 1) := by decide +kernel
theorem dJ7_copyOf_6403c_28 : decode cJ7_copyOf_6403c 28 = .ok (.iconst 0, 1) := by decide +kernel
theorem dJ7_copyOf_6403c_29 : decode cJ7_copyOf_6403c 29 = .ok (.aload_n 0, 1) := by decide +kernel
theorem dJ7_copyOf_6403c_30 : decode cJ7_copyOf_6403c 30 = .ok (.arraylength, 1) := by decide +kernel
theorem dJ7_copyOf_6403c_31 : decode cJ7_copyOf_6403c 31 = .ok (.iload_n 1, 1) := by decide +kernel
theorem dJ7_copyOf_6403c_32 : decode cJ7_copyOf_6403c 32 = .ok (.invokestatic 304, 3) := by decide +kernel
theorem dJ7_copyOf_6403c_35 : decode cJ7_copyOf_6403c 35 = .ok (.invokestatic 150, 3) := by decide +kernel
theorem dJ7_copyOf_6403c_38 : decode cJ7_copyOf_6403c 38 = .ok (.aload_n 3, 1) := by decide +kernel
theorem dJ7_copyOf_6403c_39 : decode cJ7_copyOf_6403c 39 = .ok (.areturn, 1) := by decide +kernel
set_option maxRecDepth 20000 in
theorem ggJ15_checkIndex_7cf53_J3_checkIndex_8e157 : GoodIn wsJ15_checkIndex_7cf53 wsJ3_checkIndex_8e157 := goodIn_r _ [4] (by decide +kernel) (by decide +kernel)
set_option maxRecDepth 20000 in
theorem gJ15_checkIndex_7cf53_J3_checkIndex_8e157 : GoodIn wsJ15_checkIndex_7cf53 (va_wsS RJ15 105 yJ3_checkIndex_8e157 wsJ3_checkIndex_8e157) := goodIn_app (goodIn_of _ (by decide +kernel)) ggJ15_checkIndex_7cf53_J3_checkIndex_8e157
theorem dJ15_checkIndex_7cf53_0 : decode cJ15_checkIndex_7cf53 0 = .ok (.iload_n 0, 1) := by decide +kernel
theorem dJ15_checkIndex_7cf53_1 : decode cJ15_checkIndex_7cf53 1 = .ok (.iload_n 1, 1) := by decide +kernel
theorem dJ15_checkIndex_7cf53_2 : decode cJ15_checkIndex_7cf53 2 = .ok (.aconst_null, 1) := by decide +kernel
theorem dJ15_checkIndex_7cf53_3 : decode cJ15_checkIndex_7cf53 3 = .ok (.invokestatic 105, 3) := by decide +kernel
theorem dJ15_checkIndex_7cf53_6 : decode cJ15_checkIndex_7cf53 6 = .ok (.ireturn, 1) := by decide +kernel
set_option maxRecDepth 20000 in
theorem ggJ8_newLength_cabcc_J8_hugeLength_7cf53 : GoodIn wsJ8_newLength_cabcc wsJ8_hugeLength_7cf53 := goodIn_r _ [9, 5] (by decide +kernel) (by decide +kernel)
set_option maxRecDepth 20000 in
theorem gJ8_newLength_cabcc_J8_hugeLength_7cf53 : GoodIn wsJ8_newLength_cabcc (va_wsS RJ8 201 yJ8_hugeLength_7cf53 wsJ8_hugeLength_7cf53) := goodIn_app (goodIn_of _ (by decide +kernel)) ggJ8_newLength_cabcc_J8_hugeLength_7cf53
theorem dJ8_newLength_cabcc_0 : decode cJ8_newLength_cabcc 0 = .ok (.iload_n 0, 1) := by decide +kernel
theorem dJ8_newLength_cabcc_1 : decode cJ8_newLength_cabcc 1 = .ok (.iload_n 1, 1) := by decide +kernel
theorem dJ8_newLength_cabcc_2 : decode cJ8_newLength_cabcc 2 = .ok (.iload_n 2, 1) := by decide +kernel
theorem dJ8_newLength_cabcc_3 : decode cJ8_newLength_cabcc 3 = .ok (.invokestatic 194, 3) := by decide +kernel
theorem dJ8_newLength_cabcc_6 : decode cJ8_newLength_cabcc 6 = .ok (.iadd, 1) := by decide +kernel
theorem dJ8_newLength_cabcc_7 : decode cJ8_newLength_cabcc 7 = .ok (.istore_n 3, 1) := by decide +kernel
theorem dJ8_newLength_cabcc_8 : decode cJ8_newLength_cabcc 8 = .ok (.iconst 0, 1) := by decide +kernel
theorem dJ8_newLength_cabcc_9 : decode cJ8_newLength_cabcc 9 = .ok (.iload_n 3, 1) := by decide +kernel
theorem dJ8_newLength_cabcc_10 : decode cJ8_newLength_cabcc 10 = .ok (.if_icmp .ge 11, 3) := by decide +kernel
theorem dJ8_newLength_cabcc_13 : decode cJ8_newLength_cabcc 13 = .ok (.iload_n 3, 1) := by decide +kernel
theorem dJ8_newLength_cabcc_14 : decode cJ8_newLength_cabcc 14 = .ok (.ldc 200, 2) := by decide +kernel
theorem dJ8_newLength_cabcc_16 : decode cJ8_newLength_cabcc 16 = .ok (.if_icmp .gt 5, 3) := by decide +kernel
theorem dJ8_newLength_cabcc_19 : decode cJ8_newLength_cabcc 19 = .ok (.iload_n 3, 1) := by decide +kernel
theorem dJ8_newLength_cabcc_20 : decode cJ8_newLength_cabcc 20 = .ok (.ireturn, 1) := by decide +kernel
theorem dJ8_newLength_cabcc_21 : decode cJ8_newLength_cabcc 21 = .ok (.iload_n 0, 1) := by decide +kernel
theorem dJ8_newLength_cabcc_22 : decode cJ8_newLength_cabcc 22 = .ok (.iload_n 1, 1) := by decide +kernel
theorem dJ8_newLength_cabcc_23 : decode cJ8_newLength_cabcc 23 = .ok (.invokestatic 201, 3) := by decide +kernel
theorem dJ8_newLength_cabcc_26 : decode cJ8_newLength_cabcc 26 = .ok (.ireturn, 1) := by decide +kernel
theorem dJ8_hugeLength_7cf53_0 : decode cJ8_hugeLength_7cf53 0 = .ok (.iload_n 0, 1) := by decide +kernel
theorem dJ8_hugeLength_7cf53_1 : decode cJ8_hugeLength_7cf53 1 = .ok (.iload_n 1, 1) := by decide +kernel
theorem dJ8_hugeLength_7cf53_2 : decode cJ8_hugeLength_7cf53 2 = .ok (.iadd, 1) := by decide +kernel
theorem dJ8_hugeLength_7cf53_3 : decode cJ8_hugeLength_7cf53 3 = .ok (.istore_n 2, 1) := by decide +kernel
theorem dJ8_hugeLength_7cf53_4 : decode cJ8_hugeLength_7cf53 4 = .ok (.iload_n 2, 1) := by decide +kernel
theorem dJ8_hugeLength_7cf53_5 : decode cJ8_hugeLength_7cf53 5 = .ok (.ifCond .ge 44, 3) := by decide +kernel
theorem dJ8_hugeLength_7cf53_8 : decode cJ8_hugeLength_7cf53 8 = .ok (.new 204, 3) := by decide +kernel
theorem dJ8_hugeLength_7cf53_11 : decode cJ8_hugeLength_7cf53 11 = .ok (.dup, 1) := by decide +kernel
theorem dJ8_hugeLength_7cf53_12 : decode cJ8_hugeLength_7cf53 12 = .ok (.new 89, 3) := by decide +kernel
theorem dJ8_hugeLength_7cf53_15 : decode cJ8_hugeLength_7cf53 15 = .ok (.dup, 1) := by decide +kernel
theorem dJ8_hugeLength_7cf53_16 : decode cJ8_hugeLength_7cf53 16 = .ok (.invokespecial 91, 3) := by decide +kernel
theorem dJ8_hugeLength_7cf53_19 : decode cJ8_hugeLength_7cf53 19 = .ok (.ldc 206, 2) := by decide +kernel
theorem dJ8_hugeLength_7cf53_21 : decode cJ8_hugeLength_7cf53 21 = .ok (.invokevirtual 94, 3) := by decide +kernel
theorem dJ8_hugeLength_7cf53_24 : decode cJ8_hugeLength_7cf53 24 = .ok (.iload_n 0, 1) := by decide +kernel
theorem dJ8_hugeLength_7cf53_25 : decode cJ8_hugeLength_7cf53 25 = .ok (.invokevirtual 98, 3) := by decide +kernel
theorem dJ8_hugeLength_7cf53_28 : decode cJ8_hugeLength_7cf53 28 = .ok (.ldc 208, 2) := by decide +kernel
theorem dJ8_hugeLength_7cf53_30 : decode cJ8_hugeLength_7cf53 30 = .ok (.invokevirtual 94, 3) := by decide +kernel
theorem dJ8_hugeLength_7cf53_33 : decode cJ8_hugeLength_7cf53 33 = .ok (.iload_n 1, 1) := by decide +kernel
theorem dJ8_hugeLength_7cf53_34 : decode cJ8_hugeLength_7cf53 34 = .ok (.invokevirtual 98, 3) := by decide +kernel
theorem dJ8_hugeLength_7cf53_37 : decode cJ8_hugeLength_7cf53 37 = .ok (.ldc 210, 2) := by decide +kernel
theorem dJ8_hugeLength_7cf53_39 : decode cJ8_hugeLength_7cf53 39 = .ok (.invokevirtual 94, 3) := by decide +kernel
theorem dJ8_hugeLength_7cf53_42 : decode cJ8_hugeLength_7cf53 42 = .ok (.invokevirtual 101, 3) := by decide +kernel
theorem dJ8_hugeLength_7cf53_45 : decode cJ8_hugeLength_7cf53 45 = .ok (.invokespecial 212, 3) := by decide +kernel
theorem dJ8_hugeLength_7cf53_48 : decode cJ8_hugeLength_7cf53 48 = .ok (.athrow, 1) := by decide +kernel
theorem dJ8_hugeLength_7cf53_49 : decode cJ8_hugeLength_7cf53 49 = .ok (.iload_n 2, 1) := by decide +kernel
theorem dJ8_hugeLength_7cf53_50 : decode cJ8_hugeLength_7cf53 50 = .ok (.ldc 200, 2) := by decide +kernel
theorem dJ8_hugeLength_7cf53_52 : decode cJ8_hugeLength_7cf53 52 = .ok (.if_icmp .gt 6, 3) := by decide +kernel
theorem dJ8_hugeLength_7cf53_55 : decode cJ8_hugeLength_7cf53 55 = .ok (.ldc 200, 2) := by decide +kernel
theorem dJ8_hugeLength_7cf53_57 : decode cJ8_hugeLength_7cf53 57 = .ok (.ireturn, 1) := by decide +kernel
theorem dJ8_hugeLength_7cf53_58 : decode cJ8_hugeLength_7cf53 58 = .ok (.iload_n 2, 1) := by decide +kernel
theorem dJ8_hugeLength_7cf53_59 : decode cJ8_hugeLength_7cf53 59 = .ok (.ireturn, 1) := by decide +kernel
theorem dJ3_checkIndex_8e157_0 : decode cJ3_checkIndex_8e157 0 = .ok (.iload_n 0, 1) := by decide +kernel
theorem dJ3_checkIndex_8e157_1 : decode cJ3_checkIndex_8e157 1 = .ok (.ifCond .lt 8, 3) := by decide +kernel
theorem dJ3_checkIndex_8e157_4 : decode cJ3_checkIndex_8e157 4 = .ok (.iload_n 0, 1) := by decide +kernel
theorem dJ3_checkIndex_8e157_5 : decode cJ3_checkIndex_8e157 5 = .ok (.iload_n 1, 1) := by decide +kernel
theorem dJ3_checkIndex_8e157_6 : decode cJ3_checkIndex_8e157 6 = .ok (.if_icmp .lt 10, 3) := by decide +kernel
theorem dJ3_checkIndex_8e157_9 : decode cJ3_checkIndex_8e157 9 = .ok (.aload_n 2, 1) := by decide +kernel
theorem dJ3_checkIndex_8e157_10 : decode cJ3_checkIndex_8e157 10 = .ok (.iload_n 0, 1) := by decide +kernel
theorem dJ3_checkIndex_8e157_11 : decode cJ3_checkIndex_8e157 11 = .ok (.iload_n 1, 1) := by decide +kernel
theorem dJ3_checkIndex_8e157_12 : decode cJ3_checkIndex_8e157 12 = .ok (.invokestatic 95, 3) := by decide +kernel
theorem dJ3_checkIndex_8e157_15 : decode cJ3_checkIndex_8e157 15 = .ok (.athrow, 1) := by decide +kernel
theorem dJ3_checkIndex_8e157_16 : decode cJ3_checkIndex_8e157 16 = .ok (.iload_n 0, 1) := by decide +kernel
theorem dJ3_checkIndex_8e157_17 : decode cJ3_checkIndex_8e157 17 = .ok (.ireturn, 1) := by decide +kernel
theorem dL_told_0 : decode cL_told 0 = .ok (.iload_n 1, 1) := by decide +kernel
theorem dL_told_1 : decode cL_told 1 = .ok (.aload_n 0, 1) := by decide +kernel
theorem dL_told_2 : decode cL_told 2 = .ok (.arraylength, 1) := by decide +kernel
theorem dL_told_3 : decode cL_told 3 = .ok (.if_icmp .ge 9, 3) := by decide +kernel
theorem dL_told_6 : decode cL_told 6 = .ok (.aload_n 0, 1) := by decide +kernel
theorem dL_told_7 : decode cL_told 7 = .ok (.iload_n 1, 1) := by decide +kernel
theorem dL_told_8 : decode cL_told 8 = .ok (.iaload, 1) := by decide +kernel
theorem dL_told_9 : decode cL_told 9 = .ok (.goto 13, 3) := by decide +kernel
theorem dL_told_12 : decode cL_told 12 = .ok (.ldc 7, 2) := by decide +kernel
theorem dL_told_14 : decode cL_told 14 = .ok (.iload_n 1, 1) := by decide +kernel
theorem dL_told_15 : decode cL_told 15 = .ok (.iconst 3, 1) := by decide +kernel
theorem dL_told_16 : decode cL_told 16 = .ok (.iadd, 1) := by decide +kernel
theorem dL_told_17 : decode cL_told 17 = .ok (.imul, 1) := by decide +kernel
theorem dL_told_18 : decode cL_told 18 = .ok (.iload_n 1, 1) := by decide +kernel
theorem dL_told_19 : decode cL_told 19 = .ok (.iconst 5, 1) := by decide +kernel
theorem dL_told_20 : decode cL_told 20 = .ok (.iadd, 1) := by decide +kernel
theorem dL_told_21 : decode cL_told 21 = .ok (.imul, 1) := by decide +kernel
theorem dL_told_22 : decode cL_told 22 = .ok (.ldc 8, 2) := by decide +kernel
theorem dL_told_24 : decode cL_told 24 = .ok (.iand, 1) := by decide +kernel
theorem dL_told_25 : decode cL_told 25 = .ok (.ireturn, 1) := by decide +kernel
set_option maxRecDepth 20000 in
theorem ggL_coins_X3_coins : GoodIn wsL_coins wsX3_coins := goodIn_ca (goodIn_r _ [5, 6, 7, 8, 9, 4, 10, 11, 12, 13, 14, 15, 16, 17, 18, 19, 20, 21, 22, 23, 24, 25, 26, 27, 28, 29, 30, 31, 32, 33, 34, 35, 36, 37, 38, 39, 40, 41, 42, 43, 44, 45, 46] (by decide +kernel) (by decide +kernel)) (goodIn_sub (fun _ h => List.mem_cons_of_mem _ (List.mem_append_right _ h)) (by decide +kernel))
set_option maxRecDepth 20000 in
theorem gL_coins_X3_coins : GoodIn wsL_coins (wsV RL 9 RX3 yX3_coins wsX3_coins) := goodIn_app (goodIn_of _ (by decide +kernel)) ggL_coins_X3_coins
theorem dL_coins_0 : decode cL_coins 0 = .ok (.aload_n 0, 1) := by decide +kernel
theorem dL_coins_1 : decode cL_coins 1 = .ok (.iconst 0, 1) := by decide +kernel
theorem dL_coins_2 : decode cL_coins 2 = .ok (.invokevirtual 9, 3) := by decide +kernel
theorem dL_coins_5 : decode cL_coins 5 = .ok (.aload_n 0, 1) := by decide +kernel
theorem dL_coins_6 : decode cL_coins 6 = .ok (.iconst 1, 1) := by decide +kernel
theorem dL_coins_7 : decode cL_coins 7 = .ok (.invokevirtual 9, 3) := by decide +kernel
theorem dL_coins_10 : decode cL_coins 10 = .ok (.iadd, 1) := by decide +kernel
theorem dL_coins_11 : decode cL_coins 11 = .ok (.aload_n 0, 1) := by decide +kernel
theorem dL_coins_12 : decode cL_coins 12 = .ok (.iconst 2, 1) := by decide +kernel
theorem dL_coins_13 : decode cL_coins 13 = .ok (.invokevirtual 9, 3) := by decide +kernel
theorem dL_coins_16 : decode cL_coins 16 = .ok (.iadd, 1) := by decide +kernel
theorem dL_coins_17 : decode cL_coins 17 = .ok (.aload_n 0, 1) := by decide +kernel
theorem dL_coins_18 : decode cL_coins 18 = .ok (.iconst 3, 1) := by decide +kernel
theorem dL_coins_19 : decode cL_coins 19 = .ok (.invokevirtual 9, 3) := by decide +kernel
theorem dL_coins_22 : decode cL_coins 22 = .ok (.iadd, 1) := by decide +kernel
theorem dL_coins_23 : decode cL_coins 23 = .ok (.ireturn, 1) := by decide +kernel
set_option maxRecDepth 20000 in
theorem ggL_does_X3_directories : GoodIn wsL_does wsX3_directories := goodIn_r _ [5, 6, 7, 8, 9, 10, 11, 12, 349, 350, 351, 352, 353, 354, 355] (by decide +kernel) (by decide +kernel)
set_option maxRecDepth 20000 in
theorem gL_does_X3_directories : GoodIn wsL_does (wsV RL 15 RX3 yX3_directories wsX3_directories) := goodIn_app (goodIn_of _ (by decide +kernel)) ggL_does_X3_directories
set_option maxRecDepth 20000 in
theorem ggL_does_X3_files : GoodIn wsL_does wsX3_files := goodIn_r _ [16, 17, 7, 8, 9, 10, 11, 12, 349, 350, 351, 352, 353, 354, 355] (by decide +kernel) (by decide +kernel)
