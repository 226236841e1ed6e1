theorem goodIn_cc {big a : List Cond} {c : Cond} (hm : c ∈ big) (hg : goodWord c = true) (ha : GoodIn big a) : GoodIn big (c :: a) := fun w h => (List.mem_cons.mp h).elim (fun e => by rw [e]; exact ⟨hm, good_of_word hg⟩) (ha w)
set_option maxRecDepth 20000 in
theorem gL_does_X3_files : GoodIn wsL_does (wsV RL 19 RX3 yX3_files wsX3_files) := goodIn_app (goodIn_of _ (by decide +kernel)) ggL_does_X3_files
set_option maxRecDepth 20000 in
theorem ggL_does_X3_home : GoodIn wsL_does wsX3_home := goodIn_ca (goodIn_r _ [21, 22, 23, 24, 25, 4, 26, 27, 28, 17, 29, 7, 8, 9, 10, 11, 12, 30, 31, 32, 33, 34, 35, 36, 37, 38, 39, 40, 41, 42, 43, 44, 45, 46, 47, 48, 49, 50, 51, 52, 53, 54, 55, 56, 57, 58, 356, 357, 358, 359, 349, 350, 351, 352, 353, 354, 355, 360, 361, 362, 363, 364, 365] (by decide +kernel) (by decide +kernel)) (goodIn_sub (fun _ h => List.mem_cons_of_mem _ (List.mem_append_left _ (List.mem_append_left _ (List.mem_append_right _ h)))) (by decide +kernel))
set_option maxRecDepth 20000 in
theorem gL_does_X3_home : GoodIn wsL_does (wsV RL 22 RX3 yX3_home wsX3_home) := goodIn_app (goodIn_of _ (by decide +kernel)) ggL_does_X3_home
set_option maxRecDepth 20000 in
theorem ggL_does_X3_addDirectory : GoodIn wsL_does wsX3_addDirectory := goodIn_ca (goodIn_ca (goodIn_ca (goodIn_r _ [62, 63, 64, 65, 6, 66, 67, 68, 69, 70, 71, 4, 72, 27, 28, 73, 7, 8, 9, 10, 11, 12, 30, 31, 32, 33, 34, 35, 36, 37, 38, 39, 40, 41, 42, 43, 44, 45, 46, 74, 75, 76, 77, 78, 79, 80, 81, 82, 83, 84, 85, 86, 87, 88, 89, 90, 91, 92, 93, 94, 95, 96, 97, 98, 99, 100, 101, 102, 103, 104, 105, 106, 107, 108, 109, 110, 111, 112, 113, 114, 115, 116, 117, 118, 119, 120, 121, 122, 123, 124, 125, 126, 127, 128, 129, 130, 131, 132, 133, 134, 135, 136, 137, 138, 139, 140, 349, 350, 351, 352, 356, 357, 358, 359, 353, 354, 355] (by decide +kernel) (by decide +kernel)) (goodIn_sub (fun _ h => List.mem_cons_of_mem _ (List.mem_append_left _ (List.mem_append_right _ h))) (by decide +kernel))) (goodIn_sub (fun _ h => List.mem_cons_of_mem _ (List.mem_append_left _ (List.mem_append_left _ (List.mem_append_right _ h)))) (by decide +kernel))) (goodIn_sub (fun _ h => List.mem_cons_of_mem _ (List.mem_append_right _ h)) (by decide +kernel))
set_option maxRecDepth 20000 in
theorem gL_does_X3_addDirectory : GoodIn wsL_does (wsV RL 25 RX3 yX3_addDirectory wsX3_addDirectory) := goodIn_app (goodIn_of _ (by decide +kernel)) ggL_does_X3_addDirectory
set_option maxRecDepth 20000 in
theorem ggL_does_X3_usage : GoodIn wsL_does wsX3_usage := goodIn_ca (goodIn_r _ [144, 145, 69, 70, 71, 4, 72, 27, 28, 6, 73, 7, 8, 9, 10, 11, 12, 30, 31, 32, 33, 34, 35, 36, 37, 38, 39, 40, 41, 42, 43, 44, 45, 46, 356, 357, 358, 359, 349, 350, 351, 352, 353, 354, 355] (by decide +kernel) (by decide +kernel)) (goodIn_sub (fun _ h => List.mem_cons_of_mem _ (List.mem_append_left _ (List.mem_append_left _ (List.mem_append_right _ h)))) (by decide +kernel))
set_option maxRecDepth 20000 in
theorem gL_does_X3_usage : GoodIn wsL_does (wsV RL 29 RX3 yX3_usage wsX3_usage) := goodIn_app (goodIn_of _ (by decide +kernel)) ggL_does_X3_usage
set_option maxRecDepth 20000 in
theorem ggL_does_X3_coins : GoodIn wsL_does wsX3_coins := goodIn_ca (goodIn_r _ [149, 150, 151, 152, 153, 4, 154, 27, 28, 155, 156, 7, 8, 9, 10, 11, 12, 30, 31, 32, 33, 34, 35, 36, 37, 38, 39, 40, 41, 42, 43, 44, 45, 46, 366, 367, 349, 350, 351, 352, 353, 354, 355] (by decide +kernel) (by decide +kernel)) (goodIn_sub (fun _ h => List.mem_cons_of_mem _ (List.mem_append_left _ (List.mem_append_left _ (List.mem_append_right _ h)))) (by decide +kernel))
set_option maxRecDepth 20000 in
theorem gL_does_X3_coins : GoodIn wsL_does (wsV RL 9 RX3 yX3_coins wsX3_coins) := goodIn_app (goodIn_of _ (by decide +kernel)) ggL_does_X3_coins
set_option maxRecDepth 20000 in
theorem ggL_does_X3_fund : GoodIn wsL_does wsX3_fund := goodIn_ca (goodIn_ca (goodIn_ca (goodIn_r _ [160, 63, 64, 150, 161, 151, 152, 153, 4, 154, 27, 28, 155, 156, 7, 8, 9, 10, 11, 12, 30, 31, 32, 33, 34, 35, 36, 37, 38, 39, 40, 41, 42, 43, 44, 45, 46, 74, 75, 76, 77, 78, 366, 367, 349, 350, 351, 352, 353, 354, 355] (by decide +kernel) (by decide +kernel)) (goodIn_sub (fun _ h => List.mem_cons_of_mem _ (List.mem_append_left _ (List.mem_append_right _ h))) (by decide +kernel))) (goodIn_sub (fun _ h => List.mem_cons_of_mem _ (List.mem_append_left _ (List.mem_append_left _ (List.mem_append_right _ h)))) (by decide +kernel))) (goodIn_sub (fun _ h => List.mem_cons_of_mem _ (List.mem_append_right _ h)) (by decide +kernel))
set_option maxRecDepth 20000 in
theorem gL_does_X3_fund : GoodIn wsL_does (wsV RL 32 RX3 yX3_fund wsX3_fund) := goodIn_app (goodIn_of _ (by decide +kernel)) ggL_does_X3_fund
set_option maxRecDepth 20000 in
theorem ggL_does_X3_setQuota : GoodIn wsL_does wsX3_setQuota := goodIn_ca (goodIn_ca (goodIn_r _ [165, 65, 166, 69, 70, 71, 4, 72, 27, 28, 6, 73, 7, 8, 9, 10, 11, 12, 30, 31, 32, 33, 34, 35, 36, 37, 38, 39, 40, 41, 42, 43, 44, 45, 46, 74, 75, 76, 77, 78, 356, 357, 358, 359, 349, 350, 351, 352, 353, 354, 355] (by decide +kernel) (by decide +kernel)) (goodIn_sub (fun _ h => List.mem_cons_of_mem _ (List.mem_append_left _ (List.mem_append_left _ (List.mem_append_right _ h)))) (by decide +kernel))) (goodIn_sub (fun _ h => List.mem_cons_of_mem _ (List.mem_append_right _ h)) (by decide +kernel))
set_option maxRecDepth 20000 in
theorem gL_does_X3_setQuota : GoodIn wsL_does (wsV RL 35 RX3 yX3_setQuota wsX3_setQuota) := goodIn_app (goodIn_of _ (by decide +kernel)) ggL_does_X3_setQuota
set_option maxRecDepth 20000 in
theorem ggL_does_L_isFree : GoodIn wsL_does wsL_isFree := goodIn_ca (goodIn_ca (goodIn_r _ [170, 1, 2, 3, 4, 5, 6, 7, 8, 9, 10, 11, 12, 162, 163, 164, 165, 65, 166, 69, 70, 71, 72, 27, 28, 73, 30, 31, 32, 33, 34, 35, 36, 37, 38, 39, 40, 41, 42, 43, 44, 45, 46, 74, 75, 76, 77, 78, 141, 142, 143, 144, 145, 349, 350, 351, 352, 353, 354, 355, 356, 357, 358, 359] (by decide +kernel) (by decide +kernel)) (goodIn_sub (fun _ h => List.mem_cons_of_mem _ (List.mem_append_left _ (List.mem_append_left _ (List.mem_append_right _ h)))) (by decide +kernel))) (goodIn_sub (fun _ h => List.mem_cons_of_mem _ (List.mem_append_right _ h)) (by decide +kernel))
set_option maxRecDepth 20000 in
theorem gL_does_L_isFree : GoodIn wsL_does (va_wsS RL 38 yL_isFree wsL_isFree) := goodIn_app (goodIn_of _ (by decide +kernel)) ggL_does_L_isFree
set_option maxRecDepth 20000 in
theorem ggL_does_X3_make : GoodIn wsL_does wsX3_make := goodIn_ca (goodIn_ca (goodIn_ca (goodIn_r _ [174, 63, 64, 17, 175, 176, 50, 177, 178, 179, 151, 152, 153, 4, 154, 27, 28, 155, 156, 7, 8, 9, 10, 11, 12, 30, 31, 32, 33, 34, 35, 36, 37, 38, 39, 40, 41, 42, 43, 44, 45, 46, 69, 70, 71, 72, 6, 73, 74, 75, 76, 77, 78, 180, 181, 182, 150, 183, 184, 185, 68, 186, 87, 187, 86, 188, 189, 190, 191, 83, 84, 192, 193, 52, 194, 195, 196, 197, 198, 199, 106, 200, 201, 202, 203, 204, 205, 206, 207, 208, 209, 88, 89, 90, 91, 92, 93, 94, 95, 96, 97, 98, 99, 100, 101, 102, 103, 104, 105, 107, 108, 109, 110, 111, 112, 113, 114, 115, 116, 117, 118, 119, 120, 121, 122, 123, 124, 125, 126, 127, 128, 129, 130, 131, 132, 133, 134, 135, 136, 137, 138, 139, 140, 210, 211, 212, 213, 349, 350, 351, 352, 360, 361, 362, 363, 364, 365, 366, 367, 353, 354, 355, 356, 357, 358, 359] (by decide +kernel) (by decide +kernel)) (goodIn_sub (fun _ h => List.mem_cons_of_mem _ (List.mem_append_left _ (List.mem_append_right _ h))) (by decide +kernel))) (goodIn_sub (fun _ h => List.mem_cons_of_mem _ (List.mem_append_left _ (List.mem_append_left _ (List.mem_append_right _ h)))) (by decide +kernel))) (goodIn_sub (fun _ h => List.mem_cons_of_mem _ (List.mem_append_right _ h)) (by decide +kernel))
set_option maxRecDepth 20000 in
theorem gL_does_X3_make : GoodIn wsL_does (wsV RL 44 RX3 yX3_make wsX3_make) := goodIn_app (goodIn_of _ (by decide +kernel)) ggL_does_X3_make
set_option maxRecDepth 20000 in
theorem ggL_does_X3_tier : GoodIn wsL_does wsX3_tier := goodIn_ca (goodIn_r _ [217, 177, 23, 24, 25, 4, 26, 27, 28, 17, 29, 7, 8, 9, 10, 11, 12, 30, 31, 32, 33, 34, 35, 36, 37, 38, 39, 40, 41, 42, 43, 44, 45, 46, 218, 219, 220, 50, 221, 196, 222, 223, 224, 225, 52, 54, 55, 56, 57, 226, 227, 228, 229, 349, 350, 351, 352, 353, 354, 355, 360, 361, 362, 363, 364, 365] (by decide +kernel) (by decide +kernel)) (goodIn_sub (fun _ h => List.mem_cons_of_mem _ (List.mem_append_left _ (List.mem_append_left _ (List.mem_append_right _ h)))) (by decide +kernel))
set_option maxRecDepth 20000 in
theorem gL_does_X3_tier : GoodIn wsL_does (wsV RL 48 RX3 yX3_tier wsX3_tier) := goodIn_app (goodIn_of _ (by decide +kernel)) ggL_does_X3_tier
set_option maxRecDepth 20000 in
theorem ggL_does_X3_link : GoodIn wsL_does wsX3_link := goodIn_ca (goodIn_ca (goodIn_r _ [233, 63, 64, 178, 23, 24, 25, 4, 26, 27, 28, 17, 29, 7, 8, 9, 10, 11, 12, 30, 31, 32, 33, 34, 35, 36, 37, 38, 39, 40, 41, 42, 43, 44, 45, 46, 69, 70, 71, 72, 6, 73, 234, 235, 236, 237, 223, 224, 50, 225, 52, 54, 55, 56, 57, 238, 239, 240, 241, 242, 58, 88, 89, 90, 91, 92, 93, 94, 95, 96, 97, 98, 99, 100, 101, 102, 103, 104, 105, 106, 107, 108, 109, 110, 111, 112, 113, 114, 115, 116, 117, 118, 119, 120, 121, 122, 123, 124, 125, 126, 127, 128, 129, 130, 131, 132, 133, 134, 135, 136, 137, 138, 139, 140, 360, 361, 362, 363, 364, 365, 349, 350, 351, 352, 353, 354, 355] (by decide +kernel) (by decide +kernel)) (goodIn_sub (fun _ h => List.mem_cons_of_mem _ (List.mem_append_left _ (List.mem_append_right _ h))) (by decide +kernel))) (goodIn_sub (fun _ h => List.mem_cons_of_mem _ (List.mem_append_left _ (List.mem_append_left _ (List.mem_append_right _ h)))) (by decide +kernel))
set_option maxRecDepth 20000 in
theorem gL_does_X3_link : GoodIn wsL_does (wsV RL 51 RX3 yX3_link wsX3_link) := goodIn_app (goodIn_of _ (by decide +kernel)) ggL_does_X3_link
set_option maxRecDepth 20000 in
theorem ggL_does_X3_size : GoodIn wsL_does wsX3_size := goodIn_ca (goodIn_r _ [246, 247, 23, 24, 25, 4, 26, 27, 28, 17, 29, 7, 8, 9, 10, 11, 12, 30, 31, 32, 33, 34, 35, 36, 37, 38, 39, 40, 41, 42, 43, 44, 45, 46, 360, 361, 362, 363, 364, 365, 349, 350, 351, 352, 353, 354, 355] (by decide +kernel) (by decide +kernel)) (goodIn_sub (fun _ h => List.mem_cons_of_mem _ (List.mem_append_left _ (List.mem_append_left _ (List.mem_append_right _ h)))) (by decide +kernel))
set_option maxRecDepth 20000 in
theorem gL_does_X3_size : GoodIn wsL_does (wsV RL 54 RX3 yX3_size wsX3_size) := goodIn_app (goodIn_of _ (by decide +kernel)) ggL_does_X3_size
set_option maxRecDepth 20000 in
theorem ggL_does_X3_kept : GoodIn wsL_does wsX3_kept := goodIn_ca (goodIn_r _ [251, 252, 23, 24, 25, 4, 26, 27, 28, 17, 29, 7, 8, 9, 10, 11, 12, 30, 31, 32, 33, 34, 35, 36, 37, 38, 39, 40, 41, 42, 43, 44, 45, 46, 360, 361, 362, 363, 364, 365, 349, 350, 351, 352, 353, 354, 355] (by decide +kernel) (by decide +kernel)) (goodIn_sub (fun _ h => List.mem_cons_of_mem _ (List.mem_append_left _ (List.mem_append_left _ (List.mem_append_right _ h)))) (by decide +kernel))
set_option maxRecDepth 20000 in
theorem gL_does_X3_kept : GoodIn wsL_does (wsV RL 57 RX3 yX3_kept wsX3_kept) := goodIn_app (goodIn_of _ (by decide +kernel)) ggL_does_X3_kept
set_option maxRecDepth 20000 in
theorem ggL_does_X3_holders : GoodIn wsL_does wsX3_holders := goodIn_ca (goodIn_r _ [256, 257, 23, 24, 25, 4, 26, 27, 28, 17, 29, 7, 8, 9, 10, 11, 12, 30, 31, 32, 33, 34, 35, 36, 37, 38, 39, 40, 41, 42, 43, 44, 45, 46, 360, 361, 362, 363, 364, 365, 349, 350, 351, 352, 353, 354, 355] (by decide +kernel) (by decide +kernel)) (goodIn_sub (fun _ h => List.mem_cons_of_mem _ (List.mem_append_left _ (List.mem_append_left _ (List.mem_append_right _ h)))) (by decide +kernel))
set_option maxRecDepth 20000 in
theorem gL_does_X3_holders : GoodIn wsL_does (wsV RL 60 RX3 yX3_holders wsX3_holders) := goodIn_app (goodIn_of _ (by decide +kernel)) ggL_does_X3_holders
set_option maxRecDepth 20000 in
theorem ggL_does_X3_unlink : GoodIn wsL_does wsX3_unlink := goodIn_ca (goodIn_ca (goodIn_r _ [261, 63, 64, 247, 178, 23, 24, 25, 4, 26, 27, 28, 17, 29, 7, 8, 9, 10, 11, 12, 30, 31, 32, 33, 34, 35, 36, 37, 38, 39, 40, 41, 42, 43, 44, 45, 46, 69, 70, 71, 72, 6, 73, 47, 48, 49, 50, 51, 52, 53, 54, 55, 56, 57, 58, 262, 263, 264, 265, 266, 239, 240, 241, 242, 267, 268, 269, 270, 271, 272, 273, 274, 92, 93, 275, 138, 139, 140, 210, 211, 212, 68, 213, 187, 86, 276, 277, 278, 279, 280, 281, 195, 360, 361, 362, 363, 364, 365, 349, 350, 351, 352, 353, 354, 355, 356, 357, 358, 359] (by decide +kernel) (by decide +kernel)) (goodIn_sub (fun _ h => List.mem_cons_of_mem _ (List.mem_append_left _ (List.mem_append_right _ h))) (by decide +kernel))) (goodIn_sub (fun _ h => List.mem_cons_of_mem _ (List.mem_append_left _ (List.mem_append_left _ (List.mem_append_right _ h)))) (by decide +kernel))
set_option maxRecDepth 20000 in
theorem gL_does_X3_unlink : GoodIn wsL_does (wsV RL 63 RX3 yX3_unlink wsX3_unlink) := goodIn_app (goodIn_of _ (by decide +kernel)) ggL_does_X3_unlink
set_option maxRecDepth 20000 in
theorem ggL_does_X3_write : GoodIn wsL_does wsX3_write := goodIn_ca (goodIn_ca (goodIn_ca (goodIn_r _ [285, 63, 64, 177, 247, 286, 287, 252, 23, 24, 25, 4, 26, 27, 28, 17, 29, 7, 8, 9, 10, 11, 12, 30, 31, 32, 33, 34, 35, 36, 37, 38, 39, 40, 41, 42, 43, 44, 45, 46, 74, 75, 76, 77, 78, 47, 48, 49, 50, 51, 52, 53, 54, 55, 56, 57, 58, 218, 219, 220, 221, 196, 222, 223, 224, 225, 226, 227, 228, 229, 180, 181, 182, 150, 183, 184, 185, 68, 186, 87, 187, 86, 210, 211, 212, 213, 276, 277, 278, 279, 280, 281, 195, 349, 350, 351, 352, 360, 361, 362, 363, 364, 365, 353, 354, 355, 366, 367, 356, 357, 358, 359] (by decide +kernel) (by decide +kernel)) (goodIn_sub (fun _ h => List.mem_cons_of_mem _ (List.mem_append_left _ (List.mem_append_right _ h))) (by decide +kernel))) (goodIn_sub (fun _ h => List.mem_cons_of_mem _ (List.mem_append_left _ (List.mem_append_left _ (List.mem_append_right _ h)))) (by decide +kernel))) (goodIn_sub (fun _ h => List.mem_cons_of_mem _ (List.mem_append_right _ h)) (by decide +kernel))
set_option maxRecDepth 20000 in
theorem gL_does_X3_write : GoodIn wsL_does (wsV RL 66 RX3 yX3_write wsX3_write) := goodIn_app (goodIn_of _ (by decide +kernel)) ggL_does_X3_write
set_option maxRecDepth 20000 in
theorem ggL_does_X3_hold : GoodIn wsL_does wsX3_hold := goodIn_ca (goodIn_ca (goodIn_r _ [291, 257, 292, 293, 4, 294, 27, 28, 23, 24, 25, 26, 17, 29, 7, 8, 9, 10, 11, 12, 30, 31, 32, 33, 34, 35, 36, 37, 38, 39, 40, 41, 42, 43, 44, 45, 46, 234, 235, 236, 63, 64, 237, 223, 224, 50, 225, 52, 54, 55, 56, 57, 295, 296, 297, 298, 299, 300, 301, 360, 361, 362, 363, 364, 365, 349, 350, 351, 352, 353, 354, 355] (by decide +kernel) (by decide +kernel)) (goodIn_sub (fun _ h => List.mem_cons_of_mem _ (List.mem_append_left _ (List.mem_append_left _ (List.mem_append_right _ h)))) (by decide +kernel))) (goodIn_sub (fun _ h => List.mem_cons_of_mem _ (List.mem_append_left _ (List.mem_append_right _ h))) (by decide +kernel))
set_option maxRecDepth 20000 in
theorem gL_does_X3_hold : GoodIn wsL_does (wsV RL 69 RX3 yX3_hold wsX3_hold) := goodIn_app (goodIn_of _ (by decide +kernel)) ggL_does_X3_hold
set_option maxRecDepth 20000 in
theorem ggL_does_X3_release : GoodIn wsL_does wsX3_release := goodIn_ca (goodIn_r _ [305, 17, 29, 292, 293, 4, 294, 27, 28, 7, 8, 9, 10, 11, 12, 30, 31, 32, 33, 34, 35, 36, 37, 38, 39, 40, 41, 42, 43, 44, 45, 46, 306, 307, 308, 50, 309, 280, 281, 349, 350, 351, 352, 353, 354, 355, 360, 361, 362, 363, 364, 365] (by decide +kernel) (by decide +kernel)) (goodIn_sub (fun _ h => List.mem_cons_of_mem _ (List.mem_append_left _ (List.mem_append_left _ (List.mem_append_right _ h)))) (by decide +kernel))
set_option maxRecDepth 20000 in
theorem gL_does_X3_release : GoodIn wsL_does (wsV RL 72 RX3 yX3_release wsX3_release) := goodIn_app (goodIn_of _ (by decide +kernel)) ggL_does_X3_release
set_option maxRecDepth 20000 in
theorem ggL_does_X3_read : GoodIn wsL_does wsX3_read := goodIn_ca (goodIn_ca (goodIn_r _ [313, 177, 287, 23, 24, 25, 4, 26, 27, 28, 17, 29, 7, 8, 9, 10, 11, 12, 30, 31, 32, 33, 34, 35, 36, 37, 38, 39, 40, 41, 42, 43, 44, 45, 46, 234, 235, 236, 63, 64, 237, 223, 224, 50, 225, 52, 54, 55, 56, 57, 218, 219, 220, 221, 196, 222, 226, 227, 228, 229, 314, 315, 316, 317, 318, 286, 150, 319, 320, 321, 322, 195, 349, 350, 351, 352, 360, 361, 362, 363, 364, 365, 353, 354, 355, 366, 367] (by decide +kernel) (by decide +kernel)) (goodIn_sub (fun _ h => List.mem_cons_of_mem _ (List.mem_append_left _ (List.mem_append_left _ (List.mem_append_right _ h)))) (by decide +kernel))) (goodIn_sub (fun _ h => List.mem_cons_of_mem _ (List.mem_append_left _ (List.mem_append_right _ h))) (by decide +kernel))
set_option maxRecDepth 20000 in
theorem gL_does_X3_read : GoodIn wsL_does (wsV RL 75 RX3 yX3_read wsX3_read) := goodIn_app (goodIn_of _ (by decide +kernel)) ggL_does_X3_read
set_option maxRecDepth 20000 in
theorem ggL_does_L_coins : GoodIn wsL_does wsL_coins := goodIn_ca (goodIn_r _ [325, 146, 147, 148, 4, 149, 150, 151, 152, 153, 154, 27, 28, 155, 156, 7, 8, 9, 10, 11, 12, 30, 31, 32, 33, 34, 35, 36, 37, 38, 39, 40, 41, 42, 43, 44, 45, 46, 366, 367, 349, 350, 351, 352, 353, 354, 355] (by decide +kernel) (by decide +kernel)) (goodIn_sub (fun _ h => List.mem_cons_of_mem _ (List.mem_append_left _ (List.mem_append_left _ (List.mem_append_right _ h)))) (by decide +kernel))
set_option maxRecDepth 20000 in
theorem gL_does_L_coins : GoodIn wsL_does (va_wsS RL 78 yL_coins wsL_coins) := goodIn_app (goodIn_of _ (by decide +kernel)) ggL_does_L_coins
set_option maxRecDepth 20000 in
theorem ggL_does_X3_pass : GoodIn wsL_does wsX3_pass := goodIn_ca (goodIn_ca (goodIn_r _ [329, 63, 64, 177, 74, 75, 4, 76, 77, 78, 330, 331, 332, 333, 155, 156, 150, 334, 135, 109, 136, 7, 8, 9, 10, 11, 12, 30, 31, 32, 33, 34, 35, 36, 37, 38, 39, 40, 41, 42, 43, 44, 45, 46, 335, 336, 337, 338, 339, 340, 341, 342, 343, 344, 345, 346, 50, 347, 195, 281, 222, 223, 224, 225, 52, 54, 55, 56, 57, 348, 219, 220, 221, 196, 226, 227, 228, 229, 349, 350, 351, 352, 366, 367, 353, 354, 355, 360, 361, 362, 363, 364, 365] (by decide +kernel) (by decide +kernel)) (goodIn_sub (fun _ h => List.mem_cons_of_mem _ (List.mem_append_left _ (List.mem_append_right _ h))) (by decide +kernel))) (goodIn_sub (fun _ h => List.mem_cons_of_mem _ (List.mem_append_right _ h)) (by decide +kernel))
set_option maxRecDepth 20000 in
theorem gL_does_X3_pass : GoodIn wsL_does (wsV RL 81 RX3 yX3_pass wsX3_pass) := goodIn_app (goodIn_of _ (by decide +kernel)) ggL_does_X3_pass
theorem dL_does_0 : decode cL_does 0 = .ok (.aload_n 0, 1) := by decide +kernel
theorem dL_does_1 : decode cL_does 1 = .ok (.invokevirtual 15, 3) := by decide +kernel
theorem dL_does_4 : decode cL_does 4 = .ok (.istore 4, 2) := by decide +kernel
theorem dL_does_6 : decode cL_does 6 = .ok (.aload_n 0, 1) := by decide +kernel
theorem dL_does_7 : decode cL_does 7 = .ok (.invokevirtual 19, 3) := by decide +kernel
theorem dL_does_10 : decode cL_does 10 = .ok (.istore 5, 2) := by decide +kernel
theorem dL_does_12 : decode cL_does 12 = .ok (.iload_n 2, 1) := by decide +kernel
theorem dL_does_13 : decode cL_does 13 = .ok (.bipush 10, 2) := by decide +kernel
theorem dL_does_15 : decode cL_does 15 = .ok (.idiv, 1) := by decide +kernel
theorem dL_does_16 : decode cL_does 16 = .ok (.iload 4, 2) := by decide +kernel
theorem dL_does_18 : decode cL_does 18 = .ok (.irem, 1) := by decide +kernel
theorem dL_does_19 : decode cL_does 19 = .ok (.istore 6, 2) := by decide +kernel
theorem dL_does_21 : decode cL_does 21 = .ok (.iload 5, 2) := by decide +kernel
theorem dL_does_23 : decode cL_does 23 = .ok (.ifCond .ne 7, 3) := by decide +kernel
theorem dL_does_26 : decode cL_does 26 = .ok (.iconst (-1), 1) := by decide +kernel
theorem dL_does_27 : decode cL_does 27 = .ok (.goto 10, 3) := by decide +kernel
theorem dL_does_30 : decode cL_does 30 = .ok (.iload_n 2, 1) := by decide +kernel
theorem dL_does_31 : decode cL_does 31 = .ok (.bipush 10, 2) := by decide +kernel
theorem dL_does_33 : decode cL_does 33 = .ok (.idiv, 1) := by decide +kernel
theorem dL_does_34 : decode cL_does 34 = .ok (.iload 5, 2) := by decide +kernel
theorem dL_does_36 : decode cL_does 36 = .ok (.irem, 1) := by decide +kernel
theorem dL_does_37 : decode cL_does 37 = .ok (.istore 7, 2) := by decide +kernel
theorem dL_does_39 : decode cL_does 39 = .ok (.iload 7, 2) := by decide +kernel
theorem dL_does_41 : decode cL_does 41 = .ok (.ifCond .lt 16, 3) := by decide +kernel
theorem dL_does_44 : decode cL_does 44 = .ok (.aload_n 0, 1) := by decide +kernel
theorem dL_does_45 : decode cL_does 45 = .ok (.iload 7, 2) := by decide +kernel
theorem dL_does_47 : decode cL_does 47 = .ok (.invokevirtual 22, 3) := by decide +kernel
theorem dL_does_50 : decode cL_does 50 = .ok (.ifCond .lt 7, 3) := by decide +kernel
theorem dL_does_53 : decode cL_does 53 = .ok (.iconst 1, 1) := by decide +kernel
theorem dL_does_54 : decode cL_does 54 = .ok (.goto 4, 3) := by decide +kernel
theorem dL_does_57 : decode cL_does 57 = .ok (.iconst 0, 1) := by decide +kernel
theorem dL_does_58 : decode cL_does 58 = .ok (.istore 8, 2) := by decide +kernel
theorem dL_does_60 : decode cL_does 60 = .ok (.iload_n 2, 1) := by decide +kernel
theorem dL_does_61 : decode cL_does 61 = .ok (.bipush 10, 2) := by decide +kernel
theorem dL_does_63 : decode cL_does 63 = .ok (.irem, 1) := by decide +kernel
theorem dL_does_64 : decode cL_does 64 = .ok (.tableswitch 671 0 8 #[52, 102, 102, 231, 316, 479, 566, 605, 641], 52) := by decide +kernel
theorem dL_does_116 : decode cL_does 116 = .ok (.iload 4, 2) := by decide +kernel
theorem dL_does_118 : decode cL_does 118 = .ok (.bipush 12, 2) := by decide +kernel
theorem dL_does_120 : decode cL_does 120 = .ok (.if_icmp .eq 40, 3) := by decide +kernel
theorem dL_does_123 : decode cL_does 123 = .ok (.aload_n 0, 1) := by decide +kernel
theorem dL_does_124 : decode cL_does 124 = .ok (.iload 6, 2) := by decide +kernel
theorem dL_does_126 : decode cL_does 126 = .ok (.iload_n 3, 1) := by decide +kernel
theorem dL_does_127 : decode cL_does 127 = .ok (.iconst 4, 1) := by decide +kernel
theorem dL_does_128 : decode cL_does 128 = .ok (.irem, 1) := by decide +kernel
theorem dL_does_129 : decode cL_does 129 = .ok (.ifCond .ne 13, 3) := by decide +kernel
theorem dL_does_132 : decode cL_does 132 = .ok (.iload_n 3, 1) := by decide +kernel
theorem dL_does_133 : decode cL_does 133 = .ok (.iconst 4, 1) := by decide +kernel
theorem dL_does_134 : decode cL_does 134 = .ok (.idiv, 1) := by decide +kernel
theorem dL_does_135 : decode cL_does 135 = .ok (.sipush 3000, 3) := by decide +kernel
theorem dL_does_138 : decode cL_does 138 = .ok (.irem, 1) := by decide +kernel
theorem dL_does_139 : decode cL_does 139 = .ok (.goto 4, 3) := by decide +kernel
theorem dL_does_142 : decode cL_does 142 = .ok (.iconst (-1), 1) := by decide +kernel
theorem dL_does_143 : decode cL_does 143 = .ok (.invokevirtual 25, 3) := by decide +kernel
theorem dL_does_146 : decode cL_does 146 = .ok (.iload 4, 2) := by decide +kernel
theorem dL_does_148 : decode cL_does 148 = .ok (.if_icmp .ne 16, 3) := by decide +kernel
theorem dL_does_151 : decode cL_does 151 = .ok (.aload_n 0, 1) := by decide +kernel
theorem dL_does_152 : decode cL_does 152 = .ok (.iload 4, 2) := by decide +kernel
theorem dL_does_154 : decode cL_does 154 = .ok (.invokevirtual 29, 3) := by decide +kernel
theorem dL_does_157 : decode cL_does 157 = .ok (.ifCond .ne 7, 3) := by decide +kernel
theorem dL_does_160 : decode cL_does 160 = .ok (.iconst 1, 1) := by decide +kernel
theorem dL_does_161 : decode cL_does 161 = .ok (.goto 4, 3) := by decide +kernel
theorem dL_does_164 : decode cL_does 164 = .ok (.iconst 0, 1) := by decide +kernel
theorem dL_does_165 : decode cL_does 165 = .ok (.ireturn, 1) := by decide +kernel
theorem dL_does_166 : decode cL_does 166 = .ok (.iload 5, 2) := by decide +kernel
theorem dL_does_168 : decode cL_does 168 = .ok (.bipush 30, 2) := by decide +kernel
theorem dL_does_170 : decode cL_does 170 = .ok (.if_icmp .ge 123, 3) := by decide +kernel
theorem dL_does_173 : decode cL_does 173 = .ok (.iload_n 3, 1) := by decide +kernel
theorem dL_does_174 : decode cL_does 174 = .ok (.iconst 4, 1) := by decide +kernel
theorem dL_does_175 : decode cL_does 175 = .ok (.irem, 1) := by decide +kernel
theorem dL_does_176 : decode cL_does 176 = .ok (.istore 9, 2) := by decide +kernel
theorem dL_does_178 : decode cL_does 178 = .ok (.aload_n 0, 1) := by decide +kernel
theorem dL_does_179 : decode cL_does 179 = .ok (.iload 9, 2) := by decide +kernel
theorem dL_does_181 : decode cL_does 181 = .ok (.invokevirtual 9, 3) := by decide +kernel
theorem dL_does_184 : decode cL_does 184 = .ok (.ifCond .ne 12, 3) := by decide +kernel
theorem dL_does_187 : decode cL_does 187 = .ok (.aload_n 0, 1) := by decide +kernel
theorem dL_does_188 : decode cL_does 188 = .ok (.iload 9, 2) := by decide +kernel
theorem dL_does_190 : decode cL_does 190 = .ok (.bipush 50, 2) := by decide +kernel
theorem dL_does_192 : decode cL_does 192 = .ok (.invokevirtual 32, 3) := by decide +kernel
theorem dL_does_195 : decode cL_does 195 = .ok (.pop, 1) := by decide +kernel
theorem dL_does_196 : decode cL_does 196 = .ok (.aload_n 0, 1) := by decide +kernel
theorem dL_does_197 : decode cL_does 197 = .ok (.iload 6, 2) := by decide +kernel
theorem dL_does_199 : decode cL_does 199 = .ok (.iconst (-1), 1) := by decide +kernel
theorem dL_does_200 : decode cL_does 200 = .ok (.invokevirtual 35, 3) := by decide +kernel
theorem dL_does_203 : decode cL_does 203 = .ok (.pop, 1) := by decide +kernel
theorem dL_does_204 : decode cL_does 204 = .ok (.aload_n 0, 1) := by decide +kernel
theorem dL_does_205 : decode cL_does 205 = .ok (.iconst 0, 1) := by decide +kernel
theorem dL_does_206 : decode cL_does 206 = .ok (.iconst (-1), 1) := by decide +kernel
theorem dL_does_207 : decode cL_does 207 = .ok (.invokevirtual 35, 3) := by decide +kernel
theorem dL_does_210 : decode cL_does 210 = .ok (.pop, 1) := by decide +kernel
theorem dL_does_211 : decode cL_does 211 = .ok (.aload_n 0, 1) := by decide +kernel
theorem dL_does_212 : decode cL_does 212 = .ok (.iload 6, 2) := by decide +kernel
theorem dL_does_214 : decode cL_does 214 = .ok (.invokevirtual 29, 3) := by decide +kernel
theorem dL_does_217 : decode cL_does 217 = .ok (.istore 10, 2) := by decide +kernel
theorem dL_does_219 : decode cL_does 219 = .ok (.iconst 1, 1) := by decide +kernel
theorem dL_does_220 : decode cL_does 220 = .ok (.iload_n 3, 1) := by decide +kernel
theorem dL_does_221 : decode cL_does 221 = .ok (.iconst 4, 1) := by decide +kernel
theorem dL_does_222 : decode cL_does 222 = .ok (.idiv, 1) := by decide +kernel
theorem dL_does_223 : decode cL_does 223 = .ok (.sipush 1000, 3) := by decide +kernel
theorem dL_does_226 : decode cL_does 226 = .ok (.irem, 1) := by decide +kernel
theorem dL_does_227 : decode cL_does 227 = .ok (.iadd, 1) := by decide +kernel
theorem dL_does_228 : decode cL_does 228 = .ok (.istore 11, 2) := by decide +kernel
theorem dL_does_230 : decode cL_does 230 = .ok (.aload_n 0, 1) := by decide +kernel
theorem dL_does_231 : decode cL_does 231 = .ok (.iload 11, 2) := by decide +kernel
theorem dL_does_233 : decode cL_does 233 = .ok (.invokestatic 38, 3) := by decide +kernel
theorem dL_does_236 : decode cL_does 236 = .ok (.ifCond .ne 5, 3) := by decide +kernel
theorem dL_does_239 : decode cL_does 239 = .ok (.iconst 1, 1) := by decide +kernel
theorem dL_does_240 : decode cL_does 240 = .ok (.ireturn, 1) := by decide +kernel
theorem dL_does_241 : decode cL_does 241 = .ok (.aload_n 1, 1) := by decide +kernel
theorem dL_does_242 : decode cL_does 242 = .ok (.iload 5, 2) := by decide +kernel
theorem dL_does_244 : decode cL_does 244 = .ok (.iconst 1, 1) := by decide +kernel
theorem dL_does_245 : decode cL_does 245 = .ok (.iload 6, 2) := by decide +kernel
theorem dL_does_247 : decode cL_does 247 = .ok (.ishl, 1) := by decide +kernel
theorem dL_does_248 : decode cL_does 248 = .ok (.iastore, 1) := by decide +kernel
theorem dL_does_249 : decode cL_does 249 = .ok (.aload_n 0, 1) := by decide +kernel
theorem dL_does_250 : decode cL_does 250 = .ok (.iload 9, 2) := by decide +kernel
theorem dL_does_252 : decode cL_does 252 = .ok (.iload 6, 2) := by decide +kernel
theorem dL_does_254 : decode cL_does 254 = .ok (.iload 11, 2) := by decide +kernel
theorem dL_does_256 : decode cL_does 256 = .ok (.invokevirtual 44, 3) := by decide +kernel
theorem dL_does_259 : decode cL_does 259 = .ok (.iload 5, 2) := by decide +kernel
theorem dL_does_261 : decode cL_does 261 = .ok (.if_icmp .ne 30, 3) := by decide +kernel
theorem dL_does_264 : decode cL_does 264 = .ok (.aload_n 0, 1) := by decide +kernel
theorem dL_does_265 : decode cL_does 265 = .ok (.iload 6, 2) := by decide +kernel
theorem dL_does_267 : decode cL_does 267 = .ok (.invokevirtual 29, 3) := by decide +kernel
theorem dL_does_270 : decode cL_does 270 = .ok (.iload 10, 2) := by decide +kernel
theorem dL_does_272 : decode cL_does 272 = .ok (.iload 11, 2) := by decide +kernel
theorem dL_does_274 : decode cL_does 274 = .ok (.iadd, 1) := by decide +kernel
theorem dL_does_275 : decode cL_does 275 = .ok (.if_icmp .ne 16, 3) := by decide +kernel
theorem dL_does_278 : decode cL_does 278 = .ok (.aload_n 0, 1) := by decide +kernel
theorem dL_does_279 : decode cL_does 279 = .ok (.iload 5, 2) := by decide +kernel
theorem dL_does_281 : decode cL_does 281 = .ok (.invokevirtual 48, 3) := by decide +kernel
theorem dL_does_284 : decode cL_does 284 = .ok (.ifCond .ne 7, 3) := by decide +kernel
theorem dL_does_287 : decode cL_does 287 = .ok (.iconst 1, 1) := by decide +kernel
theorem dL_does_288 : decode cL_does 288 = .ok (.goto 4, 3) := by decide +kernel
theorem dL_does_291 : decode cL_does 291 = .ok (.iconst 0, 1) := by decide +kernel
theorem dL_does_292 : decode cL_does 292 = .ok (.ireturn, 1) := by decide +kernel
theorem dL_does_293 : decode cL_does 293 = .ok (.iconst 1, 1) := by decide +kernel
theorem dL_does_294 : decode cL_does 294 = .ok (.ireturn, 1) := by decide +kernel
theorem dL_does_295 : decode cL_does 295 = .ok (.iload 8, 2) := by decide +kernel
theorem dL_does_297 : decode cL_does 297 = .ok (.ifCond .eq 81, 3) := by decide +kernel
theorem dL_does_300 : decode cL_does 300 = .ok (.aload_n 0, 1) := by decide +kernel
theorem dL_does_301 : decode cL_does 301 = .ok (.iload 7, 2) := by decide +kernel
theorem dL_does_303 : decode cL_does 303 = .ok (.invokevirtual 22, 3) := by decide +kernel
theorem dL_does_306 : decode cL_does 306 = .ok (.istore 9, 2) := by decide +kernel
theorem dL_does_308 : decode cL_does 308 = .ok (.iload_n 3, 1) := by decide +kernel
theorem dL_does_309 : decode cL_does 309 = .ok (.iload 4, 2) := by decide +kernel
theorem dL_does_311 : decode cL_does 311 = .ok (.irem, 1) := by decide +kernel
theorem dL_does_312 : decode cL_does 312 = .ok (.istore 10, 2) := by decide +kernel
theorem dL_does_314 : decode cL_does 314 = .ok (.aload_n 1, 1) := by decide +kernel
theorem dL_does_315 : decode cL_does 315 = .ok (.iload 7, 2) := by decide +kernel
theorem dL_does_317 : decode cL_does 317 = .ok (.iaload, 1) := by decide +kernel
theorem dL_does_318 : decode cL_does 318 = .ok (.iload 10, 2) := by decide +kernel
theorem dL_does_320 : decode cL_does 320 = .ok (.ishr, 1) := by decide +kernel
theorem dL_does_321 : decode cL_does 321 = .ok (.iconst 1, 1) := by decide +kernel
theorem dL_does_322 : decode cL_does 322 = .ok (.iand, 1) := by decide +kernel
theorem dL_does_323 : decode cL_does 323 = .ok (.ifCond .ne 7, 3) := by decide +kernel
theorem dL_does_326 : decode cL_does 326 = .ok (.iconst 1, 1) := by decide +kernel
theorem dL_does_327 : decode cL_does 327 = .ok (.goto 4, 3) := by decide +kernel
theorem dL_does_330 : decode cL_does 330 = .ok (.iconst 0, 1) := by decide +kernel
theorem dL_does_331 : decode cL_does 331 = .ok (.istore 11, 2) := by decide +kernel
theorem dL_does_333 : decode cL_does 333 = .ok (.aload_n 1, 1) := by decide +kernel
theorem dL_does_334 : decode cL_does 334 = .ok (.iload 7, 2) := by decide +kernel
theorem dL_does_336 : decode cL_does 336 = .ok (.dup2, 1) := by decide +kernel
theorem dL_does_337 : decode cL_does 337 = .ok (.iaload, 1) := by decide +kernel
theorem dL_does_338 : decode cL_does 338 = .ok (.iconst 1, 1) := by decide +kernel
theorem dL_does_339 : decode cL_does 339 = .ok (.iload 10, 2) := by decide +kernel
theorem dL_does_341 : decode cL_does 341 = .ok (.ishl, 1) := by decide +kernel
theorem dL_does_342 : decode cL_does 342 = .ok (.ior, 1) := by decide +kernel
theorem dL_does_343 : decode cL_does 343 = .ok (.iastore, 1) := by decide +kernel
theorem dL_does_344 : decode cL_does 344 = .ok (.iload 11, 2) := by decide +kernel
theorem dL_does_346 : decode cL_does 346 = .ok (.ifCond .eq 26, 3) := by decide +kernel
theorem dL_does_349 : decode cL_does 349 = .ok (.aload_n 0, 1) := by decide +kernel
theorem dL_does_350 : decode cL_does 350 = .ok (.iload 7, 2) := by decide +kernel
theorem dL_does_352 : decode cL_does 352 = .ok (.iload 10, 2) := by decide +kernel
theorem dL_does_354 : decode cL_does 354 = .ok (.invokevirtual 51, 3) := by decide +kernel
theorem dL_does_357 : decode cL_does 357 = .ok (.iconst 1, 1) := by decide +kernel
theorem dL_does_358 : decode cL_does 358 = .ok (.if_icmp .le 18, 3) := by decide +kernel
theorem dL_does_361 : decode cL_does 361 = .ok (.aload_n 0, 1) := by decide +kernel
theorem dL_does_362 : decode cL_does 362 = .ok (.iload 7, 2) := by decide +kernel
theorem dL_does_364 : decode cL_does 364 = .ok (.invokevirtual 22, 3) := by decide +kernel
theorem dL_does_367 : decode cL_does 367 = .ok (.iload 9, 2) := by decide +kernel
theorem dL_does_369 : decode cL_does 369 = .ok (.if_icmp .ne 7, 3) := by decide +kernel
theorem dL_does_372 : decode cL_does 372 = .ok (.iconst 1, 1) := by decide +kernel
theorem dL_does_373 : decode cL_does 373 = .ok (.goto 4, 3) := by decide +kernel
theorem dL_does_376 : decode cL_does 376 = .ok (.iconst 0, 1) := by decide +kernel
theorem dL_does_377 : decode cL_does 377 = .ok (.ireturn, 1) := by decide +kernel
theorem dL_does_378 : decode cL_does 378 = .ok (.iconst 1, 1) := by decide +kernel
theorem dL_does_379 : decode cL_does 379 = .ok (.ireturn, 1) := by decide +kernel
theorem dL_does_380 : decode cL_does 380 = .ok (.iload 8, 2) := by decide +kernel
theorem dL_does_382 : decode cL_does 382 = .ok (.ifCond .eq 159, 3) := by decide +kernel
theorem dL_does_385 : decode cL_does 385 = .ok (.aload_n 0, 1) := by decide +kernel
theorem dL_does_386 : decode cL_does 386 = .ok (.iload 7, 2) := by decide +kernel
theorem dL_does_388 : decode cL_does 388 = .ok (.invokevirtual 54, 3) := by decide +kernel
theorem dL_does_391 : decode cL_does 391 = .ok (.istore 9, 2) := by decide +kernel
theorem dL_does_393 : decode cL_does 393 = .ok (.aload_n 0, 1) := by decide +kernel
theorem dL_does_394 : decode cL_does 394 = .ok (.iload 7, 2) := by decide +kernel
theorem dL_does_396 : decode cL_does 396 = .ok (.invokevirtual 57, 3) := by decide +kernel
theorem dL_does_399 : decode cL_does 399 = .ok (.istore 10, 2) := by decide +kernel
theorem dL_does_401 : decode cL_does 401 = .ok (.aload_n 0, 1) := by decide +kernel
theorem dL_does_402 : decode cL_does 402 = .ok (.iload 7, 2) := by decide +kernel
theorem dL_does_404 : decode cL_does 404 = .ok (.invokevirtual 60, 3) := by decide +kernel
theorem dL_does_407 : decode cL_does 407 = .ok (.ifCond .eq 7, 3) := by decide +kernel
theorem dL_does_410 : decode cL_does 410 = .ok (.iconst 1, 1) := by decide +kernel
theorem dL_does_411 : decode cL_does 411 = .ok (.goto 4, 3) := by decide +kernel
theorem dL_does_414 : decode cL_does 414 = .ok (.iconst 0, 1) := by decide +kernel
theorem dL_does_415 : decode cL_does 415 = .ok (.istore 11, 2) := by decide +kernel
theorem dL_does_417 : decode cL_does 417 = .ok (.aload_n 1, 1) := by decide +kernel
theorem dL_does_418 : decode cL_does 418 = .ok (.iload 7, 2) := by decide +kernel
theorem dL_does_420 : decode cL_does 420 = .ok (.dup2, 1) := by decide +kernel
theorem dL_does_421 : decode cL_does 421 = .ok (.iaload, 1) := by decide +kernel
theorem dL_does_422 : decode cL_does 422 = .ok (.iconst 1, 1) := by decide +kernel
theorem dL_does_423 : decode cL_does 423 = .ok (.aload_n 0, 1) := by decide +kernel
theorem dL_does_424 : decode cL_does 424 = .ok (.iload 7, 2) := by decide +kernel
theorem dL_does_426 : decode cL_does 426 = .ok (.invokevirtual 22, 3) := by decide +kernel
theorem dL_does_429 : decode cL_does 429 = .ok (.ishl, 1) := by decide +kernel
theorem dL_does_430 : decode cL_does 430 = .ok (.iconst (-1), 1) := by decide +kernel
theorem dL_does_431 : decode cL_does 431 = .ok (.ixor, 1) := by decide +kernel
theorem dL_does_432 : decode cL_does 432 = .ok (.iand, 1) := by decide +kernel
theorem dL_does_433 : decode cL_does 433 = .ok (.iastore, 1) := by decide +kernel
theorem dL_does_434 : decode cL_does 434 = .ok (.aload_n 0, 1) := by decide +kernel
theorem dL_does_435 : decode cL_does 435 = .ok (.iload 7, 2) := by decide +kernel
theorem dL_does_437 : decode cL_does 437 = .ok (.aload_n 0, 1) := by decide +kernel
theorem dL_does_438 : decode cL_does 438 = .ok (.iload 7, 2) := by decide +kernel
theorem dL_does_440 : decode cL_does 440 = .ok (.invokevirtual 22, 3) := by decide +kernel
theorem dL_does_443 : decode cL_does 443 = .ok (.invokevirtual 63, 3) := by decide +kernel
theorem dL_does_446 : decode cL_does 446 = .ok (.istore 12, 2) := by decide +kernel
theorem dL_does_448 : decode cL_does 448 = .ok (.iload 12, 2) := by decide +kernel
theorem dL_does_450 : decode cL_does 450 = .ok (.ifCond .le 33, 3) := by decide +kernel
theorem dL_does_453 : decode cL_does 453 = .ok (.aload_n 0, 1) := by decide +kernel
theorem dL_does_454 : decode cL_does 454 = .ok (.iload 7, 2) := by decide +kernel
theorem dL_does_456 : decode cL_does 456 = .ok (.invokevirtual 54, 3) := by decide +kernel
theorem dL_does_459 : decode cL_does 459 = .ok (.iload 9, 2) := by decide +kernel
theorem dL_does_461 : decode cL_does 461 = .ok (.if_icmp .ne 18, 3) := by decide +kernel
theorem dL_does_464 : decode cL_does 464 = .ok (.aload_n 0, 1) := by decide +kernel
theorem dL_does_465 : decode cL_does 465 = .ok (.iload 7, 2) := by decide +kernel
theorem dL_does_467 : decode cL_does 467 = .ok (.invokevirtual 57, 3) := by decide +kernel
theorem dL_does_470 : decode cL_does 470 = .ok (.iload 10, 2) := by decide +kernel
theorem dL_does_472 : decode cL_does 472 = .ok (.if_icmp .ne 7, 3) := by decide +kernel
theorem dL_does_475 : decode cL_does 475 = .ok (.iconst 1, 1) := by decide +kernel
theorem dL_does_476 : decode cL_does 476 = .ok (.goto 64, 3) := by decide +kernel
theorem dL_does_479 : decode cL_does 479 = .ok (.iconst 0, 1) := by decide +kernel
theorem dL_does_480 : decode cL_does 480 = .ok (.goto 60, 3) := by decide +kernel
theorem dL_does_483 : decode cL_does 483 = .ok (.aload_n 0, 1) := by decide +kernel
theorem dL_does_484 : decode cL_does 484 = .ok (.iload 7, 2) := by decide +kernel
theorem dL_does_486 : decode cL_does 486 = .ok (.invokevirtual 22, 3) := by decide +kernel
theorem dL_does_489 : decode cL_does 489 = .ok (.iconst (-1), 1) := by decide +kernel
theorem dL_does_490 : decode cL_does 490 = .ok (.if_icmp .ne 49, 3) := by decide +kernel
theorem dL_does_493 : decode cL_does 493 = .ok (.aload_n 0, 1) := by decide +kernel
theorem dL_does_494 : decode cL_does 494 = .ok (.iload 7, 2) := by decide +kernel
theorem dL_does_496 : decode cL_does 496 = .ok (.invokevirtual 54, 3) := by decide +kernel
theorem dL_does_499 : decode cL_does 499 = .ok (.ifCond .ne 40, 3) := by decide +kernel
theorem dL_does_502 : decode cL_does 502 = .ok (.aload_n 0, 1) := by decide +kernel
theorem dL_does_503 : decode cL_does 503 = .ok (.iload 7, 2) := by decide +kernel
theorem dL_does_505 : decode cL_does 505 = .ok (.invokevirtual 48, 3) := by decide +kernel
theorem dL_does_508 : decode cL_does 508 = .ok (.iconst (-1), 1) := by decide +kernel
theorem dL_does_509 : decode cL_does 509 = .ok (.if_icmp .ne 30, 3) := by decide +kernel
theorem dL_does_512 : decode cL_does 512 = .ok (.aload_n 0, 1) := by decide +kernel
theorem dL_does_513 : decode cL_does 513 = .ok (.iload 7, 2) := by decide +kernel
theorem dL_does_515 : decode cL_does 515 = .ok (.invokevirtual 57, 3) := by decide +kernel
theorem dL_does_518 : decode cL_does 518 = .ok (.iload 10, 2) := by decide +kernel
theorem dL_does_520 : decode cL_does 520 = .ok (.iload 11, 2) := by decide +kernel
theorem dL_does_522 : decode cL_does 522 = .ok (.ifCond .eq 8, 3) := by decide +kernel
theorem dL_does_525 : decode cL_does 525 = .ok (.iload 9, 2) := by decide +kernel
theorem dL_does_527 : decode cL_does 527 = .ok (.goto 4, 3) := by decide +kernel
theorem dL_does_530 : decode cL_does 530 = .ok (.iconst 0, 1) := by decide +kernel
theorem dL_does_531 : decode cL_does 531 = .ok (.iadd, 1) := by decide +kernel
theorem dL_does_532 : decode cL_does 532 = .ok (.if_icmp .ne 7, 3) := by decide +kernel
theorem dL_does_535 : decode cL_does 535 = .ok (.iconst 1, 1) := by decide +kernel
theorem dL_does_536 : decode cL_does 536 = .ok (.goto 4, 3) := by decide +kernel
theorem dL_does_539 : decode cL_does 539 = .ok (.iconst 0, 1) := by decide +kernel
theorem dL_does_540 : decode cL_does 540 = .ok (.ireturn, 1) := by decide +kernel
theorem dL_does_541 : decode cL_does 541 = .ok (.iconst 1, 1) := by decide +kernel
theorem dL_does_542 : decode cL_does 542 = .ok (.ireturn, 1) := by decide +kernel
theorem dL_does_543 : decode cL_does 543 = .ok (.iload 8, 2) := by decide +kernel
theorem dL_does_545 : decode cL_does 545 = .ok (.ifCond .eq 83, 3) := by decide +kernel
theorem dL_does_548 : decode cL_does 548 = .ok (.aload_n 0, 1) := by decide +kernel
theorem dL_does_549 : decode cL_does 549 = .ok (.iload 7, 2) := by decide +kernel
theorem dL_does_551 : decode cL_does 551 = .ok (.invokevirtual 48, 3) := by decide +kernel
theorem dL_does_554 : decode cL_does 554 = .ok (.iconst 2, 1) := by decide +kernel
theorem dL_does_555 : decode cL_does 555 = .ok (.if_icmp .ge 73, 3) := by decide +kernel
theorem dL_does_558 : decode cL_does 558 = .ok (.aload_n 0, 1) := by decide +kernel
theorem dL_does_559 : decode cL_does 559 = .ok (.iload 7, 2) := by decide +kernel
theorem dL_does_561 : decode cL_does 561 = .ok (.invokevirtual 54, 3) := by decide +kernel
theorem dL_does_564 : decode cL_does 564 = .ok (.istore 9, 2) := by decide +kernel
theorem dL_does_566 : decode cL_does 566 = .ok (.aload_n 0, 1) := by decide +kernel
theorem dL_does_567 : decode cL_does 567 = .ok (.iload 7, 2) := by decide +kernel
theorem dL_does_569 : decode cL_does 569 = .ok (.invokevirtual 57, 3) := by decide +kernel
theorem dL_does_572 : decode cL_does 572 = .ok (.istore 10, 2) := by decide +kernel
theorem dL_does_574 : decode cL_does 574 = .ok (.iconst 1, 1) := by decide +kernel
theorem dL_does_575 : decode cL_does 575 = .ok (.iload_n 3, 1) := by decide +kernel
theorem dL_does_576 : decode cL_does 576 = .ok (.iload 9, 2) := by decide +kernel
theorem dL_does_578 : decode cL_does 578 = .ok (.irem, 1) := by decide +kernel
theorem dL_does_579 : decode cL_does 579 = .ok (.iadd, 1) := by decide +kernel
theorem dL_does_580 : decode cL_does 580 = .ok (.istore 11, 2) := by decide +kernel
theorem dL_does_582 : decode cL_does 582 = .ok (.aload_n 0, 1) := by decide +kernel
theorem dL_does_583 : decode cL_does 583 = .ok (.iload 7, 2) := by decide +kernel
theorem dL_does_585 : decode cL_does 585 = .ok (.iload 11, 2) := by decide +kernel
theorem dL_does_587 : decode cL_does 587 = .ok (.invokevirtual 66, 3) := by decide +kernel
theorem dL_does_590 : decode cL_does 590 = .ok (.iload 10, 2) := by decide +kernel
theorem dL_does_592 : decode cL_does 592 = .ok (.aload_n 0, 1) := by decide +kernel
theorem dL_does_593 : decode cL_does 593 = .ok (.iload 7, 2) := by decide +kernel
theorem dL_does_595 : decode cL_does 595 = .ok (.invokevirtual 60, 3) := by decide +kernel
theorem dL_does_598 : decode cL_does 598 = .ok (.ifCond .eq 8, 3) := by decide +kernel
theorem dL_does_601 : decode cL_does 601 = .ok (.iload 9, 2) := by decide +kernel
theorem dL_does_603 : decode cL_does 603 = .ok (.goto 4, 3) := by decide +kernel
theorem dL_does_606 : decode cL_does 606 = .ok (.iconst 0, 1) := by decide +kernel
theorem dL_does_607 : decode cL_does 607 = .ok (.iadd, 1) := by decide +kernel
theorem dL_does_608 : decode cL_does 608 = .ok (.if_icmp .ne 18, 3) := by decide +kernel
theorem dL_does_611 : decode cL_does 611 = .ok (.aload_n 0, 1) := by decide +kernel
theorem dL_does_612 : decode cL_does 612 = .ok (.iload 7, 2) := by decide +kernel
theorem dL_does_614 : decode cL_does 614 = .ok (.invokevirtual 54, 3) := by decide +kernel
theorem dL_does_617 : decode cL_does 617 = .ok (.iload 11, 2) := by decide +kernel
theorem dL_does_619 : decode cL_does 619 = .ok (.if_icmp .ne 7, 3) := by decide +kernel
theorem dL_does_622 : decode cL_does 622 = .ok (.iconst 1, 1) := by decide +kernel
theorem dL_does_623 : decode cL_does 623 = .ok (.goto 4, 3) := by decide +kernel
theorem dL_does_626 : decode cL_does 626 = .ok (.iconst 0, 1) := by decide +kernel
theorem dL_does_627 : decode cL_does 627 = .ok (.ireturn, 1) := by decide +kernel
theorem dL_does_628 : decode cL_does 628 = .ok (.iconst 1, 1) := by decide +kernel
theorem dL_does_629 : decode cL_does 629 = .ok (.ireturn, 1) := by decide +kernel
theorem dL_does_630 : decode cL_does 630 = .ok (.iload 8, 2) := by decide +kernel
theorem dL_does_632 : decode cL_does 632 = .ok (.ifCond .eq 31, 3) := by decide +kernel
theorem dL_does_635 : decode cL_does 635 = .ok (.aload_n 0, 1) := by decide +kernel
theorem dL_does_636 : decode cL_does 636 = .ok (.iload_n 3, 1) := by decide +kernel
theorem dL_does_637 : decode cL_does 637 = .ok (.iconst 5, 1) := by decide +kernel
theorem dL_does_638 : decode cL_does 638 = .ok (.irem, 1) := by decide +kernel
theorem dL_does_639 : decode cL_does 639 = .ok (.iload 7, 2) := by decide +kernel
theorem dL_does_641 : decode cL_does 641 = .ok (.invokevirtual 69, 3) := by decide +kernel
theorem dL_does_644 : decode cL_does 644 = .ok (.ifCond .le 23, 3) := by decide +kernel
theorem dL_does_647 : decode cL_does 647 = .ok (.aload_n 0, 1) := by decide +kernel
theorem dL_does_648 : decode cL_does 648 = .ok (.iload 7, 2) := by decide +kernel
theorem dL_does_650 : decode cL_does 650 = .ok (.invokevirtual 60, 3) := by decide +kernel
theorem dL_does_653 : decode cL_does 653 = .ok (.iload_n 3, 1) := by decide +kernel
theorem dL_does_654 : decode cL_does 654 = .ok (.iconst 5, 1) := by decide +kernel
theorem dL_does_655 : decode cL_does 655 = .ok (.irem, 1) := by decide +kernel
theorem dL_does_656 : decode cL_does 656 = .ok (.ishr, 1) := by decide +kernel
theorem dL_does_657 : decode cL_does 657 = .ok (.iconst 1, 1) := by decide +kernel
theorem dL_does_658 : decode cL_does 658 = .ok (.iand, 1) := by decide +kernel
theorem dL_does_659 : decode cL_does 659 = .ok (.iconst 1, 1) := by decide +kernel
theorem dL_does_660 : decode cL_does 660 = .ok (.if_icmp .ne 7, 3) := by decide +kernel
theorem dL_does_663 : decode cL_does 663 = .ok (.iconst 1, 1) := by decide +kernel
theorem dL_does_664 : decode cL_does 664 = .ok (.goto 4, 3) := by decide +kernel
theorem dL_does_667 : decode cL_does 667 = .ok (.iconst 0, 1) := by decide +kernel
theorem dL_does_668 : decode cL_does 668 = .ok (.ireturn, 1) := by decide +kernel
theorem dL_does_669 : decode cL_does 669 = .ok (.aload_n 0, 1) := by decide +kernel
theorem dL_does_670 : decode cL_does 670 = .ok (.iload_n 3, 1) := by decide +kernel
theorem dL_does_671 : decode cL_does 671 = .ok (.iconst 5, 1) := by decide +kernel
theorem dL_does_672 : decode cL_does 672 = .ok (.irem, 1) := by decide +kernel
theorem dL_does_673 : decode cL_does 673 = .ok (.invokevirtual 72, 3) := by decide +kernel
theorem dL_does_676 : decode cL_does 676 = .ok (.ifCond .lt 27, 3) := by decide +kernel
theorem dL_does_679 : decode cL_does 679 = .ok (.iload 7, 2) := by decide +kernel
theorem dL_does_681 : decode cL_does 681 = .ok (.ifCond .lt 18, 3) := by decide +kernel
theorem dL_does_684 : decode cL_does 684 = .ok (.aload_n 0, 1) := by decide +kernel
theorem dL_does_685 : decode cL_does 685 = .ok (.iload 7, 2) := by decide +kernel
theorem dL_does_687 : decode cL_does 687 = .ok (.invokevirtual 60, 3) := by decide +kernel
theorem dL_does_690 : decode cL_does 690 = .ok (.iload_n 3, 1) := by decide +kernel
theorem dL_does_691 : decode cL_does 691 = .ok (.iconst 5, 1) := by decide +kernel
theorem dL_does_692 : decode cL_does 692 = .ok (.irem, 1) := by decide +kernel
theorem dL_does_693 : decode cL_does 693 = .ok (.ishr, 1) := by decide +kernel
theorem dL_does_694 : decode cL_does 694 = .ok (.iconst 1, 1) := by decide +kernel
theorem dL_does_695 : decode cL_does 695 = .ok (.iand, 1) := by decide +kernel
theorem dL_does_696 : decode cL_does 696 = .ok (.ifCond .ne 7, 3) := by decide +kernel
theorem dL_does_699 : decode cL_does 699 = .ok (.iconst 1, 1) := by decide +kernel
theorem dL_does_700 : decode cL_does 700 = .ok (.goto 4, 3) := by decide +kernel
theorem dL_does_703 : decode cL_does 703 = .ok (.iconst 0, 1) := by decide +kernel
theorem dL_does_704 : decode cL_does 704 = .ok (.ireturn, 1) := by decide +kernel
theorem dL_does_705 : decode cL_does 705 = .ok (.iload 8, 2) := by decide +kernel
theorem dL_does_707 : decode cL_does 707 = .ok (.ifCond .eq 22, 3) := by decide +kernel
theorem dL_does_710 : decode cL_does 710 = .ok (.aload_n 0, 1) := by decide +kernel
theorem dL_does_711 : decode cL_does 711 = .ok (.iload 7, 2) := by decide +kernel
theorem dL_does_713 : decode cL_does 713 = .ok (.invokevirtual 48, 3) := by decide +kernel
theorem dL_does_716 : decode cL_does 716 = .ok (.iconst 2, 1) := by decide +kernel
theorem dL_does_717 : decode cL_does 717 = .ok (.if_icmp .eq 12, 3) := by decide +kernel
theorem dL_does_720 : decode cL_does 720 = .ok (.aload_n 0, 1) := by decide +kernel
theorem dL_does_721 : decode cL_does 721 = .ok (.iload 7, 2) := by decide +kernel
theorem dL_does_723 : decode cL_does 723 = .ok (.invokevirtual 75, 3) := by decide +kernel
theorem dL_does_726 : decode cL_does 726 = .ok (.ifCond .ne 7, 3) := by decide +kernel
theorem dL_does_729 : decode cL_does 729 = .ok (.iconst 1, 1) := by decide +kernel
theorem dL_does_730 : decode cL_does 730 = .ok (.goto 4, 3) := by decide +kernel
theorem dL_does_733 : decode cL_does 733 = .ok (.iconst 0, 1) := by decide +kernel
theorem dL_does_734 : decode cL_does 734 = .ok (.ireturn, 1) := by decide +kernel
theorem dL_does_735 : decode cL_does 735 = .ok (.iconst 1, 1) := by decide +kernel
theorem dL_does_736 : decode cL_does 736 = .ok (.iload_n 3, 1) := by decide +kernel
theorem dL_does_737 : decode cL_does 737 = .ok (.bipush 40, 2) := by decide +kernel
theorem dL_does_739 : decode cL_does 739 = .ok (.irem, 1) := by decide +kernel
theorem dL_does_740 : decode cL_does 740 = .ok (.iadd, 1) := by decide +kernel
theorem dL_does_741 : decode cL_does 741 = .ok (.istore 9, 2) := by decide +kernel
theorem dL_does_743 : decode cL_does 743 = .ok (.aload_n 0, 1) := by decide +kernel
theorem dL_does_744 : decode cL_does 744 = .ok (.invokestatic 78, 3) := by decide +kernel
theorem dL_does_747 : decode cL_does 747 = .ok (.istore 10, 2) := by decide +kernel
theorem dL_does_749 : decode cL_does 749 = .ok (.aload_n 0, 1) := by decide +kernel
theorem dL_does_750 : decode cL_does 750 = .ok (.iload 9, 2) := by decide +kernel
theorem dL_does_752 : decode cL_does 752 = .ok (.invokevirtual 81, 3) := by decide +kernel
theorem dL_does_755 : decode cL_does 755 = .ok (.istore 11, 2) := by decide +kernel
theorem dL_does_757 : decode cL_does 757 = .ok (.aload_n 0, 1) := by decide +kernel
theorem dL_does_758 : decode cL_does 758 = .ok (.invokestatic 78, 3) := by decide +kernel
theorem dL_does_761 : decode cL_does 761 = .ok (.iload 11, 2) := by decide +kernel
theorem dL_does_763 : decode cL_does 763 = .ok (.iadd, 1) := by decide +kernel
theorem dL_does_764 : decode cL_does 764 = .ok (.iload 10, 2) := by decide +kernel
theorem dL_does_766 : decode cL_does 766 = .ok (.if_icmp .ne 7, 3) := by decide +kernel
theorem dL_does_769 : decode cL_does 769 = .ok (.iconst 1, 1) := by decide +kernel
theorem dL_does_770 : decode cL_does 770 = .ok (.goto 4, 3) := by decide +kernel
theorem dL_does_773 : decode cL_does 773 = .ok (.iconst 0, 1) := by decide +kernel
theorem dL_does_774 : decode cL_does 774 = .ok (.ireturn, 1) := by decide +kernel
set_option maxRecDepth 20000 in
theorem ggL_isFree_X3_directories : GoodIn wsL_isFree wsX3_directories := goodIn_r _ [5, 6, 7, 8, 9, 10, 11, 12, 53, 54, 55, 56, 57, 58, 59] (by decide +kernel) (by decide +kernel)
set_option maxRecDepth 20000 in
theorem gL_isFree_X3_directories : GoodIn wsL_isFree (wsV RL 15 RX3 yX3_directories wsX3_directories) := goodIn_app (goodIn_of _ (by decide +kernel)) ggL_isFree_X3_directories
set_option maxRecDepth 20000 in
theorem ggL_isFree_X3_setQuota : GoodIn wsL_isFree wsX3_setQuota := goodIn_ca (goodIn_ca (goodIn_r _ [16, 17, 18, 19, 20, 21, 4, 22, 23, 24, 6, 25, 7, 8, 9, 10, 11, 12, 26, 27, 28, 29, 30, 31, 32, 33, 34, 35, 36, 37, 38, 39, 40, 41, 42, 43, 44, 45, 46, 47, 60, 61, 62, 63, 53, 54, 55, 56, 57, 58, 59] (by decide +kernel) (by decide +kernel)) (goodIn_sub (fun _ h => List.mem_cons_of_mem _ (List.mem_append_left _ (List.mem_append_right _ h))) (by decide +kernel))) (goodIn_sub (fun _ h => List.mem_cons_of_mem _ (List.mem_append_right _ h)) (by decide +kernel))
set_option maxRecDepth 20000 in
theorem gL_isFree_X3_setQuota : GoodIn wsL_isFree (wsV RL 35 RX3 yX3_setQuota wsX3_setQuota) := goodIn_app (goodIn_of _ (by decide +kernel)) ggL_isFree_X3_setQuota
set_option maxRecDepth 20000 in
theorem ggL_isFree_X3_usage : GoodIn wsL_isFree wsX3_usage := goodIn_ca (goodIn_r _ [51, 52, 19, 20, 21, 4, 22, 23, 24, 6, 25, 7, 8, 9, 10, 11, 12, 26, 27, 28, 29, 30, 31, 32, 33, 34, 35, 36, 37, 38, 39, 40, 41, 42, 60, 61, 62, 63, 53, 54, 55, 56, 57, 58, 59] (by decide +kernel) (by decide +kernel)) (goodIn_sub (fun _ h => List.mem_cons_of_mem _ (List.mem_append_left _ (List.mem_append_right _ h))) (by decide +kernel))
set_option maxRecDepth 20000 in
theorem gL_isFree_X3_usage : GoodIn wsL_isFree (wsV RL 29 RX3 yX3_usage wsX3_usage) := goodIn_app (goodIn_of _ (by decide +kernel)) ggL_isFree_X3_usage
theorem dL_isFree_0 : decode cL_isFree 0 = .ok (.iconst 1, 1) := by decide +kernel
theorem dL_isFree_1 : decode cL_isFree 1 = .ok (.istore_n 2, 1) := by decide +kernel
theorem dL_isFree_2 : decode cL_isFree 2 = .ok (.iconst 0, 1) := by decide +kernel
theorem dL_isFree_3 : decode cL_isFree 3 = .ok (.istore_n 3, 1) := by decide +kernel
theorem dL_isFree_4 : decode cL_isFree 4 = .ok (.iload_n 3, 1) := by decide +kernel
theorem dL_isFree_5 : decode cL_isFree 5 = .ok (.aload_n 0, 1) := by decide +kernel
theorem dL_isFree_6 : decode cL_isFree 6 = .ok (.invokevirtual 15, 3) := by decide +kernel
theorem dL_isFree_9 : decode cL_isFree 9 = .ok (.if_icmp .ge 52, 3) := by decide +kernel
theorem dL_isFree_12 : decode cL_isFree 12 = .ok (.aload_n 0, 1) := by decide +kernel
theorem dL_isFree_13 : decode cL_isFree 13 = .ok (.iload_n 3, 1) := by decide +kernel
theorem dL_isFree_14 : decode cL_isFree 14 = .ok (.iconst (-1), 1) := by decide +kernel
theorem dL_isFree_15 : decode cL_isFree 15 = .ok (.invokevirtual 35, 3) := by decide +kernel
theorem dL_isFree_18 : decode cL_isFree 18 = .ok (.istore 4, 2) := by decide +kernel
theorem dL_isFree_20 : decode cL_isFree 20 = .ok (.aload_n 0, 1) := by decide +kernel
theorem dL_isFree_21 : decode cL_isFree 21 = .ok (.iload_n 3, 1) := by decide +kernel
theorem dL_isFree_22 : decode cL_isFree 22 = .ok (.iload 4, 2) := by decide +kernel
theorem dL_isFree_24 : decode cL_isFree 24 = .ok (.invokevirtual 35, 3) := by decide +kernel
theorem dL_isFree_27 : decode cL_isFree 27 = .ok (.pop, 1) := by decide +kernel
theorem dL_isFree_28 : decode cL_isFree 28 = .ok (.iload_n 2, 1) := by decide +kernel
theorem dL_isFree_29 : decode cL_isFree 29 = .ok (.ifCond .eq 24, 3) := by decide +kernel
theorem dL_isFree_32 : decode cL_isFree 32 = .ok (.iload 4, 2) := by decide +kernel
theorem dL_isFree_34 : decode cL_isFree 34 = .ok (.ifCond .lt 15, 3) := by decide +kernel
theorem dL_isFree_37 : decode cL_isFree 37 = .ok (.aload_n 0, 1) := by decide +kernel
theorem dL_isFree_38 : decode cL_isFree 38 = .ok (.iload_n 3, 1) := by decide +kernel
theorem dL_isFree_39 : decode cL_isFree 39 = .ok (.invokevirtual 29, 3) := by decide +kernel
theorem dL_isFree_42 : decode cL_isFree 42 = .ok (.iload_n 1, 1) := by decide +kernel
theorem dL_isFree_43 : decode cL_isFree 43 = .ok (.iadd, 1) := by decide +kernel
theorem dL_isFree_44 : decode cL_isFree 44 = .ok (.iload 4, 2) := by decide +kernel
theorem dL_isFree_46 : decode cL_isFree 46 = .ok (.if_icmp .gt 7, 3) := by decide +kernel
theorem dL_isFree_49 : decode cL_isFree 49 = .ok (.iconst 1, 1) := by decide +kernel
theorem dL_isFree_50 : decode cL_isFree 50 = .ok (.goto 4, 3) := by decide +kernel
theorem dL_isFree_53 : decode cL_isFree 53 = .ok (.iconst 0, 1) := by decide +kernel
theorem dL_isFree_54 : decode cL_isFree 54 = .ok (.istore_n 2, 1) := by decide +kernel
theorem dL_isFree_55 : decode cL_isFree 55 = .ok (.iinc 3 1, 3) := by decide +kernel
theorem dL_isFree_58 : decode cL_isFree 58 = .ok (.goto (-54), 3) := by decide +kernel
theorem dL_isFree_61 : decode cL_isFree 61 = .ok (.iload_n 2, 1) := by decide +kernel
theorem dL_isFree_62 : decode cL_isFree 62 = .ok (.ireturn, 1) := by decide +kernel
set_option maxRecDepth 20000 in
theorem ggL_law_X3_init : GoodIn wsL_law wsX3_init := goodIn_r _ [6, 7, 8, 9, 10, 11, 12, 13, 14, 15, 16, 17, 18, 19, 20, 21, 22, 23, 24, 25, 26, 27, 28, 29, 30, 31, 32, 33, 34, 35, 36, 37, 38, 39, 40, 41, 42, 43, 44, 45, 46, 47, 48, 49, 50, 51, 52, 53, 54, 55, 56, 57, 58, 59, 60, 61, 62, 63, 64, 65, 66, 67, 68, 69, 70, 71, 72, 73, 74, 75, 76, 77, 78, 79, 80, 81, 82, 83, 84, 85, 86, 87, 88, 89, 90, 91, 92, 93, 94, 95, 96, 97, 98, 99, 100, 101, 102, 103, 389, 390, 391, 385, 386, 387, 388, 392, 393, 394, 395, 396, 397] (by decide +kernel) (by decide +kernel)
set_option maxRecDepth 20000 in
theorem gL_law_X3_init : GoodIn wsL_law (wsX3_init) := ggL_law_X3_init
set_option maxRecDepth 20000 in
theorem ggL_law_X3_usage : GoodIn wsL_law wsX3_usage := goodIn_ca (goodIn_r _ [107, 108, 109, 110, 111, 2, 112, 113, 114, 13, 115, 116, 117, 118, 12, 119, 50, 120, 121, 122, 123, 124, 125, 126, 127, 128, 129, 130, 131, 132, 133, 134, 135, 26, 392, 393, 394, 395, 385, 386, 387, 388, 389, 390, 391] (by decide +kernel) (by decide +kernel)) (goodIn_sub (fun _ h => List.mem_append_left _ (List.mem_append_left _ (List.mem_append_right _ h))) (by decide +kernel))
set_option maxRecDepth 20000 in
theorem gL_law_X3_usage : GoodIn wsL_law (wsV RL 29 RX3 yX3_usage wsX3_usage) := goodIn_app (goodIn_of _ (by decide +kernel)) ggL_law_X3_usage
set_option maxRecDepth 20000 in
theorem ggL_law_L_told : GoodIn wsL_law wsL_told := goodIn_r _ [139, 140, 141] (by decide +kernel) (by decide +kernel)
set_option maxRecDepth 20000 in
theorem gL_law_L_told : GoodIn wsL_law (va_wsS RL 85 yL_told wsL_told) := goodIn_app (goodIn_of _ (by decide +kernel)) ggL_law_L_told
set_option maxRecDepth 20000 in
theorem ggL_law_L_does : GoodIn wsL_law wsL_does := goodIn_ca (goodIn_ca (goodIn_ca (goodIn_cc (List.mem_of_getElem? (i := 144) rfl) (by decide +kernel) (goodIn_r _ [145, 146, 147, 2, 148, 13, 116, 117, 118, 12, 119, 50, 149, 150, 151, 152, 14, 153, 154, 155, 156, 157, 158, 159, 160, 161, 113, 114, 162, 120, 121, 122, 123, 124, 125, 126, 127, 128, 129, 130, 131, 132, 133, 134, 135, 26, 163, 164, 165, 166, 167, 168, 169, 170, 171, 172, 173, 174, 175, 176, 177, 178, 179, 180, 181, 16, 17, 18, 109, 110, 111, 112, 115, 182, 183, 184, 185, 186, 37, 38, 39, 40, 8, 9, 41, 42, 43, 44, 45, 46, 47, 48, 49, 51, 52, 53, 54, 55, 56, 57, 58, 59, 60, 61, 62, 25, 63, 64, 65, 66, 67, 68, 69, 70, 71, 72, 73, 74, 75, 76, 77, 78, 79, 80, 81, 82, 83, 84, 85, 86, 87, 88, 89, 90, 91, 92, 93, 94, 95, 96, 104, 105, 106, 107, 108, 187, 188, 189, 190, 191, 192, 193, 194, 195, 15, 196, 197, 198, 199, 200, 201, 202, 203, 204, 205, 206, 207, 208, 138, 209, 210, 211, 212, 213, 214, 215, 216, 217, 218, 219, 220, 221, 222, 223, 224, 225, 226, 227, 228, 229, 230, 231, 11, 232, 233, 234, 235, 23, 24, 27, 28, 29, 30, 31, 32, 33, 34, 35, 36, 236, 237, 238, 239, 240, 241, 242, 243, 244, 245, 246, 247, 248, 249, 250, 251, 252, 253, 254, 255, 256, 257, 258, 259, 260, 261, 262, 263, 264, 265, 266, 267, 268, 269, 270, 271, 272, 273, 274, 275, 276, 277, 278, 279, 280, 281, 282, 283, 284, 285, 286, 287, 288, 289, 290, 291, 292, 293, 294, 295, 296, 297, 298, 299, 300, 301, 302, 303, 304, 305, 306, 307, 308, 309, 310, 311, 312, 313, 314, 315, 316, 317, 318, 319, 320, 321, 322, 323, 324, 325, 326, 327, 328, 329, 330, 331, 332, 333, 334, 335, 336, 337, 338, 339, 340, 341, 342, 343, 344, 345, 346, 347, 348, 349, 350, 351, 352, 353, 354, 355, 356, 357, 358, 359, 360, 361, 362, 363, 21, 364, 101, 365, 366, 367, 368, 369, 370, 371, 372, 385, 386, 387, 388, 389, 390, 391, 392, 393, 394, 395, 398, 399, 400, 401, 402, 403, 396, 397] (by decide +kernel) (by decide +kernel))) (goodIn_sub (fun _ h => List.mem_append_left _ (List.mem_append_left _ (List.mem_append_right _ h))) (by decide +kernel))) (goodIn_sub (fun _ h => List.mem_append_left _ (List.mem_append_right _ h)) (by decide +kernel))) (goodIn_sub (fun _ h => List.mem_append_right _ h) (by decide +kernel))
set_option maxRecDepth 20000 in
theorem gL_law_L_does : GoodIn wsL_law (va_wsS RL 89 yL_does wsL_does) := goodIn_app (goodIn_of _ (by decide +kernel)) ggL_law_L_does
set_option maxRecDepth 20000 in
theorem ggL_law_X3_directories : GoodIn wsL_law wsX3_directories := goodIn_r _ [148, 13, 116, 117, 118, 12, 119, 50, 385, 386, 387, 388, 389, 390, 391] (by decide +kernel) (by decide +kernel)
set_option maxRecDepth 20000 in
theorem gL_law_X3_directories : GoodIn wsL_law (wsV RL 15 RX3 yX3_directories wsX3_directories) := goodIn_app (goodIn_of _ (by decide +kernel)) ggL_law_X3_directories
set_option maxRecDepth 20000 in
theorem ggL_law_X3_usageByWalking : GoodIn wsL_law wsX3_usageByWalking := goodIn_ca (goodIn_r _ [376, 14, 162, 273, 109, 110, 111, 2, 112, 113, 114, 13, 115, 116, 117, 118, 12, 119, 50, 120, 121, 122, 123, 124, 125, 126, 127, 128, 129, 130, 131, 132, 133, 134, 135, 26, 163, 164, 165, 166, 167, 168, 169, 170, 171, 172, 173, 174, 377, 378, 379, 18, 380, 42, 385, 386, 387, 388, 398, 399, 400, 401, 402, 403, 389, 390, 391, 392, 393, 394, 395] (by decide +kernel) (by decide +kernel)) (goodIn_sub (fun _ h => List.mem_append_left _ (List.mem_append_left _ (List.mem_append_right _ h))) (by decide +kernel))
set_option maxRecDepth 20000 in
theorem gL_law_X3_usageByWalking : GoodIn wsL_law (wsV RL 93 RX3 yX3_usageByWalking wsX3_usageByWalking) := goodIn_app (goodIn_of _ (by decide +kernel)) ggL_law_X3_usageByWalking
set_option maxRecDepth 20000 in
theorem ggL_law_X3_files : GoodIn wsL_law wsX3_files := goodIn_r _ [152, 14, 116, 117, 118, 12, 119, 50, 385, 386, 387, 388, 389, 390, 391] (by decide +kernel) (by decide +kernel)
set_option maxRecDepth 20000 in
theorem gL_law_X3_files : GoodIn wsL_law (wsV RL 19 RX3 yX3_files wsX3_files) := goodIn_app (goodIn_of _ (by decide +kernel)) ggL_law_X3_files
set_option maxRecDepth 20000 in
theorem ggL_law_X3_size : GoodIn wsL_law wsX3_size := goodIn_ca (goodIn_r _ [272, 273, 158, 159, 160, 2, 161, 113, 114, 14, 162, 116, 117, 118, 12, 119, 50, 120, 121, 122, 123, 124, 125, 126, 127, 128, 129, 130, 131, 132, 133, 134, 135, 26, 398, 399, 400, 401, 402, 403, 385, 386, 387, 388, 389, 390, 391] (by decide +kernel) (by decide +kernel)) (goodIn_sub (fun _ h => List.mem_append_left _ (List.mem_append_left _ (List.mem_append_right _ h))) (by decide +kernel))
set_option maxRecDepth 20000 in
theorem gL_law_X3_size : GoodIn wsL_law (wsV RL 54 RX3 yX3_size wsX3_size) := goodIn_app (goodIn_of _ (by decide +kernel)) ggL_law_X3_size
set_option maxRecDepth 20000 in
theorem ggL_law_X3_kept : GoodIn wsL_law wsX3_kept := goodIn_ca (goodIn_r _ [277, 278, 158, 159, 160, 2, 161, 113, 114, 14, 162, 116, 117, 118, 12, 119, 50, 120, 121, 122, 123, 124, 125, 126, 127, 128, 129, 130, 131, 132, 133, 134, 135, 26, 398, 399, 400, 401, 402, 403, 385, 386, 387, 388, 389, 390, 391] (by decide +kernel) (by decide +kernel)) (goodIn_sub (fun _ h => List.mem_append_left _ (List.mem_append_left _ (List.mem_append_right _ h))) (by decide +kernel))
set_option maxRecDepth 20000 in
theorem gL_law_X3_kept : GoodIn wsL_law (wsV RL 57 RX3 yX3_kept wsX3_kept) := goodIn_app (goodIn_of _ (by decide +kernel)) ggL_law_X3_kept
set_option maxRecDepth 20000 in
theorem ggL_law_X3_holders : GoodIn wsL_law wsX3_holders := goodIn_ca (goodIn_r _ [282, 283, 158, 159, 160, 2, 161, 113, 114, 14, 162, 116, 117, 118, 12, 119, 50, 120, 121, 122, 123, 124, 125, 126, 127, 128, 129, 130, 131, 132, 133, 134, 135, 26, 398, 399, 400, 401, 402, 403, 385, 386, 387, 388, 389, 390, 391] (by decide +kernel) (by decide +kernel)) (goodIn_sub (fun _ h => List.mem_append_left _ (List.mem_append_left _ (List.mem_append_right _ h))) (by decide +kernel))
set_option maxRecDepth 20000 in
theorem gL_law_X3_holders : GoodIn wsL_law (wsV RL 60 RX3 yX3_holders wsX3_holders) := goodIn_app (goodIn_of _ (by decide +kernel)) ggL_law_X3_holders
set_option maxRecDepth 20000 in
theorem ggL_law_X3_home : GoodIn wsL_law wsX3_home := goodIn_ca (goodIn_r _ [156, 157, 158, 159, 160, 2, 161, 113, 114, 14, 162, 116, 117, 118, 12, 119, 50, 120, 121, 122, 123, 124, 125, 126, 127, 128, 129, 130, 131, 132, 133, 134, 135, 26, 163, 164, 165, 166, 167, 168, 169, 170, 171, 172, 173, 174, 392, 393, 394, 395, 385, 386, 387, 388, 389, 390, 391, 398, 399, 400, 401, 402, 403] (by decide +kernel) (by decide +kernel)) (goodIn_sub (fun _ h => List.mem_append_left _ (List.mem_append_left _ (List.mem_append_right _ h))) (by decide +kernel))
set_option maxRecDepth 20000 in
theorem gL_law_X3_home : GoodIn wsL_law (wsV RL 22 RX3 yX3_home wsX3_home) := goodIn_app (goodIn_of _ (by decide +kernel)) ggL_law_X3_home
set_option maxRecDepth 20000 in
theorem ggL_law_X3_tier : GoodIn wsL_law wsX3_tier := goodIn_ca (goodIn_r _ [243, 216, 158, 159, 160, 2, 161, 113, 114, 14, 162, 116, 117, 118, 12, 119, 50, 120, 121, 122, 123, 124, 125, 126, 127, 128, 129, 130, 131, 132, 133, 134, 135, 26, 244, 245, 246, 166, 247, 234, 248, 249, 250, 251, 168, 170, 171, 172, 173, 252, 253, 254, 255, 385, 386, 387, 388, 389, 390, 391, 398, 399, 400, 401, 402, 403] (by decide +kernel) (by decide +kernel)) (goodIn_sub (fun _ h => List.mem_append_left _ (List.mem_append_left _ (List.mem_append_right _ h))) (by decide +kernel))
set_option maxRecDepth 20000 in
theorem gL_law_X3_tier : GoodIn wsL_law (wsV RL 48 RX3 yX3_tier wsX3_tier) := goodIn_app (goodIn_of _ (by decide +kernel)) ggL_law_X3_tier
set_option maxRecDepth 20000 in
theorem ggL_law_X3_coins : GoodIn wsL_law wsX3_coins := goodIn_ca (goodIn_r _ [190, 191, 192, 193, 194, 2, 195, 113, 114, 15, 196, 116, 117, 118, 12, 119, 50, 120, 121, 122, 123, 124, 125, 126, 127, 128, 129, 130, 131, 132, 133, 134, 135, 26, 396, 397, 385, 386, 387, 388, 389, 390, 391] (by decide +kernel) (by decide +kernel)) (goodIn_sub (fun _ h => List.mem_append_left _ (List.mem_append_left _ (List.mem_append_right _ h))) (by decide +kernel))
set_option maxRecDepth 20000 in
theorem gL_law_X3_coins : GoodIn wsL_law (wsV RL 9 RX3 yX3_coins wsX3_coins) := goodIn_app (goodIn_of _ (by decide +kernel)) ggL_law_X3_coins
set_option maxRecDepth 20000 in
theorem ggL_law_X3_bill : GoodIn wsL_law wsX3_bill := goodIn_ca (goodIn_r _ [384, 216, 192, 193, 194, 2, 195, 113, 114, 15, 196, 116, 117, 118, 12, 119, 50, 120, 121, 122, 123, 124, 125, 126, 127, 128, 129, 130, 131, 132, 133, 134, 135, 26, 361, 362, 363, 21, 364, 101, 365, 366, 367, 368, 369, 370, 166, 371, 233, 307, 248, 249, 250, 251, 168, 170, 171, 172, 173, 372, 245, 246, 247, 234, 252, 253, 254, 255, 385, 386, 387, 388, 389, 390, 391, 396, 397, 398, 399, 400, 401, 402, 403] (by decide +kernel) (by decide +kernel)) (goodIn_sub (fun _ h => List.mem_append_left _ (List.mem_append_left _ (List.mem_append_right _ h))) (by decide +kernel))
set_option maxRecDepth 20000 in
theorem gL_law_X3_bill : GoodIn wsL_law (wsV RL 96 RX3 yX3_bill wsX3_bill) := goodIn_app (goodIn_of _ (by decide +kernel)) ggL_law_X3_bill
theorem dL_law_0 : decode cL_law 0 = .ok (.new 10, 3) := by decide +kernel
theorem dL_law_3 : decode cL_law 3 = .ok (.dup, 1) := by decide +kernel
theorem dL_law_4 : decode cL_law 4 = .ok (.invokespecial 84, 3) := by decide +kernel
theorem dL_law_7 : decode cL_law 7 = .ok (.astore_n 1, 1) := by decide +kernel
theorem dL_law_8 : decode cL_law 8 = .ok (.bipush 30, 2) := by decide +kernel
theorem dL_law_10 : decode cL_law 10 = .ok (.newarray .int, 2) := by decide +kernel
theorem dL_law_12 : decode cL_law 12 = .ok (.astore_n 2, 1) := by decide +kernel
theorem dL_law_13 : decode cL_law 13 = .ok (.aload_n 1, 1) := by decide +kernel
theorem dL_law_14 : decode cL_law 14 = .ok (.iconst 0, 1) := by decide +kernel
theorem dL_law_15 : decode cL_law 15 = .ok (.invokevirtual 29, 3) := by decide +kernel
theorem dL_law_18 : decode cL_law 18 = .ok (.ifCond .ne 7, 3) := by decide +kernel
theorem dL_law_21 : decode cL_law 21 = .ok (.iconst 1, 1) := by decide +kernel
theorem dL_law_22 : decode cL_law 22 = .ok (.goto 4, 3) := by decide +kernel
theorem dL_law_25 : decode cL_law 25 = .ok (.iconst 0, 1) := by decide +kernel
theorem dL_law_26 : decode cL_law 26 = .ok (.istore_n 3, 1) := by decide +kernel
theorem dL_law_27 : decode cL_law 27 = .ok (.iconst 0, 1) := by decide +kernel
theorem dL_law_28 : decode cL_law 28 = .ok (.istore 4, 2) := by decide +kernel
theorem dL_law_30 : decode cL_law 30 = .ok (.iload 4, 2) := by decide +kernel
theorem dL_law_32 : decode cL_law 32 = .ok (.bipush 60, 2) := by decide +kernel
theorem dL_law_34 : decode cL_law 34 = .ok (.if_icmp .ge 253, 3) := by decide +kernel
theorem dL_law_37 : decode cL_law 37 = .ok (.iload_n 3, 1) := by decide +kernel
theorem dL_law_38 : decode cL_law 38 = .ok (.ifCond .eq 249, 3) := by decide +kernel
theorem dL_law_41 : decode cL_law 41 = .ok (.aload_n 1, 1) := by decide +kernel
theorem dL_law_42 : decode cL_law 42 = .ok (.aload_n 2, 1) := by decide +kernel
theorem dL_law_43 : decode cL_law 43 = .ok (.aload_n 0, 1) := by decide +kernel
theorem dL_law_44 : decode cL_law 44 = .ok (.iload 4, 2) := by decide +kernel
theorem dL_law_46 : decode cL_law 46 = .ok (.invokestatic 85, 3) := by decide +kernel
theorem dL_law_49 : decode cL_law 49 = .ok (.aload_n 0, 1) := by decide +kernel
theorem dL_law_50 : decode cL_law 50 = .ok (.iload 4, 2) := by decide +kernel
theorem dL_law_52 : decode cL_law 52 = .ok (.iconst 2, 1) := by decide +kernel
theorem dL_law_53 : decode cL_law 53 = .ok (.iadd, 1) := by decide +kernel
theorem dL_law_54 : decode cL_law 54 = .ok (.invokestatic 85, 3) := by decide +kernel
theorem dL_law_57 : decode cL_law 57 = .ok (.invokestatic 89, 3) := by decide +kernel
theorem dL_law_60 : decode cL_law 60 = .ok (.istore_n 3, 1) := by decide +kernel
theorem dL_law_61 : decode cL_law 61 = .ok (.iconst 0, 1) := by decide +kernel
theorem dL_law_62 : decode cL_law 62 = .ok (.istore 5, 2) := by decide +kernel
theorem dL_law_64 : decode cL_law 64 = .ok (.iconst 0, 1) := by decide +kernel
theorem dL_law_65 : decode cL_law 65 = .ok (.istore 6, 2) := by decide +kernel
theorem dL_law_67 : decode cL_law 67 = .ok (.iload 6, 2) := by decide +kernel
theorem dL_law_69 : decode cL_law 69 = .ok (.aload_n 1, 1) := by decide +kernel
theorem dL_law_70 : decode cL_law 70 = .ok (.invokevirtual 15, 3) := by decide +kernel
theorem dL_law_73 : decode cL_law 73 = .ok (.if_icmp .ge 48, 3) := by decide +kernel
theorem dL_law_76 : decode cL_law 76 = .ok (.iload_n 3, 1) := by decide +kernel
theorem dL_law_77 : decode cL_law 77 = .ok (.ifCond .eq 44, 3) := by decide +kernel
theorem dL_law_80 : decode cL_law 80 = .ok (.aload_n 1, 1) := by decide +kernel
theorem dL_law_81 : decode cL_law 81 = .ok (.iload 6, 2) := by decide +kernel
theorem dL_law_83 : decode cL_law 83 = .ok (.invokevirtual 29, 3) := by decide +kernel
theorem dL_law_86 : decode cL_law 86 = .ok (.aload_n 1, 1) := by decide +kernel
theorem dL_law_87 : decode cL_law 87 = .ok (.iload 6, 2) := by decide +kernel
theorem dL_law_89 : decode cL_law 89 = .ok (.invokevirtual 93, 3) := by decide +kernel
theorem dL_law_92 : decode cL_law 92 = .ok (.if_icmp .ne 21, 3) := by decide +kernel
theorem dL_law_95 : decode cL_law 95 = .ok (.aload_n 1, 1) := by decide +kernel
theorem dL_law_96 : decode cL_law 96 = .ok (.iload 6, 2) := by decide +kernel
theorem dL_law_98 : decode cL_law 98 = .ok (.invokevirtual 29, 3) := by decide +kernel
theorem dL_law_101 : decode cL_law 101 = .ok (.aload_n 1, 1) := by decide +kernel
theorem dL_law_102 : decode cL_law 102 = .ok (.iconst 0, 1) := by decide +kernel
theorem dL_law_103 : decode cL_law 103 = .ok (.invokevirtual 29, 3) := by decide +kernel
theorem dL_law_106 : decode cL_law 106 = .ok (.if_icmp .gt 7, 3) := by decide +kernel
theorem dL_law_109 : decode cL_law 109 = .ok (.iconst 1, 1) := by decide +kernel
theorem dL_law_110 : decode cL_law 110 = .ok (.goto 4, 3) := by decide +kernel
theorem dL_law_113 : decode cL_law 113 = .ok (.iconst 0, 1) := by decide +kernel
theorem dL_law_114 : decode cL_law 114 = .ok (.istore_n 3, 1) := by decide +kernel
theorem dL_law_115 : decode cL_law 115 = .ok (.iinc 6 1, 3) := by decide +kernel
theorem dL_law_118 : decode cL_law 118 = .ok (.goto (-51), 3) := by decide +kernel
theorem dL_law_121 : decode cL_law 121 = .ok (.iconst 0, 1) := by decide +kernel
theorem dL_law_122 : decode cL_law 122 = .ok (.istore 6, 2) := by decide +kernel
theorem dL_law_124 : decode cL_law 124 = .ok (.iload 6, 2) := by decide +kernel
theorem dL_law_126 : decode cL_law 126 = .ok (.aload_n 1, 1) := by decide +kernel
theorem dL_law_127 : decode cL_law 127 = .ok (.invokevirtual 19, 3) := by decide +kernel
theorem dL_law_130 : decode cL_law 130 = .ok (.if_icmp .ge 88, 3) := by decide +kernel
theorem dL_law_133 : decode cL_law 133 = .ok (.iload_n 3, 1) := by decide +kernel
theorem dL_law_134 : decode cL_law 134 = .ok (.ifCond .eq 84, 3) := by decide +kernel
theorem dL_law_137 : decode cL_law 137 = .ok (.iload 5, 2) := by decide +kernel
theorem dL_law_139 : decode cL_law 139 = .ok (.aload_n 1, 1) := by decide +kernel
theorem dL_law_140 : decode cL_law 140 = .ok (.iload 6, 2) := by decide +kernel
theorem dL_law_142 : decode cL_law 142 = .ok (.invokevirtual 54, 3) := by decide +kernel
theorem dL_law_145 : decode cL_law 145 = .ok (.iadd, 1) := by decide +kernel
theorem dL_law_146 : decode cL_law 146 = .ok (.istore 5, 2) := by decide +kernel
theorem dL_law_148 : decode cL_law 148 = .ok (.aload_n 1, 1) := by decide +kernel
theorem dL_law_149 : decode cL_law 149 = .ok (.iload 6, 2) := by decide +kernel
theorem dL_law_151 : decode cL_law 151 = .ok (.invokevirtual 57, 3) := by decide +kernel
theorem dL_law_154 : decode cL_law 154 = .ok (.ifCond .lt 56, 3) := by decide +kernel
theorem dL_law_157 : decode cL_law 157 = .ok (.aload_n 1, 1) := by decide +kernel
theorem dL_law_158 : decode cL_law 158 = .ok (.iload 6, 2) := by decide +kernel
theorem dL_law_160 : decode cL_law 160 = .ok (.invokevirtual 60, 3) := by decide +kernel
theorem dL_law_163 : decode cL_law 163 = .ok (.ifCond .ne 12, 3) := by decide +kernel
theorem dL_law_166 : decode cL_law 166 = .ok (.aload_n 1, 1) := by decide +kernel
theorem dL_law_167 : decode cL_law 167 = .ok (.iload 6, 2) := by decide +kernel
theorem dL_law_169 : decode cL_law 169 = .ok (.invokevirtual 57, 3) := by decide +kernel
theorem dL_law_172 : decode cL_law 172 = .ok (.ifCond .ne 38, 3) := by decide +kernel
theorem dL_law_175 : decode cL_law 175 = .ok (.aload_n 1, 1) := by decide +kernel
theorem dL_law_176 : decode cL_law 176 = .ok (.iload 6, 2) := by decide +kernel
theorem dL_law_178 : decode cL_law 178 = .ok (.invokevirtual 22, 3) := by decide +kernel
theorem dL_law_181 : decode cL_law 181 = .ok (.ifCond .ge 7, 3) := by decide +kernel
theorem dL_law_184 : decode cL_law 184 = .ok (.iconst 1, 1) := by decide +kernel
theorem dL_law_185 : decode cL_law 185 = .ok (.goto 4, 3) := by decide +kernel
theorem dL_law_188 : decode cL_law 188 = .ok (.iconst 0, 1) := by decide +kernel
theorem dL_law_189 : decode cL_law 189 = .ok (.aload_n 1, 1) := by decide +kernel
theorem dL_law_190 : decode cL_law 190 = .ok (.iload 6, 2) := by decide +kernel
theorem dL_law_192 : decode cL_law 192 = .ok (.invokevirtual 48, 3) := by decide +kernel
theorem dL_law_195 : decode cL_law 195 = .ok (.ifCond .ge 7, 3) := by decide +kernel
theorem dL_law_198 : decode cL_law 198 = .ok (.iconst 1, 1) := by decide +kernel
theorem dL_law_199 : decode cL_law 199 = .ok (.goto 4, 3) := by decide +kernel
theorem dL_law_202 : decode cL_law 202 = .ok (.iconst 0, 1) := by decide +kernel
theorem dL_law_203 : decode cL_law 203 = .ok (.if_icmp .ne 7, 3) := by decide +kernel
theorem dL_law_206 : decode cL_law 206 = .ok (.iconst 1, 1) := by decide +kernel
theorem dL_law_207 : decode cL_law 207 = .ok (.goto 4, 3) := by decide +kernel
theorem dL_law_210 : decode cL_law 210 = .ok (.iconst 0, 1) := by decide +kernel
theorem dL_law_211 : decode cL_law 211 = .ok (.istore_n 3, 1) := by decide +kernel
theorem dL_law_212 : decode cL_law 212 = .ok (.iinc 6 1, 3) := by decide +kernel
theorem dL_law_215 : decode cL_law 215 = .ok (.goto (-91), 3) := by decide +kernel
theorem dL_law_218 : decode cL_law 218 = .ok (.iload_n 3, 1) := by decide +kernel
theorem dL_law_219 : decode cL_law 219 = .ok (.ifCond .eq 17, 3) := by decide +kernel
theorem dL_law_222 : decode cL_law 222 = .ok (.aload_n 1, 1) := by decide +kernel
theorem dL_law_223 : decode cL_law 223 = .ok (.iconst 0, 1) := by decide +kernel
theorem dL_law_224 : decode cL_law 224 = .ok (.invokevirtual 29, 3) := by decide +kernel
theorem dL_law_227 : decode cL_law 227 = .ok (.iload 5, 2) := by decide +kernel
theorem dL_law_229 : decode cL_law 229 = .ok (.if_icmp .ne 7, 3) := by decide +kernel
theorem dL_law_232 : decode cL_law 232 = .ok (.iconst 1, 1) := by decide +kernel
theorem dL_law_233 : decode cL_law 233 = .ok (.goto 4, 3) := by decide +kernel
theorem dL_law_236 : decode cL_law 236 = .ok (.iconst 0, 1) := by decide +kernel
theorem dL_law_237 : decode cL_law 237 = .ok (.istore_n 3, 1) := by decide +kernel
theorem dL_law_238 : decode cL_law 238 = .ok (.iconst 0, 1) := by decide +kernel
theorem dL_law_239 : decode cL_law 239 = .ok (.istore 6, 2) := by decide +kernel
theorem dL_law_241 : decode cL_law 241 = .ok (.iload 6, 2) := by decide +kernel
theorem dL_law_243 : decode cL_law 243 = .ok (.iconst 4, 1) := by decide +kernel
theorem dL_law_244 : decode cL_law 244 = .ok (.if_icmp .ge 37, 3) := by decide +kernel
theorem dL_law_247 : decode cL_law 247 = .ok (.iload_n 3, 1) := by decide +kernel
theorem dL_law_248 : decode cL_law 248 = .ok (.ifCond .eq 33, 3) := by decide +kernel
theorem dL_law_251 : decode cL_law 251 = .ok (.aload_n 1, 1) := by decide +kernel
theorem dL_law_252 : decode cL_law 252 = .ok (.iload 6, 2) := by decide +kernel
theorem dL_law_254 : decode cL_law 254 = .ok (.invokevirtual 9, 3) := by decide +kernel
theorem dL_law_257 : decode cL_law 257 = .ok (.ifCond .lt 16, 3) := by decide +kernel
theorem dL_law_260 : decode cL_law 260 = .ok (.aload_n 1, 1) := by decide +kernel
theorem dL_law_261 : decode cL_law 261 = .ok (.iload 6, 2) := by decide +kernel
theorem dL_law_263 : decode cL_law 263 = .ok (.invokevirtual 96, 3) := by decide +kernel
theorem dL_law_266 : decode cL_law 266 = .ok (.ifCond .lt 7, 3) := by decide +kernel
theorem dL_law_269 : decode cL_law 269 = .ok (.iconst 1, 1) := by decide +kernel
theorem dL_law_270 : decode cL_law 270 = .ok (.goto 4, 3) := by decide +kernel
theorem dL_law_273 : decode cL_law 273 = .ok (.iconst 0, 1) := by decide +kernel
theorem dL_law_274 : decode cL_law 274 = .ok (.istore_n 3, 1) := by decide +kernel
theorem dL_law_275 : decode cL_law 275 = .ok (.iinc 6 1, 3) := by decide +kernel
theorem dL_law_278 : decode cL_law 278 = .ok (.goto (-37), 3) := by decide +kernel
theorem dL_law_281 : decode cL_law 281 = .ok (.iinc 4 1, 3) := by decide +kernel
theorem dL_law_284 : decode cL_law 284 = .ok (.goto (-254), 3) := by decide +kernel
theorem dL_law_287 : decode cL_law 287 = .ok (.iload_n 3, 1) := by decide +kernel
theorem dL_law_288 : decode cL_law 288 = .ok (.ireturn, 1) := by decide +kernel
abbrev vwCl : List vw_C := [(RJx4a65c, TJx4a65c, 3), (RX0, TX0, 2), (RX1, TX1, 4), (RX2, TX2, 6), (RX3, TX3, 4)]
