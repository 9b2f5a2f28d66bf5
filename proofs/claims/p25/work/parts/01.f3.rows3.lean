set_option maxRecDepth 20000 in
theorem gL_law_L_isHouse : GoodIn wsL_law (va_wsS RL 114 yL_isHouse wsL_isHouse) := goodIn_app (goodIn_of _ (by decide +kernel)) ggL_law_L_isHouse
set_option maxRecDepth 20000 in
theorem ggL_law_L_state : GoodIn wsL_law wsL_state := goodIn_r _ [89] (by decide +kernel) (by decide +kernel)
set_option maxRecDepth 20000 in
theorem gL_law_L_state : GoodIn wsL_law (va_wsS RL 27 yL_state wsL_state) := goodIn_app (goodIn_of _ (by decide +kernel)) ggL_law_L_state
set_option maxRecDepth 20000 in
theorem ggL_law_X4_setTariff : GoodIn wsL_law wsX4_setTariff := goodIn_ca (goodIn_ca (goodIn_r _ [209, 210, 211, 212, 183, 184, 185, 2, 186, 73, 74, 17, 136, 137, 138, 156, 157, 158, 134, 135, 336, 337, 338, 339, 329, 330, 331, 332, 333, 334, 335] (by decide +kernel) (by decide +kernel)) (goodIn_sub (fun _ h => List.mem_append_left _ (List.mem_append_left _ (List.mem_append_right _ h))) (by decide +kernel))) (goodIn_sub (fun _ h => List.mem_append_left _ (List.mem_append_right _ h)) (by decide +kernel))
set_option maxRecDepth 20000 in
theorem gL_law_X4_setTariff : GoodIn wsL_law (wsV RL 120 RX4 yX4_setTariff wsX4_setTariff) := goodIn_app (goodIn_of _ (by decide +kernel)) ggL_law_X4_setTariff
set_option maxRecDepth 20000 in
theorem ggL_law_X4_setRate : GoodIn wsL_law wsX4_setRate := goodIn_ca (goodIn_ca (goodIn_r _ [216, 217, 192, 183, 184, 185, 2, 186, 73, 74, 17, 136, 137, 138, 156, 157, 158, 134, 135, 336, 337, 338, 339, 329, 330, 331, 332, 333, 334, 335] (by decide +kernel) (by decide +kernel)) (goodIn_sub (fun _ h => List.mem_append_left _ (List.mem_append_left _ (List.mem_append_right _ h))) (by decide +kernel))) (goodIn_sub (fun _ h => List.mem_append_left _ (List.mem_append_right _ h)) (by decide +kernel))
set_option maxRecDepth 20000 in
theorem gL_law_X4_setRate : GoodIn wsL_law (wsV RL 125 RX4 yX4_setRate wsX4_setRate) := goodIn_app (goodIn_of _ (by decide +kernel)) ggL_law_X4_setRate
set_option maxRecDepth 20000 in
theorem ggL_law_L_does : GoodIn wsL_law wsL_does := goodIn_ca (goodIn_ca (goodIn_ca (goodIn_r _ [220, 221, 222, 167, 223, 224, 225, 2, 226, 172, 173, 22, 21, 20, 227, 228, 26, 130, 131, 132, 133, 73, 74, 134, 135, 19, 136, 137, 138, 229, 230, 231, 232, 14, 15, 233, 234, 235, 236, 237, 238, 239, 240, 241, 198, 242, 68, 25, 24, 23, 243, 102, 244, 69, 70, 71, 72, 156, 157, 158, 245, 246, 247, 248, 104, 107, 249, 108, 105, 250, 109, 251, 252, 253, 254, 143, 129, 144, 255, 256, 257, 258, 259, 260, 261, 262, 263, 264, 265, 266, 267, 268, 269, 270, 271, 163, 272, 273, 274, 275, 106, 276, 277, 200, 201, 28, 202, 34, 36, 35, 278, 279, 280, 281, 282, 283, 284, 285, 286, 112, 113, 287, 288, 289, 290, 291, 292, 293, 294, 82, 295, 329, 330, 331, 332, 333, 334, 335, 347, 348, 349, 350, 351, 352, 353, 354, 355, 356, 357, 358, 340, 341, 342, 343, 344, 345, 346, 336, 337, 338, 339] (by decide +kernel) (by decide +kernel)) (goodIn_sub (fun _ h => List.mem_append_right _ h) (by decide +kernel))) (goodIn_sub (fun _ h => List.mem_append_left _ (List.mem_append_left _ (List.mem_append_right _ h))) (by decide +kernel))) (goodIn_sub (fun _ h => List.mem_append_left _ (List.mem_append_right _ h)) (by decide +kernel))
set_option maxRecDepth 20000 in
theorem gL_law_L_does : GoodIn wsL_law (va_wsS RL 128 yL_does wsL_does) := goodIn_app (goodIn_of _ (by decide +kernel)) ggL_law_L_does
set_option maxRecDepth 20000 in
theorem ggL_law_L_charge : GoodIn wsL_law wsL_charge := goodIn_r _ [205] (by decide +kernel) (by decide +kernel)
set_option maxRecDepth 20000 in
theorem gL_law_L_charge : GoodIn wsL_law (va_wsS RL 7 yL_charge wsL_charge) := goodIn_app (goodIn_of _ (by decide +kernel)) ggL_law_L_charge
set_option maxRecDepth 20000 in
theorem ggL_law_L_sends : GoodIn wsL_law wsL_sends := goodIn_r _ [298, 299, 300, 51, 301, 203, 204, 205] (by decide +kernel) (by decide +kernel)
set_option maxRecDepth 20000 in
theorem gL_law_L_sends : GoodIn wsL_law (va_wsS RL 132 yL_sends wsL_sends) := goodIn_app (goodIn_of _ (by decide +kernel)) ggL_law_L_sends
set_option maxRecDepth 20000 in
theorem ggL_law_L_month : GoodIn wsL_law wsL_month := goodIn_r _ [77] (by decide +kernel) (by decide +kernel)
set_option maxRecDepth 20000 in
theorem gL_law_L_month : GoodIn wsL_law (va_wsS RL 21 yL_month wsL_month) := goodIn_app (goodIn_of _ (by decide +kernel)) ggL_law_L_month
set_option maxRecDepth 20000 in
theorem ggL_law_L_isDisputed : GoodIn wsL_law wsL_isDisputed := goodIn_ca (goodIn_ca (goodIn_r _ [304, 167, 305, 306, 307, 2, 308, 172, 173, 82, 26, 94, 295, 83, 84, 85, 86, 73, 74, 25, 24, 352, 353, 354, 355, 356, 357, 358, 329, 330, 331, 332, 333, 334, 335] (by decide +kernel) (by decide +kernel)) (goodIn_sub (fun _ h => List.mem_append_right _ h) (by decide +kernel))) (goodIn_sub (fun _ h => List.mem_append_left _ (List.mem_append_left _ (List.mem_append_right _ h))) (by decide +kernel))
set_option maxRecDepth 20000 in
theorem gL_law_L_isDisputed : GoodIn wsL_law (va_wsS RL 136 yL_isDisputed wsL_isDisputed) := goodIn_app (goodIn_of _ (by decide +kernel)) ggL_law_L_isDisputed
set_option maxRecDepth 20000 in
theorem ggL_law_L_isAnswered : GoodIn wsL_law wsL_isAnswered := goodIn_ca (goodIn_ca (goodIn_r _ [311, 167, 312, 313, 314, 2, 315, 172, 173, 82, 83, 84, 85, 86, 73, 74, 25, 24, 352, 353, 354, 355, 356, 357, 358, 329, 330, 331, 332, 333, 334, 335] (by decide +kernel) (by decide +kernel)) (goodIn_sub (fun _ h => List.mem_append_right _ h) (by decide +kernel))) (goodIn_sub (fun _ h => List.mem_append_left _ (List.mem_append_left _ (List.mem_append_right _ h))) (by decide +kernel))
set_option maxRecDepth 20000 in
theorem gL_law_L_isAnswered : GoodIn wsL_law (va_wsS RL 140 yL_isAnswered wsL_isAnswered) := goodIn_app (goodIn_of _ (by decide +kernel)) ggL_law_L_isAnswered
set_option maxRecDepth 20000 in
theorem ggL_law_X4_agree : GoodIn wsL_law wsX4_agree := goodIn_ca (goodIn_ca (goodIn_r _ [319, 320, 321, 322, 323, 130, 131, 132, 2, 133, 73, 74, 134, 135, 19, 136, 137, 138, 156, 157, 158, 340, 341, 342, 343, 344, 345, 346, 329, 330, 331, 332, 333, 334, 335] (by decide +kernel) (by decide +kernel)) (goodIn_sub (fun _ h => List.mem_append_left _ (List.mem_append_left _ (List.mem_append_right _ h))) (by decide +kernel))) (goodIn_sub (fun _ h => List.mem_append_left _ (List.mem_append_right _ h)) (by decide +kernel))
set_option maxRecDepth 20000 in
theorem gL_law_X4_agree : GoodIn wsL_law (wsV RL 145 RX4 yX4_agree wsX4_agree) := goodIn_app (goodIn_of _ (by decide +kernel)) ggL_law_X4_agree
set_option maxRecDepth 20000 in
theorem ggL_law_X4_promise : GoodIn wsL_law wsX4_promise := goodIn_ca (goodIn_ca (goodIn_r _ [327, 328, 174, 130, 131, 132, 2, 133, 73, 74, 134, 135, 19, 136, 137, 138, 156, 157, 158, 340, 341, 342, 343, 344, 345, 346, 329, 330, 331, 332, 333, 334, 335] (by decide +kernel) (by decide +kernel)) (goodIn_sub (fun _ h => List.mem_append_left _ (List.mem_append_left _ (List.mem_append_right _ h))) (by decide +kernel))) (goodIn_sub (fun _ h => List.mem_append_left _ (List.mem_append_right _ h)) (by decide +kernel))
set_option maxRecDepth 20000 in
theorem gL_law_X4_promise : GoodIn wsL_law (wsV RL 150 RX4 yX4_promise wsX4_promise) := goodIn_app (goodIn_of _ (by decide +kernel)) ggL_law_X4_promise

