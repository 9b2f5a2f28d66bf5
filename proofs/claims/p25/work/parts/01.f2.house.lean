set_option maxRecDepth 20000 in
theorem gh_wsL_isHouse_r1 : GoodIn wsL_law (.code yL_isHouse cL_isHouse 22 (some .boolean) :: wsL_isHouse_r1) := goodIn_r _ [52, 53, 54, 55, 7, 56, 57, 58, 2, 59, 25, 60, 61, 62, 63, 26, 64, 65, 66, 67, 68, 69, 70, 71, 72] (by decide +kernel) (by decide +kernel)
set_option maxRecDepth 20000 in
theorem gh_wsL_isHouse_r2 : GoodIn wsL_law wsL_isHouse_r2 := goodIn_r _ [73, 74, 22, 21, 75, 76, 51, 77, 78, 79, 80, 81, 82, 83, 84, 85, 86, 24, 87, 88, 89, 90, 91, 92] (by decide +kernel) (by decide +kernel)
set_option maxRecDepth 20000 in
theorem gh_wsL_isHouse_r3 : GoodIn wsL_law wsL_isHouse_r3 := goodIn_r _ [93, 94, 95, 96, 97, 98, 99, 100, 101, 102, 103, 104, 105, 106, 107, 108, 109, 110, 111, 112, 113, 114, 115, 116] (by decide +kernel) (by decide +kernel)
set_option maxRecDepth 20000 in
theorem gh_wsL_isHouse_r4 : GoodIn wsL_law wsL_isHouse_r4 := goodIn_r _ [30, 117, 46, 47, 44, 118, 119, 120, 121, 122, 123, 124, 125, 126, 127, 128, 129, 130, 131, 132, 133, 134, 135, 19] (by decide +kernel) (by decide +kernel)
set_option maxRecDepth 20000 in
theorem gh_wsL_isHouse_r5 : GoodIn wsL_law wsL_isHouse_r5 := goodIn_r _ [136, 137, 138, 139, 140, 141, 142, 143, 144, 145, 146, 147, 148, 149, 150, 151, 152, 153, 154, 155, 156, 157, 158, 159] (by decide +kernel) (by decide +kernel)
set_option maxRecDepth 20000 in
theorem gh_wsL_isHouse_r6 : GoodIn wsL_law wsL_isHouse_r6 := goodIn_r _ [160, 161, 162, 163, 164, 165, 166, 167, 168, 169, 170, 171, 172, 173, 174, 175, 176, 177, 178, 179, 180, 181, 182, 183] (by decide +kernel) (by decide +kernel)
set_option maxRecDepth 20000 in
theorem gh_wsL_isHouse_r7 : GoodIn wsL_law wsL_isHouse_r7 := goodIn_r _ [184, 185, 186, 17, 187, 188, 189, 190, 191, 192, 193, 194, 195, 196, 197, 198, 199, 200, 201, 28, 202, 34, 36, 35] (by decide +kernel) (by decide +kernel)
set_option maxRecDepth 20000 in
theorem gh_wsL_isHouse_r8 : GoodIn wsL_law wsL_isHouse_r8 := goodIn_r _ [203, 204, 205] (by decide +kernel) (by decide +kernel)
set_option maxRecDepth 20000 in
theorem gh_wsX40 : GoodIn wsL_law wsX40 := goodIn_r _ [329, 330, 331, 332, 333, 334, 335] (by decide +kernel) (by decide +kernel)
set_option maxRecDepth 20000 in
theorem gh_wsX10 : GoodIn wsL_law wsX10 := goodIn_r _ [347, 348, 349, 350, 351] (by decide +kernel) (by decide +kernel)
set_option maxRecDepth 20000 in
theorem gh_wsX00 : GoodIn wsL_law wsX00 := goodIn_r _ [352, 353, 354, 355, 356, 357, 358] (by decide +kernel) (by decide +kernel)
set_option maxRecDepth 20000 in
theorem gh_wsX30 : GoodIn wsL_law wsX30 := goodIn_r _ [340, 341, 342, 343, 344, 345, 346] (by decide +kernel) (by decide +kernel)
set_option maxRecDepth 20000 in
theorem gh_wsX20 : GoodIn wsL_law wsX20 := goodIn_r _ [336, 337, 338, 339] (by decide +kernel) (by decide +kernel)
set_option maxRecDepth 20000 in
theorem ggL_law_L_isHouse : GoodIn wsL_law wsL_isHouse := goodIn_ca (goodIn_ca (goodIn_ca (goodIn_ca (goodIn_ca (goodIn_ca (goodIn_ca (goodIn_ca (goodIn_ca gh_wsL_isHouse_r1 (goodIn_app gh_wsL_isHouse_r2 (goodIn_app gh_wsL_isHouse_r3 (goodIn_app gh_wsL_isHouse_r4 (goodIn_app gh_wsL_isHouse_r5 (goodIn_app gh_wsL_isHouse_r6 (goodIn_app gh_wsL_isHouse_r7 gh_wsL_isHouse_r8))))))) gh_wsX40) gh_wsX10) gh_wsX00) gh_wsX30) gh_wsX20) (goodIn_sub (fun _ h => List.mem_append_left _ (List.mem_append_left _ (List.mem_append_right _ h))) (by decide +kernel))) (goodIn_sub (fun _ h => List.mem_append_left _ (List.mem_append_right _ h)) (by decide +kernel))) (goodIn_sub (fun _ h => List.mem_append_right _ h) (by decide +kernel))
