set_option maxRecDepth 20000 in
theorem wi_wsL_law0_r1 : ∀ w ∈ wsL_law0_r1, w ∈ lw_tbl := rh_sub wsL_law0_r1 [26, 27, 14, 100, 519, 520, 521, 512, 522, 523, 28, 29, 30, 31, 32, 33, 34, 101, 36, 102, 38, 103, 104, 40] (by decide +kernel)
set_option maxRecDepth 20000 in
theorem wi_wsL_law0_r2 : ∀ w ∈ wsL_law0_r2, w ∈ lw_tbl := rh_sub wsL_law0_r2 [105, 106, 107, 42, 15, 64, 16, 44, 45, 46, 47, 49, 51, 53, 65, 66, 67, 68, 72, 74, 76, 78, 81, 83] (by decide +kernel)
set_option maxRecDepth 20000 in
theorem wi_wsL_law0_r3 : ∀ w ∈ wsL_law0_r3, w ∈ lw_tbl := rh_sub wsL_law0_r3 [69, 424, 425, 13, 426, 518, 501, 502, 427, 428, 429, 430, 431, 432, 433, 434, 435, 436, 437, 438, 293, 313, 315, 3] (by decide +kernel)
set_option maxRecDepth 20000 in
theorem wi_wsL_law0_r4 : ∀ w ∈ wsL_law0_r4, w ∈ lw_tbl := rh_sub wsL_law0_r4 [316, 134, 20, 247, 248, 249, 439, 440, 441, 442, 332, 409, 411, 10, 412, 244, 245, 246, 443, 444, 445, 446, 334, 447] (by decide +kernel)
set_option maxRecDepth 20000 in
theorem wi_wsL_law0_r5 : ∀ w ∈ wsL_law0_r5, w ∈ lw_tbl := rh_sub wsL_law0_r5 [448, 449, 450, 451, 452, 453, 25, 454, 331, 327, 288, 333, 337, 330, 79, 459, 391, 392, 455, 456, 457, 458, 460, 461] (by decide +kernel)
set_option maxRecDepth 20000 in
theorem wi_wsL_law0_r6 : ∀ w ∈ wsL_law0_r6, w ∈ lw_tbl := rh_sub wsL_law0_r6 [462, 463, 464, 465, 466, 467, 468, 469, 470, 73, 225, 227, 2, 228, 205, 21, 131, 132, 133, 471, 472, 473, 474, 289] (by decide +kernel)
set_option maxRecDepth 20000 in
theorem wi_wsL_law0_r7 : ∀ w ∈ wsL_law0_r7, w ∈ lw_tbl := rh_sub wsL_law0_r7 [297, 475, 476, 22, 477, 478, 479, 480, 481, 482, 483, 484, 202, 203, 204, 485, 487, 11, 488, 328, 489, 490, 491, 261] (by decide +kernel)
set_option maxRecDepth 20000 in
theorem wi_wsL_law0_r8 : ∀ w ∈ wsL_law0_r8, w ∈ lw_tbl := rh_sub wsL_law0_r8 [492, 493, 494, 495, 266, 23, 75, 498, 499, 500, 496, 503, 504, 505, 506, 127, 129, 0, 130, 507, 509, 12, 510, 71] (by decide +kernel)
set_option maxRecDepth 20000 in
theorem wi_wsL_law0_r9 : ∀ w ∈ wsL_law0_r9, w ∈ lw_tbl := rh_sub wsL_law0_r9 [54, 511, 513, 514, 515, 516, 318, 517, 379, 380, 381, 241, 242, 243, 123, 124, 125, 126, 50, 48, 52, 236, 237, 238] (by decide +kernel)
set_option maxRecDepth 20000 in
theorem wi_wsL_law0_r10 : ∀ w ∈ wsL_law0_r10, w ∈ lw_tbl := rh_sub wsL_law0_r10 [239, 240, 256, 257, 258, 259, 260, 262, 263, 264, 265, 282, 24, 283, 284, 285, 286, 292, 294, 296, 287, 290, 309, 310] (by decide +kernel)
set_option maxRecDepth 20000 in
theorem wi_wsL_law0_r11 : ∀ w ∈ wsL_law0_r11, w ∈ lw_tbl := rh_sub wsL_law0_r11 [311, 312, 319, 322, 295, 323, 324, 325, 326, 335, 329, 353, 354, 355, 356, 358, 360, 4, 361, 362, 364, 5, 365, 366] (by decide +kernel)
set_option maxRecDepth 20000 in
theorem wi_wsL_law0_r12 : ∀ w ∈ wsL_law0_r12, w ∈ lw_tbl := rh_sub wsL_law0_r12 [368, 6, 369, 291, 370, 372, 7, 373, 374, 375, 376, 377, 70, 378, 382, 384, 8, 385, 386, 387, 388, 389, 84, 393] (by decide +kernel)
set_option maxRecDepth 20000 in
theorem wi_wsL_law0_r13 : ∀ w ∈ wsL_law0_r13, w ∈ lw_tbl := rh_sub wsL_law0_r13 [394, 395, 396, 398, 400, 9, 401, 336, 250, 251, 252, 253, 254, 255, 402, 403, 404, 405, 406, 407, 408, 416, 417, 418] (by decide +kernel)
set_option maxRecDepth 20000 in
theorem wi_wsL_law0_r14 : ∀ w ∈ wsL_law0_r14, w ∈ lw_tbl := rh_sub wsL_law0_r14 [419, 420, 421, 422, 221, 222, 223, 224, 230, 77, 80, 82, 231, 232, 233, 234, 235] (by decide +kernel)
set_option maxRecDepth 20000 in
theorem wi_X0 : ∀ w ∈ wsX00, w ∈ lw_tbl := rh_sub wsX00 [338, 340, 342, 344, 346, 348, 350] (by decide +kernel)
set_option maxRecDepth 20000 in
theorem wi_X1 : ∀ w ∈ wsX10, w ∈ lw_tbl := rh_sub wsX10 [298, 300, 302, 304, 306] (by decide +kernel)
set_option maxRecDepth 20000 in
theorem wi_X2 : ∀ w ∈ wsX20, w ∈ lw_tbl := rh_sub wsX20 [55, 57, 59, 61] (by decide +kernel)
set_option maxRecDepth 20000 in
theorem wi_X3 : ∀ w ∈ wsX30, w ∈ lw_tbl := rh_sub wsX30 [85, 87, 89, 91, 93, 95, 97] (by decide +kernel)
set_option maxRecDepth 20000 in
theorem wi_X4 : ∀ w ∈ wsX40, w ∈ lw_tbl := rh_sub wsX40 [108, 110, 112, 114, 116, 118, 120] (by decide +kernel)
theorem wsL_law_in0 : ∀ w ∈ wsL_law0, w ∈ lw_tbl := (rh_app (rh_app (rh_app (rh_app (rh_app (rh_app (rh_app wi_wsL_law0_r1 (rh_app wi_wsL_law0_r2 (rh_app wi_wsL_law0_r3 (rh_app wi_wsL_law0_r4 (rh_app wi_wsL_law0_r5 (rh_app wi_wsL_law0_r6 (rh_app wi_wsL_law0_r7 (rh_app wi_wsL_law0_r8 (rh_app wi_wsL_law0_r9 (rh_app wi_wsL_law0_r10 (rh_app wi_wsL_law0_r11 (rh_app wi_wsL_law0_r12 (rh_app wi_wsL_law0_r13 wi_wsL_law0_r14))))))))))))) wi_X4) wi_X2) wi_X3) wi_X1) wi_X0) (fun _ h => absurd h List.not_mem_nil))
