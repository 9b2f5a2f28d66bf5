set_option maxRecDepth 20000 in
theorem wi_wsL_law0_r1 : ∀ w ∈ wsL_law0_r1, w ∈ lw_tbl := rh_sub wsL_law0_r1 [40, 41, 27, 549, 550, 30, 792, 42, 43, 44, 45, 46, 47, 48, 115, 50, 116, 52, 117, 118, 54, 119, 120, 121] (by decide +kernel)
set_option maxRecDepth 20000 in
theorem wi_wsL_law0_r2 : ∀ w ∈ wsL_law0_r2, w ∈ lw_tbl := rh_sub wsL_law0_r2 [56, 28, 78, 29, 58, 59, 60, 61, 63, 65, 67, 79, 80, 81, 82, 86, 88, 90, 92, 95, 114, 97, 83, 551] (by decide +kernel)
set_option maxRecDepth 20000 in
theorem wi_wsL_law0_r3 : ∀ w ∈ wsL_law0_r3, w ∈ lw_tbl := rh_sub wsL_law0_r3 [552, 553, 554, 555, 556, 557, 558, 560, 561, 562, 563, 565, 566, 567, 568, 569, 570, 572, 573, 634, 574, 575, 576, 577] (by decide +kernel)
set_option maxRecDepth 20000 in
theorem wi_wsL_law0_r4 : ∀ w ∈ wsL_law0_r4, w ∈ lw_tbl := rh_sub wsL_law0_r4 [578, 145, 146, 26, 147, 148, 149, 150, 151, 152, 153, 64, 62, 66, 154, 156, 0, 157, 161, 34, 158, 159, 160, 229] (by decide +kernel)
set_option maxRecDepth 20000 in
theorem wi_wsL_law0_r5 : ∀ w ∈ wsL_law0_r5, w ∈ lw_tbl := rh_sub wsL_law0_r5 [230, 231, 232, 35, 639, 640, 641, 642, 580, 643, 644, 645, 646, 647, 648, 635, 636, 637, 638, 248, 249, 250, 251, 252] (by decide +kernel)
set_option maxRecDepth 20000 in
theorem wi_wsL_law0_r6 : ∀ w ∈ wsL_law0_r6, w ∈ lw_tbl := rh_sub wsL_law0_r6 [253, 254, 255, 256, 257, 258, 259, 649, 650, 651, 652, 653, 654, 656, 13, 657, 260, 261, 262, 263, 264, 265, 266, 267] (by decide +kernel)
set_option maxRecDepth 20000 in
theorem wi_wsL_law0_r7 : ∀ w ∈ wsL_law0_r7, w ∈ lw_tbl := rh_sub wsL_law0_r7 [273, 36, 289, 37, 268, 270, 2, 271, 290, 291, 292, 293, 299, 301, 303, 294, 297, 658, 659, 660, 661, 559, 579, 662] (by decide +kernel)
set_option maxRecDepth 20000 in
theorem wi_wsL_law0_r8 : ∀ w ∈ wsL_law0_r8, w ∈ lw_tbl := rh_sub wsL_law0_r8 [664, 14, 665, 316, 317, 318, 319, 320, 321, 322, 328, 300, 331, 38, 302, 323, 325, 3, 326, 332, 333, 334, 335, 340] (by decide +kernel)
set_option maxRecDepth 20000 in
theorem wi_wsL_law0_r9 : ∀ w ∈ wsL_law0_r9, w ∈ lw_tbl := rh_sub wsL_law0_r9 [342, 344, 346, 336, 338, 339, 666, 667, 668, 669, 674, 564, 670, 672, 15, 673, 362, 363, 364, 365, 366, 367, 368, 296] (by decide +kernel)
set_option maxRecDepth 20000 in
theorem wi_wsL_law0_r10 : ∀ w ∈ wsL_law0_r10, w ∈ lw_tbl := rh_sub wsL_law0_r10 [87, 304, 370, 372, 4, 373, 374, 376, 5, 377, 378, 380, 6, 381, 298, 382, 384, 7, 385, 337, 386, 387, 388, 389] (by decide +kernel)
set_option maxRecDepth 20000 in
theorem wi_wsL_law0_r11 : ∀ w ∈ wsL_law0_r11, w ∈ lw_tbl := rh_sub wsL_law0_r11 [295, 84, 390, 391, 393, 8, 394, 395, 396, 397, 398, 98, 400, 401, 675, 676, 677, 678, 679, 681, 16, 682, 683, 685] (by decide +kernel)
set_option maxRecDepth 20000 in
theorem wi_wsL_law0_r12 : ∀ w ∈ wsL_law0_r12, w ∈ lw_tbl := rh_sub wsL_law0_r12 [17, 686, 687, 689, 18, 690, 691, 693, 19, 694, 571, 402, 403, 404, 405, 406, 407, 408, 695, 696, 697, 698, 409, 410] (by decide +kernel)
set_option maxRecDepth 20000 in
theorem wi_wsL_law0_r13 : ∀ w ∈ wsL_law0_r13, w ∈ lw_tbl := rh_sub wsL_law0_r13 [411, 412, 413, 414, 415, 699, 700, 701, 702, 416, 417, 418, 419, 420, 421, 422, 423, 424, 39, 425, 703, 704, 705, 706] (by decide +kernel)
set_option maxRecDepth 20000 in
theorem wi_wsL_law0_r14 : ∀ w ∈ wsL_law0_r14, w ∈ lw_tbl := rh_sub wsL_law0_r14 [137, 138, 139, 140, 707, 708, 709, 710, 426, 427, 428, 429, 430, 431, 432, 341, 433, 435, 9, 436, 711, 712, 713, 714] (by decide +kernel)
set_option maxRecDepth 20000 in
theorem wi_wsL_law0_r15 : ∀ w ∈ wsL_law0_r15, w ∈ lw_tbl := rh_sub wsL_law0_r15 [715, 717, 20, 718, 438, 439, 440, 441, 442, 443, 444, 343, 719, 720, 721, 722, 445, 446, 447, 448, 449, 450, 451, 452] (by decide +kernel)
set_option maxRecDepth 20000 in
theorem wi_wsL_law0_r16 : ∀ w ∈ wsL_law0_r16, w ∈ lw_tbl := rh_sub wsL_law0_r16 [453, 454, 455, 93, 460, 456, 457, 458, 459, 723, 724, 725, 726, 727, 729, 21, 730, 739, 731, 733, 22, 734, 735, 737] (by decide +kernel)
set_option maxRecDepth 20000 in
theorem wi_wsL_law0_r17 : ∀ w ∈ wsL_law0_r17, w ∈ lw_tbl := rh_sub wsL_law0_r17 [23, 738, 461, 462, 463, 464, 465, 466, 467, 345, 740, 741, 742, 743, 470, 471, 472, 473, 474, 475, 476, 744, 745, 746] (by decide +kernel)
set_option maxRecDepth 20000 in
theorem wi_wsL_law0_r18 : ∀ w ∈ wsL_law0_r18, w ∈ lw_tbl := rh_sub wsL_law0_r18 [747, 478, 479, 480, 481, 482, 483, 484, 485, 91, 94, 96, 748, 749, 750, 751, 752, 486, 487, 488, 489, 490, 491, 492] (by decide +kernel)
set_option maxRecDepth 20000 in
theorem wi_wsL_law0_r19 : ∀ w ∈ wsL_law0_r19, w ∈ lw_tbl := rh_sub wsL_law0_r19 [493, 89, 753, 754, 755, 756, 757, 494, 495, 496, 497, 498, 499, 500, 501, 68, 758, 759, 760, 761, 762, 502, 503, 504] (by decide +kernel)
set_option maxRecDepth 20000 in
theorem wi_wsL_law0_r20 : ∀ w ∈ wsL_law0_r20, w ∈ lw_tbl := rh_sub wsL_law0_r20 [505, 506, 507, 508, 510, 512, 10, 513, 763, 764, 765, 766, 141, 142, 143, 144, 767, 768, 769, 770, 514, 515, 516, 517] (by decide +kernel)
set_option maxRecDepth 20000 in
theorem wi_wsL_law0_r21 : ∀ w ∈ wsL_law0_r21, w ∈ lw_tbl := rh_sub wsL_law0_r21 [518, 519, 520, 521, 523, 11, 524, 771, 772, 773, 774, 775, 777, 24, 778, 525, 526, 527, 528, 529, 530, 531, 534, 535] (by decide +kernel)
set_option maxRecDepth 20000 in
theorem wi_wsL_law0_r22 : ∀ w ∈ wsL_law0_r22, w ∈ lw_tbl := rh_sub wsL_law0_r22 [536, 532, 779, 780, 781, 782, 537, 538, 539, 540, 541, 542, 543, 544, 546, 12, 547, 85, 548, 783, 784, 785, 786, 787] (by decide +kernel)
set_option maxRecDepth 20000 in
theorem wi_wsL_law0_r23 : ∀ w ∈ wsL_law0_r23, w ∈ lw_tbl := rh_sub wsL_law0_r23 [789, 25, 790, 791] (by decide +kernel)
set_option maxRecDepth 20000 in
theorem wi_X0 : ∀ w ∈ wsX00, w ∈ lw_tbl := rh_sub wsX00 [347, 349, 351, 353, 355, 357, 359] (by decide +kernel)
set_option maxRecDepth 20000 in
theorem wi_X1 : ∀ w ∈ wsX10, w ∈ lw_tbl := rh_sub wsX10 [305, 307, 309, 311, 313] (by decide +kernel)
set_option maxRecDepth 20000 in
theorem wi_X2 : ∀ w ∈ wsX20, w ∈ lw_tbl := rh_sub wsX20 [69, 71, 73, 75] (by decide +kernel)
set_option maxRecDepth 20000 in
theorem wi_X3 : ∀ w ∈ wsX30, w ∈ lw_tbl := rh_sub wsX30 [99, 101, 103, 105, 107, 109, 111] (by decide +kernel)
set_option maxRecDepth 20000 in
theorem wi_X4 : ∀ w ∈ wsX40, w ∈ lw_tbl := rh_sub wsX40 [122, 124, 126, 128, 130, 132, 134] (by decide +kernel)
set_option maxRecDepth 20000 in
theorem wi_X5 : ∀ w ∈ wsX50, w ∈ lw_tbl := rh_sub wsX50 [581, 583, 585, 587, 589, 591, 593, 595, 597, 599, 601, 603, 605, 607, 609, 611, 613, 615, 617, 619, 621, 623, 625, 627, 629, 631] (by decide +kernel)
theorem wsL_law_in0 : ∀ w ∈ wsL_law0, w ∈ lw_tbl := (rh_app (rh_app (rh_app (rh_app (rh_app (rh_app (rh_app (rh_app wi_wsL_law0_r1 (rh_app wi_wsL_law0_r2 (rh_app wi_wsL_law0_r3 (rh_app wi_wsL_law0_r4 (rh_app wi_wsL_law0_r5 (rh_app wi_wsL_law0_r6 (rh_app wi_wsL_law0_r7 (rh_app wi_wsL_law0_r8 (rh_app wi_wsL_law0_r9 (rh_app wi_wsL_law0_r10 (rh_app wi_wsL_law0_r11 (rh_app wi_wsL_law0_r12 (rh_app wi_wsL_law0_r13 (rh_app wi_wsL_law0_r14 (rh_app wi_wsL_law0_r15 (rh_app wi_wsL_law0_r16 (rh_app wi_wsL_law0_r17 (rh_app wi_wsL_law0_r18 (rh_app wi_wsL_law0_r19 (rh_app wi_wsL_law0_r20 (rh_app wi_wsL_law0_r21 (rh_app wi_wsL_law0_r22 wi_wsL_law0_r23)))))))))))))))))))))) wi_X4) wi_X5) wi_X2) wi_X3) wi_X1) wi_X0) (fun _ h => absurd h List.not_mem_nil))
