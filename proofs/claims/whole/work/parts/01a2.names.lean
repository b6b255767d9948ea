theorem memP {big : List Cond} (ws : List Cond) (ps : List Nat) (hp : ws = ps.filterMap (fun i => big[i]?)) : ∀ w ∈ ws, w ∈ big := by
  intro w hw
  rw [hp] at hw
  obtain ⟨i, -, hi⟩ := List.mem_filterMap.mp hw
  exact List.mem_of_getElem? hi
theorem memA {big a b : List Cond} (ha : ∀ w ∈ a, w ∈ big) (hb : ∀ w ∈ b, w ∈ big) : ∀ w ∈ a ++ b, w ∈ big := fun w h => (List.mem_append.mp h).elim (ha w) (hb w)
set_option maxRecDepth 20000 in
theorem wsL_in_r1 : ∀ w ∈ wsL_law_r1, w ∈ lw_tbl := memP _ [49, 50, 38, 583, 584, 45, 877, 51, 52, 53, 54, 55, 56, 57, 58, 39, 190, 84, 85, 40, 191, 114, 115, 42] (by decide +kernel)
set_option maxRecDepth 20000 in
theorem wsL_in_r2 : ∀ w ∈ wsL_law_r2, w ∈ lw_tbl := memP _ [192, 130, 131, 43, 193, 171, 83, 194, 173, 174, 44, 197, 198, 199, 60, 61, 62, 63, 64, 65, 66, 67, 86, 87] (by decide +kernel)
set_option maxRecDepth 20000 in
theorem wsL_in_r3 : ∀ w ∈ wsL_law_r3, w ∈ lw_tbl := memP _ [88, 89, 93, 94, 95, 99, 90, 91, 41, 92, 117, 118, 119, 120, 132, 133, 134, 135, 139, 140, 136, 137, 138, 176] (by decide +kernel)
set_option maxRecDepth 20000 in
theorem wsL_in_r4 : ∀ w ∈ wsL_law_r4, w ∈ lw_tbl := memP _ [177, 178, 179, 180, 585, 586, 587, 588, 590, 591, 592, 593, 594, 596, 597, 598, 599, 689, 600, 602, 604, 607, 609, 610] (by decide +kernel)
set_option maxRecDepth 20000 in
theorem wsL_in_r5 : ∀ w ∈ wsL_law_r5, w ∈ lw_tbl := memP _ [611, 612, 616, 617, 221, 222, 223, 224, 225, 227, 0, 228, 229, 230, 231, 232, 233, 234, 235, 236, 237, 238, 69, 239] (by decide +kernel)
set_option maxRecDepth 20000 in
theorem wsL_in_r6 : ∀ w ∈ wsL_law_r6, w ∈ lw_tbl := memP _ [240, 241, 242, 243, 244, 245, 246, 96, 100, 247, 248, 249, 250, 251, 252, 253, 254, 255, 257, 1, 258, 259, 261, 2] (by decide +kernel)
set_option maxRecDepth 20000 in
theorem wsL_in_r7 : ∀ w ∈ wsL_law_r7, w ∈ lw_tbl := memP _ [262, 690, 691, 692, 693, 603, 589, 595, 694, 695, 696, 697, 698, 699, 700, 702, 21, 703, 704, 706, 22, 707, 708, 710] (by decide +kernel)
set_option maxRecDepth 20000 in
theorem wsL_in_r8 : ∀ w ∈ wsL_law_r8, w ∈ lw_tbl := memP _ [23, 711, 712, 713, 714, 715, 716, 717, 263, 264, 265, 266, 718, 719, 720, 721, 267, 268, 269, 270, 271, 272, 273, 274] (by decide +kernel)
set_option maxRecDepth 20000 in
theorem wsL_in_r9 : ∀ w ∈ wsL_law_r9, w ∈ lw_tbl := memP _ [275, 276, 277, 278, 279, 722, 723, 724, 725, 726, 728, 24, 729, 280, 281, 282, 283, 195, 730, 731, 732, 733, 601, 284] (by decide +kernel)
set_option maxRecDepth 20000 in
theorem wsL_in_r10 : ∀ w ∈ wsL_law_r10, w ∈ lw_tbl := memP _ [285, 286, 287, 288, 289, 290, 291, 292, 293, 294, 295, 296, 297, 298, 299, 181, 300, 734, 735, 736, 737, 606, 608, 301] (by decide +kernel)
set_option maxRecDepth 20000 in
theorem wsL_in_r11 : ∀ w ∈ wsL_law_r11, w ∈ lw_tbl := memP _ [302, 303, 304, 305, 306, 307, 308, 738, 739, 740, 741, 309, 310, 311, 312, 313, 314, 315, 316, 317, 318, 319, 320, 742] (by decide +kernel)
set_option maxRecDepth 20000 in
theorem wsL_in_r12 : ∀ w ∈ wsL_law_r12, w ∈ lw_tbl := memP _ [743, 744, 745, 746, 748, 25, 749, 321, 322, 323, 324, 325, 326, 327, 328, 329, 331, 3, 332, 333, 335, 4, 336, 337] (by decide +kernel)
set_option maxRecDepth 20000 in
theorem wsL_in_r13 : ∀ w ∈ wsL_law_r13, w ∈ lw_tbl := memP _ [339, 5, 340, 750, 751, 752, 753, 341, 342, 343, 344, 345, 346, 347, 348, 349, 350, 352, 6, 353, 354, 355, 356, 357] (by decide +kernel)
set_option maxRecDepth 20000 in
theorem wsL_in_r14 : ∀ w ∈ wsL_law_r14, w ∈ lw_tbl := memP _ [754, 755, 756, 757, 358, 359, 360, 361, 362, 363, 364, 365, 366, 367, 368, 369, 370, 371, 372, 373, 374, 121, 375, 758] (by decide +kernel)
set_option maxRecDepth 20000 in
theorem wsL_in_r15 : ∀ w ∈ wsL_law_r15, w ∈ lw_tbl := memP _ [759, 760, 761, 762, 376, 377, 378, 379, 380, 381, 382, 383, 384, 385, 386, 387, 388, 389, 390, 391, 763, 764, 765, 766] (by decide +kernel)
set_option maxRecDepth 20000 in
theorem wsL_in_r16 : ∀ w ∈ wsL_law_r16, w ∈ lw_tbl := memP _ [767, 769, 26, 770, 771, 773, 27, 774, 392, 393, 394, 395, 396, 397, 398, 399, 400, 775, 776, 777, 778, 779, 781, 28] (by decide +kernel)
set_option maxRecDepth 20000 in
theorem wsL_in_r17 : ∀ w ∈ wsL_law_r17, w ∈ lw_tbl := memP _ [782, 401, 402, 403, 404, 783, 784, 785, 786, 405, 406, 407, 408, 787, 788, 789, 790, 409, 410, 411, 412, 413, 791, 792] (by decide +kernel)
set_option maxRecDepth 20000 in
theorem wsL_in_r18 : ∀ w ∈ wsL_law_r18, w ∈ lw_tbl := memP _ [793, 794, 414, 415, 416, 417, 795, 796, 797, 798, 418, 419, 420, 421, 422, 424, 7, 425, 426, 427, 428, 429, 430, 432] (by decide +kernel)
set_option maxRecDepth 20000 in
theorem wsL_in_r19 : ∀ w ∈ wsL_law_r19, w ∈ lw_tbl := memP _ [431, 46, 433, 434, 435, 436, 437, 438, 439, 440, 442, 8, 443, 444, 445, 446, 447, 448, 449, 451, 9, 452, 799, 800] (by decide +kernel)
set_option maxRecDepth 20000 in
theorem wsL_in_r20 : ∀ w ∈ wsL_law_r20, w ∈ lw_tbl := memP _ [801, 802, 803, 805, 29, 806, 807, 809, 30, 810, 453, 454, 455, 456, 457, 458, 459, 460, 811, 812, 813, 814, 461, 462] (by decide +kernel)
set_option maxRecDepth 20000 in
theorem wsL_in_r21 : ∀ w ∈ wsL_law_r21, w ∈ lw_tbl := memP _ [463, 464, 465, 815, 816, 817, 818, 466, 467, 468, 469, 470, 471, 472, 473, 819, 820, 821, 822, 474, 475, 476, 477, 478] (by decide +kernel)
set_option maxRecDepth 20000 in
theorem wsL_in_r22 : ∀ w ∈ wsL_law_r22, w ∈ lw_tbl := memP _ [479, 480, 481, 482, 484, 10, 485, 486, 487, 488, 489, 490, 491, 493, 11, 494, 495, 496, 498, 12, 499, 141, 500, 501] (by decide +kernel)
set_option maxRecDepth 20000 in
theorem wsL_in_r23 : ∀ w ∈ wsL_law_r23, w ∈ lw_tbl := memP _ [502, 503, 504, 47, 505, 506, 508, 13, 509, 142, 510, 511, 48, 512, 513, 514, 515, 516, 518, 14, 519, 520, 522, 15] (by decide +kernel)
set_option maxRecDepth 20000 in
theorem wsL_in_r24 : ∀ w ∈ wsL_law_r24, w ∈ lw_tbl := memP _ [523, 144, 146, 148, 524, 526, 16, 527, 528, 530, 17, 531, 532, 533, 535, 18, 536, 537, 538, 539, 540, 541, 542, 544] (by decide +kernel)
set_option maxRecDepth 20000 in
theorem wsL_in_r25 : ∀ w ∈ wsL_law_r25, w ∈ lw_tbl := memP _ [19, 545, 823, 824, 825, 826, 827, 829, 31, 830, 615, 614, 831, 833, 32, 834, 613, 835, 837, 33, 838, 839, 840, 841] (by decide +kernel)
set_option maxRecDepth 20000 in
theorem wsL_in_r26 : ∀ w ∈ wsL_law_r26, w ∈ lw_tbl := memP _ [546, 547, 548, 549, 550, 842, 843, 844, 845, 551, 552, 553, 554, 846, 847, 848, 849, 618, 619, 620, 850, 852, 34, 853] (by decide +kernel)
set_option maxRecDepth 20000 in
theorem wsL_in_r27 : ∀ w ∈ wsL_law_r27, w ∈ lw_tbl := memP _ [854, 856, 35, 857, 555, 556, 557, 558, 196, 559, 561, 20, 562, 563, 858, 859, 860, 861, 605, 564, 565, 566, 567, 568] (by decide +kernel)
set_option maxRecDepth 20000 in
theorem wsL_in_r28 : ∀ w ∈ wsL_law_r28, w ∈ lw_tbl := memP _ [569, 570, 571, 572, 573, 574, 575, 576, 862, 863, 864, 865, 577, 578, 579, 580, 581, 582, 866, 867, 868, 869, 870, 621] (by decide +kernel)
set_option maxRecDepth 20000 in
theorem wsL_in_r29 : ∀ w ∈ wsL_law_r29, w ∈ lw_tbl := memP _ [871, 872, 874, 36, 875, 876] (by decide +kernel)
set_option maxRecDepth 20000 in
theorem inX0 : ∀ w ∈ wsX00, w ∈ lw_tbl := memP _ [125, 127] (by decide +kernel)
set_option maxRecDepth 20000 in
theorem inX1 : ∀ w ∈ wsX10, w ∈ lw_tbl := memP _ [70, 72, 74, 76, 78, 80] (by decide +kernel)
set_option maxRecDepth 20000 in
theorem inX2 : ∀ w ∈ wsX20, w ∈ lw_tbl := memP _ [183, 185, 187] (by decide +kernel)
set_option maxRecDepth 20000 in
theorem inX3 : ∀ w ∈ wsX30, w ∈ lw_tbl := memP _ [150, 152, 154, 156, 158, 160, 162, 164, 166, 168] (by decide +kernel)
set_option maxRecDepth 20000 in
theorem inX4 : ∀ w ∈ wsX40, w ∈ lw_tbl := memP _ [101, 103, 105, 107, 109, 111] (by decide +kernel)
set_option maxRecDepth 20000 in
theorem inX5 : ∀ w ∈ wsX50, w ∈ lw_tbl := memP _ [200, 202, 204, 206, 208, 210, 212, 214, 216, 218] (by decide +kernel)
set_option maxRecDepth 20000 in
theorem inX6 : ∀ w ∈ wsX60, w ∈ lw_tbl := memP _ [622, 624, 626, 628, 630, 632, 634, 636, 638, 640, 642, 644, 646, 648, 650, 652, 654, 656, 658, 660, 662, 664, 666, 668, 670, 672, 674, 676, 678, 680, 682, 684, 686] (by decide +kernel)
theorem inJ6 : ∀ w ∈ wsJ60, w ∈ lw_tbl := fun _ h => by cases h
theorem inJ9 : ∀ w ∈ wsJ90, w ∈ lw_tbl := fun _ h => by cases h
theorem inJ10 : ∀ w ∈ wsJ100, w ∈ lw_tbl := fun _ h => by cases h
theorem inJ7 : ∀ w ∈ wsJ70, w ∈ lw_tbl := fun _ h => by cases h
theorem wsL_law_in : ∀ w ∈ wsL_law, w ∈ lw_tbl := memA (memA (memA (memA (memA (memA (memA (memA (memA wsL_in_r1 (memA wsL_in_r2 (memA wsL_in_r3 (memA wsL_in_r4 (memA wsL_in_r5 (memA wsL_in_r6 (memA wsL_in_r7 (memA wsL_in_r8 (memA wsL_in_r9 (memA wsL_in_r10 (memA wsL_in_r11 (memA wsL_in_r12 (memA wsL_in_r13 (memA wsL_in_r14 (memA wsL_in_r15 (memA wsL_in_r16 (memA wsL_in_r17 (memA wsL_in_r18 (memA wsL_in_r19 (memA wsL_in_r20 (memA wsL_in_r21 (memA wsL_in_r22 (memA wsL_in_r23 (memA wsL_in_r24 (memA wsL_in_r25 (memA wsL_in_r26 (memA wsL_in_r27 (memA wsL_in_r28 (wsL_in_r29))))))))))))))))))))))))))))) inX5) inX6) inX1) inX4) inX0) inX3) inX2) (fun _ h => by cases h)
theorem inlX0 : ∀ w ∈ wsX00, w ∈ wsL_law := fun _ h => List.mem_append_left _ (List.mem_append_left _ (List.mem_append_left _ (List.mem_append_right _ h)))
theorem inlX1 : ∀ w ∈ wsX10, w ∈ wsL_law := fun _ h => List.mem_append_left _ (List.mem_append_left _ (List.mem_append_left _ (List.mem_append_left _ (List.mem_append_left _ (List.mem_append_right _ h)))))
theorem inlX2 : ∀ w ∈ wsX20, w ∈ wsL_law := fun _ h => List.mem_append_left _ (List.mem_append_right _ h)
theorem inlX3 : ∀ w ∈ wsX30, w ∈ wsL_law := fun _ h => List.mem_append_left _ (List.mem_append_left _ (List.mem_append_right _ h))
theorem inlX4 : ∀ w ∈ wsX40, w ∈ wsL_law := fun _ h => List.mem_append_left _ (List.mem_append_left _ (List.mem_append_left _ (List.mem_append_left _ (List.mem_append_right _ h))))
theorem inlX5 : ∀ w ∈ wsX50, w ∈ wsL_law := fun _ h => List.mem_append_left _ (List.mem_append_left _ (List.mem_append_left _ (List.mem_append_left _ (List.mem_append_left _ (List.mem_append_left _ (List.mem_append_left _ (List.mem_append_right _ h)))))))
theorem inlX6 : ∀ w ∈ wsX60, w ∈ wsL_law := fun _ h => List.mem_append_left _ (List.mem_append_left _ (List.mem_append_left _ (List.mem_append_left _ (List.mem_append_left _ (List.mem_append_left _ (List.mem_append_right _ h))))))
