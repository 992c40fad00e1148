theorem kx_mem {ws big : List Cond} (ps : List Nat) (hp : ws = ps.filterMap (fun i => big[i]?)) : ∀ w ∈ ws, w ∈ big := by
  intro w hw
  rw [hp] at hw
  obtain ⟨i, -, hi⟩ := List.mem_filterMap.mp hw
  exact List.mem_of_getElem? hi
set_option maxRecDepth 20000 in
theorem lwr_1 : ∀ w ∈ wsL_law_r1, w ∈ lw_tbl := kx_mem [44, 45, 35, 590, 591, 41, 46, 47, 48, 49, 50, 51, 52, 53, 36, 229, 82, 83, 37, 230, 124, 125, 38, 231] (by decide +kernel)
set_option maxRecDepth 20000 in
theorem lwr_2 : ∀ w ∈ wsL_law_r2, w ∈ lw_tbl := kx_mem [152, 153, 39, 232, 188, 189, 40, 233, 55, 56, 57, 81, 58, 59, 60, 61, 62, 63, 64, 84, 85, 86, 87, 89] (by decide +kernel)
set_option maxRecDepth 20000 in
theorem lwr_3 : ∀ w ∈ wsL_law_r3, w ∈ lw_tbl := kx_mem [90, 91, 92, 93, 94, 95, 98, 101, 88, 126, 127, 128, 129, 131, 132, 133, 134, 137, 130, 155, 156, 157, 158, 159] (by decide +kernel)
set_option maxRecDepth 20000 in
theorem lwr_4 : ∀ w ∈ wsL_law_r4, w ∈ lw_tbl := kx_mem [187, 160, 161, 162, 164, 165, 166, 167, 191, 192, 193, 194, 195, 196, 197, 198, 199, 200, 202, 204, 206, 592, 593, 594] (by decide +kernel)
set_option maxRecDepth 20000 in
theorem lwr_5 : ∀ w ∈ wsL_law_r5, w ∈ lw_tbl := kx_mem [595, 597, 598, 600, 602, 603, 605, 606, 607, 609, 610, 611, 612, 613, 614, 615, 245, 246, 247, 248, 249, 250, 251, 252] (by decide +kernel)
set_option maxRecDepth 20000 in
theorem lwr_6 : ∀ w ∈ wsL_law_r6, w ∈ lw_tbl := kx_mem [253, 254, 255, 256, 257, 258, 259, 260, 261, 262, 263, 264, 669, 670, 671, 672, 596, 673, 674, 675, 676, 677, 678, 679] (by decide +kernel)
set_option maxRecDepth 20000 in
theorem lwr_7 : ∀ w ∈ wsL_law_r7, w ∈ lw_tbl := kx_mem [680, 681, 265, 266, 267, 268, 269, 270, 271, 272, 682, 683, 684, 685, 273, 274, 275, 276, 277, 278, 279, 280, 281, 283] (by decide +kernel)
set_option maxRecDepth 20000 in
theorem lwr_8 : ∀ w ∈ wsL_law_r8, w ∈ lw_tbl := kx_mem [0, 284, 285, 287, 1, 288, 289, 291, 2, 292, 294, 295, 686, 687, 688, 689, 690, 692, 15, 693, 694, 696, 16, 697] (by decide +kernel)
set_option maxRecDepth 20000 in
theorem lwr_9 : ∀ w ∈ wsL_law_r9, w ∈ lw_tbl := kx_mem [698, 700, 17, 701, 702, 704, 18, 705, 296, 297, 298, 299, 300, 301, 302, 303, 706, 707, 708, 709, 304, 305, 306, 307] (by decide +kernel)
set_option maxRecDepth 20000 in
theorem lwr_10 : ∀ w ∈ wsL_law_r10, w ∈ lw_tbl := kx_mem [308, 309, 310, 311, 312, 314, 3, 315, 710, 711, 712, 713, 316, 317, 318, 319, 320, 321, 322, 323, 324, 325, 326, 714] (by decide +kernel)
set_option maxRecDepth 20000 in
theorem lwr_11 : ∀ w ∈ wsL_law_r11, w ∈ lw_tbl := kx_mem [715, 716, 717, 718, 719, 720, 721, 723, 19, 724, 599, 327, 328, 329, 330, 331, 332, 333, 334, 725, 726, 727, 728, 729] (by decide +kernel)
set_option maxRecDepth 20000 in
theorem lwr_12 : ∀ w ∈ wsL_law_r12, w ∈ lw_tbl := kx_mem [731, 20, 732, 336, 337, 338, 339, 733, 734, 735, 736, 340, 341, 342, 343, 737, 738, 739, 740, 344, 345, 346, 347, 348] (by decide +kernel)
set_option maxRecDepth 20000 in
theorem lwr_13 : ∀ w ∈ wsL_law_r13, w ∈ lw_tbl := kx_mem [349, 350, 351, 352, 353, 354, 356, 4, 357, 358, 360, 5, 361, 362, 364, 6, 365, 741, 742, 743, 744, 745, 746, 748] (by decide +kernel)
set_option maxRecDepth 20000 in
theorem lwr_14 : ∀ w ∈ wsL_law_r14, w ∈ lw_tbl := kx_mem [21, 749, 367, 368, 369, 370, 371, 372, 373, 374, 750, 751, 752, 753, 601, 375, 376, 377, 378, 379, 380, 381, 382, 384] (by decide +kernel)
set_option maxRecDepth 20000 in
theorem lwr_15 : ∀ w ∈ wsL_law_r15, w ∈ lw_tbl := kx_mem [385, 386, 387, 754, 755, 756, 757, 758, 760, 22, 761, 388, 389, 390, 391, 392, 393, 394, 395, 396, 397, 398, 399, 400] (by decide +kernel)
set_option maxRecDepth 20000 in
theorem lwr_16 : ∀ w ∈ wsL_law_r16, w ∈ lw_tbl := kx_mem [409, 401, 403, 7, 404, 405, 407, 8, 408, 411, 412, 762, 763, 764, 765, 766, 768, 23, 769, 770, 772, 24, 773, 774] (by decide +kernel)
set_option maxRecDepth 20000 in
theorem lwr_17 : ∀ w ∈ wsL_law_r17, w ∈ lw_tbl := kx_mem [775, 776, 413, 414, 415, 416, 417, 418, 419, 420, 421, 422, 423, 42, 424, 777, 778, 779, 780, 781, 425, 426, 427, 428] (by decide +kernel)
set_option maxRecDepth 20000 in
theorem lwr_18 : ∀ w ∈ wsL_law_r18, w ∈ lw_tbl := kx_mem [429, 430, 431, 432, 782, 783, 784, 785, 604, 433, 434, 435, 436, 437, 438, 439, 440, 442, 443, 444, 441, 786, 787, 788] (by decide +kernel)
set_option maxRecDepth 20000 in
theorem lwr_19 : ∀ w ∈ wsL_law_r19, w ∈ lw_tbl := kx_mem [789, 445, 446, 447, 448, 449, 450, 451, 452, 453, 455, 9, 456, 457, 458, 459, 460, 790, 791, 792, 793, 461, 462, 463] (by decide +kernel)
set_option maxRecDepth 20000 in
theorem lwr_20 : ∀ w ∈ wsL_law_r20, w ∈ lw_tbl := kx_mem [464, 465, 466, 467, 468, 794, 795, 796, 797, 469, 470, 471, 472, 473, 475, 10, 476, 477, 478, 479, 480, 499, 481, 482] (by decide +kernel)
set_option maxRecDepth 20000 in
theorem lwr_21 : ∀ w ∈ wsL_law_r21, w ∈ lw_tbl := kx_mem [483, 484, 485, 487, 11, 488, 489, 490, 491, 492, 493, 494, 495, 496, 497, 498, 500, 502, 12, 503, 504, 506, 505, 43] (by decide +kernel)
set_option maxRecDepth 20000 in
theorem lwr_22 : ∀ w ∈ wsL_law_r22, w ∈ lw_tbl := kx_mem [507, 508, 510, 13, 511, 798, 799, 800, 801, 802, 804, 25, 805, 806, 808, 26, 809, 810, 812, 27, 813, 814, 816, 28] (by decide +kernel)
set_option maxRecDepth 20000 in
theorem lwr_23 : ∀ w ∈ wsL_law_r23, w ∈ lw_tbl := kx_mem [817, 818, 820, 29, 821, 822, 824, 30, 825, 826, 828, 31, 829, 513, 514, 515, 516, 830, 831, 832, 833, 517, 518, 519] (by decide +kernel)
set_option maxRecDepth 20000 in
theorem lwr_24 : ∀ w ∈ wsL_law_r24, w ∈ lw_tbl := kx_mem [520, 521, 522, 523, 524, 525, 526, 527, 834, 835, 836, 837, 608, 838, 839, 840, 528, 529, 530, 531, 841, 842, 843, 844] (by decide +kernel)
set_option maxRecDepth 20000 in
theorem lwr_25 : ∀ w ∈ wsL_law_r25, w ∈ lw_tbl := kx_mem [532, 533, 534, 535, 536, 537, 538, 539, 540, 541, 543, 14, 544, 545, 546, 845, 846, 847, 848, 618, 619, 849, 851, 32] (by decide +kernel)
set_option maxRecDepth 20000 in
theorem lwr_26 : ∀ w ∈ wsL_law_r26, w ∈ lw_tbl := kx_mem [852, 616, 617, 853, 855, 33, 856, 547, 548, 549, 550, 857, 858, 859, 860, 551, 552, 553, 554, 861, 862, 863, 864, 555] (by decide +kernel)
set_option maxRecDepth 20000 in
theorem lwr_27 : ∀ w ∈ wsL_law_r27, w ∈ lw_tbl := kx_mem [556, 557, 558, 559, 560, 561, 562, 563, 564, 565, 566, 567, 568, 569, 571, 572, 573, 574, 576, 577, 578, 579, 581, 582] (by decide +kernel)
set_option maxRecDepth 20000 in
theorem lwr_28 : ∀ w ∈ wsL_law_r28, w ∈ lw_tbl := kx_mem [583, 584, 585, 586, 587, 588, 865, 866, 867, 868, 869, 870, 871] (by decide +kernel)
theorem inX5 : ∀ w ∈ wsX50, w ∈ lw_tbl := kx_mem [234, 236, 238, 240, 242] (by decide +kernel)
theorem inX6 : ∀ w ∈ wsX60, w ∈ lw_tbl := kx_mem [620, 622, 624, 626, 628, 630, 632, 634, 636, 638, 640, 642, 644, 646, 648, 650, 652, 654, 656, 658, 660, 662, 664, 666] (by decide +kernel)
theorem inX3 : ∀ w ∈ wsX30, w ∈ lw_tbl := kx_mem [66, 68, 70, 72, 74, 76, 78] (by decide +kernel)
theorem inX0 : ∀ w ∈ wsX00, w ∈ lw_tbl := kx_mem [103, 105, 107, 109, 111, 113, 115, 117, 119, 121] (by decide +kernel)
theorem inX1 : ∀ w ∈ wsX10, w ∈ lw_tbl := kx_mem [139, 141, 143, 145, 147, 149] (by decide +kernel)
theorem inX2 : ∀ w ∈ wsX20, w ∈ lw_tbl := kx_mem [168, 170, 172, 174, 176, 178, 180, 182, 184] (by decide +kernel)
theorem inX4 : ∀ w ∈ wsX40, w ∈ lw_tbl := kx_mem [208, 210, 212, 214, 216, 218, 220, 222, 224, 226] (by decide +kernel)
theorem wsL_law_in : ∀ w ∈ wsL_law, w ∈ lw_tbl := by
  intro w h
  unfold wsL_law at h
  simp only [List.mem_append, List.not_mem_nil, or_false] at h
  rcases h with (((((((h | h | h | h | h | h | h | h | h | h | h | h | h | h | h | h | h | h | h | h | h | h | h | h | h | h | h | h) | h) | h) | h) | h) | h) | h) | h
  · exact lwr_1 w h
  · exact lwr_2 w h
  · exact lwr_3 w h
  · exact lwr_4 w h
  · exact lwr_5 w h
  · exact lwr_6 w h
  · exact lwr_7 w h
  · exact lwr_8 w h
  · exact lwr_9 w h
  · exact lwr_10 w h
  · exact lwr_11 w h
  · exact lwr_12 w h
  · exact lwr_13 w h
  · exact lwr_14 w h
  · exact lwr_15 w h
  · exact lwr_16 w h
  · exact lwr_17 w h
  · exact lwr_18 w h
  · exact lwr_19 w h
  · exact lwr_20 w h
  · exact lwr_21 w h
  · exact lwr_22 w h
  · exact lwr_23 w h
  · exact lwr_24 w h
  · exact lwr_25 w h
  · exact lwr_26 w h
  · exact lwr_27 w h
  · exact lwr_28 w h
  · exact inX5 w h
  · exact inX6 w h
  · exact inX3 w h
  · exact inX0 w h
  · exact inX1 w h
  · exact inX2 w h
  · exact inX4 w h
theorem inlX0 : ∀ w ∈ wsX00, w ∈ wsL_law := fun _ h => List.mem_append_left _ (List.mem_append_left _ (List.mem_append_left _ (List.mem_append_left _ (List.mem_append_right _ h))))
theorem inlX1 : ∀ w ∈ wsX10, w ∈ wsL_law := fun _ h => List.mem_append_left _ (List.mem_append_left _ (List.mem_append_left _ (List.mem_append_right _ h)))
theorem inlX2 : ∀ w ∈ wsX20, w ∈ wsL_law := fun _ h => List.mem_append_left _ (List.mem_append_left _ (List.mem_append_right _ h))
theorem inlX3 : ∀ w ∈ wsX30, w ∈ wsL_law := fun _ h => List.mem_append_left _ (List.mem_append_left _ (List.mem_append_left _ (List.mem_append_left _ (List.mem_append_left _ (List.mem_append_right _ h)))))
theorem inlX4 : ∀ w ∈ wsX40, w ∈ wsL_law := fun _ h => List.mem_append_left _ (List.mem_append_right _ h)
theorem inlX5 : ∀ w ∈ wsX50, w ∈ wsL_law := fun _ h => List.mem_append_left _ (List.mem_append_left _ (List.mem_append_left _ (List.mem_append_left _ (List.mem_append_left _ (List.mem_append_left _ (List.mem_append_left _ (List.mem_append_right _ h)))))))
theorem inlX6 : ∀ w ∈ wsX60, w ∈ wsL_law := fun _ h => List.mem_append_left _ (List.mem_append_left _ (List.mem_append_left _ (List.mem_append_left _ (List.mem_append_left _ (List.mem_append_left _ (List.mem_append_right _ h))))))
