section
/-! the law: its words are the tables' -/
theorem li_of {ws : List Cond} (ps : List Nat) (h : ws = ps.filterMap (fun i => lw_tbl[i]?)) : ∀ w ∈ ws, w ∈ lw_tbl := fun w hw => by
  rw [h] at hw
  obtain ⟨i, -, hi⟩ := List.mem_filterMap.mp hw
  exact List.mem_of_getElem? hi
set_option maxRecDepth 20000 in
theorem li_wsL_law_r1 : ∀ w ∈ wsL_law_r1, w ∈ lw_tbl := li_of [63, 64, 52, 655, 656, 61, 65, 66, 67, 68, 69, 70, 71, 72, 53, 308, 309, 183, 184, 57, 310, 200, 201, 58] (by decide +kernel)
set_option maxRecDepth 20000 in
theorem li_wsL_law_r2 : ∀ w ∈ wsL_law_r2, w ∈ lw_tbl := li_of [311, 217, 218, 59, 312, 242, 243, 60, 313, 314, 73, 74, 75, 76, 77, 78, 54, 131, 134, 137, 140, 91, 92, 56] (by decide +kernel)
set_option maxRecDepth 20000 in
theorem li_wsL_law_r3 : ∀ w ∈ wsL_law_r3, w ∈ lw_tbl := li_of [143, 146, 149, 152, 154, 156, 158, 79, 80, 81, 82, 83, 84, 55, 85, 90, 86, 93, 94, 95, 96, 111, 99, 97] (by decide +kernel)
set_option maxRecDepth 20000 in
theorem li_wsL_law_r4 : ∀ w ∈ wsL_law_r4, w ∈ lw_tbl := li_of [100, 103, 106, 109, 98, 127, 128, 129, 130, 185, 186, 187, 188, 189, 192, 193, 191, 203, 204, 205, 206, 208, 209, 207] (by decide +kernel)
set_option maxRecDepth 20000 in
theorem li_wsL_law_r5 : ∀ w ∈ wsL_law_r5, w ∈ lw_tbl := li_of [220, 221, 222, 223, 225, 227, 229, 231, 224, 245, 246, 247, 248, 250, 252, 253, 254, 256, 258, 260, 262, 264, 266, 268] (by decide +kernel)
set_option maxRecDepth 20000 in
theorem li_wsL_law_r6 : ∀ w ∈ wsL_law_r6, w ∈ lw_tbl := li_of [270, 272, 273, 275, 249, 657, 658, 659, 660, 661, 662, 663, 664, 666, 668, 669, 670, 671, 672, 673, 674, 675, 676, 679] (by decide +kernel)
set_option maxRecDepth 20000 in
theorem li_wsL_law_r7 : ∀ w ∈ wsL_law_r7, w ∈ lw_tbl := li_of [680, 684, 330, 331, 332, 333, 334, 335, 336, 337, 338, 339, 340, 341, 342, 343, 344, 345, 346, 347, 348, 349, 350, 351] (by decide +kernel)
set_option maxRecDepth 20000 in
theorem li_wsL_law_r8 : ∀ w ∈ wsL_law_r8, w ∈ lw_tbl := li_of [352, 353, 354, 355, 357, 0, 358, 359, 361, 1, 362, 363, 364, 365, 366, 367, 368, 369, 370, 371, 372, 373, 374, 376] (by decide +kernel)
set_option maxRecDepth 20000 in
theorem li_wsL_law_r9 : ∀ w ∈ wsL_law_r9, w ∈ lw_tbl := li_of [375, 62, 377, 378, 379, 380, 382, 381, 383, 737, 738, 739, 740, 741, 742, 743, 744, 745, 746, 747, 748, 749, 750, 751] (by decide +kernel)
set_option maxRecDepth 20000 in
theorem li_wsL_law_r10 : ∀ w ∈ wsL_law_r10, w ∈ lw_tbl := li_of [752, 753, 755, 18, 756, 757, 759, 19, 760, 761, 762, 763, 764, 766, 20, 767, 665, 384, 385, 386, 387, 768, 769, 770] (by decide +kernel)
set_option maxRecDepth 20000 in
theorem li_wsL_law_r11 : ∀ w ∈ wsL_law_r11, w ∈ lw_tbl := li_of [771, 772, 774, 21, 775, 388, 389, 390, 391, 776, 777, 778, 779, 780, 782, 22, 783, 392, 393, 394, 395, 784, 785, 786] (by decide +kernel)
set_option maxRecDepth 20000 in
theorem li_wsL_law_r12 : ∀ w ∈ wsL_law_r12, w ∈ lw_tbl := li_of [787, 788, 396, 397, 398, 399, 400, 401, 402, 403, 404, 405, 407, 2, 408, 409, 411, 3, 412, 413, 414, 415, 416, 417] (by decide +kernel)
set_option maxRecDepth 20000 in
theorem li_wsL_law_r13 : ∀ w ∈ wsL_law_r13, w ∈ lw_tbl := li_of [418, 419, 421, 423, 425, 4, 426, 427, 429, 5, 430, 431, 432, 433, 434, 435, 436, 437, 438, 439, 440, 441, 442, 443] (by decide +kernel)
set_option maxRecDepth 20000 in
theorem li_wsL_law_r14 : ∀ w ∈ wsL_law_r14, w ∈ lw_tbl := li_of [444, 445, 447, 6, 448, 449, 451, 7, 452, 453, 455, 8, 456, 457, 458, 459, 460, 461, 462, 463, 797, 798, 799, 800] (by decide +kernel)
set_option maxRecDepth 20000 in
theorem li_wsL_law_r15 : ∀ w ∈ wsL_law_r15, w ∈ lw_tbl := li_of [685, 801, 803, 23, 804, 682, 681, 805, 807, 24, 808, 683, 809, 811, 25, 812, 813, 815, 26, 816, 817, 819, 27, 820] (by decide +kernel)
set_option maxRecDepth 20000 in
theorem li_wsL_law_r16 : ∀ w ∈ wsL_law_r16, w ∈ lw_tbl := li_of [821, 823, 28, 824, 825, 827, 29, 828, 829, 831, 30, 832, 833, 834, 835, 836, 838, 31, 839, 840, 842, 32, 843, 464] (by decide +kernel)
set_option maxRecDepth 20000 in
theorem li_wsL_law_r17 : ∀ w ∈ wsL_law_r17, w ∈ lw_tbl := li_of [465, 466, 467, 468, 469, 470, 471, 844, 845, 846, 847, 848, 850, 33, 851, 852, 854, 34, 855, 472, 473, 474, 475, 476] (by decide +kernel)
set_option maxRecDepth 20000 in
theorem li_wsL_law_r18 : ∀ w ∈ wsL_law_r18, w ∈ lw_tbl := li_of [477, 478, 479, 481, 482, 483, 484, 485, 487, 9, 488, 489, 490, 491, 492, 493, 494, 495, 496, 497, 856, 857, 858, 859] (by decide +kernel)
set_option maxRecDepth 20000 in
theorem li_wsL_law_r19 : ∀ w ∈ wsL_law_r19, w ∈ lw_tbl := li_of [864, 865, 860, 861, 862, 863, 866, 868, 35, 869, 870, 871, 873, 36, 874, 875, 877, 37, 878, 498, 499, 500, 501, 502] (by decide +kernel)
set_option maxRecDepth 20000 in
theorem li_wsL_law_r20 : ∀ w ∈ wsL_law_r20, w ∈ lw_tbl := li_of [503, 504, 505, 879, 880, 881, 882, 506, 507, 508, 509, 510, 512, 10, 513, 514, 515, 516, 517, 518, 519, 520, 521, 522] (by decide +kernel)
set_option maxRecDepth 20000 in
theorem li_wsL_law_r21 : ∀ w ∈ wsL_law_r21, w ∈ lw_tbl := li_of [523, 524, 525, 526, 527, 528, 529, 531, 11, 532, 533, 535, 12, 536, 537, 539, 13, 540, 541, 542, 543, 544, 546, 14] (by decide +kernel)
set_option maxRecDepth 20000 in
theorem li_wsL_law_r22 : ∀ w ∈ wsL_law_r22, w ∈ lw_tbl := li_of [547, 548, 550, 15, 551, 552, 554, 16, 555, 556, 557, 558, 559, 560, 561, 563, 17, 564, 565, 883, 884, 885, 886, 677] (by decide +kernel)
set_option maxRecDepth 20000 in
theorem li_wsL_law_r23 : ∀ w ∈ wsL_law_r23, w ∈ lw_tbl := li_of [678, 887, 889, 38, 890, 891, 893, 39, 894, 895, 897, 40, 898, 899, 900, 901, 902, 904, 41, 905, 566, 567, 568, 569] (by decide +kernel)
set_option maxRecDepth 20000 in
theorem li_wsL_law_r24 : ∀ w ∈ wsL_law_r24, w ∈ lw_tbl := li_of [570, 571, 572, 573, 574, 789, 790, 791, 792, 575, 576, 577, 578, 793, 794, 795, 796, 579, 580, 581, 582, 583, 584, 585] (by decide +kernel)
set_option maxRecDepth 20000 in
theorem li_wsL_law_r25 : ∀ w ∈ wsL_law_r25, w ∈ lw_tbl := li_of [586, 906, 907, 908, 909, 587, 588, 589, 590, 591, 910, 911, 912, 913, 667, 592, 593, 594, 595, 914, 915, 916, 917, 596] (by decide +kernel)
set_option maxRecDepth 20000 in
theorem li_wsL_law_r26 : ∀ w ∈ wsL_law_r26, w ∈ lw_tbl := li_of [597, 598, 599, 608, 600, 601, 602, 603, 604, 605, 606, 607, 918, 919, 920, 921, 922, 924, 42, 925, 926, 928, 43, 929] (by decide +kernel)
set_option maxRecDepth 20000 in
theorem li_wsL_law_r27 : ∀ w ∈ wsL_law_r27, w ∈ lw_tbl := li_of [930, 932, 44, 933, 609, 610, 611, 612, 934, 935, 936, 937, 613, 614, 615, 616, 938, 939, 940, 941, 617, 618, 619, 620] (by decide +kernel)
set_option maxRecDepth 20000 in
theorem li_wsL_law_r28 : ∀ w ∈ wsL_law_r28, w ∈ lw_tbl := li_of [621, 622, 623, 624, 625, 626, 627, 628, 630, 629, 942, 943, 944, 945, 946, 948, 45, 949, 950, 952, 46, 953, 954, 956] (by decide +kernel)
set_option maxRecDepth 20000 in
theorem li_wsL_law_r29 : ∀ w ∈ wsL_law_r29, w ∈ lw_tbl := li_of [47, 957, 958, 960, 48, 961, 631, 632, 633, 634, 635, 636, 637, 638, 962, 963, 964, 965, 639, 640, 641, 642, 966, 967] (by decide +kernel)
set_option maxRecDepth 20000 in
theorem li_wsL_law_r30 : ∀ w ∈ wsL_law_r30, w ∈ lw_tbl := li_of [968, 969, 643, 644, 645, 646, 970, 971, 972, 973, 647, 648, 649, 650, 651, 652, 653, 654, 974, 975, 976, 977, 978, 980] (by decide +kernel)
set_option maxRecDepth 20000 in
theorem li_wsL_law_r31 : ∀ w ∈ wsL_law_r31, w ∈ lw_tbl := li_of [49, 981, 982, 984, 50, 985] (by decide +kernel)
set_option maxRecDepth 20000 in
theorem li_wsX70 : ∀ w ∈ wsX70, w ∈ lw_tbl := li_of [315, 317, 319, 321, 323, 325, 327] (by decide +kernel)
set_option maxRecDepth 20000 in
theorem li_wsX80 : ∀ w ∈ wsX80, w ∈ lw_tbl := li_of [686, 688, 690, 692, 694, 696, 698, 700, 702, 704, 706, 708, 710, 712, 714, 716, 718, 720, 722, 724, 726, 728, 730, 732, 734] (by decide +kernel)
set_option maxRecDepth 20000 in
theorem li_wsX50 : ∀ w ∈ wsX50, w ∈ lw_tbl := li_of [160, 162, 164, 166, 168, 170, 172, 174, 176, 178, 180] (by decide +kernel)
set_option maxRecDepth 20000 in
theorem li_wsX20 : ∀ w ∈ wsX20, w ∈ lw_tbl := li_of [195, 197] (by decide +kernel)
set_option maxRecDepth 20000 in
theorem li_wsX60 : ∀ w ∈ wsX60, w ∈ lw_tbl := li_of [212, 214] (by decide +kernel)
set_option maxRecDepth 20000 in
theorem li_wsX10 : ∀ w ∈ wsX10, w ∈ lw_tbl := li_of [233, 235, 237, 239] (by decide +kernel)
set_option maxRecDepth 20000 in
theorem li_wsX30 : ∀ w ∈ wsX30, w ∈ lw_tbl := li_of [277, 279, 281, 283, 285, 287, 289, 291, 293, 295, 297, 299, 301, 303, 305] (by decide +kernel)
set_option maxRecDepth 20000 in
theorem li_wsX40 : ∀ w ∈ wsX40, w ∈ lw_tbl := li_of [87] (by decide +kernel)
set_option maxRecDepth 20000 in
theorem li_wsX00 : ∀ w ∈ wsX00, w ∈ lw_tbl := li_of [114, 116, 118, 120, 122, 124] (by decide +kernel)
set_option maxRecDepth 20000 in
theorem li_nsF : ∀ w ∈ nsF, w ∈ lw_tbl := li_of [101, 102, 104, 105, 107, 108, 110, 112, 113, 132, 133, 135, 136, 138, 139, 141, 142, 144, 145, 147, 148, 150, 151, 153, 155, 157, 159, 194, 210, 211, 226, 228, 230, 232, 251, 255, 257, 259, 261, 263, 265, 267, 269, 271, 274, 276] (by decide +kernel)
set_option maxRecDepth 20000 in
theorem li_nsM : ∀ w ∈ nsM, w ∈ lw_tbl := li_of [202, 219, 244, 420, 422, 480] (by decide +kernel)
theorem li_AO : Cond.arrayOver (.object RX5) ∈ lw_tbl := List.mem_of_getElem? (i := 190) (by decide +kernel)
theorem wsL_law_in : ∀ w ∈ wsL_law, w ∈ lw_tbl := by
  unfold wsL_law
  exact List.forall_mem_append.mpr ⟨List.forall_mem_append.mpr ⟨List.forall_mem_append.mpr ⟨List.forall_mem_append.mpr ⟨List.forall_mem_append.mpr ⟨List.forall_mem_append.mpr ⟨List.forall_mem_append.mpr ⟨List.forall_mem_append.mpr ⟨List.forall_mem_append.mpr ⟨List.forall_mem_append.mpr ⟨List.forall_mem_append.mpr ⟨li_wsL_law_r1, List.forall_mem_append.mpr ⟨li_wsL_law_r2, List.forall_mem_append.mpr ⟨li_wsL_law_r3, List.forall_mem_append.mpr ⟨li_wsL_law_r4, List.forall_mem_append.mpr ⟨li_wsL_law_r5, List.forall_mem_append.mpr ⟨li_wsL_law_r6, List.forall_mem_append.mpr ⟨li_wsL_law_r7, List.forall_mem_append.mpr ⟨li_wsL_law_r8, List.forall_mem_append.mpr ⟨li_wsL_law_r9, List.forall_mem_append.mpr ⟨li_wsL_law_r10, List.forall_mem_append.mpr ⟨li_wsL_law_r11, List.forall_mem_append.mpr ⟨li_wsL_law_r12, List.forall_mem_append.mpr ⟨li_wsL_law_r13, List.forall_mem_append.mpr ⟨li_wsL_law_r14, List.forall_mem_append.mpr ⟨li_wsL_law_r15, List.forall_mem_append.mpr ⟨li_wsL_law_r16, List.forall_mem_append.mpr ⟨li_wsL_law_r17, List.forall_mem_append.mpr ⟨li_wsL_law_r18, List.forall_mem_append.mpr ⟨li_wsL_law_r19, List.forall_mem_append.mpr ⟨li_wsL_law_r20, List.forall_mem_append.mpr ⟨li_wsL_law_r21, List.forall_mem_append.mpr ⟨li_wsL_law_r22, List.forall_mem_append.mpr ⟨li_wsL_law_r23, List.forall_mem_append.mpr ⟨li_wsL_law_r24, List.forall_mem_append.mpr ⟨li_wsL_law_r25, List.forall_mem_append.mpr ⟨li_wsL_law_r26, List.forall_mem_append.mpr ⟨li_wsL_law_r27, List.forall_mem_append.mpr ⟨li_wsL_law_r28, List.forall_mem_append.mpr ⟨li_wsL_law_r29, List.forall_mem_append.mpr ⟨li_wsL_law_r30, li_wsL_law_r31⟩⟩⟩⟩⟩⟩⟩⟩⟩⟩⟩⟩⟩⟩⟩⟩⟩⟩⟩⟩⟩⟩⟩⟩⟩⟩⟩⟩⟩⟩, li_wsX70⟩, li_wsX80⟩, li_wsX50⟩, li_wsX20⟩, li_wsX60⟩, li_wsX10⟩, li_wsX30⟩, li_wsX40⟩, li_wsX00⟩, fun _ h => absurd h List.not_mem_nil⟩
end
