section
/-! the law: its words are the tables' -/
theorem li_of {ws : List Cond} (ps : List Nat) (h : ws = ps.filterMap (fun i => lw_tbl[i]?)) : ∀ w ∈ ws, w ∈ lw_tbl := fun w hw => by
  rw [h] at hw
  obtain ⟨i, -, hi⟩ := List.mem_filterMap.mp hw
  exact List.mem_of_getElem? hi
set_option maxRecDepth 20000 in
theorem li_wsL_law_r1 : ∀ w ∈ wsL_law_r1, w ∈ lw_tbl := li_of [63, 64, 52, 653, 654, 61, 65, 66, 67, 68, 69, 70, 71, 72, 53, 306, 307, 181, 182, 57, 308, 198, 199, 58] (by decide +kernel)
set_option maxRecDepth 20000 in
theorem li_wsL_law_r2 : ∀ w ∈ wsL_law_r2, w ∈ lw_tbl := li_of [309, 215, 216, 59, 310, 240, 241, 60, 311, 312, 73, 74, 75, 76, 77, 78, 54, 131, 133, 136, 138, 91, 92, 56] (by decide +kernel)
set_option maxRecDepth 20000 in
theorem li_wsL_law_r3 : ∀ w ∈ wsL_law_r3, w ∈ lw_tbl := li_of [141, 144, 147, 150, 152, 154, 156, 79, 80, 81, 82, 83, 84, 55, 85, 90, 86, 93, 94, 95, 96, 111, 99, 97] (by decide +kernel)
set_option maxRecDepth 20000 in
theorem li_wsL_law_r4 : ∀ w ∈ wsL_law_r4, w ∈ lw_tbl := li_of [100, 103, 106, 109, 98, 127, 128, 129, 130, 183, 184, 185, 186, 187, 190, 191, 189, 201, 202, 203, 204, 206, 207, 205] (by decide +kernel)
set_option maxRecDepth 20000 in
theorem li_wsL_law_r5 : ∀ w ∈ wsL_law_r5, w ∈ lw_tbl := li_of [218, 219, 220, 221, 223, 225, 227, 229, 222, 243, 244, 245, 246, 248, 250, 251, 252, 254, 256, 258, 260, 262, 264, 266] (by decide +kernel)
set_option maxRecDepth 20000 in
theorem li_wsL_law_r6 : ∀ w ∈ wsL_law_r6, w ∈ lw_tbl := li_of [268, 270, 271, 273, 247, 655, 656, 657, 658, 659, 660, 661, 662, 664, 666, 667, 668, 669, 670, 671, 672, 673, 674, 677] (by decide +kernel)
set_option maxRecDepth 20000 in
theorem li_wsL_law_r7 : ∀ w ∈ wsL_law_r7, w ∈ lw_tbl := li_of [678, 682, 328, 329, 330, 331, 332, 333, 334, 335, 336, 337, 338, 339, 340, 341, 342, 343, 344, 345, 346, 347, 348, 349] (by decide +kernel)
set_option maxRecDepth 20000 in
theorem li_wsL_law_r8 : ∀ w ∈ wsL_law_r8, w ∈ lw_tbl := li_of [350, 351, 352, 353, 355, 0, 356, 357, 359, 1, 360, 361, 362, 363, 364, 365, 366, 367, 368, 369, 370, 371, 372, 374] (by decide +kernel)
set_option maxRecDepth 20000 in
theorem li_wsL_law_r9 : ∀ w ∈ wsL_law_r9, w ∈ lw_tbl := li_of [373, 62, 375, 376, 377, 378, 380, 379, 381, 735, 736, 737, 738, 739, 740, 741, 742, 743, 744, 745, 746, 747, 748, 749] (by decide +kernel)
set_option maxRecDepth 20000 in
theorem li_wsL_law_r10 : ∀ w ∈ wsL_law_r10, w ∈ lw_tbl := li_of [750, 751, 753, 18, 754, 755, 757, 19, 758, 759, 760, 761, 762, 764, 20, 765, 663, 382, 383, 384, 385, 766, 767, 768] (by decide +kernel)
set_option maxRecDepth 20000 in
theorem li_wsL_law_r11 : ∀ w ∈ wsL_law_r11, w ∈ lw_tbl := li_of [769, 770, 772, 21, 773, 386, 387, 388, 389, 774, 775, 776, 777, 778, 780, 22, 781, 390, 391, 392, 393, 782, 783, 784] (by decide +kernel)
set_option maxRecDepth 20000 in
theorem li_wsL_law_r12 : ∀ w ∈ wsL_law_r12, w ∈ lw_tbl := li_of [785, 786, 394, 395, 396, 397, 398, 399, 400, 401, 402, 403, 405, 2, 406, 407, 409, 3, 410, 411, 412, 413, 414, 415] (by decide +kernel)
set_option maxRecDepth 20000 in
theorem li_wsL_law_r13 : ∀ w ∈ wsL_law_r13, w ∈ lw_tbl := li_of [416, 417, 419, 421, 423, 4, 424, 425, 427, 5, 428, 429, 430, 431, 432, 433, 434, 435, 436, 437, 438, 439, 440, 441] (by decide +kernel)
set_option maxRecDepth 20000 in
theorem li_wsL_law_r14 : ∀ w ∈ wsL_law_r14, w ∈ lw_tbl := li_of [442, 443, 445, 6, 446, 447, 449, 7, 450, 451, 453, 8, 454, 455, 456, 457, 458, 459, 460, 461, 795, 796, 797, 798] (by decide +kernel)
set_option maxRecDepth 20000 in
theorem li_wsL_law_r15 : ∀ w ∈ wsL_law_r15, w ∈ lw_tbl := li_of [683, 799, 801, 23, 802, 680, 679, 803, 805, 24, 806, 681, 807, 809, 25, 810, 811, 813, 26, 814, 815, 817, 27, 818] (by decide +kernel)
set_option maxRecDepth 20000 in
theorem li_wsL_law_r16 : ∀ w ∈ wsL_law_r16, w ∈ lw_tbl := li_of [819, 821, 28, 822, 823, 825, 29, 826, 827, 829, 30, 830, 831, 832, 833, 834, 836, 31, 837, 838, 840, 32, 841, 462] (by decide +kernel)
set_option maxRecDepth 20000 in
theorem li_wsL_law_r17 : ∀ w ∈ wsL_law_r17, w ∈ lw_tbl := li_of [463, 464, 465, 466, 467, 468, 469, 842, 843, 844, 845, 846, 848, 33, 849, 850, 852, 34, 853, 470, 471, 472, 473, 474] (by decide +kernel)
set_option maxRecDepth 20000 in
theorem li_wsL_law_r18 : ∀ w ∈ wsL_law_r18, w ∈ lw_tbl := li_of [475, 476, 477, 479, 480, 481, 482, 483, 485, 9, 486, 487, 488, 489, 490, 491, 492, 493, 494, 495, 854, 855, 856, 857] (by decide +kernel)
set_option maxRecDepth 20000 in
theorem li_wsL_law_r19 : ∀ w ∈ wsL_law_r19, w ∈ lw_tbl := li_of [862, 863, 858, 859, 860, 861, 864, 866, 35, 867, 868, 869, 871, 36, 872, 873, 875, 37, 876, 496, 497, 498, 499, 500] (by decide +kernel)
set_option maxRecDepth 20000 in
theorem li_wsL_law_r20 : ∀ w ∈ wsL_law_r20, w ∈ lw_tbl := li_of [501, 502, 503, 877, 878, 879, 880, 504, 505, 506, 507, 508, 510, 10, 511, 512, 513, 514, 515, 516, 517, 518, 519, 520] (by decide +kernel)
set_option maxRecDepth 20000 in
theorem li_wsL_law_r21 : ∀ w ∈ wsL_law_r21, w ∈ lw_tbl := li_of [521, 522, 523, 524, 525, 526, 527, 529, 11, 530, 531, 533, 12, 534, 535, 537, 13, 538, 539, 540, 541, 542, 544, 14] (by decide +kernel)
set_option maxRecDepth 20000 in
theorem li_wsL_law_r22 : ∀ w ∈ wsL_law_r22, w ∈ lw_tbl := li_of [545, 546, 548, 15, 549, 550, 552, 16, 553, 554, 555, 556, 557, 558, 559, 561, 17, 562, 563, 881, 882, 883, 884, 675] (by decide +kernel)
set_option maxRecDepth 20000 in
theorem li_wsL_law_r23 : ∀ w ∈ wsL_law_r23, w ∈ lw_tbl := li_of [676, 885, 887, 38, 888, 889, 891, 39, 892, 893, 895, 40, 896, 897, 898, 899, 900, 902, 41, 903, 564, 565, 566, 567] (by decide +kernel)
set_option maxRecDepth 20000 in
theorem li_wsL_law_r24 : ∀ w ∈ wsL_law_r24, w ∈ lw_tbl := li_of [568, 569, 570, 571, 572, 787, 788, 789, 790, 573, 574, 575, 576, 791, 792, 793, 794, 577, 578, 579, 580, 581, 582, 583] (by decide +kernel)
set_option maxRecDepth 20000 in
theorem li_wsL_law_r25 : ∀ w ∈ wsL_law_r25, w ∈ lw_tbl := li_of [584, 904, 905, 906, 907, 585, 586, 587, 588, 589, 908, 909, 910, 911, 665, 590, 591, 592, 593, 912, 913, 914, 915, 594] (by decide +kernel)
set_option maxRecDepth 20000 in
theorem li_wsL_law_r26 : ∀ w ∈ wsL_law_r26, w ∈ lw_tbl := li_of [595, 596, 597, 606, 598, 599, 600, 601, 602, 603, 604, 605, 916, 917, 918, 919, 920, 922, 42, 923, 924, 926, 43, 927] (by decide +kernel)
set_option maxRecDepth 20000 in
theorem li_wsL_law_r27 : ∀ w ∈ wsL_law_r27, w ∈ lw_tbl := li_of [928, 930, 44, 931, 607, 608, 609, 610, 932, 933, 934, 935, 611, 612, 613, 614, 936, 937, 938, 939, 615, 616, 617, 618] (by decide +kernel)
set_option maxRecDepth 20000 in
theorem li_wsL_law_r28 : ∀ w ∈ wsL_law_r28, w ∈ lw_tbl := li_of [619, 620, 621, 622, 623, 624, 625, 626, 628, 627, 940, 941, 942, 943, 944, 946, 45, 947, 948, 950, 46, 951, 952, 954] (by decide +kernel)
set_option maxRecDepth 20000 in
theorem li_wsL_law_r29 : ∀ w ∈ wsL_law_r29, w ∈ lw_tbl := li_of [47, 955, 956, 958, 48, 959, 629, 630, 631, 632, 633, 634, 635, 636, 960, 961, 962, 963, 637, 638, 639, 640, 964, 965] (by decide +kernel)
set_option maxRecDepth 20000 in
theorem li_wsL_law_r30 : ∀ w ∈ wsL_law_r30, w ∈ lw_tbl := li_of [966, 967, 641, 642, 643, 644, 968, 969, 970, 971, 645, 646, 647, 648, 649, 650, 651, 652, 972, 973, 974, 975, 976, 978] (by decide +kernel)
set_option maxRecDepth 20000 in
theorem li_wsL_law_r31 : ∀ w ∈ wsL_law_r31, w ∈ lw_tbl := li_of [49, 979, 980, 982, 50, 983] (by decide +kernel)
set_option maxRecDepth 20000 in
theorem li_wsX70 : ∀ w ∈ wsX70, w ∈ lw_tbl := li_of [313, 315, 317, 319, 321, 323, 325] (by decide +kernel)
set_option maxRecDepth 20000 in
theorem li_wsX80 : ∀ w ∈ wsX80, w ∈ lw_tbl := li_of [684, 686, 688, 690, 692, 694, 696, 698, 700, 702, 704, 706, 708, 710, 712, 714, 716, 718, 720, 722, 724, 726, 728, 730, 732] (by decide +kernel)
set_option maxRecDepth 20000 in
theorem li_wsX50 : ∀ w ∈ wsX50, w ∈ lw_tbl := li_of [158, 160, 162, 164, 166, 168, 170, 172, 174, 176, 178] (by decide +kernel)
set_option maxRecDepth 20000 in
theorem li_wsX20 : ∀ w ∈ wsX20, w ∈ lw_tbl := li_of [193, 195] (by decide +kernel)
set_option maxRecDepth 20000 in
theorem li_wsX60 : ∀ w ∈ wsX60, w ∈ lw_tbl := li_of [210, 212] (by decide +kernel)
set_option maxRecDepth 20000 in
theorem li_wsX10 : ∀ w ∈ wsX10, w ∈ lw_tbl := li_of [231, 233, 235, 237] (by decide +kernel)
set_option maxRecDepth 20000 in
theorem li_wsX30 : ∀ w ∈ wsX30, w ∈ lw_tbl := li_of [275, 277, 279, 281, 283, 285, 287, 289, 291, 293, 295, 297, 299, 301, 303] (by decide +kernel)
set_option maxRecDepth 20000 in
theorem li_wsX40 : ∀ w ∈ wsX40, w ∈ lw_tbl := li_of [87] (by decide +kernel)
set_option maxRecDepth 20000 in
theorem li_wsX00 : ∀ w ∈ wsX00, w ∈ lw_tbl := li_of [114, 116, 118, 120, 122, 124] (by decide +kernel)
set_option maxRecDepth 20000 in
theorem li_nsF : ∀ w ∈ nsF, w ∈ lw_tbl := li_of [101, 102, 104, 105, 107, 108, 110, 112, 113, 132, 134, 135, 137, 139, 140, 142, 143, 145, 146, 148, 149, 151, 153, 155, 157, 192, 208, 209, 224, 226, 228, 230, 249, 253, 255, 257, 259, 261, 263, 265, 267, 269, 272, 274] (by decide +kernel)
set_option maxRecDepth 20000 in
theorem li_nsM : ∀ w ∈ nsM, w ∈ lw_tbl := li_of [200, 217, 242, 418, 420, 478] (by decide +kernel)
theorem li_AO : Cond.arrayOver (.object RX5) ∈ lw_tbl := List.mem_of_getElem? (i := 188) (by decide +kernel)
theorem wsL_law_in : ∀ w ∈ wsL_law, w ∈ lw_tbl := by
  unfold wsL_law
  exact List.forall_mem_append.mpr ⟨List.forall_mem_append.mpr ⟨List.forall_mem_append.mpr ⟨List.forall_mem_append.mpr ⟨List.forall_mem_append.mpr ⟨List.forall_mem_append.mpr ⟨List.forall_mem_append.mpr ⟨List.forall_mem_append.mpr ⟨List.forall_mem_append.mpr ⟨List.forall_mem_append.mpr ⟨List.forall_mem_append.mpr ⟨li_wsL_law_r1, List.forall_mem_append.mpr ⟨li_wsL_law_r2, List.forall_mem_append.mpr ⟨li_wsL_law_r3, List.forall_mem_append.mpr ⟨li_wsL_law_r4, List.forall_mem_append.mpr ⟨li_wsL_law_r5, List.forall_mem_append.mpr ⟨li_wsL_law_r6, List.forall_mem_append.mpr ⟨li_wsL_law_r7, List.forall_mem_append.mpr ⟨li_wsL_law_r8, List.forall_mem_append.mpr ⟨li_wsL_law_r9, List.forall_mem_append.mpr ⟨li_wsL_law_r10, List.forall_mem_append.mpr ⟨li_wsL_law_r11, List.forall_mem_append.mpr ⟨li_wsL_law_r12, List.forall_mem_append.mpr ⟨li_wsL_law_r13, List.forall_mem_append.mpr ⟨li_wsL_law_r14, List.forall_mem_append.mpr ⟨li_wsL_law_r15, List.forall_mem_append.mpr ⟨li_wsL_law_r16, List.forall_mem_append.mpr ⟨li_wsL_law_r17, List.forall_mem_append.mpr ⟨li_wsL_law_r18, List.forall_mem_append.mpr ⟨li_wsL_law_r19, List.forall_mem_append.mpr ⟨li_wsL_law_r20, List.forall_mem_append.mpr ⟨li_wsL_law_r21, List.forall_mem_append.mpr ⟨li_wsL_law_r22, List.forall_mem_append.mpr ⟨li_wsL_law_r23, List.forall_mem_append.mpr ⟨li_wsL_law_r24, List.forall_mem_append.mpr ⟨li_wsL_law_r25, List.forall_mem_append.mpr ⟨li_wsL_law_r26, List.forall_mem_append.mpr ⟨li_wsL_law_r27, List.forall_mem_append.mpr ⟨li_wsL_law_r28, List.forall_mem_append.mpr ⟨li_wsL_law_r29, List.forall_mem_append.mpr ⟨li_wsL_law_r30, li_wsL_law_r31⟩⟩⟩⟩⟩⟩⟩⟩⟩⟩⟩⟩⟩⟩⟩⟩⟩⟩⟩⟩⟩⟩⟩⟩⟩⟩⟩⟩⟩⟩, li_wsX70⟩, li_wsX80⟩, li_wsX50⟩, li_wsX20⟩, li_wsX60⟩, li_wsX10⟩, li_wsX30⟩, li_wsX40⟩, li_wsX00⟩, fun _ h => absurd h List.not_mem_nil⟩
end
