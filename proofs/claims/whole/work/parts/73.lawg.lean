/-! the law: the words of the methods that it calls -/
theorem inlX0 : ∀ w ∈ wsX00, w ∈ wsL_law := fun _ h => List.mem_append_left _ (List.mem_append_right _ h)
theorem inlX1 : ∀ w ∈ wsX10, w ∈ wsL_law := fun _ h => List.mem_append_left _ (List.mem_append_left _ (List.mem_append_left _ (List.mem_append_left _ (List.mem_append_right _ h))))
theorem inlX2 : ∀ w ∈ wsX20, w ∈ wsL_law := fun _ h => List.mem_append_left _ (List.mem_append_left _ (List.mem_append_left _ (List.mem_append_left _ (List.mem_append_left _ (List.mem_append_left _ (List.mem_append_right _ h))))))
theorem inlX3 : ∀ w ∈ wsX30, w ∈ wsL_law := fun _ h => List.mem_append_left _ (List.mem_append_left _ (List.mem_append_left _ (List.mem_append_right _ h)))
theorem inlX4 : ∀ w ∈ wsX40, w ∈ wsL_law := fun _ h => List.mem_append_left _ (List.mem_append_left _ (List.mem_append_right _ h))
theorem inlX5 : ∀ w ∈ wsX50, w ∈ wsL_law := fun _ h => List.mem_append_left _ (List.mem_append_left _ (List.mem_append_left _ (List.mem_append_left _ (List.mem_append_left _ (List.mem_append_left _ (List.mem_append_left _ (List.mem_append_right _ h)))))))
theorem inlX6 : ∀ w ∈ wsX60, w ∈ wsL_law := fun _ h => List.mem_append_left _ (List.mem_append_left _ (List.mem_append_left _ (List.mem_append_left _ (List.mem_append_left _ (List.mem_append_right _ h)))))
theorem inlX7 : ∀ w ∈ wsX70, w ∈ wsL_law := fun _ h => List.mem_append_left _ (List.mem_append_left _ (List.mem_append_left _ (List.mem_append_left _ (List.mem_append_left _ (List.mem_append_left _ (List.mem_append_left _ (List.mem_append_left _ (List.mem_append_left _ (List.mem_append_right _ h)))))))))
theorem inlX8 : ∀ w ∈ wsX80, w ∈ wsL_law := fun _ h => List.mem_append_left _ (List.mem_append_left _ (List.mem_append_left _ (List.mem_append_left _ (List.mem_append_left _ (List.mem_append_left _ (List.mem_append_left _ (List.mem_append_left _ (List.mem_append_right _ h))))))))
set_option maxRecDepth 20000 in
theorem ggL_law_X7_init : GoodIn wsL_law wsX7_init := goodIn_r _ [8, 9, 10, 11, 12, 13, 14, 15, 16, 17, 18, 19, 20, 21, 22, 23, 24, 25, 26, 27, 28, 29, 30, 31, 32, 33, 34, 35, 36, 37, 38, 39, 40, 41, 42, 43, 44, 45, 46, 47, 48, 49, 50, 51, 52, 53, 54, 55, 56, 57, 58, 59, 60, 61, 62, 63, 64, 65, 66, 67, 68, 69, 70, 71, 72, 73, 74, 75, 76, 77, 78, 79, 80, 81, 82, 83, 84, 85, 86, 87, 88, 89, 90, 91, 92, 93, 94, 95, 96, 97, 98, 99, 100, 101, 102, 103, 104, 105, 106, 107, 108, 109, 110, 111, 112, 113, 114, 115, 116, 117, 118, 119, 120, 121, 122, 123, 124, 758, 759, 760, 761, 762, 763, 764, 765, 766, 767, 768, 726, 727, 728, 729, 730, 731, 732, 769, 770, 771, 772, 773, 774, 775, 776, 777, 778, 779, 780, 781, 782, 783, 784, 785, 786, 787, 788, 789, 790, 791, 792, 793, 794, 795, 796, 797, 798] (by decide +kernel) (by decide +kernel)
set_option maxRecDepth 20000 in
theorem gL_law_X7_init : GoodIn wsL_law (wsX7_init) := ggL_law_X7_init
set_option maxRecDepth 20000 in
theorem ggL_law_X8_init : GoodIn wsL_law wsX8_init := goodIn_r _ [127, 128, 10, 11, 63, 129, 130, 131, 132, 133, 134, 135, 136, 137, 138, 139, 140, 141, 142, 143, 144, 145, 733, 734, 735, 736, 737, 738, 739, 740, 741, 742, 743, 744, 745, 746, 747, 748, 749, 750, 751, 752, 753, 754, 755, 756, 757] (by decide +kernel) (by decide +kernel)
set_option maxRecDepth 20000 in
theorem gL_law_X8_init : GoodIn wsL_law (wsX8_init) := ggL_law_X8_init
set_option maxRecDepth 20000 in
theorem ggL_law_X7_setSound : GoodIn wsL_law wsX7_setSound := goodIn_r _ [149, 15, 20, 150, 151, 2, 152, 153, 154, 155, 156, 157, 158, 159, 160, 161, 14, 162, 41, 42, 43, 163, 164, 165, 40, 166, 64, 167, 168, 169, 19, 170, 87, 86, 171, 172, 173, 174, 175, 176, 177, 178, 179, 180, 181, 182, 44, 48, 49, 50, 51, 52, 53, 54, 183, 184, 185, 186, 187, 188, 61, 189, 190, 191, 192, 193, 194, 195, 196, 47, 197, 72, 73, 74, 75, 69, 70, 198, 199, 200, 78, 79, 80, 726, 727, 728, 729, 730, 731, 732, 758, 759, 760, 761, 762, 763, 764, 765, 766, 767, 768, 792, 769, 770, 793, 794, 795, 796, 797, 798] (by decide +kernel) (by decide +kernel)
set_option maxRecDepth 20000 in
theorem gL_law_X7_setSound : GoodIn wsL_law (wsV RL 13 RX7 yX7_setSound wsX7_setSound) := goodIn_app (goodIn_of _ (by decide +kernel)) ggL_law_X7_setSound
set_option maxRecDepth 20000 in
theorem ggL_law_X8_setSound : GoodIn wsL_law wsX8_setSound := goodIn_r _ [204, 205, 206, 5, 207, 208, 209, 210, 211, 212, 213, 214, 215, 216, 217, 218, 219, 220, 129, 221, 222, 223, 224, 130, 225, 226, 227, 228, 229, 230, 231, 232, 132, 733, 734, 735, 736, 737, 738, 739, 740, 741, 742, 743, 744, 745, 746, 747, 748, 749, 750, 751, 752, 753, 754, 755, 756, 757] (by decide +kernel) (by decide +kernel)
set_option maxRecDepth 20000 in
theorem gL_law_X8_setSound : GoodIn wsL_law (wsV RL 17 RX8 yX8_setSound wsX8_setSound) := goodIn_app (goodIn_of _ (by decide +kernel)) ggL_law_X8_setSound
set_option maxRecDepth 20000 in
theorem ggL_law_X7_setHands : GoodIn wsL_law wsX7_setHands := goodIn_r _ [236, 15, 20, 156, 157, 2, 158, 167, 168, 169, 19, 170, 87, 86, 171, 172, 173, 174, 175, 176, 177, 178, 179, 180, 181, 14, 182, 41, 42, 43, 44, 48, 49, 50, 51, 52, 53, 54, 183, 184, 185, 40, 186, 64, 187, 188, 61, 189, 190, 191, 192, 193, 194, 195, 196, 47, 197, 72, 73, 74, 75, 69, 70, 198, 199, 200, 78, 79, 80, 726, 727, 728, 729, 730, 731, 732, 758, 759, 760, 761, 762, 763, 764, 765, 766, 767, 768, 769, 770, 792, 793, 794, 795, 796, 797, 798] (by decide +kernel) (by decide +kernel)
set_option maxRecDepth 20000 in
theorem gL_law_X7_setHands : GoodIn wsL_law (wsV RL 18 RX7 yX7_setHands wsX7_setHands) := goodIn_app (goodIn_of _ (by decide +kernel)) ggL_law_X7_setHands
set_option maxRecDepth 20000 in
theorem ggL_law_X8_setHands : GoodIn wsL_law wsX8_setHands := goodIn_r _ [240, 215, 129, 209, 210, 5, 211, 221, 222, 223, 224, 130, 225, 226, 227, 241, 242, 243, 244, 228, 229, 230, 231, 232, 132, 733, 734, 735, 736, 737, 738, 739, 740, 741, 742, 743, 744, 745, 746, 747, 748, 749, 750, 751, 752, 753, 754, 755, 756, 757] (by decide +kernel) (by decide +kernel)
set_option maxRecDepth 20000 in
theorem gL_law_X8_setHands : GoodIn wsL_law (wsV RL 22 RX8 yX8_setHands wsX8_setHands) := goodIn_app (goodIn_of _ (by decide +kernel)) ggL_law_X8_setHands
set_option maxRecDepth 20000 in
theorem ggL_law_X7_send : GoodIn wsL_law wsX7_send := goodIn_r _ [248, 15, 20, 150, 151, 2, 152, 163, 164, 165, 40, 166, 64, 167, 168, 169, 19, 170, 87, 86, 171, 172, 173, 174, 175, 176, 177, 178, 179, 180, 181, 14, 182, 41, 42, 43, 44, 48, 49, 50, 51, 52, 53, 54, 183, 184, 185, 186, 187, 188, 61, 189, 190, 191, 192, 193, 194, 195, 196, 47, 197, 72, 73, 74, 75, 69, 70, 198, 199, 200, 78, 79, 80, 726, 727, 728, 729, 730, 731, 732, 758, 759, 760, 761, 762, 763, 764, 765, 766, 767, 768, 792, 769, 770, 793, 794, 795, 796, 797, 798] (by decide +kernel) (by decide +kernel)
set_option maxRecDepth 20000 in
theorem gL_law_X7_send : GoodIn wsL_law (wsV RL 23 RX7 yX7_send wsX7_send) := goodIn_app (goodIn_of _ (by decide +kernel)) ggL_law_X7_send
set_option maxRecDepth 20000 in
theorem ggL_law_X8_send : GoodIn wsL_law wsX8_send := goodIn_r _ [252, 215, 253, 254, 255, 5, 256, 129, 209, 210, 211, 217, 218, 219, 220, 221, 222, 223, 224, 130, 225, 226, 227, 228, 229, 230, 231, 232, 132, 733, 734, 735, 736, 737, 738, 739, 740, 741, 742, 743, 744, 745, 746, 747, 748, 749, 750, 751, 752, 753, 754, 755, 756, 757] (by decide +kernel) (by decide +kernel)
set_option maxRecDepth 20000 in
theorem gL_law_X8_send : GoodIn wsL_law (wsV RL 27 RX8 yX8_send wsX8_send) := goodIn_app (goodIn_of _ (by decide +kernel)) ggL_law_X8_send
set_option maxRecDepth 20000 in
theorem ggL_law_X7_setCarrying : GoodIn wsL_law wsX7_setCarrying := goodIn_r _ [260, 15, 20, 156, 157, 2, 158, 167, 168, 169, 19, 170, 87, 86, 171, 172, 173, 174, 175, 176, 177, 178, 179, 180, 181, 14, 182, 41, 42, 43, 44, 48, 49, 50, 51, 52, 53, 54, 183, 184, 185, 40, 186, 64, 187, 188, 61, 189, 190, 191, 192, 193, 194, 195, 196, 47, 197, 72, 73, 74, 75, 69, 70, 198, 199, 726, 727, 728, 729, 730, 731, 732, 758, 759, 760, 761, 762, 763, 764, 765, 766, 767, 768, 769, 770, 792, 793, 794, 795, 796, 797, 798] (by decide +kernel) (by decide +kernel)
set_option maxRecDepth 20000 in
theorem gL_law_X7_setCarrying : GoodIn wsL_law (wsV RL 28 RX7 yX7_setCarrying wsX7_setCarrying) := goodIn_app (goodIn_of _ (by decide +kernel)) ggL_law_X7_setCarrying
set_option maxRecDepth 20000 in
theorem ggL_law_X8_setCarrying : GoodIn wsL_law wsX8_setCarrying := goodIn_r _ [264, 265, 209, 210, 5, 211, 217, 218, 219, 220, 129, 221, 222, 223, 224, 130, 225, 226, 227, 228, 229, 230, 231, 232, 132, 733, 734, 735, 736, 737, 738, 739, 740, 741, 742, 743, 744, 745, 746, 747, 748, 749, 750, 751, 752, 753, 754, 755, 756, 757] (by decide +kernel) (by decide +kernel)
set_option maxRecDepth 20000 in
theorem gL_law_X8_setCarrying : GoodIn wsL_law (wsV RL 31 RX8 yX8_setCarrying wsX8_setCarrying) := goodIn_app (goodIn_of _ (by decide +kernel)) ggL_law_X8_setCarrying
set_option maxRecDepth 20000 in
theorem ggL_law_X7_readCues : GoodIn wsL_law wsX7_readCues := goodIn_r _ [269, 28, 15, 24, 20, 270, 271, 272, 27, 273, 100, 101, 102, 103, 274, 195, 196, 47, 197, 72, 73, 74, 75, 69, 70, 198, 188, 61, 189, 199, 184, 185, 40, 186, 64, 187, 190, 191, 192, 193, 275, 276, 277, 278, 279, 280, 281, 282, 283, 284, 285, 286, 287, 288, 23, 289, 94, 93, 151, 2, 152, 290, 164, 165, 166, 157, 158, 291, 292, 293, 294, 295, 296, 297, 298, 299, 300, 301, 302, 303, 304, 305, 306, 307, 308, 78, 79, 80, 309, 310, 311, 312, 313, 314, 315, 316, 317, 318, 319, 320, 321, 322, 323, 324, 325, 326, 327, 328, 329, 330, 167, 168, 169, 19, 170, 87, 86, 171, 172, 173, 174, 175, 176, 177, 178, 179, 180, 181, 14, 182, 41, 42, 43, 44, 48, 49, 50, 51, 52, 53, 54, 183, 194, 331, 726, 727, 728, 729, 730, 731, 732, 758, 759, 760, 761, 762, 763, 764, 765, 766, 767, 768, 773, 774, 775, 776, 793, 794, 795, 796, 797, 798, 771, 772, 792, 769, 770] (by decide +kernel) (by decide +kernel)
set_option maxRecDepth 20000 in
theorem gL_law_X7_readCues : GoodIn wsL_law (wsV RL 32 RX7 yX7_readCues wsX7_readCues) := goodIn_app (goodIn_of _ (by decide +kernel)) ggL_law_X7_readCues
set_option maxRecDepth 20000 in
theorem ggL_law_X8_readCues : GoodIn wsL_law wsX8_readCues := goodIn_r _ [335, 336, 129, 145, 337, 338, 339, 5, 340, 341, 342, 343, 344, 345, 346, 347, 348, 349, 350, 351, 144, 352, 353, 354, 355, 209, 210, 211, 356, 357, 358, 359, 360, 361, 362, 363, 364, 365, 366, 367, 368, 369, 370, 371, 372, 373, 374, 375, 376, 377, 378, 221, 222, 223, 224, 130, 225, 226, 227, 379, 380, 381, 382, 228, 229, 230, 231, 232, 132, 733, 734, 735, 736, 737, 738, 739, 740, 741, 742, 743, 744, 745, 746, 747, 748, 749, 750, 751, 752, 753, 754, 755, 756, 757] (by decide +kernel) (by decide +kernel)
set_option maxRecDepth 20000 in
theorem gL_law_X8_readCues : GoodIn wsL_law (wsV RL 36 RX8 yX8_readCues wsX8_readCues) := goodIn_app (goodIn_of _ (by decide +kernel)) ggL_law_X8_readCues
set_option maxRecDepth 20000 in
theorem ggL_law_X7_removeCue : GoodIn wsL_law wsX7_removeCue := goodIn_r _ [386, 15, 20, 150, 151, 2, 152, 167, 168, 169, 19, 170, 87, 86, 171, 172, 173, 174, 175, 176, 177, 178, 179, 180, 181, 14, 182, 41, 42, 43, 44, 48, 49, 50, 51, 52, 53, 54, 183, 184, 185, 40, 186, 64, 187, 188, 61, 189, 190, 191, 192, 193, 194, 195, 196, 47, 197, 72, 73, 74, 75, 69, 70, 198, 199, 387, 388, 389, 390, 321, 322, 323, 324, 325, 326, 327, 328, 329, 164, 165, 166, 330, 78, 79, 80, 726, 727, 728, 729, 730, 731, 732, 758, 759, 760, 761, 762, 763, 764, 765, 766, 767, 768, 793, 794, 795, 796, 797, 798, 769, 770, 792] (by decide +kernel) (by decide +kernel)
set_option maxRecDepth 20000 in
theorem gL_law_X7_removeCue : GoodIn wsL_law (wsV RL 37 RX7 yX7_removeCue wsX7_removeCue) := goodIn_app (goodIn_of _ (by decide +kernel)) ggL_law_X7_removeCue
set_option maxRecDepth 20000 in
theorem ggL_law_X8_removeCue : GoodIn wsL_law wsX8_removeCue := goodIn_r _ [394, 129, 395, 396, 397, 5, 398, 209, 210, 211, 221, 222, 223, 224, 130, 225, 226, 227, 399, 400, 401, 402, 228, 229, 230, 231, 232, 132, 733, 734, 735, 736, 737, 738, 739, 740, 741, 742, 743, 744, 745, 746, 747, 748, 749, 750, 751, 752, 753, 754, 755, 756, 757] (by decide +kernel) (by decide +kernel)
set_option maxRecDepth 20000 in
theorem gL_law_X8_removeCue : GoodIn wsL_law (wsV RL 40 RX8 yX8_removeCue wsX8_removeCue) := goodIn_app (goodIn_of _ (by decide +kernel)) ggL_law_X8_removeCue
set_option maxRecDepth 20000 in
theorem ggL_law_X7_shift : GoodIn wsL_law wsX7_shift := goodIn_r _ [406, 15, 20, 150, 151, 2, 152, 156, 157, 158, 407, 408, 409, 47, 410, 69, 73, 72, 303, 164, 165, 40, 166, 64, 411, 412, 413, 414, 415, 416, 417, 418, 167, 168, 169, 19, 170, 87, 86, 171, 172, 173, 174, 175, 176, 177, 178, 179, 180, 181, 14, 182, 41, 42, 43, 44, 48, 49, 50, 51, 52, 53, 54, 183, 184, 185, 186, 187, 188, 61, 189, 190, 191, 192, 193, 194, 195, 196, 197, 74, 75, 70, 198, 199, 419, 420, 421, 422, 423, 424, 425, 426, 329, 330, 78, 79, 80, 427, 310, 311, 312, 313, 314, 315, 316, 317, 318, 319, 320, 321, 322, 323, 324, 325, 326, 327, 328, 726, 727, 728, 729, 730, 731, 732, 758, 759, 760, 761, 762, 763, 764, 765, 766, 767, 768, 793, 794, 795, 796, 797, 798, 792, 769, 770] (by decide +kernel) (by decide +kernel)
set_option maxRecDepth 20000 in
theorem gL_law_X7_shift : GoodIn wsL_law (wsV RL 41 RX7 yX7_shift wsX7_shift) := goodIn_app (goodIn_of _ (by decide +kernel)) ggL_law_X7_shift
set_option maxRecDepth 20000 in
theorem ggL_law_X8_shift : GoodIn wsL_law wsX8_shift := goodIn_r _ [431, 432, 433, 130, 434, 435, 5, 436, 437, 209, 210, 211, 438, 439, 440, 441, 129, 442, 368, 369, 370, 371, 443, 444, 445, 446, 221, 222, 223, 224, 225, 226, 227, 447, 448, 449, 450, 399, 400, 401, 402, 379, 380, 381, 382, 364, 365, 366, 367, 372, 373, 374, 228, 229, 230, 231, 232, 132, 733, 734, 735, 736, 737, 738, 739, 740, 741, 742, 743, 744, 745, 746, 747, 748, 749, 750, 751, 752, 753, 754, 755, 756, 757] (by decide +kernel) (by decide +kernel)
set_option maxRecDepth 20000 in
theorem gL_law_X8_shift : GoodIn wsL_law (wsV RL 44 RX8 yX8_shift wsX8_shift) := goodIn_app (goodIn_of _ (by decide +kernel)) ggL_law_X8_shift
set_option maxRecDepth 20000 in
theorem ggL_law_X7_cutScene : GoodIn wsL_law wsX7_cutScene := goodIn_r _ [454, 15, 20, 150, 151, 2, 152, 411, 412, 413, 47, 414, 73, 415, 416, 417, 418, 69, 303, 164, 165, 40, 166, 64, 167, 168, 169, 19, 170, 87, 86, 171, 172, 173, 174, 175, 176, 177, 178, 179, 180, 181, 14, 182, 41, 42, 43, 44, 48, 49, 50, 51, 52, 53, 54, 183, 184, 185, 186, 187, 188, 61, 189, 190, 191, 192, 193, 194, 195, 196, 197, 72, 74, 75, 70, 198, 199, 455, 456, 457, 458, 321, 322, 323, 324, 325, 326, 327, 328, 329, 330, 78, 79, 80, 726, 727, 728, 729, 730, 731, 732, 758, 759, 760, 761, 762, 763, 764, 765, 766, 767, 768, 793, 794, 795, 796, 797, 798, 792, 769, 770] (by decide +kernel) (by decide +kernel)
set_option maxRecDepth 20000 in
theorem gL_law_X7_cutScene : GoodIn wsL_law (wsV RL 45 RX7 yX7_cutScene wsX7_cutScene) := goodIn_app (goodIn_of _ (by decide +kernel)) ggL_law_X7_cutScene
set_option maxRecDepth 20000 in
theorem ggL_law_X8_cutScene : GoodIn wsL_law wsX8_cutScene := goodIn_r _ [462, 434, 435, 5, 436, 437, 209, 210, 211, 443, 444, 445, 446, 129, 368, 369, 370, 371, 221, 222, 223, 224, 130, 225, 226, 227, 447, 448, 449, 450, 399, 400, 401, 402, 228, 229, 230, 231, 232, 132, 733, 734, 735, 736, 737, 738, 739, 740, 741, 742, 743, 744, 745, 746, 747, 748, 749, 750, 751, 752, 753, 754, 755, 756, 757] (by decide +kernel) (by decide +kernel)
set_option maxRecDepth 20000 in
theorem gL_law_X8_cutScene : GoodIn wsL_law (wsV RL 48 RX8 yX8_cutScene wsX8_cutScene) := goodIn_app (goodIn_of _ (by decide +kernel)) ggL_law_X8_cutScene
set_option maxRecDepth 20000 in
theorem ggL_law_X7_take : GoodIn wsL_law wsX7_take := goodIn_r _ [466, 15, 20, 32, 167, 168, 169, 19, 170, 87, 86, 171, 172, 173, 174, 175, 176, 177, 178, 179, 180, 181, 14, 182, 41, 42, 43, 44, 48, 49, 50, 51, 52, 53, 54, 183, 184, 185, 40, 186, 64, 187, 188, 61, 189, 190, 191, 192, 193, 194, 195, 196, 47, 197, 72, 73, 74, 75, 69, 70, 198, 199, 467, 468, 469, 2, 470, 471, 472, 473, 31, 474, 121, 109, 112, 475, 476, 164, 165, 166, 477, 78, 79, 80, 478, 479, 480, 481, 110, 111, 113, 114, 115, 119, 120, 122, 123, 482, 483, 484, 485, 486, 487, 488, 489, 117, 490, 491, 492, 493, 494, 495, 496, 497, 498, 499, 500, 501, 502, 503, 504, 505, 506, 507, 508, 509, 510, 511, 512, 116, 118, 513, 424, 425, 426, 329, 330, 514, 515, 516, 517, 303, 518, 519, 520, 521, 522, 726, 727, 728, 729, 730, 731, 732, 758, 759, 760, 761, 762, 763, 764, 765, 766, 767, 768, 793, 794, 795, 796, 797, 798, 777, 778, 779, 780, 781, 782, 783, 784, 785, 786, 787, 788, 789, 790, 791, 769, 770, 792] (by decide +kernel) (by decide +kernel)
set_option maxRecDepth 20000 in
theorem gL_law_X7_take : GoodIn wsL_law (wsV RL 49 RX7 yX7_take wsX7_take) := goodIn_app (goodIn_of _ (by decide +kernel)) ggL_law_X7_take
set_option maxRecDepth 20000 in
theorem ggL_law_X8_take : GoodIn wsL_law wsX8_take := goodIn_r _ [526, 129, 527, 528, 221, 222, 223, 5, 224, 130, 225, 226, 227, 529, 530, 531, 532, 138, 139, 140, 141, 142, 533, 534, 535, 536, 134, 136, 137, 135, 368, 369, 370, 371, 537, 538, 539, 540, 541, 542, 543, 544, 545, 546, 547, 228, 229, 230, 231, 232, 132, 733, 734, 735, 736, 737, 738, 739, 740, 741, 742, 743, 744, 745, 746, 747, 748, 749, 750, 751, 752, 753, 754, 755, 756, 757] (by decide +kernel) (by decide +kernel)
set_option maxRecDepth 20000 in
theorem gL_law_X8_take : GoodIn wsL_law (wsV RL 52 RX8 yX8_take wsX8_take) := goodIn_app (goodIn_of _ (by decide +kernel)) ggL_law_X8_take
set_option maxRecDepth 20000 in
theorem ggL_law_X7_type : GoodIn wsL_law wsX7_type := goodIn_r _ [551, 24, 552, 553, 554, 23, 555, 94, 93, 556, 78, 79, 40, 80, 64, 726, 727, 728, 729, 730, 731, 732, 771, 772, 792] (by decide +kernel) (by decide +kernel)
set_option maxRecDepth 20000 in
theorem gL_law_X7_type : GoodIn wsL_law (wsV RL 53 RX7 yX7_type wsX7_type) := goodIn_app (goodIn_of _ (by decide +kernel)) ggL_law_X7_type
set_option maxRecDepth 20000 in
theorem ggL_law_X8_type : GoodIn wsL_law wsX8_type := goodIn_r _ [560, 342, 144, 733, 734, 735, 736, 737, 738, 739, 740, 741, 742, 743, 744, 745, 746, 747, 748, 749, 750, 751, 752, 753, 754, 755, 756, 757] (by decide +kernel) (by decide +kernel)
set_option maxRecDepth 20000 in
theorem gL_law_X8_type : GoodIn wsL_law (wsV RL 57 RX8 yX8_type wsX8_type) := goodIn_app (goodIn_of _ (by decide +kernel)) ggL_law_X8_type
set_option maxRecDepth 20000 in
theorem ggL_law_X7_clearText : GoodIn wsL_law wsX7_clearText := goodIn_r _ [564, 24, 726, 727, 728, 729, 730, 731, 732, 771, 772] (by decide +kernel) (by decide +kernel)
set_option maxRecDepth 20000 in
theorem gL_law_X7_clearText : GoodIn wsL_law (wsV RL 58 RX7 yX7_clearText wsX7_clearText) := goodIn_app (goodIn_of _ (by decide +kernel)) ggL_law_X7_clearText
set_option maxRecDepth 20000 in
theorem ggL_law_X8_clearText : GoodIn wsL_law wsX8_clearText := goodIn_r _ [568, 342, 733, 734, 735, 736, 737, 738, 739, 740, 741, 742, 743, 744, 745, 746, 747, 748, 749, 750, 751, 752, 753, 754, 755, 756, 757] (by decide +kernel) (by decide +kernel)
set_option maxRecDepth 20000 in
theorem gL_law_X8_clearText : GoodIn wsL_law (wsV RL 61 RX8 yX8_clearText wsX8_clearText) := goodIn_app (goodIn_of _ (by decide +kernel)) ggL_law_X8_clearText
set_option maxRecDepth 20000 in
theorem ggL_law_X7_undo : GoodIn wsL_law wsX7_undo := goodIn_r _ [572, 20, 15, 573, 574, 575, 19, 576, 87, 175, 176, 177, 178, 86, 179, 180, 181, 14, 182, 41, 42, 43, 44, 48, 49, 50, 51, 52, 53, 54, 183, 184, 185, 40, 186, 64, 187, 188, 61, 189, 190, 191, 192, 193, 194, 195, 196, 47, 197, 72, 73, 74, 75, 69, 70, 198, 199, 726, 727, 728, 729, 730, 731, 732, 769, 770, 758, 759, 760, 761, 762, 763, 764, 765, 766, 767, 768, 792, 793, 794, 795, 796, 797, 798] (by decide +kernel) (by decide +kernel)
set_option maxRecDepth 20000 in
theorem gL_law_X7_undo : GoodIn wsL_law (wsV RL 62 RX7 yX7_undo wsX7_undo) := goodIn_app (goodIn_of _ (by decide +kernel)) ggL_law_X7_undo
set_option maxRecDepth 20000 in
theorem ggL_law_X8_undo : GoodIn wsL_law wsX8_undo := goodIn_r _ [580, 232, 129, 132, 733, 734, 735, 736, 737, 738, 739, 740, 741, 742, 743, 744, 745, 746, 747, 748, 749, 750, 751, 752, 753, 754, 755, 756, 757] (by decide +kernel) (by decide +kernel)
set_option maxRecDepth 20000 in
theorem gL_law_X8_undo : GoodIn wsL_law (wsV RL 65 RX8 yX8_undo wsX8_undo) := goodIn_app (goodIn_of _ (by decide +kernel)) ggL_law_X8_undo
set_option maxRecDepth 20000 in
theorem ggL_law_X7_keep : GoodIn wsL_law wsX7_keep := goodIn_r _ [584, 16, 15, 33, 585, 180, 181, 14, 182, 41, 42, 43, 44, 48, 49, 50, 51, 52, 53, 54, 183, 184, 185, 40, 186, 64, 187, 188, 61, 189, 190, 191, 192, 193, 194, 195, 196, 47, 197, 72, 73, 74, 75, 69, 70, 198, 199, 726, 727, 728, 729, 730, 731, 732, 758, 759, 760, 761, 762, 763, 764, 765, 766, 767, 768, 793, 794, 795, 796, 797, 798, 792] (by decide +kernel) (by decide +kernel)
set_option maxRecDepth 20000 in
theorem gL_law_X7_keep : GoodIn wsL_law (wsV RL 66 RX7 yX7_keep wsX7_keep) := goodIn_app (goodIn_of _ (by decide +kernel)) ggL_law_X7_keep
set_option maxRecDepth 20000 in
theorem ggL_law_X8_keep : GoodIn wsL_law wsX8_keep := goodIn_r _ [589, 129, 133, 590, 225, 226, 5, 227, 733, 734, 735, 736, 737, 738, 739, 740, 741, 742, 743, 744, 745, 746, 747, 748, 749, 750, 751, 752, 753, 754, 755, 756, 757] (by decide +kernel) (by decide +kernel)
set_option maxRecDepth 20000 in
theorem gL_law_X8_keep : GoodIn wsL_law (wsV RL 69 RX8 yX8_keep wsX8_keep) := goodIn_app (goodIn_of _ (by decide +kernel)) ggL_law_X8_keep
set_option maxRecDepth 20000 in
theorem ggL_law_X7_restore : GoodIn wsL_law wsX7_restore := goodIn_r _ [594, 33, 20, 15, 16, 167, 168, 169, 19, 170, 87, 86, 171, 172, 173, 174, 175, 176, 177, 178, 179, 180, 181, 14, 182, 41, 42, 43, 44, 48, 49, 50, 51, 52, 53, 54, 183, 184, 185, 40, 186, 64, 187, 188, 61, 189, 190, 191, 192, 193, 194, 195, 196, 47, 197, 72, 73, 74, 75, 69, 70, 198, 199, 585, 726, 727, 728, 729, 730, 731, 732, 758, 759, 760, 761, 762, 763, 764, 765, 766, 767, 768, 793, 794, 795, 796, 797, 798, 769, 770, 792] (by decide +kernel) (by decide +kernel)
set_option maxRecDepth 20000 in
theorem gL_law_X7_restore : GoodIn wsL_law (wsV RL 70 RX7 yX7_restore wsX7_restore) := goodIn_app (goodIn_of _ (by decide +kernel)) ggL_law_X7_restore
set_option maxRecDepth 20000 in
theorem ggL_law_X8_restore : GoodIn wsL_law wsX8_restore := goodIn_r _ [598, 590, 133, 129, 221, 222, 223, 5, 224, 130, 225, 226, 227, 228, 229, 230, 231, 232, 132, 733, 734, 735, 736, 737, 738, 739, 740, 741, 742, 743, 744, 745, 746, 747, 748, 749, 750, 751, 752, 753, 754, 755, 756, 757] (by decide +kernel) (by decide +kernel)
set_option maxRecDepth 20000 in
theorem gL_law_X8_restore : GoodIn wsL_law (wsV RL 73 RX8 yX8_restore wsX8_restore) := goodIn_app (goodIn_of _ (by decide +kernel)) ggL_law_X8_restore
set_option maxRecDepth 20000 in
theorem ggL_law_X7_sound : GoodIn wsL_law wsX7_sound := goodIn_r _ [602, 15, 32, 603, 60, 61, 62, 150, 151, 2, 152, 159, 160, 161, 14, 162, 41, 42, 43, 163, 164, 165, 40, 166, 64, 604, 605, 606, 47, 607, 74, 415, 416, 417, 418, 69, 303, 467, 468, 469, 470, 471, 472, 473, 31, 474, 121, 109, 112, 475, 184, 185, 186, 187, 188, 189, 190, 191, 192, 193, 476, 477, 78, 79, 80, 478, 479, 480, 481, 110, 111, 113, 114, 115, 119, 120, 122, 123, 482, 483, 484, 485, 486, 487, 488, 489, 117, 490, 491, 492, 493, 494, 495, 496, 497, 498, 499, 500, 501, 502, 503, 504, 505, 506, 507, 508, 509, 510, 511, 512, 116, 118, 513, 424, 425, 426, 329, 330, 514, 515, 516, 517, 72, 75, 518, 519, 520, 521, 608, 609, 610, 611, 726, 727, 728, 729, 730, 731, 732, 758, 759, 760, 761, 762, 763, 764, 765, 766, 767, 768, 792, 793, 794, 795, 796, 797, 798, 777, 778, 779, 780, 781, 782, 783, 784, 785, 786, 787, 788, 789, 790, 791] (by decide +kernel) (by decide +kernel)
set_option maxRecDepth 20000 in
theorem gL_law_X7_sound : GoodIn wsL_law (wsV RL 74 RX7 yX7_sound wsX7_sound) := goodIn_app (goodIn_of _ (by decide +kernel)) ggL_law_X7_sound
set_option maxRecDepth 20000 in
theorem ggL_law_X8_sound : GoodIn wsL_law wsX8_sound := goodIn_r _ [615, 129, 205, 206, 5, 207, 208, 209, 210, 211, 616, 617, 618, 619, 135, 620, 621, 622, 623, 131, 143, 225, 226, 227, 529, 530, 531, 532, 527, 528, 138, 139, 140, 141, 142, 533, 534, 535, 536, 134, 136, 137, 368, 369, 370, 371, 537, 538, 539, 540, 541, 542, 543, 544, 545, 546, 547, 624, 625, 626, 627, 733, 734, 735, 736, 737, 738, 739, 740, 741, 742, 743, 744, 745, 746, 747, 748, 749, 750, 751, 752, 753, 754, 755, 756, 757] (by decide +kernel) (by decide +kernel)
set_option maxRecDepth 20000 in
theorem gL_law_X8_sound : GoodIn wsL_law (wsV RL 77 RX8 yX8_sound wsX8_sound) := goodIn_app (goodIn_of _ (by decide +kernel)) ggL_law_X8_sound
set_option maxRecDepth 20000 in
theorem ggL_law_X7_cue : GoodIn wsL_law wsX7_cue := goodIn_r _ [631, 15, 32, 150, 151, 2, 152, 163, 164, 165, 40, 166, 64, 467, 468, 469, 470, 471, 472, 473, 31, 474, 121, 109, 112, 475, 184, 185, 186, 187, 188, 61, 189, 190, 191, 192, 193, 476, 477, 78, 79, 80, 478, 479, 480, 481, 110, 111, 113, 114, 115, 119, 120, 122, 123, 482, 483, 484, 485, 486, 487, 488, 489, 117, 490, 491, 492, 493, 494, 495, 496, 497, 498, 499, 500, 501, 502, 503, 504, 505, 506, 507, 508, 509, 510, 511, 512, 116, 118, 513, 424, 425, 426, 329, 330, 514, 515, 516, 47, 517, 72, 75, 303, 518, 519, 520, 521, 726, 727, 728, 729, 730, 731, 732, 758, 759, 760, 761, 762, 763, 764, 765, 766, 767, 768, 793, 794, 795, 796, 797, 798, 777, 778, 779, 780, 781, 782, 783, 784, 785, 786, 787, 788, 789, 790, 791, 792] (by decide +kernel) (by decide +kernel)
set_option maxRecDepth 20000 in
theorem gL_law_X7_cue : GoodIn wsL_law (wsV RL 78 RX7 yX7_cue wsX7_cue) := goodIn_app (goodIn_of _ (by decide +kernel)) ggL_law_X7_cue
set_option maxRecDepth 20000 in
theorem ggL_law_X8_cue : GoodIn wsL_law wsX8_cue := goodIn_r _ [635, 134, 135, 136, 395, 396, 397, 5, 398, 129, 209, 210, 211, 620, 621, 622, 623, 131, 143, 225, 226, 227, 529, 530, 531, 532, 527, 528, 138, 139, 140, 141, 142, 533, 534, 535, 536, 137, 368, 369, 370, 371, 537, 538, 539, 540, 541, 542, 543, 544, 545, 546, 547, 733, 734, 735, 736, 737, 738, 739, 740, 741, 742, 743, 744, 745, 746, 747, 748, 749, 750, 751, 752, 753, 754, 755, 756, 757] (by decide +kernel) (by decide +kernel)
set_option maxRecDepth 20000 in
theorem gL_law_X8_cue : GoodIn wsL_law (wsV RL 81 RX8 yX8_cue wsX8_cue) := goodIn_app (goodIn_of _ (by decide +kernel)) ggL_law_X8_cue
set_option maxRecDepth 20000 in
theorem ggL_law_X7_hand : GoodIn wsL_law wsX7_hand := goodIn_r _ [639, 15, 32, 150, 151, 2, 152, 467, 468, 469, 470, 471, 472, 473, 31, 474, 121, 109, 112, 475, 184, 185, 40, 186, 64, 187, 188, 61, 189, 190, 191, 192, 193, 476, 164, 165, 166, 477, 78, 79, 80, 478, 479, 480, 481, 110, 111, 113, 114, 115, 119, 120, 122, 123, 482, 483, 484, 485, 486, 487, 488, 489, 117, 490, 491, 492, 493, 494, 495, 496, 497, 498, 499, 500, 501, 502, 503, 504, 505, 506, 507, 508, 509, 510, 511, 512, 116, 118, 513, 424, 425, 426, 329, 330, 514, 515, 516, 47, 517, 72, 75, 303, 518, 519, 520, 521, 163, 726, 727, 728, 729, 730, 731, 732, 758, 759, 760, 761, 762, 763, 764, 765, 766, 767, 768, 777, 778, 779, 780, 781, 782, 783, 784, 785, 786, 787, 788, 789, 790, 791, 792, 793, 794, 795, 796, 797, 798] (by decide +kernel) (by decide +kernel)
set_option maxRecDepth 20000 in
theorem gL_law_X7_hand : GoodIn wsL_law (wsV RL 82 RX7 yX7_hand wsX7_hand) := goodIn_app (goodIn_of _ (by decide +kernel)) ggL_law_X7_hand
set_option maxRecDepth 20000 in
theorem ggL_law_X8_hand : GoodIn wsL_law wsX8_hand := goodIn_r _ [643, 129, 139, 140, 138, 143, 253, 254, 255, 5, 256, 209, 210, 211, 620, 621, 622, 623, 131, 225, 226, 227, 529, 530, 531, 532, 527, 528, 141, 142, 533, 534, 535, 536, 134, 136, 137, 135, 368, 369, 370, 371, 537, 538, 539, 540, 541, 542, 543, 544, 545, 546, 547, 733, 734, 735, 736, 737, 738, 739, 740, 741, 742, 743, 744, 745, 746, 747, 748, 749, 750, 751, 752, 753, 754, 755, 756, 757] (by decide +kernel) (by decide +kernel)
set_option maxRecDepth 20000 in
theorem gL_law_X8_hand : GoodIn wsL_law (wsV RL 85 RX8 yX8_hand wsX8_hand) := goodIn_app (goodIn_of _ (by decide +kernel)) ggL_law_X8_hand
set_option maxRecDepth 20000 in
theorem ggL_law_X7_scene : GoodIn wsL_law wsX7_scene := goodIn_r _ [647, 15, 32, 150, 151, 2, 152, 411, 412, 413, 47, 414, 73, 415, 416, 417, 418, 69, 303, 164, 165, 40, 166, 64, 648, 649, 650, 651, 72, 652, 653, 654, 655, 656, 60, 61, 62, 657, 515, 516, 517, 75, 467, 468, 469, 470, 471, 472, 473, 31, 474, 121, 109, 112, 475, 184, 185, 186, 187, 188, 189, 190, 191, 192, 193, 476, 477, 78, 79, 80, 478, 479, 480, 481, 110, 111, 113, 114, 115, 119, 120, 122, 123, 482, 483, 484, 485, 486, 487, 488, 489, 117, 490, 491, 492, 493, 494, 495, 496, 497, 498, 499, 500, 501, 502, 503, 504, 505, 506, 507, 508, 509, 510, 511, 512, 116, 118, 513, 424, 425, 426, 329, 330, 514, 518, 519, 520, 521, 163, 726, 727, 728, 729, 730, 731, 732, 758, 759, 760, 761, 762, 763, 764, 765, 766, 767, 768, 777, 778, 779, 780, 781, 782, 783, 784, 785, 786, 787, 788, 789, 790, 791, 793, 794, 795, 796, 797, 798, 792] (by decide +kernel) (by decide +kernel)
set_option maxRecDepth 20000 in
theorem gL_law_X7_scene : GoodIn wsL_law (wsV RL 86 RX7 yX7_scene wsX7_scene) := goodIn_app (goodIn_of _ (by decide +kernel)) ggL_law_X7_scene
set_option maxRecDepth 20000 in
theorem ggL_law_X8_scene : GoodIn wsL_law wsX8_scene := goodIn_r _ [661, 434, 435, 5, 436, 437, 209, 210, 211, 443, 444, 445, 446, 129, 368, 369, 370, 371, 662, 663, 664, 665, 666, 667, 668, 669, 670, 671, 672, 673, 135, 620, 621, 622, 623, 131, 143, 225, 226, 227, 529, 530, 531, 532, 527, 528, 138, 139, 140, 141, 142, 533, 534, 535, 536, 134, 136, 137, 537, 538, 539, 540, 541, 542, 543, 544, 545, 546, 547, 674, 675, 676, 677, 733, 734, 735, 736, 737, 738, 739, 740, 741, 742, 743, 744, 745, 746, 747, 748, 749, 750, 751, 752, 753, 754, 755, 756, 757] (by decide +kernel) (by decide +kernel)
set_option maxRecDepth 20000 in
theorem gL_law_X8_scene : GoodIn wsL_law (wsV RL 89 RX8 yX8_scene wsX8_scene) := goodIn_app (goodIn_of _ (by decide +kernel)) ggL_law_X8_scene
set_option maxRecDepth 20000 in
theorem ggL_law_X7_missed : GoodIn wsL_law wsX7_missed := goodIn_r _ [681, 15, 32, 467, 468, 469, 2, 470, 471, 472, 473, 31, 474, 121, 109, 112, 475, 184, 185, 40, 186, 64, 187, 188, 61, 189, 190, 191, 192, 193, 476, 164, 165, 166, 477, 78, 79, 80, 478, 479, 480, 481, 110, 111, 113, 114, 115, 119, 120, 122, 123, 482, 483, 484, 485, 486, 487, 488, 489, 117, 490, 491, 492, 493, 494, 495, 496, 497, 498, 499, 500, 501, 502, 503, 504, 505, 506, 507, 508, 509, 510, 511, 512, 116, 118, 513, 424, 425, 426, 329, 330, 514, 515, 516, 47, 517, 72, 75, 303, 518, 519, 520, 521, 682, 683, 684, 685, 726, 727, 728, 729, 730, 731, 732, 758, 759, 760, 761, 762, 763, 764, 765, 766, 767, 768, 793, 794, 795, 796, 797, 798, 777, 778, 779, 780, 781, 782, 783, 784, 785, 786, 787, 788, 789, 790, 791, 792] (by decide +kernel) (by decide +kernel)
set_option maxRecDepth 20000 in
theorem gL_law_X7_missed : GoodIn wsL_law (wsV RL 90 RX7 yX7_missed wsX7_missed) := goodIn_app (goodIn_of _ (by decide +kernel)) ggL_law_X7_missed
set_option maxRecDepth 20000 in
theorem ggL_law_X8_missed : GoodIn wsL_law wsX8_missed := goodIn_r _ [689, 129, 135, 620, 621, 622, 5, 623, 131, 143, 225, 226, 227, 529, 530, 531, 532, 527, 528, 138, 139, 140, 141, 142, 533, 534, 535, 536, 134, 136, 137, 368, 369, 370, 371, 537, 538, 539, 540, 541, 542, 543, 544, 545, 546, 547, 733, 734, 735, 736, 737, 738, 739, 740, 741, 742, 743, 744, 745, 746, 747, 748, 749, 750, 751, 752, 753, 754, 755, 756, 757] (by decide +kernel) (by decide +kernel)
set_option maxRecDepth 20000 in
theorem gL_law_X8_missed : GoodIn wsL_law (wsV RL 93 RX8 yX8_missed wsX8_missed) := goodIn_app (goodIn_of _ (by decide +kernel)) ggL_law_X8_missed
set_option maxRecDepth 20000 in
theorem ggL_law_X7_ifHands : GoodIn wsL_law wsX7_ifHands := goodIn_r _ [693, 32, 156, 157, 2, 158, 467, 468, 469, 470, 15, 471, 472, 473, 31, 474, 121, 109, 112, 475, 184, 185, 40, 186, 64, 187, 188, 61, 189, 190, 191, 192, 193, 476, 164, 165, 166, 477, 78, 79, 80, 478, 479, 480, 481, 110, 111, 113, 114, 115, 119, 120, 122, 123, 482, 483, 484, 485, 486, 487, 488, 489, 117, 490, 491, 492, 493, 494, 495, 496, 497, 498, 499, 500, 501, 502, 503, 504, 505, 506, 507, 508, 509, 510, 511, 512, 116, 118, 513, 424, 425, 426, 329, 330, 514, 515, 516, 47, 517, 72, 75, 303, 518, 519, 520, 521, 726, 727, 728, 729, 730, 731, 732, 777, 778, 779, 780, 781, 782, 783, 784, 785, 786, 787, 788, 789, 790, 791, 758, 759, 760, 761, 762, 763, 764, 765, 766, 767, 768, 792, 793, 794, 795, 796, 797, 798] (by decide +kernel) (by decide +kernel)
set_option maxRecDepth 20000 in
theorem gL_law_X7_ifHands : GoodIn wsL_law (wsV RL 94 RX7 yX7_ifHands wsX7_ifHands) := goodIn_app (goodIn_of _ (by decide +kernel)) ggL_law_X7_ifHands
set_option maxRecDepth 20000 in
theorem ggL_law_X8_ifHands : GoodIn wsL_law wsX8_ifHands := goodIn_r _ [697, 215, 129, 131, 528, 209, 210, 5, 211, 225, 226, 227, 241, 242, 243, 244, 529, 530, 531, 532, 527, 138, 139, 140, 141, 142, 533, 534, 535, 536, 134, 136, 137, 135, 368, 369, 370, 371, 537, 538, 539, 540, 541, 542, 543, 544, 545, 546, 547, 733, 734, 735, 736, 737, 738, 739, 740, 741, 742, 743, 744, 745, 746, 747, 748, 749, 750, 751, 752, 753, 754, 755, 756, 757] (by decide +kernel) (by decide +kernel)
set_option maxRecDepth 20000 in
theorem gL_law_X8_ifHands : GoodIn wsL_law (wsV RL 97 RX8 yX8_ifHands wsX8_ifHands) := goodIn_app (goodIn_of _ (by decide +kernel)) ggL_law_X8_ifHands
set_option maxRecDepth 20000 in
theorem ggL_law_X7_cleanTakes : GoodIn wsL_law wsX7_cleanTakes := goodIn_r _ [701, 15, 32, 471, 472, 473, 31, 474, 121, 109, 112, 475, 184, 185, 40, 186, 64, 187, 188, 61, 189, 190, 191, 192, 193, 476, 164, 165, 166, 477, 78, 79, 80, 478, 479, 480, 481, 110, 111, 113, 114, 115, 119, 120, 122, 123, 482, 483, 484, 485, 486, 487, 488, 489, 117, 490, 491, 492, 493, 494, 495, 496, 497, 498, 499, 500, 501, 502, 503, 504, 505, 506, 507, 508, 509, 510, 511, 512, 116, 118, 513, 424, 425, 426, 329, 330, 514, 515, 516, 47, 517, 72, 75, 303, 518, 519, 520, 521, 726, 727, 728, 729, 730, 731, 732, 758, 759, 760, 761, 762, 763, 764, 765, 766, 767, 768, 793, 794, 795, 796, 797, 798, 777, 778, 779, 780, 781, 782, 783, 784, 785, 786, 787, 788, 789, 790, 791, 792] (by decide +kernel) (by decide +kernel)
set_option maxRecDepth 20000 in
theorem gL_law_X7_cleanTakes : GoodIn wsL_law (wsV RL 98 RX7 yX7_cleanTakes wsX7_cleanTakes) := goodIn_app (goodIn_of _ (by decide +kernel)) ggL_law_X7_cleanTakes
set_option maxRecDepth 20000 in
theorem ggL_law_X8_cleanTakes : GoodIn wsL_law wsX8_cleanTakes := goodIn_r _ [705, 129, 131, 527, 225, 226, 5, 227, 529, 530, 531, 532, 528, 138, 139, 140, 141, 142, 533, 534, 535, 536, 134, 136, 137, 135, 368, 369, 370, 371, 537, 538, 539, 540, 541, 542, 543, 544, 545, 546, 547, 733, 734, 735, 736, 737, 738, 739, 740, 741, 742, 743, 744, 745, 746, 747, 748, 749, 750, 751, 752, 753, 754, 755, 756, 757] (by decide +kernel) (by decide +kernel)
set_option maxRecDepth 20000 in
theorem gL_law_X8_cleanTakes : GoodIn wsL_law (wsV RL 101 RX8 yX8_cleanTakes wsX8_cleanTakes) := goodIn_app (goodIn_of _ (by decide +kernel)) ggL_law_X8_cleanTakes
set_option maxRecDepth 20000 in
theorem ggL_law_X7_count : GoodIn wsL_law wsX7_count := goodIn_r _ [709, 15, 32, 20, 24, 467, 468, 469, 2, 470, 471, 472, 473, 31, 474, 121, 109, 112, 475, 184, 185, 40, 186, 64, 187, 188, 61, 189, 190, 191, 192, 193, 476, 164, 165, 166, 477, 78, 79, 80, 478, 479, 480, 481, 110, 111, 113, 114, 115, 119, 120, 122, 123, 482, 483, 484, 485, 486, 487, 488, 489, 117, 490, 491, 492, 493, 494, 495, 496, 497, 498, 499, 500, 501, 502, 503, 504, 505, 506, 507, 508, 509, 510, 511, 512, 116, 118, 513, 424, 425, 426, 329, 330, 514, 515, 516, 47, 517, 72, 75, 303, 518, 519, 520, 521, 710, 711, 712, 713, 726, 727, 728, 729, 730, 731, 732, 758, 759, 760, 761, 762, 763, 764, 765, 766, 767, 768, 793, 794, 795, 796, 797, 798, 777, 778, 779, 780, 781, 782, 783, 784, 785, 786, 787, 788, 789, 790, 791, 769, 770, 771, 772, 792] (by decide +kernel) (by decide +kernel)
set_option maxRecDepth 20000 in
theorem gL_law_X7_count : GoodIn wsL_law (wsV RL 102 RX7 yX7_count wsX7_count) := goodIn_app (goodIn_of _ (by decide +kernel)) ggL_law_X7_count
set_option maxRecDepth 20000 in
theorem ggL_law_X8_count : GoodIn wsL_law wsX8_count := goodIn_r _ [717, 129, 232, 342, 718, 719, 720, 5, 721, 528, 527, 620, 621, 622, 623, 131, 143, 225, 226, 227, 529, 530, 531, 532, 138, 139, 140, 141, 142, 533, 534, 535, 536, 134, 136, 137, 135, 368, 369, 370, 371, 537, 538, 539, 540, 541, 542, 543, 544, 545, 546, 547, 722, 723, 724, 725, 733, 734, 735, 736, 737, 738, 739, 740, 741, 742, 743, 744, 745, 746, 747, 748, 749, 750, 751, 752, 753, 754, 755, 756, 757] (by decide +kernel) (by decide +kernel)
set_option maxRecDepth 20000 in
theorem gL_law_X8_count : GoodIn wsL_law (wsV RL 105 RX8 yX8_count wsX8_count) := goodIn_app (goodIn_of _ (by decide +kernel)) ggL_law_X8_count
