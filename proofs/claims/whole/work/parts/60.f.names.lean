set_option maxRecDepth 20000 in
theorem ggL_law_X6_run : GoodIn wsL_law wsX6_run := goodIn_r _ [677, 591, 640, 645, 187, 639, 635, 636, 637, 5, 638, 74, 641, 642, 643, 644, 75, 646, 647, 648, 649, 191, 192, 193, 194, 195, 196, 221, 222, 223, 224, 225, 73, 72, 678, 679, 680, 681, 197, 198, 199, 200, 401, 402, 403, 404, 209, 210, 211, 212, 405, 406, 407, 408, 205, 206, 207, 208, 409, 410, 411, 412, 413, 414, 415, 416, 417, 418, 419, 420, 421, 422, 423, 424, 226, 227, 228, 229, 425, 426, 427, 428, 989, 990, 991, 992, 993, 994, 995, 996, 997, 998, 999] (by decide +kernel) (by decide +kernel)
set_option maxRecDepth 20000 in
theorem gL_law_X6_run : GoodIn wsL_law (wsV RL 151 RX6 yX6_run wsX6_run) := goodIn_app (goodIn_of _ (by decide +kernel)) ggL_law_X6_run
set_option maxRecDepth 20000 in
theorem ggL_law_L_undo : GoodIn wsL_law wsL_undo := goodIn_ca (goodIn_r _ [684, 82, 685, 686, 687, 2, 688, 87, 88, 21, 17, 689, 690, 691, 20, 692, 146, 145, 147, 148, 149, 150, 63, 151, 152, 153, 154, 155, 156, 16, 157, 32, 36, 38, 158, 39, 40, 159, 160, 161, 162, 163, 164, 165, 166, 167, 35, 168, 112, 56, 986, 987, 988, 1012, 1013, 1014, 1000, 1001, 1002, 1003, 1004, 1005, 1006, 1007, 1008, 1009, 1010, 1011, 1017, 1018, 1019, 1020, 1021] (by decide +kernel) (by decide +kernel)) (goodIn_sub (fun _ h => List.mem_append_left _ (List.mem_append_left _ (List.mem_append_right _ h))) (by decide +kernel))
set_option maxRecDepth 20000 in
theorem gL_law_L_undo : GoodIn wsL_law (va_wsS RL 152 yL_undo wsL_undo) := goodIn_app (goodIn_of _ (by decide +kernel)) ggL_law_L_undo
set_option maxRecDepth 20000 in
theorem ggL_law_X6_undo : GoodIn wsL_law wsX6_undo := goodIn_r _ [696, 225, 187, 72, 73, 989, 990, 991, 992, 993, 994, 995, 996, 997, 998, 999] (by decide +kernel) (by decide +kernel)
set_option maxRecDepth 20000 in
theorem gL_law_X6_undo : GoodIn wsL_law (wsV RL 154 RX6 yX6_undo wsX6_undo) := goodIn_app (goodIn_of _ (by decide +kernel)) ggL_law_X6_undo
set_option maxRecDepth 20000 in
theorem ggL_law_L_mandate : GoodIn wsL_law wsL_mandate := goodIn_ca (goodIn_ca (goodIn_r _ [699, 80, 81, 700, 701, 702, 2, 703, 17, 89, 90, 91, 92, 93, 94, 95, 96, 97, 31, 98, 45, 99, 100, 101, 102, 103, 704, 705, 706, 16, 707, 32, 375, 376, 377, 378, 118, 119, 120, 35, 121, 112, 55, 56, 113, 114, 115, 116, 117, 126, 127, 128, 129, 130, 131, 132, 133, 134, 135, 136, 137, 138, 139, 140, 708, 709, 710, 711, 712, 51, 52, 53, 713, 251, 252, 253, 254, 255, 256, 257, 714, 715, 716, 717, 36, 266, 986, 987, 988, 1000, 1001, 1002, 1003, 1004, 1005, 1006, 1007, 1008, 1009, 1010, 1011, 1017, 1018, 1019, 1020, 1021] (by decide +kernel) (by decide +kernel)) (goodIn_sub (fun _ h => List.mem_append_left _ (List.mem_append_right _ h)) (by decide +kernel))) (goodIn_sub (fun _ h => List.mem_append_right _ h) (by decide +kernel))
set_option maxRecDepth 20000 in
theorem gL_law_L_mandate : GoodIn wsL_law (va_wsS RL 155 yL_mandate wsL_mandate) := goodIn_app (goodIn_of _ (by decide +kernel)) ggL_law_L_mandate
set_option maxRecDepth 20000 in
theorem ggL_law_X6_mandate : GoodIn wsL_law wsX6_mandate := goodIn_r _ [721, 187, 197, 198, 199, 5, 200, 72, 191, 192, 193, 722, 723, 724, 725, 217, 218, 219, 220, 209, 210, 211, 212, 282, 283, 284, 285, 205, 206, 207, 208, 286, 287, 288, 289, 301, 302, 303, 726, 727, 728, 729, 293, 294, 295, 296, 989, 990, 991, 992, 993, 994, 995, 996, 997, 998, 999] (by decide +kernel) (by decide +kernel)
set_option maxRecDepth 20000 in
theorem gL_law_X6_mandate : GoodIn wsL_law (wsV RL 157 RX6 yX6_mandate wsX6_mandate) := goodIn_app (goodIn_of _ (by decide +kernel)) ggL_law_X6_mandate
set_option maxRecDepth 20000 in
theorem ggL_law_L_request : GoodIn wsL_law wsL_request := goodIn_ca (goodIn_ca (goodIn_r _ [732, 80, 81, 733, 734, 735, 2, 736, 17, 447, 448, 449, 450, 93, 94, 99, 100, 101, 102, 103, 737, 738, 739, 16, 740, 36, 266, 119, 120, 35, 121, 112, 55, 56, 458, 459, 460, 461, 32, 462, 463, 464, 31, 465, 45, 118, 986, 987, 988, 1000, 1001, 1002, 1003, 1004, 1005, 1006, 1007, 1008, 1009, 1010, 1011, 1018, 1019, 1020, 1021, 1017] (by decide +kernel) (by decide +kernel)) (goodIn_sub (fun _ h => List.mem_append_left _ (List.mem_append_right _ h)) (by decide +kernel))) (goodIn_sub (fun _ h => List.mem_append_right _ h) (by decide +kernel))
set_option maxRecDepth 20000 in
theorem gL_law_L_request : GoodIn wsL_law (va_wsS RL 158 yL_request wsL_request) := goodIn_app (goodIn_of _ (by decide +kernel)) ggL_law_L_request
set_option maxRecDepth 20000 in
theorem ggL_law_X6_request : GoodIn wsL_law wsX6_request := goodIn_r _ [744, 187, 485, 486, 487, 5, 488, 72, 191, 192, 193, 745, 746, 747, 748, 293, 294, 295, 296, 749, 750, 751, 752, 489, 490, 491, 492, 290, 291, 292, 209, 210, 211, 212, 493, 494, 495, 496, 989, 990, 991, 992, 993, 994, 995, 996, 997, 998, 999] (by decide +kernel) (by decide +kernel)
set_option maxRecDepth 20000 in
theorem gL_law_X6_request : GoodIn wsL_law (wsV RL 160 RX6 yX6_request wsX6_request) := goodIn_app (goodIn_of _ (by decide +kernel)) ggL_law_X6_request
set_option maxRecDepth 20000 in
theorem ggL_law_L_person : GoodIn wsL_law wsL_person := goodIn_ca (goodIn_ca (goodIn_r _ [755, 80, 81, 756, 757, 758, 2, 759, 17, 451, 452, 453, 93, 94, 99, 100, 101, 102, 103, 760, 761, 762, 16, 763, 32, 38, 764, 765, 766, 31, 767, 45, 117, 96, 97, 98, 254, 114, 115, 116, 118, 119, 120, 35, 121, 112, 55, 56, 768, 769, 770, 771, 772, 773, 774, 775, 36, 458, 459, 460, 461, 266, 462, 463, 464, 465, 466, 467, 468, 986, 987, 988, 1000, 1001, 1002, 1003, 1004, 1005, 1006, 1007, 1008, 1009, 1010, 1011, 1017, 1018, 1019, 1020, 1021] (by decide +kernel) (by decide +kernel)) (goodIn_sub (fun _ h => List.mem_append_left _ (List.mem_append_right _ h)) (by decide +kernel))) (goodIn_sub (fun _ h => List.mem_append_right _ h) (by decide +kernel))
set_option maxRecDepth 20000 in
theorem gL_law_L_person : GoodIn wsL_law (va_wsS RL 161 yL_person wsL_person) := goodIn_app (goodIn_of _ (by decide +kernel)) ggL_law_L_person
set_option maxRecDepth 20000 in
theorem ggL_law_X6_person : GoodIn wsL_law wsX6_person := goodIn_r _ [779, 187, 188, 189, 5, 190, 191, 192, 193, 780, 781, 782, 783, 72, 784, 785, 786, 787, 209, 210, 211, 212, 788, 789, 790, 791, 489, 490, 491, 492, 293, 294, 295, 296, 290, 291, 292, 493, 494, 495, 496, 989, 990, 991, 992, 993, 994, 995, 996, 997, 998, 999] (by decide +kernel) (by decide +kernel)
set_option maxRecDepth 20000 in
theorem gL_law_X6_person : GoodIn wsL_law (wsV RL 163 RX6 yX6_person wsX6_person) := goodIn_app (goodIn_of _ (by decide +kernel)) ggL_law_X6_person
set_option maxRecDepth 20000 in
theorem ggL_law_L_count : GoodIn wsL_law wsL_count := goodIn_ca (goodIn_r _ [794, 81, 795, 796, 797, 2, 798, 21, 17, 99, 100, 101, 102, 103, 799, 800, 801, 16, 802, 32, 36, 158, 159, 160, 161, 162, 163, 164, 803, 96, 97, 31, 98, 45, 804, 805, 806, 807, 117, 254, 114, 115, 116, 118, 119, 120, 35, 121, 112, 55, 56, 986, 987, 988, 1012, 1013, 1014, 1000, 1001, 1002, 1003, 1004, 1005, 1006, 1007, 1008, 1009, 1010, 1011, 1018, 1019, 1020, 1021, 1017] (by decide +kernel) (by decide +kernel)) (goodIn_sub (fun _ h => List.mem_append_right _ h) (by decide +kernel))
set_option maxRecDepth 20000 in
theorem gL_law_L_count : GoodIn wsL_law (va_wsS RL 164 yL_count wsL_count) := goodIn_app (goodIn_of _ (by decide +kernel)) ggL_law_L_count
