set_option maxRecDepth 20000 in
theorem ggL_law_X6_count : GoodIn wsL_law wsX6_count := goodIn_r _ [811, 187, 191, 192, 5, 193, 812, 813, 814, 815, 72, 225, 816, 817, 818, 819, 209, 210, 211, 212, 989, 990, 991, 992, 993, 994, 995, 996, 997, 998, 999] (by decide +kernel) (by decide +kernel)
set_option maxRecDepth 20000 in
theorem gL_law_X6_count : GoodIn wsL_law (wsV RL 166 RX6 yX6_count wsX6_count) := goodIn_app (goodIn_of _ (by decide +kernel)) ggL_law_X6_count
set_option maxRecDepth 20000 in
theorem ggL_law_L_setting : GoodIn wsL_law wsL_setting := goodIn_ca (goodIn_r _ [822, 80, 823, 824, 825, 2, 826, 17, 553, 554, 555, 93, 94, 827, 561, 562, 16, 563, 39, 40, 986, 987, 988, 1000, 1001, 1002, 1003, 1004, 1005, 1006, 1007, 1008, 1009, 1010, 1011] (by decide +kernel) (by decide +kernel)) (goodIn_sub (fun _ h => List.mem_append_left _ (List.mem_append_right _ h)) (by decide +kernel))
set_option maxRecDepth 20000 in
theorem gL_law_L_setting : GoodIn wsL_law (va_wsS RL 167 yL_setting wsL_setting) := goodIn_app (goodIn_of _ (by decide +kernel)) ggL_law_L_setting
set_option maxRecDepth 20000 in
theorem ggL_law_X6_setting : GoodIn wsL_law wsX6_setting := goodIn_r _ [831, 187, 72, 568, 569, 5, 570, 191, 192, 193, 989, 990, 991, 992, 993, 994, 995, 996, 997, 998, 999] (by decide +kernel) (by decide +kernel)
set_option maxRecDepth 20000 in
theorem gL_law_X6_setting : GoodIn wsL_law (wsV RL 169 RX6 yX6_setting wsX6_setting) := goodIn_app (goodIn_of _ (by decide +kernel)) ggL_law_X6_setting
set_option maxRecDepth 20000 in
theorem ggL_law_L_whyNot : GoodIn wsL_law wsL_whyNot := goodIn_ca (goodIn_ca (goodIn_r _ [834, 80, 81, 835, 836, 837, 2, 838, 17, 89, 90, 91, 92, 93, 94, 95, 96, 97, 31, 98, 45, 99, 100, 101, 102, 103, 839, 360, 361, 362, 254, 114, 115, 116, 117, 118, 119, 120, 35, 121, 112, 55, 56, 363, 364, 365, 366, 367, 368, 369, 370, 986, 987, 988, 1000, 1001, 1002, 1003, 1004, 1005, 1006, 1007, 1008, 1009, 1010, 1011, 1017, 1018, 1019, 1020, 1021] (by decide +kernel) (by decide +kernel)) (goodIn_sub (fun _ h => List.mem_append_left _ (List.mem_append_right _ h)) (by decide +kernel))) (goodIn_sub (fun _ h => List.mem_append_right _ h) (by decide +kernel))
set_option maxRecDepth 20000 in
theorem gL_law_L_whyNot : GoodIn wsL_law (va_wsS RL 170 yL_whyNot wsL_whyNot) := goodIn_app (goodIn_of _ (by decide +kernel)) ggL_law_L_whyNot
set_option maxRecDepth 20000 in
theorem ggL_law_X6_whyNot : GoodIn wsL_law wsX6_whyNot := goodIn_r _ [843, 187, 197, 198, 199, 5, 200, 72, 191, 192, 193, 194, 195, 196, 405, 406, 407, 408, 205, 206, 207, 208, 209, 210, 211, 212, 409, 410, 411, 412, 413, 414, 415, 416, 989, 990, 991, 992, 993, 994, 995, 996, 997, 998, 999] (by decide +kernel) (by decide +kernel)
set_option maxRecDepth 20000 in
theorem gL_law_X6_whyNot : GoodIn wsL_law (wsV RL 172 RX6 yX6_whyNot wsX6_whyNot) := goodIn_app (goodIn_of _ (by decide +kernel)) ggL_law_X6_whyNot
set_option maxRecDepth 20000 in
theorem ggL_law_L_room : GoodIn wsL_law wsL_room := goodIn_ca (goodIn_r _ [846, 80, 847, 848, 849, 2, 850, 17, 89, 90, 91, 92, 93, 94, 95, 96, 97, 31, 98, 45, 851, 852, 853, 854, 855, 856, 52, 857, 712, 51, 53, 254, 114, 115, 116, 117, 118, 119, 120, 35, 121, 112, 55, 56, 858, 372, 373, 374, 363, 364, 365, 366, 367, 368, 369, 370, 986, 987, 988, 1000, 1001, 1002, 1003, 1004, 1005, 1006, 1007, 1008, 1009, 1010, 1011, 1017, 1018, 1019, 1020, 1021] (by decide +kernel) (by decide +kernel)) (goodIn_sub (fun _ h => List.mem_append_left _ (List.mem_append_right _ h)) (by decide +kernel))
set_option maxRecDepth 20000 in
theorem gL_law_L_room : GoodIn wsL_law (va_wsS RL 173 yL_room wsL_room) := goodIn_app (goodIn_of _ (by decide +kernel)) ggL_law_L_room
set_option maxRecDepth 20000 in
theorem ggL_law_X6_room : GoodIn wsL_law wsX6_room := goodIn_r _ [862, 187, 197, 198, 199, 5, 200, 72, 191, 192, 193, 863, 864, 865, 866, 409, 410, 411, 412, 413, 414, 415, 416, 209, 210, 211, 212, 205, 206, 207, 208, 989, 990, 991, 992, 993, 994, 995, 996, 997, 998, 999] (by decide +kernel) (by decide +kernel)
set_option maxRecDepth 20000 in
theorem gL_law_X6_room : GoodIn wsL_law (wsV RL 176 RX6 yX6_room wsX6_room) := goodIn_app (goodIn_of _ (by decide +kernel)) ggL_law_X6_room
set_option maxRecDepth 20000 in
theorem ggL_law_L_under : GoodIn wsL_law wsL_under := goodIn_ca (goodIn_r _ [869, 80, 870, 871, 872, 2, 873, 17, 89, 90, 91, 92, 93, 94, 95, 96, 97, 31, 98, 45, 874, 251, 252, 253, 254, 114, 115, 116, 117, 118, 119, 120, 35, 121, 112, 55, 56, 255, 256, 257, 986, 987, 988, 1000, 1001, 1002, 1003, 1004, 1005, 1006, 1007, 1008, 1009, 1010, 1011, 1017, 1018, 1019, 1020, 1021] (by decide +kernel) (by decide +kernel)) (goodIn_sub (fun _ h => List.mem_append_left _ (List.mem_append_right _ h)) (by decide +kernel))
set_option maxRecDepth 20000 in
theorem gL_law_L_under : GoodIn wsL_law (va_wsS RL 177 yL_under wsL_under) := goodIn_app (goodIn_of _ (by decide +kernel)) ggL_law_L_under
set_option maxRecDepth 20000 in
theorem ggL_law_X6_under : GoodIn wsL_law wsX6_under := goodIn_r _ [878, 187, 197, 198, 199, 5, 200, 72, 191, 192, 193, 879, 880, 881, 882, 205, 206, 207, 208, 209, 210, 211, 212, 282, 283, 284, 285, 286, 287, 288, 289, 989, 990, 991, 992, 993, 994, 995, 996, 997, 998, 999] (by decide +kernel) (by decide +kernel)
set_option maxRecDepth 20000 in
theorem gL_law_X6_under : GoodIn wsL_law (wsV RL 179 RX6 yX6_under wsX6_under) := goodIn_app (goodIn_of _ (by decide +kernel)) ggL_law_X6_under
set_option maxRecDepth 20000 in
theorem ggL_law_L_narrowest : GoodIn wsL_law wsL_narrowest := goodIn_ca (goodIn_r _ [885, 80, 886, 887, 888, 2, 889, 17, 89, 90, 91, 92, 93, 94, 95, 96, 97, 31, 98, 45, 890, 364, 365, 366, 367, 368, 369, 370, 118, 119, 120, 35, 121, 112, 55, 56, 986, 987, 988, 1000, 1001, 1002, 1003, 1004, 1005, 1006, 1007, 1008, 1009, 1010, 1011, 1017, 1018, 1019, 1020, 1021] (by decide +kernel) (by decide +kernel)) (goodIn_sub (fun _ h => List.mem_append_left _ (List.mem_append_right _ h)) (by decide +kernel))
set_option maxRecDepth 20000 in
theorem gL_law_L_narrowest : GoodIn wsL_law (va_wsS RL 180 yL_narrowest wsL_narrowest) := goodIn_app (goodIn_of _ (by decide +kernel)) ggL_law_L_narrowest
