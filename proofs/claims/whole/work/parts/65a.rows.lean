set_option maxRecDepth 20000 in
theorem ggL_law_X5_ways : GoodIn wsL_law wsX5_ways := goodIn_r _ [618, 24, 29, 129, 330, 331, 332, 23, 333, 306, 619, 343, 344, 345, 55, 58, 346, 347, 265, 348, 349, 350, 351, 352, 353, 354, 620, 621, 622, 28, 623, 624, 625, 626, 627, 628, 629, 630, 631, 632, 633, 634, 635, 636, 637, 638, 639, 39, 40, 41, 640, 409, 410, 411, 412, 413, 414, 440, 2, 441, 501, 502, 503, 974, 975, 976, 977, 978, 979, 980, 981, 982, 983, 984, 985, 1028, 1029, 1030, 1031, 1032, 1033, 1034, 1035, 1036, 1037, 1038, 1039, 1040, 1041, 1042, 1043, 1044, 1045] (by decide +kernel) (by decide +kernel)
set_option maxRecDepth 20000 in
theorem gL_law_X5_ways : GoodIn wsL_law (wsV RL 101 RX5 yX5_ways wsX5_ways) := goodIn_app (goodIn_of _ (by decide +kernel)) ggL_law_X5_ways
set_option maxRecDepth 20000 in
theorem ggL_law_X6_ways : GoodIn wsL_law wsX6_ways := goodIn_r _ [644, 645, 646, 364, 365, 366, 5, 367, 324, 117, 118, 119, 647, 648, 649, 650, 81, 84, 422, 423, 424, 381, 382, 383, 387, 388, 389, 390, 391, 392, 393, 394, 380, 83, 82, 395, 396, 397, 384, 385, 386, 651, 652, 653, 654, 655, 656, 425, 426, 427, 167, 168, 169, 170, 171, 986, 987, 988, 989, 990, 991, 992, 993, 994, 995, 996, 997, 998, 999, 1000, 1001, 1002, 1003, 1004, 1005, 1006, 1007, 1008, 1009, 1010, 1011, 1012, 1013, 1014, 1015, 1016, 1017, 1018, 1019] (by decide +kernel) (by decide +kernel)
set_option maxRecDepth 20000 in
theorem gL_law_X6_ways : GoodIn wsL_law (wsV RL 104 RX6 yX6_ways wsX6_ways) := goodIn_app (goodIn_of _ (by decide +kernel)) ggL_law_X6_ways
set_option maxRecDepth 20000 in
theorem ggL_law_X5_writes : GoodIn wsL_law wsX5_writes := goodIn_r _ [660, 24, 15, 29, 330, 331, 332, 23, 333, 306, 96, 97, 98, 14, 99, 43, 619, 343, 344, 345, 55, 58, 346, 347, 265, 348, 349, 350, 351, 352, 353, 354, 620, 621, 622, 28, 623, 624, 625, 626, 627, 628, 629, 630, 631, 632, 633, 634, 635, 636, 637, 638, 639, 39, 40, 41, 640, 409, 410, 411, 412, 413, 414, 440, 2, 441, 501, 502, 503, 105, 106, 107, 108, 42, 44, 109, 439, 155, 156, 157, 158, 154, 147, 148, 149, 974, 975, 976, 977, 978, 979, 980, 981, 982, 983, 984, 985, 1028, 1029, 1030, 1031, 1032, 1033, 1034, 1035, 1036, 1037, 1038, 1039, 1040, 1041, 1042, 1043, 1044, 1045, 1020, 1021, 1022] (by decide +kernel) (by decide +kernel)
set_option maxRecDepth 20000 in
theorem gL_law_X5_writes : GoodIn wsL_law (wsV RL 105 RX5 yX5_writes wsX5_writes) := goodIn_app (goodIn_of _ (by decide +kernel)) ggL_law_X5_writes
set_option maxRecDepth 20000 in
theorem ggL_law_X6_writes : GoodIn wsL_law wsX6_writes := goodIn_r _ [664, 645, 655, 656, 73, 364, 365, 366, 5, 367, 324, 117, 118, 119, 114, 115, 116, 647, 648, 649, 650, 81, 84, 422, 423, 424, 381, 382, 383, 387, 388, 389, 390, 391, 392, 393, 394, 380, 83, 82, 395, 396, 397, 384, 385, 386, 651, 652, 653, 654, 646, 425, 426, 427, 665, 111, 112, 113, 72, 120, 121, 122, 123, 124, 71, 986, 987, 988, 989, 990, 991, 992, 993, 994, 995, 996, 997, 998, 999, 1000, 1001, 1002, 1003, 1004, 1005, 1006, 1007, 1008, 1009, 1010, 1011, 1012, 1013, 1014, 1015, 1016, 1017, 1018, 1019] (by decide +kernel) (by decide +kernel)
set_option maxRecDepth 20000 in
theorem gL_law_X6_writes : GoodIn wsL_law (wsV RL 108 RX6 yX6_writes wsX6_writes) := goodIn_app (goodIn_of _ (by decide +kernel)) ggL_law_X6_writes
set_option maxRecDepth 20000 in
theorem ggL_law_X5_greedy : GoodIn wsL_law wsX5_greedy := goodIn_r _ [669, 24, 503, 129, 330, 331, 332, 23, 333, 306, 619, 343, 344, 345, 55, 58, 346, 347, 265, 348, 349, 350, 351, 352, 353, 354, 439, 440, 2, 441, 974, 975, 976, 977, 978, 979, 980, 981, 982, 983, 984, 985, 1028, 1029, 1030, 1031, 1032, 1033, 1034, 1035, 1036, 1037, 1038, 1039, 1040] (by decide +kernel) (by decide +kernel)
set_option maxRecDepth 20000 in
theorem gL_law_X5_greedy : GoodIn wsL_law (wsV RL 109 RX5 yX5_greedy wsX5_greedy) := goodIn_app (goodIn_of _ (by decide +kernel)) ggL_law_X5_greedy
set_option maxRecDepth 20000 in
theorem ggL_law_X6_greedy : GoodIn wsL_law wsX6_greedy := goodIn_r _ [673, 380, 364, 365, 366, 5, 367, 324, 117, 118, 119, 387, 388, 389, 390, 84, 391, 392, 393, 394, 83, 82, 395, 396, 397, 384, 385, 386, 647, 648, 649, 650, 81, 422, 423, 424, 381, 382, 383, 167, 168, 169, 170, 171, 986, 987, 988, 989, 990, 991, 992, 993, 994, 995, 996, 997, 998, 999, 1000, 1001, 1002, 1003, 1004, 1005, 1006, 1007, 1008, 1009, 1010, 1011, 1012, 1013, 1014, 1015, 1016, 1017, 1018, 1019] (by decide +kernel) (by decide +kernel)
set_option maxRecDepth 20000 in
theorem gL_law_X6_greedy : GoodIn wsL_law (wsV RL 112 RX6 yX6_greedy wsX6_greedy) := goodIn_app (goodIn_of _ (by decide +kernel)) ggL_law_X6_greedy
set_option maxRecDepth 20000 in
theorem ggL_law_X5_serve : GoodIn wsL_law wsX5_serve := goodIn_r _ [677, 24, 29, 129, 330, 331, 332, 23, 333, 306, 619, 343, 344, 345, 55, 58, 346, 347, 265, 348, 349, 350, 351, 352, 353, 354, 620, 621, 622, 28, 623, 624, 625, 626, 627, 628, 629, 630, 631, 632, 633, 634, 635, 636, 637, 638, 639, 39, 40, 41, 640, 409, 410, 411, 412, 413, 414, 440, 2, 441, 501, 502, 503, 974, 975, 976, 977, 978, 979, 980, 981, 982, 983, 984, 985, 1028, 1029, 1030, 1031, 1032, 1033, 1034, 1035, 1036, 1037, 1038, 1039, 1040, 1041, 1042, 1043, 1044, 1045] (by decide +kernel) (by decide +kernel)
set_option maxRecDepth 20000 in
theorem gL_law_X5_serve : GoodIn wsL_law (wsV RL 113 RX5 yX5_serve wsX5_serve) := goodIn_app (goodIn_of _ (by decide +kernel)) ggL_law_X5_serve
set_option maxRecDepth 20000 in
theorem ggL_law_X6_serve : GoodIn wsL_law wsX6_serve := goodIn_r _ [681, 655, 656, 364, 365, 366, 5, 367, 324, 117, 118, 119, 428, 429, 430, 431, 84, 682, 683, 684, 685, 645, 647, 648, 649, 650, 81, 422, 423, 424, 381, 382, 383, 387, 388, 389, 390, 391, 392, 393, 394, 380, 83, 82, 395, 396, 397, 384, 385, 386, 651, 652, 653, 654, 646, 425, 426, 427, 167, 168, 169, 170, 171, 986, 987, 988, 989, 990, 991, 992, 993, 994, 995, 996, 997, 998, 999, 1000, 1001, 1002, 1003, 1004, 1005, 1006, 1007, 1008, 1009, 1010, 1011, 1012, 1013, 1014, 1015, 1016, 1017, 1018, 1019] (by decide +kernel) (by decide +kernel)
set_option maxRecDepth 20000 in
theorem gL_law_X6_serve : GoodIn wsL_law (wsV RL 116 RX6 yX6_serve wsX6_serve) := goodIn_app (goodIn_of _ (by decide +kernel)) ggL_law_X6_serve
set_option maxRecDepth 20000 in
theorem ggL_law_X5_need : GoodIn wsL_law wsX5_need := goodIn_r _ [689, 24, 129, 31, 690, 691, 692, 2, 693, 29, 619, 343, 344, 23, 345, 55, 58, 346, 347, 265, 348, 349, 350, 351, 352, 353, 354, 620, 621, 622, 28, 623, 624, 625, 626, 627, 628, 629, 630, 631, 632, 633, 634, 635, 636, 637, 638, 639, 39, 40, 41, 640, 409, 410, 411, 412, 413, 414, 440, 441, 501, 502, 503, 439, 974, 975, 976, 977, 978, 979, 980, 981, 982, 983, 984, 985, 1028, 1029, 1030, 1031, 1032, 1033, 1034, 1035, 1036, 1037, 1038, 1039, 1040, 1041, 1042, 1043, 1044, 1045] (by decide +kernel) (by decide +kernel)
set_option maxRecDepth 20000 in
theorem gL_law_X5_need : GoodIn wsL_law (wsV RL 117 RX5 yX5_need wsX5_need) := goodIn_app (goodIn_of _ (by decide +kernel)) ggL_law_X5_need
set_option maxRecDepth 20000 in
theorem ggL_law_X6_need : GoodIn wsL_law wsX6_need := goodIn_r _ [697, 324, 88, 698, 656, 84, 682, 683, 684, 5, 685, 645, 647, 648, 649, 650, 81, 422, 423, 424, 381, 382, 383, 387, 388, 389, 390, 391, 392, 393, 394, 380, 83, 82, 395, 396, 397, 384, 385, 386, 651, 652, 653, 654, 655, 646, 425, 426, 427, 167, 168, 169, 170, 171, 986, 987, 988, 989, 990, 991, 992, 993, 994, 995, 996, 997, 998, 999, 1000, 1001, 1002, 1003, 1004, 1005, 1006, 1007, 1008, 1009, 1010, 1011, 1012, 1013, 1014, 1015, 1016, 1017, 1018, 1019] (by decide +kernel) (by decide +kernel)
set_option maxRecDepth 20000 in
theorem gL_law_X6_need : GoodIn wsL_law (wsV RL 121 RX6 yX6_need wsX6_need) := goodIn_app (goodIn_of _ (by decide +kernel)) ggL_law_X6_need
set_option maxRecDepth 20000 in
theorem ggL_law_X5_poor : GoodIn wsL_law wsX5_poor := goodIn_r _ [702, 24, 596, 597, 598, 599, 2, 600, 601, 33, 602, 603, 604, 974, 975, 976, 977, 978, 979, 980, 981, 982, 983, 984, 985, 1028, 1029, 1030, 1031, 1032, 1033, 1034, 1035, 1036, 1037, 1038, 1039, 1040] (by decide +kernel) (by decide +kernel)
set_option maxRecDepth 20000 in
theorem gL_law_X5_poor : GoodIn wsL_law (wsV RL 122 RX5 yX5_poor wsX5_poor) := goodIn_app (goodIn_of _ (by decide +kernel)) ggL_law_X5_poor
set_option maxRecDepth 20000 in
theorem ggL_law_X6_poor : GoodIn wsL_law wsX6_poor := goodIn_r _ [706, 324, 609, 387, 388, 389, 5, 390, 84, 391, 392, 393, 394, 380, 83, 82, 395, 396, 397, 384, 385, 386, 610, 611, 612, 613, 614, 70, 986, 987, 988, 989, 990, 991, 992, 993, 994, 995, 996, 997, 998, 999, 1000, 1001, 1002, 1003, 1004, 1005, 1006, 1007, 1008, 1009, 1010, 1011, 1012, 1013, 1014, 1015, 1016, 1017, 1018, 1019] (by decide +kernel) (by decide +kernel)
set_option maxRecDepth 20000 in
theorem gL_law_X6_poor : GoodIn wsL_law (wsV RL 125 RX6 yX6_poor wsX6_poor) := goodIn_app (goodIn_of _ (by decide +kernel)) ggL_law_X6_poor
set_option maxRecDepth 20000 in
theorem ggL_law_X5_ready : GoodIn wsL_law wsX5_ready := goodIn_r _ [710, 24, 129, 711, 712, 713, 2, 714, 29, 619, 343, 344, 23, 345, 55, 58, 346, 347, 265, 348, 349, 350, 351, 352, 353, 354, 620, 621, 622, 28, 623, 624, 625, 626, 627, 628, 629, 630, 631, 632, 633, 634, 635, 636, 637, 638, 639, 39, 40, 41, 640, 409, 410, 411, 412, 413, 414, 440, 441, 501, 502, 503, 408, 974, 975, 976, 977, 978, 979, 980, 981, 982, 983, 984, 985, 1028, 1029, 1030, 1031, 1032, 1033, 1034, 1035, 1036, 1037, 1038, 1039, 1040, 1041, 1042, 1043, 1044, 1045] (by decide +kernel) (by decide +kernel)
set_option maxRecDepth 20000 in
theorem gL_law_X5_ready : GoodIn wsL_law (wsV RL 126 RX5 yX5_ready wsX5_ready) := goodIn_app (goodIn_of _ (by decide +kernel)) ggL_law_X5_ready
set_option maxRecDepth 20000 in
theorem ggL_law_X6_ready : GoodIn wsL_law wsX6_ready := goodIn_r _ [718, 324, 428, 429, 430, 5, 431, 84, 719, 720, 721, 722, 682, 683, 684, 685, 645, 647, 648, 649, 650, 81, 422, 423, 424, 381, 382, 383, 387, 388, 389, 390, 391, 392, 393, 394, 380, 83, 82, 395, 396, 397, 384, 385, 386, 651, 652, 653, 654, 655, 656, 646, 425, 426, 427, 167, 168, 169, 170, 171, 986, 987, 988, 989, 990, 991, 992, 993, 994, 995, 996, 997, 998, 999, 1000, 1001, 1002, 1003, 1004, 1005, 1006, 1007, 1008, 1009, 1010, 1011, 1012, 1013, 1014, 1015, 1016, 1017, 1018, 1019] (by decide +kernel) (by decide +kernel)
set_option maxRecDepth 20000 in
theorem gL_law_X6_ready : GoodIn wsL_law (wsV RL 129 RX6 yX6_ready wsX6_ready) := goodIn_app (goodIn_of _ (by decide +kernel)) ggL_law_X6_ready
set_option maxRecDepth 20000 in
theorem ggL_law_X5_best : GoodIn wsL_law wsX5_best := goodIn_r _ [726, 24, 129, 453, 454, 455, 23, 456, 307, 711, 712, 713, 2, 714, 29, 619, 343, 344, 345, 55, 58, 346, 347, 265, 348, 349, 350, 351, 352, 353, 354, 620, 621, 622, 28, 623, 624, 625, 626, 627, 628, 629, 630, 631, 632, 633, 634, 635, 636, 637, 638, 639, 39, 40, 41, 640, 409, 410, 411, 412, 413, 414, 440, 441, 501, 502, 503, 408, 974, 975, 976, 977, 978, 979, 980, 981, 982, 983, 984, 985, 1028, 1029, 1030, 1031, 1032, 1033, 1034, 1035, 1036, 1037, 1038, 1039, 1040, 1041, 1042, 1043, 1044, 1045] (by decide +kernel) (by decide +kernel)
set_option maxRecDepth 20000 in
theorem gL_law_X5_best : GoodIn wsL_law (wsV RL 130 RX5 yX5_best wsX5_best) := goodIn_app (goodIn_of _ (by decide +kernel)) ggL_law_X5_best
set_option maxRecDepth 20000 in
theorem ggL_law_X6_best : GoodIn wsL_law wsX6_best := goodIn_r _ [730, 84, 428, 429, 430, 5, 431, 719, 720, 721, 722, 324, 682, 683, 684, 685, 645, 647, 648, 649, 650, 81, 422, 423, 424, 381, 382, 383, 387, 388, 389, 390, 391, 392, 393, 394, 380, 83, 82, 395, 396, 397, 384, 385, 386, 651, 652, 653, 654, 655, 656, 646, 425, 426, 427, 167, 168, 169, 170, 171, 986, 987, 988, 989, 990, 991, 992, 993, 994, 995, 996, 997, 998, 999, 1000, 1001, 1002, 1003, 1004, 1005, 1006, 1007, 1008, 1009, 1010, 1011, 1012, 1013, 1014, 1015, 1016, 1017, 1018, 1019] (by decide +kernel) (by decide +kernel)
set_option maxRecDepth 20000 in
theorem gL_law_X6_best : GoodIn wsL_law (wsV RL 133 RX6 yX6_best wsX6_best) := goodIn_app (goodIn_of _ (by decide +kernel)) ggL_law_X6_best
set_option maxRecDepth 20000 in
theorem ggL_law_X5_dues : GoodIn wsL_law wsX5_dues := goodIn_r _ [734, 15, 503, 129, 134, 135, 136, 2, 137, 96, 97, 98, 14, 99, 43, 138, 139, 140, 141, 142, 143, 144, 145, 109, 100, 101, 102, 103, 104, 32, 735, 736, 737, 738, 217, 150, 151, 152, 153, 44, 42, 154, 147, 148, 149, 436, 437, 438, 439, 440, 441, 739, 501, 502, 974, 975, 976, 977, 978, 979, 980, 981, 982, 983, 984, 985, 1020, 1021, 1022] (by decide +kernel) (by decide +kernel)
set_option maxRecDepth 20000 in
theorem gL_law_X5_dues : GoodIn wsL_law (wsV RL 134 RX5 yX5_dues wsX5_dues) := goodIn_app (goodIn_of _ (by decide +kernel)) ggL_law_X5_dues
set_option maxRecDepth 20000 in
theorem ggL_law_X6_dues : GoodIn wsL_law wsX6_dues := goodIn_r _ [743, 72, 380, 114, 115, 5, 116, 117, 118, 119, 120, 121, 122, 123, 124, 71, 163, 164, 165, 166, 73, 446, 447, 448, 384, 385, 386, 395, 396, 397, 167, 168, 169, 170, 171, 986, 987, 988, 989, 990, 991, 992, 993, 994, 995, 996, 997, 998, 999, 1000, 1001, 1002, 1003, 1004, 1005, 1006, 1007, 1008, 1009, 1010, 1011, 1012, 1013, 1014, 1015, 1016, 1017, 1018, 1019] (by decide +kernel) (by decide +kernel)
set_option maxRecDepth 20000 in
theorem gL_law_X6_dues : GoodIn wsL_law (wsV RL 137 RX6 yX6_dues wsX6_dues) := goodIn_app (goodIn_of _ (by decide +kernel)) ggL_law_X6_dues
set_option maxRecDepth 20000 in
theorem ggL_law_X5_kinds : GoodIn wsL_law wsX5_kinds := goodIn_r _ [747, 748, 749, 750, 2, 751, 15, 134, 135, 136, 137, 96, 97, 98, 14, 99, 43, 138, 139, 140, 141, 142, 143, 144, 145, 109, 100, 101, 102, 103, 104, 32, 217, 150, 151, 152, 153, 44, 42, 154, 147, 148, 149, 436, 437, 438, 752, 753, 754, 755, 756, 757, 265, 758, 440, 441, 759, 347, 348, 349, 350, 351, 352, 353, 354, 974, 975, 976, 977, 978, 979, 980, 981, 982, 983, 984, 985, 1020, 1021, 1022] (by decide +kernel) (by decide +kernel)
set_option maxRecDepth 20000 in
theorem gL_law_X5_kinds : GoodIn wsL_law (wsV RL 138 RX5 yX5_kinds wsX5_kinds) := goodIn_app (goodIn_of _ (by decide +kernel)) ggL_law_X5_kinds
set_option maxRecDepth 20000 in
theorem ggL_law_X6_kinds : GoodIn wsL_law wsX6_kinds := goodIn_r _ [763, 764, 765, 766, 5, 767, 72, 114, 115, 116, 117, 118, 119, 120, 121, 122, 123, 124, 71, 163, 164, 165, 166, 73, 446, 447, 448, 768, 769, 770, 771, 381, 382, 383, 986, 987, 988, 989, 990, 991, 992, 993, 994, 995, 996, 997, 998, 999, 1000, 1001, 1002, 1003, 1004, 1005, 1006, 1007, 1008, 1009, 1010, 1011, 1012, 1013, 1014, 1015, 1016, 1017, 1018, 1019] (by decide +kernel) (by decide +kernel)
set_option maxRecDepth 20000 in
theorem gL_law_X6_kinds : GoodIn wsL_law (wsV RL 141 RX6 yX6_kinds wsX6_kinds) := goodIn_app (goodIn_of _ (by decide +kernel)) ggL_law_X6_kinds
set_option maxRecDepth 20000 in
theorem ggL_law_X5_test : GoodIn wsL_law wsX5_test := goodIn_r _ [775, 776, 39, 40, 41, 129, 748, 749, 750, 2, 751, 15, 134, 135, 136, 137, 96, 97, 98, 14, 99, 43, 138, 139, 140, 141, 142, 143, 144, 145, 109, 100, 101, 102, 103, 104, 32, 217, 150, 151, 152, 153, 44, 42, 154, 147, 148, 149, 436, 437, 438, 752, 753, 754, 755, 756, 757, 265, 758, 440, 441, 759, 347, 348, 349, 350, 351, 352, 353, 354, 408, 409, 410, 411, 412, 413, 414, 974, 975, 976, 977, 978, 979, 980, 981, 982, 983, 984, 985, 1020, 1021, 1022] (by decide +kernel) (by decide +kernel)
set_option maxRecDepth 20000 in
theorem gL_law_X5_test : GoodIn wsL_law (wsV RL 142 RX5 yX5_test wsX5_test) := goodIn_app (goodIn_of _ (by decide +kernel)) ggL_law_X5_test
set_option maxRecDepth 20000 in
theorem ggL_law_X6_test : GoodIn wsL_law wsX6_test := goodIn_r _ [780, 764, 765, 766, 5, 767, 72, 114, 115, 116, 117, 118, 119, 120, 121, 122, 123, 124, 71, 163, 164, 165, 166, 73, 446, 447, 448, 768, 769, 770, 771, 381, 382, 383, 384, 385, 386, 425, 426, 427, 167, 168, 169, 170, 171, 986, 987, 988, 989, 990, 991, 992, 993, 994, 995, 996, 997, 998, 999, 1000, 1001, 1002, 1003, 1004, 1005, 1006, 1007, 1008, 1009, 1010, 1011, 1012, 1013, 1014, 1015, 1016, 1017, 1018, 1019] (by decide +kernel) (by decide +kernel)
set_option maxRecDepth 20000 in
theorem gL_law_X6_test : GoodIn wsL_law (wsV RL 145 RX6 yX6_test wsX6_test) := goodIn_app (goodIn_of _ (by decide +kernel)) ggL_law_X6_test
set_option maxRecDepth 20000 in
theorem ggL_law_X5_duel : GoodIn wsL_law wsX5_duel := goodIn_r _ [784, 24, 330, 331, 332, 23, 333, 306, 785, 786, 787, 788, 59, 314, 315, 316, 317, 57, 318, 56, 789, 790, 791, 792, 793, 794, 795, 796, 797, 358, 39, 40, 41, 338, 339, 340, 341, 313, 342, 343, 344, 345, 55, 58, 346, 347, 265, 348, 349, 350, 351, 352, 353, 354, 355, 356, 357, 359, 798, 799, 410, 800, 801, 501, 2, 502, 503, 440, 441, 497, 498, 499, 500, 465, 466, 467, 468, 54, 524, 525, 526, 527, 802, 803, 804, 805, 974, 975, 976, 977, 978, 979, 980, 981, 982, 983, 984, 985, 1028, 1029, 1030, 1031, 1032, 1033, 1034, 1035, 1036, 1037, 1038, 1039, 1040] (by decide +kernel) (by decide +kernel)
set_option maxRecDepth 20000 in
theorem gL_law_X5_duel : GoodIn wsL_law (wsV RL 146 RX5 yX5_duel wsX5_duel) := goodIn_app (goodIn_of _ (by decide +kernel)) ggL_law_X5_duel
set_option maxRecDepth 20000 in
theorem ggL_law_X6_duel : GoodIn wsL_law wsX6_duel := goodIn_r _ [809, 90, 810, 364, 365, 366, 5, 367, 324, 117, 118, 119, 811, 812, 813, 814, 91, 84, 81, 380, 387, 388, 389, 390, 391, 392, 393, 394, 83, 82, 395, 396, 397, 384, 385, 386, 381, 382, 383, 986, 987, 988, 989, 990, 991, 992, 993, 994, 995, 996, 997, 998, 999, 1000, 1001, 1002, 1003, 1004, 1005, 1006, 1007, 1008, 1009, 1010, 1011, 1012, 1013, 1014, 1015, 1016, 1017, 1018, 1019] (by decide +kernel) (by decide +kernel)
set_option maxRecDepth 20000 in
theorem gL_law_X6_duel : GoodIn wsL_law (wsV RL 149 RX6 yX6_duel wsX6_duel) := goodIn_app (goodIn_of _ (by decide +kernel)) ggL_law_X6_duel
set_option maxRecDepth 20000 in
theorem ggL_law_X5_odds : GoodIn wsL_law wsX5_odds := goodIn_r _ [818, 24, 330, 331, 332, 23, 333, 306, 819, 315, 316, 317, 57, 318, 56, 785, 786, 787, 788, 59, 314, 820, 821, 2, 822, 408, 409, 410, 411, 412, 413, 414, 823, 824, 825, 826, 439, 440, 441, 739, 501, 502, 503, 597, 598, 599, 600, 601, 33, 602, 603, 604, 974, 975, 976, 977, 978, 979, 980, 981, 982, 983, 984, 985, 1028, 1029, 1030, 1031, 1032, 1033, 1034, 1035, 1036, 1037, 1038, 1039, 1040] (by decide +kernel) (by decide +kernel)
set_option maxRecDepth 20000 in
theorem gL_law_X5_odds : GoodIn wsL_law (wsV RL 150 RX5 yX5_odds wsX5_odds) := goodIn_app (goodIn_of _ (by decide +kernel)) ggL_law_X5_odds
set_option maxRecDepth 20000 in
theorem ggL_law_X6_odds : GoodIn wsL_law wsX6_odds := goodIn_r _ [830, 84, 831, 364, 365, 366, 5, 367, 324, 117, 118, 119, 425, 426, 427, 395, 396, 397, 380, 384, 385, 386, 391, 392, 393, 394, 83, 82, 610, 611, 612, 613, 614, 70, 986, 987, 988, 989, 990, 991, 992, 993, 994, 995, 996, 997, 998, 999, 1000, 1001, 1002, 1003, 1004, 1005, 1006, 1007, 1008, 1009, 1010, 1011, 1012, 1013, 1014, 1015, 1016, 1017, 1018, 1019] (by decide +kernel) (by decide +kernel)
set_option maxRecDepth 20000 in
theorem gL_law_X6_odds : GoodIn wsL_law (wsV RL 153 RX6 yX6_odds wsX6_odds) := goodIn_app (goodIn_of _ (by decide +kernel)) ggL_law_X6_odds
set_option maxRecDepth 20000 in
theorem ggL_law_X5_mid : GoodIn wsL_law wsX5_mid := goodIn_r _ [835, 24, 836, 330, 331, 332, 23, 333, 306, 785, 786, 787, 788, 59, 314, 315, 316, 317, 57, 318, 56, 597, 598, 599, 2, 600, 601, 33, 602, 603, 604, 974, 975, 976, 977, 978, 979, 980, 981, 982, 983, 984, 985, 1028, 1029, 1030, 1031, 1032, 1033, 1034, 1035, 1036, 1037, 1038, 1039, 1040] (by decide +kernel) (by decide +kernel)
set_option maxRecDepth 20000 in
theorem gL_law_X5_mid : GoodIn wsL_law (wsV RL 154 RX5 yX5_mid wsX5_mid) := goodIn_app (goodIn_of _ (by decide +kernel)) ggL_law_X5_mid
set_option maxRecDepth 20000 in
theorem ggL_law_X6_mid : GoodIn wsL_law wsX6_mid := goodIn_r _ [840, 831, 84, 841, 364, 365, 366, 5, 367, 324, 117, 118, 119, 395, 396, 397, 380, 384, 385, 386, 610, 611, 612, 613, 614, 70, 986, 987, 988, 989, 990, 991, 992, 993, 994, 995, 996, 997, 998, 999, 1000, 1001, 1002, 1003, 1004, 1005, 1006, 1007, 1008, 1009, 1010, 1011, 1012, 1013, 1014, 1015, 1016, 1017, 1018, 1019] (by decide +kernel) (by decide +kernel)
set_option maxRecDepth 20000 in
theorem gL_law_X6_mid : GoodIn wsL_law (wsV RL 157 RX6 yX6_mid wsX6_mid) := goodIn_app (goodIn_of _ (by decide +kernel)) ggL_law_X6_mid
set_option maxRecDepth 20000 in
theorem ggL_law_X5_lots : GoodIn wsL_law wsX5_lots := goodIn_r _ [845, 846, 24, 847, 848, 457, 458, 459, 23, 460, 312, 849, 850, 851, 852, 306, 853, 454, 455, 456, 307, 854, 462, 463, 464, 465, 466, 467, 468, 54, 313, 469, 470, 471, 472, 60, 61, 62, 855, 517, 518, 519, 58, 440, 2, 441, 856, 521, 522, 523, 524, 525, 526, 527, 59, 501, 502, 503, 857, 490, 491, 492, 338, 339, 340, 341, 342, 343, 344, 345, 55, 346, 347, 265, 348, 349, 350, 351, 352, 353, 354, 355, 356, 357, 318, 358, 39, 40, 41, 359, 858, 494, 495, 496, 497, 498, 499, 500, 859, 860, 861, 862, 974, 975, 976, 977, 978, 979, 980, 981, 982, 983, 984, 985, 1028, 1029, 1030, 1031, 1032, 1033, 1034, 1035, 1036, 1037, 1038, 1039, 1040] (by decide +kernel) (by decide +kernel)
set_option maxRecDepth 20000 in
theorem gL_law_X5_lots : GoodIn wsL_law (wsV RL 158 RX5 yX5_lots wsX5_lots) := goodIn_app (goodIn_of _ (by decide +kernel)) ggL_law_X5_lots
set_option maxRecDepth 20000 in
theorem ggL_law_X6_lots : GoodIn wsL_law wsX6_lots := goodIn_r _ [866, 867, 324, 325, 868, 869, 870, 871, 872, 873, 84, 874, 117, 118, 5, 119, 477, 478, 479, 480, 85, 481, 482, 483, 484, 384, 385, 386, 532, 533, 534, 535, 372, 373, 374, 375, 376, 377, 378, 379, 81, 380, 381, 382, 383, 387, 388, 389, 390, 391, 392, 393, 394, 83, 82, 395, 396, 397, 508, 509, 510, 511, 875, 876, 877, 878, 72, 75, 86, 425, 426, 427, 428, 429, 430, 431, 419, 420, 421, 986, 987, 988, 989, 990, 991, 992, 993, 994, 995, 996, 997, 998, 999, 1000, 1001, 1002, 1003, 1004, 1005, 1006, 1007, 1008, 1009, 1010, 1011, 1012, 1013, 1014, 1015, 1016, 1017, 1018, 1019] (by decide +kernel) (by decide +kernel)
set_option maxRecDepth 20000 in
theorem gL_law_X6_lots : GoodIn wsL_law (wsV RL 161 RX6 yX6_lots wsX6_lots) := goodIn_app (goodIn_of _ (by decide +kernel)) ggL_law_X6_lots
set_option maxRecDepth 20000 in
theorem ggL_law_X5_asked : GoodIn wsL_law wsX5_asked := goodIn_r _ [882, 129, 974, 975, 976, 977, 978, 979, 980, 981, 982, 983, 984, 985] (by decide +kernel) (by decide +kernel)
set_option maxRecDepth 20000 in
theorem gL_law_X5_asked : GoodIn wsL_law (wsV RL 162 RX5 yX5_asked wsX5_asked) := goodIn_app (goodIn_of _ (by decide +kernel)) ggL_law_X5_asked
set_option maxRecDepth 20000 in
theorem ggL_law_X6_asked : GoodIn wsL_law wsX6_asked := goodIn_r _ [886, 171, 986, 987, 988, 989, 990, 991, 992, 993, 994, 995, 996, 997, 998, 999, 1000, 1001, 1002, 1003, 1004, 1005, 1006, 1007, 1008, 1009, 1010, 1011, 1012, 1013, 1014, 1015, 1016, 1017, 1018, 1019] (by decide +kernel) (by decide +kernel)
set_option maxRecDepth 20000 in
theorem gL_law_X6_asked : GoodIn wsL_law (wsV RL 165 RX6 yX6_asked wsX6_asked) := goodIn_app (goodIn_of _ (by decide +kernel)) ggL_law_X6_asked
set_option maxRecDepth 20000 in
theorem ggL_law_X5_upper : GoodIn wsL_law wsX5_upper := goodIn_r _ [890, 601, 974, 975, 976, 977, 978, 979, 980, 981, 982, 983, 984, 985] (by decide +kernel) (by decide +kernel)
set_option maxRecDepth 20000 in
theorem gL_law_X5_upper : GoodIn wsL_law (wsV RL 166 RX5 yX5_upper wsX5_upper) := goodIn_app (goodIn_of _ (by decide +kernel)) ggL_law_X5_upper
set_option maxRecDepth 20000 in
theorem ggL_law_X6_upper : GoodIn wsL_law wsX6_upper := goodIn_r _ [894, 614, 986, 987, 988, 989, 990, 991, 992, 993, 994, 995, 996, 997, 998, 999, 1000, 1001, 1002, 1003, 1004, 1005, 1006, 1007, 1008, 1009, 1010, 1011, 1012, 1013, 1014, 1015, 1016, 1017, 1018, 1019] (by decide +kernel) (by decide +kernel)
set_option maxRecDepth 20000 in
theorem gL_law_X6_upper : GoodIn wsL_law (wsV RL 170 RX6 yX6_upper wsX6_upper) := goodIn_app (goodIn_of _ (by decide +kernel)) ggL_law_X6_upper
set_option maxRecDepth 20000 in
theorem ggL_law_X5_lower : GoodIn wsL_law wsX5_lower := goodIn_r _ [898, 33, 974, 975, 976, 977, 978, 979, 980, 981, 982, 983, 984, 985] (by decide +kernel) (by decide +kernel)
set_option maxRecDepth 20000 in
theorem gL_law_X5_lower : GoodIn wsL_law (wsV RL 171 RX5 yX5_lower wsX5_lower) := goodIn_app (goodIn_of _ (by decide +kernel)) ggL_law_X5_lower
set_option maxRecDepth 20000 in
theorem ggL_law_X6_lower : GoodIn wsL_law wsX6_lower := goodIn_r _ [902, 70, 986, 987, 988, 989, 990, 991, 992, 993, 994, 995, 996, 997, 998, 999, 1000, 1001, 1002, 1003, 1004, 1005, 1006, 1007, 1008, 1009, 1010, 1011, 1012, 1013, 1014, 1015, 1016, 1017, 1018, 1019] (by decide +kernel) (by decide +kernel)
set_option maxRecDepth 20000 in
theorem gL_law_X6_lower : GoodIn wsL_law (wsV RL 174 RX6 yX6_lower wsX6_lower) := goodIn_app (goodIn_of _ (by decide +kernel)) ggL_law_X6_lower
set_option maxRecDepth 20000 in
theorem ggL_law_X5_count : GoodIn wsL_law wsX5_count := goodIn_r _ [906, 24, 15, 16, 859, 860, 861, 23, 862, 54, 907, 908, 909, 910, 306, 58, 911, 409, 410, 411, 412, 413, 414, 912, 913, 914, 915, 59, 916, 917, 918, 14, 919, 43, 920, 139, 140, 141, 142, 143, 144, 145, 109, 97, 98, 99, 921, 922, 923, 2, 924, 25, 925, 926, 927, 928, 55, 929, 405, 265, 406, 974, 975, 976, 977, 978, 979, 980, 981, 982, 983, 984, 985, 1028, 1029, 1030, 1031, 1032, 1033, 1034, 1035, 1036, 1037, 1038, 1039, 1040, 1020, 1021, 1022] (by decide +kernel) (by decide +kernel)
set_option maxRecDepth 20000 in
theorem gL_law_X5_count : GoodIn wsL_law (wsV RL 175 RX5 yX5_count wsX5_count) := goodIn_app (goodIn_of _ (by decide +kernel)) ggL_law_X5_count
set_option maxRecDepth 20000 in
theorem ggL_law_X6_count : GoodIn wsL_law wsX6_count := goodIn_r _ [933, 117, 118, 5, 119, 875, 876, 877, 878, 324, 84, 325, 72, 75, 86, 81, 425, 426, 427, 387, 388, 389, 390, 391, 392, 393, 394, 380, 83, 82, 395, 396, 397, 384, 385, 386, 428, 429, 430, 431, 419, 420, 421, 986, 987, 988, 989, 990, 991, 992, 993, 994, 995, 996, 997, 998, 999, 1000, 1001, 1002, 1003, 1004, 1005, 1006, 1007, 1008, 1009, 1010, 1011, 1012, 1013, 1014, 1015, 1016, 1017, 1018, 1019] (by decide +kernel) (by decide +kernel)
set_option maxRecDepth 20000 in
theorem gL_law_X6_count : GoodIn wsL_law (wsV RL 178 RX6 yX6_count wsX6_count) := goodIn_app (goodIn_of _ (by decide +kernel)) ggL_law_X6_count
set_option maxRecDepth 20000 in
theorem ggL_law_X5_finding : GoodIn wsL_law wsX5_finding := goodIn_r _ [937, 104, 974, 975, 976, 977, 978, 979, 980, 981, 982, 983, 984, 985] (by decide +kernel) (by decide +kernel)
set_option maxRecDepth 20000 in
theorem gL_law_X5_finding : GoodIn wsL_law (wsV RL 179 RX5 yX5_finding wsX5_finding) := goodIn_app (goodIn_of _ (by decide +kernel)) ggL_law_X5_finding
set_option maxRecDepth 20000 in
theorem ggL_law_X6_finding : GoodIn wsL_law wsX6_finding := goodIn_r _ [941, 124, 986, 987, 988, 989, 990, 991, 992, 993, 994, 995, 996, 997, 998, 999, 1000, 1001, 1002, 1003, 1004, 1005, 1006, 1007, 1008, 1009, 1010, 1011, 1012, 1013, 1014, 1015, 1016, 1017, 1018, 1019] (by decide +kernel) (by decide +kernel)
set_option maxRecDepth 20000 in
theorem gL_law_X6_finding : GoodIn wsL_law (wsV RL 182 RX6 yX6_finding wsX6_finding) := goodIn_app (goodIn_of _ (by decide +kernel)) ggL_law_X6_finding
set_option maxRecDepth 20000 in
theorem ggL_law_X5_findings : GoodIn wsL_law wsX5_findings := goodIn_r _ [945, 32, 974, 975, 976, 977, 978, 979, 980, 981, 982, 983, 984, 985] (by decide +kernel) (by decide +kernel)
set_option maxRecDepth 20000 in
theorem gL_law_X5_findings : GoodIn wsL_law (wsV RL 183 RX5 yX5_findings wsX5_findings) := goodIn_app (goodIn_of _ (by decide +kernel)) ggL_law_X5_findings
set_option maxRecDepth 20000 in
theorem ggL_law_X6_findings : GoodIn wsL_law wsX6_findings := goodIn_r _ [949, 71, 117, 118, 5, 119, 986, 987, 988, 989, 990, 991, 992, 993, 994, 995, 996, 997, 998, 999, 1000, 1001, 1002, 1003, 1004, 1005, 1006, 1007, 1008, 1009, 1010, 1011, 1012, 1013, 1014, 1015, 1016, 1017, 1018, 1019] (by decide +kernel) (by decide +kernel)
set_option maxRecDepth 20000 in
theorem gL_law_X6_findings : GoodIn wsL_law (wsV RL 186 RX6 yX6_findings wsX6_findings) := goodIn_app (goodIn_of _ (by decide +kernel)) ggL_law_X6_findings
set_option maxRecDepth 20000 in
theorem ggL_law_X5_digest : GoodIn wsL_law wsX5_digest := goodIn_r _ [953, 954, 955, 24, 25, 16, 15, 956, 904, 905, 2, 906, 859, 860, 861, 23, 862, 54, 907, 908, 909, 910, 306, 58, 911, 409, 410, 411, 412, 413, 414, 912, 913, 914, 915, 59, 916, 917, 918, 14, 919, 43, 920, 139, 140, 141, 142, 143, 144, 145, 109, 97, 98, 99, 921, 922, 923, 924, 925, 926, 927, 928, 55, 929, 405, 265, 406, 334, 335, 336, 337, 56, 57, 338, 339, 340, 341, 313, 342, 343, 344, 345, 346, 347, 348, 349, 350, 351, 352, 353, 354, 355, 356, 357, 318, 358, 39, 40, 41, 359, 957, 958, 959, 960, 961, 962, 151, 152, 153, 44, 42, 154, 147, 148, 149, 974, 975, 976, 977, 978, 979, 980, 981, 982, 983, 984, 985, 1028, 1029, 1030, 1031, 1032, 1033, 1034, 1035, 1036, 1037, 1038, 1039, 1040, 1020, 1021, 1022] (by decide +kernel) (by decide +kernel)
set_option maxRecDepth 20000 in
theorem gL_law_X5_digest : GoodIn wsL_law (wsV RL 187 RX5 yX5_digest wsX5_digest) := goodIn_app (goodIn_of _ (by decide +kernel)) ggL_law_X5_digest
set_option maxRecDepth 20000 in
theorem ggL_law_X6_digest : GoodIn wsL_law wsX6_digest := goodIn_r _ [966, 967, 968, 324, 84, 86, 72, 75, 77, 875, 876, 877, 5, 878, 325, 81, 425, 426, 427, 387, 388, 389, 390, 391, 392, 393, 394, 380, 83, 82, 395, 396, 397, 384, 385, 386, 428, 429, 430, 431, 419, 420, 421, 969, 970, 971, 972, 973, 368, 369, 370, 371, 372, 373, 374, 375, 376, 377, 378, 379, 381, 382, 383, 163, 164, 165, 166, 73, 986, 987, 988, 989, 990, 991, 992, 993, 994, 995, 996, 997, 998, 999, 1000, 1001, 1002, 1003, 1004, 1005, 1006, 1007, 1008, 1009, 1010, 1011, 1012, 1013, 1014, 1015, 1016, 1017, 1018, 1019] (by decide +kernel) (by decide +kernel)
set_option maxRecDepth 20000 in
theorem gL_law_X6_digest : GoodIn wsL_law (wsV RL 190 RX6 yX6_digest wsX6_digest) := goodIn_app (goodIn_of _ (by decide +kernel)) ggL_law_X6_digest
