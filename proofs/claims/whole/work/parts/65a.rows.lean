set_option maxRecDepth 20000 in
theorem ggL_law_X5_ways : GoodIn wsL_law wsX5_ways := goodIn_r _ [617, 24, 29, 125, 326, 327, 328, 23, 329, 302, 618, 339, 340, 341, 51, 54, 342, 343, 261, 344, 345, 346, 347, 348, 349, 350, 619, 620, 621, 28, 622, 623, 624, 625, 626, 627, 628, 629, 630, 631, 632, 633, 634, 635, 636, 637, 638, 355, 356, 357, 639, 408, 409, 410, 411, 412, 413, 439, 2, 440, 500, 501, 502, 973, 974, 975, 976, 977, 978, 979, 980, 981, 982, 983, 984, 1027, 1028, 1029, 1030, 1031, 1032, 1033, 1034, 1035, 1036, 1037, 1038, 1039, 1040, 1041, 1042, 1043, 1044] (by decide +kernel) (by decide +kernel)
set_option maxRecDepth 20000 in
theorem gL_law_X5_ways : GoodIn wsL_law (wsV RL 101 RX5 yX5_ways wsX5_ways) := goodIn_app (goodIn_of _ (by decide +kernel)) ggL_law_X5_ways
set_option maxRecDepth 20000 in
theorem ggL_law_X6_ways : GoodIn wsL_law wsX6_ways := goodIn_r _ [643, 644, 645, 363, 364, 365, 5, 366, 320, 113, 114, 115, 646, 647, 648, 649, 77, 80, 421, 422, 423, 380, 381, 382, 386, 387, 388, 389, 390, 391, 392, 393, 379, 79, 78, 394, 395, 396, 383, 384, 385, 650, 651, 652, 653, 654, 655, 424, 425, 426, 163, 164, 165, 166, 167, 985, 986, 987, 988, 989, 990, 991, 992, 993, 994, 995, 996, 997, 998, 999, 1000, 1001, 1002, 1003, 1004, 1005, 1006, 1007, 1008, 1009, 1010, 1011, 1012, 1013, 1014, 1015, 1016, 1017, 1018] (by decide +kernel) (by decide +kernel)
set_option maxRecDepth 20000 in
theorem gL_law_X6_ways : GoodIn wsL_law (wsV RL 104 RX6 yX6_ways wsX6_ways) := goodIn_app (goodIn_of _ (by decide +kernel)) ggL_law_X6_ways
set_option maxRecDepth 20000 in
theorem ggL_law_X5_writes : GoodIn wsL_law wsX5_writes := goodIn_r _ [659, 24, 15, 29, 326, 327, 328, 23, 329, 302, 92, 93, 94, 14, 95, 39, 618, 339, 340, 341, 51, 54, 342, 343, 261, 344, 345, 346, 347, 348, 349, 350, 619, 620, 621, 28, 622, 623, 624, 625, 626, 627, 628, 629, 630, 631, 632, 633, 634, 635, 636, 637, 638, 355, 356, 357, 639, 408, 409, 410, 411, 412, 413, 439, 2, 440, 500, 501, 502, 101, 102, 103, 104, 38, 40, 105, 438, 151, 152, 153, 154, 150, 143, 144, 145, 138, 139, 140, 141, 973, 974, 975, 976, 977, 978, 979, 980, 981, 982, 983, 984, 1027, 1028, 1029, 1030, 1031, 1032, 1033, 1034, 1035, 1036, 1037, 1038, 1039, 1040, 1041, 1042, 1043, 1044, 1019, 1020, 1021] (by decide +kernel) (by decide +kernel)
set_option maxRecDepth 20000 in
theorem gL_law_X5_writes : GoodIn wsL_law (wsV RL 105 RX5 yX5_writes wsX5_writes) := goodIn_app (goodIn_of _ (by decide +kernel)) ggL_law_X5_writes
set_option maxRecDepth 20000 in
theorem ggL_law_X6_writes : GoodIn wsL_law wsX6_writes := goodIn_r _ [663, 644, 654, 655, 69, 363, 364, 365, 5, 366, 320, 113, 114, 115, 110, 111, 112, 646, 647, 648, 649, 77, 80, 421, 422, 423, 380, 381, 382, 386, 387, 388, 389, 390, 391, 392, 393, 379, 79, 78, 394, 395, 396, 383, 384, 385, 650, 651, 652, 653, 645, 424, 425, 426, 664, 107, 108, 109, 68, 116, 117, 118, 119, 120, 67, 985, 986, 987, 988, 989, 990, 991, 992, 993, 994, 995, 996, 997, 998, 999, 1000, 1001, 1002, 1003, 1004, 1005, 1006, 1007, 1008, 1009, 1010, 1011, 1012, 1013, 1014, 1015, 1016, 1017, 1018] (by decide +kernel) (by decide +kernel)
set_option maxRecDepth 20000 in
theorem gL_law_X6_writes : GoodIn wsL_law (wsV RL 108 RX6 yX6_writes wsX6_writes) := goodIn_app (goodIn_of _ (by decide +kernel)) ggL_law_X6_writes
set_option maxRecDepth 20000 in
theorem ggL_law_X5_greedy : GoodIn wsL_law wsX5_greedy := goodIn_r _ [668, 24, 502, 125, 326, 327, 328, 23, 329, 302, 618, 339, 340, 341, 51, 54, 342, 343, 261, 344, 345, 346, 347, 348, 349, 350, 438, 439, 2, 440, 973, 974, 975, 976, 977, 978, 979, 980, 981, 982, 983, 984, 1027, 1028, 1029, 1030, 1031, 1032, 1033, 1034, 1035, 1036, 1037, 1038, 1039] (by decide +kernel) (by decide +kernel)
set_option maxRecDepth 20000 in
theorem gL_law_X5_greedy : GoodIn wsL_law (wsV RL 109 RX5 yX5_greedy wsX5_greedy) := goodIn_app (goodIn_of _ (by decide +kernel)) ggL_law_X5_greedy
set_option maxRecDepth 20000 in
theorem ggL_law_X6_greedy : GoodIn wsL_law wsX6_greedy := goodIn_r _ [672, 379, 363, 364, 365, 5, 366, 320, 113, 114, 115, 386, 387, 388, 389, 80, 390, 391, 392, 393, 79, 78, 394, 395, 396, 383, 384, 385, 646, 647, 648, 649, 77, 421, 422, 423, 380, 381, 382, 163, 164, 165, 166, 167, 985, 986, 987, 988, 989, 990, 991, 992, 993, 994, 995, 996, 997, 998, 999, 1000, 1001, 1002, 1003, 1004, 1005, 1006, 1007, 1008, 1009, 1010, 1011, 1012, 1013, 1014, 1015, 1016, 1017, 1018] (by decide +kernel) (by decide +kernel)
set_option maxRecDepth 20000 in
theorem gL_law_X6_greedy : GoodIn wsL_law (wsV RL 112 RX6 yX6_greedy wsX6_greedy) := goodIn_app (goodIn_of _ (by decide +kernel)) ggL_law_X6_greedy
set_option maxRecDepth 20000 in
theorem ggL_law_X5_serve : GoodIn wsL_law wsX5_serve := goodIn_r _ [676, 24, 29, 125, 326, 327, 328, 23, 329, 302, 618, 339, 340, 341, 51, 54, 342, 343, 261, 344, 345, 346, 347, 348, 349, 350, 619, 620, 621, 28, 622, 623, 624, 625, 626, 627, 628, 629, 630, 631, 632, 633, 634, 635, 636, 637, 638, 355, 356, 357, 639, 408, 409, 410, 411, 412, 413, 439, 2, 440, 500, 501, 502, 973, 974, 975, 976, 977, 978, 979, 980, 981, 982, 983, 984, 1027, 1028, 1029, 1030, 1031, 1032, 1033, 1034, 1035, 1036, 1037, 1038, 1039, 1040, 1041, 1042, 1043, 1044] (by decide +kernel) (by decide +kernel)
set_option maxRecDepth 20000 in
theorem gL_law_X5_serve : GoodIn wsL_law (wsV RL 113 RX5 yX5_serve wsX5_serve) := goodIn_app (goodIn_of _ (by decide +kernel)) ggL_law_X5_serve
set_option maxRecDepth 20000 in
theorem ggL_law_X6_serve : GoodIn wsL_law wsX6_serve := goodIn_r _ [680, 654, 655, 363, 364, 365, 5, 366, 320, 113, 114, 115, 427, 428, 429, 430, 80, 681, 682, 683, 684, 644, 646, 647, 648, 649, 77, 421, 422, 423, 380, 381, 382, 386, 387, 388, 389, 390, 391, 392, 393, 379, 79, 78, 394, 395, 396, 383, 384, 385, 650, 651, 652, 653, 645, 424, 425, 426, 163, 164, 165, 166, 167, 985, 986, 987, 988, 989, 990, 991, 992, 993, 994, 995, 996, 997, 998, 999, 1000, 1001, 1002, 1003, 1004, 1005, 1006, 1007, 1008, 1009, 1010, 1011, 1012, 1013, 1014, 1015, 1016, 1017, 1018] (by decide +kernel) (by decide +kernel)
set_option maxRecDepth 20000 in
theorem gL_law_X6_serve : GoodIn wsL_law (wsV RL 116 RX6 yX6_serve wsX6_serve) := goodIn_app (goodIn_of _ (by decide +kernel)) ggL_law_X6_serve
set_option maxRecDepth 20000 in
theorem ggL_law_X5_need : GoodIn wsL_law wsX5_need := goodIn_r _ [688, 24, 125, 31, 689, 690, 691, 2, 692, 29, 618, 339, 340, 23, 341, 51, 54, 342, 343, 261, 344, 345, 346, 347, 348, 349, 350, 619, 620, 621, 28, 622, 623, 624, 625, 626, 627, 628, 629, 630, 631, 632, 633, 634, 635, 636, 637, 638, 355, 356, 357, 639, 408, 409, 410, 411, 412, 413, 439, 440, 500, 501, 502, 438, 973, 974, 975, 976, 977, 978, 979, 980, 981, 982, 983, 984, 1027, 1028, 1029, 1030, 1031, 1032, 1033, 1034, 1035, 1036, 1037, 1038, 1039, 1040, 1041, 1042, 1043, 1044] (by decide +kernel) (by decide +kernel)
set_option maxRecDepth 20000 in
theorem gL_law_X5_need : GoodIn wsL_law (wsV RL 117 RX5 yX5_need wsX5_need) := goodIn_app (goodIn_of _ (by decide +kernel)) ggL_law_X5_need
set_option maxRecDepth 20000 in
theorem ggL_law_X6_need : GoodIn wsL_law wsX6_need := goodIn_r _ [696, 320, 84, 697, 655, 80, 681, 682, 683, 5, 684, 644, 646, 647, 648, 649, 77, 421, 422, 423, 380, 381, 382, 386, 387, 388, 389, 390, 391, 392, 393, 379, 79, 78, 394, 395, 396, 383, 384, 385, 650, 651, 652, 653, 654, 645, 424, 425, 426, 163, 164, 165, 166, 167, 985, 986, 987, 988, 989, 990, 991, 992, 993, 994, 995, 996, 997, 998, 999, 1000, 1001, 1002, 1003, 1004, 1005, 1006, 1007, 1008, 1009, 1010, 1011, 1012, 1013, 1014, 1015, 1016, 1017, 1018] (by decide +kernel) (by decide +kernel)
set_option maxRecDepth 20000 in
theorem gL_law_X6_need : GoodIn wsL_law (wsV RL 121 RX6 yX6_need wsX6_need) := goodIn_app (goodIn_of _ (by decide +kernel)) ggL_law_X6_need
set_option maxRecDepth 20000 in
theorem ggL_law_X5_poor : GoodIn wsL_law wsX5_poor := goodIn_r _ [701, 24, 595, 596, 597, 598, 2, 599, 600, 33, 601, 602, 603, 973, 974, 975, 976, 977, 978, 979, 980, 981, 982, 983, 984, 1027, 1028, 1029, 1030, 1031, 1032, 1033, 1034, 1035, 1036, 1037, 1038, 1039] (by decide +kernel) (by decide +kernel)
set_option maxRecDepth 20000 in
theorem gL_law_X5_poor : GoodIn wsL_law (wsV RL 122 RX5 yX5_poor wsX5_poor) := goodIn_app (goodIn_of _ (by decide +kernel)) ggL_law_X5_poor
set_option maxRecDepth 20000 in
theorem ggL_law_X6_poor : GoodIn wsL_law wsX6_poor := goodIn_r _ [705, 320, 608, 386, 387, 388, 5, 389, 80, 390, 391, 392, 393, 379, 79, 78, 394, 395, 396, 383, 384, 385, 609, 610, 611, 612, 613, 66, 985, 986, 987, 988, 989, 990, 991, 992, 993, 994, 995, 996, 997, 998, 999, 1000, 1001, 1002, 1003, 1004, 1005, 1006, 1007, 1008, 1009, 1010, 1011, 1012, 1013, 1014, 1015, 1016, 1017, 1018] (by decide +kernel) (by decide +kernel)
set_option maxRecDepth 20000 in
theorem gL_law_X6_poor : GoodIn wsL_law (wsV RL 125 RX6 yX6_poor wsX6_poor) := goodIn_app (goodIn_of _ (by decide +kernel)) ggL_law_X6_poor
set_option maxRecDepth 20000 in
theorem ggL_law_X5_ready : GoodIn wsL_law wsX5_ready := goodIn_r _ [709, 24, 125, 710, 711, 712, 2, 713, 29, 618, 339, 340, 23, 341, 51, 54, 342, 343, 261, 344, 345, 346, 347, 348, 349, 350, 619, 620, 621, 28, 622, 623, 624, 625, 626, 627, 628, 629, 630, 631, 632, 633, 634, 635, 636, 637, 638, 355, 356, 357, 639, 408, 409, 410, 411, 412, 413, 439, 440, 500, 501, 502, 407, 973, 974, 975, 976, 977, 978, 979, 980, 981, 982, 983, 984, 1027, 1028, 1029, 1030, 1031, 1032, 1033, 1034, 1035, 1036, 1037, 1038, 1039, 1040, 1041, 1042, 1043, 1044] (by decide +kernel) (by decide +kernel)
set_option maxRecDepth 20000 in
theorem gL_law_X5_ready : GoodIn wsL_law (wsV RL 126 RX5 yX5_ready wsX5_ready) := goodIn_app (goodIn_of _ (by decide +kernel)) ggL_law_X5_ready
set_option maxRecDepth 20000 in
theorem ggL_law_X6_ready : GoodIn wsL_law wsX6_ready := goodIn_r _ [717, 320, 427, 428, 429, 5, 430, 80, 718, 719, 720, 721, 681, 682, 683, 684, 644, 646, 647, 648, 649, 77, 421, 422, 423, 380, 381, 382, 386, 387, 388, 389, 390, 391, 392, 393, 379, 79, 78, 394, 395, 396, 383, 384, 385, 650, 651, 652, 653, 654, 655, 645, 424, 425, 426, 163, 164, 165, 166, 167, 985, 986, 987, 988, 989, 990, 991, 992, 993, 994, 995, 996, 997, 998, 999, 1000, 1001, 1002, 1003, 1004, 1005, 1006, 1007, 1008, 1009, 1010, 1011, 1012, 1013, 1014, 1015, 1016, 1017, 1018] (by decide +kernel) (by decide +kernel)
set_option maxRecDepth 20000 in
theorem gL_law_X6_ready : GoodIn wsL_law (wsV RL 129 RX6 yX6_ready wsX6_ready) := goodIn_app (goodIn_of _ (by decide +kernel)) ggL_law_X6_ready
set_option maxRecDepth 20000 in
theorem ggL_law_X5_best : GoodIn wsL_law wsX5_best := goodIn_r _ [725, 24, 125, 452, 453, 454, 23, 455, 303, 710, 711, 712, 2, 713, 29, 618, 339, 340, 341, 51, 54, 342, 343, 261, 344, 345, 346, 347, 348, 349, 350, 619, 620, 621, 28, 622, 623, 624, 625, 626, 627, 628, 629, 630, 631, 632, 633, 634, 635, 636, 637, 638, 355, 356, 357, 639, 408, 409, 410, 411, 412, 413, 439, 440, 500, 501, 502, 407, 973, 974, 975, 976, 977, 978, 979, 980, 981, 982, 983, 984, 1027, 1028, 1029, 1030, 1031, 1032, 1033, 1034, 1035, 1036, 1037, 1038, 1039, 1040, 1041, 1042, 1043, 1044] (by decide +kernel) (by decide +kernel)
set_option maxRecDepth 20000 in
theorem gL_law_X5_best : GoodIn wsL_law (wsV RL 130 RX5 yX5_best wsX5_best) := goodIn_app (goodIn_of _ (by decide +kernel)) ggL_law_X5_best
set_option maxRecDepth 20000 in
theorem ggL_law_X6_best : GoodIn wsL_law wsX6_best := goodIn_r _ [729, 80, 427, 428, 429, 5, 430, 718, 719, 720, 721, 320, 681, 682, 683, 684, 644, 646, 647, 648, 649, 77, 421, 422, 423, 380, 381, 382, 386, 387, 388, 389, 390, 391, 392, 393, 379, 79, 78, 394, 395, 396, 383, 384, 385, 650, 651, 652, 653, 654, 655, 645, 424, 425, 426, 163, 164, 165, 166, 167, 985, 986, 987, 988, 989, 990, 991, 992, 993, 994, 995, 996, 997, 998, 999, 1000, 1001, 1002, 1003, 1004, 1005, 1006, 1007, 1008, 1009, 1010, 1011, 1012, 1013, 1014, 1015, 1016, 1017, 1018] (by decide +kernel) (by decide +kernel)
set_option maxRecDepth 20000 in
theorem gL_law_X6_best : GoodIn wsL_law (wsV RL 133 RX6 yX6_best wsX6_best) := goodIn_app (goodIn_of _ (by decide +kernel)) ggL_law_X6_best
set_option maxRecDepth 20000 in
theorem ggL_law_X5_dues : GoodIn wsL_law wsX5_dues := goodIn_r _ [733, 15, 502, 125, 130, 131, 132, 2, 133, 92, 93, 94, 14, 95, 39, 134, 135, 136, 137, 138, 139, 140, 141, 105, 96, 97, 98, 99, 100, 32, 734, 735, 736, 737, 213, 146, 147, 148, 149, 40, 38, 150, 143, 144, 145, 435, 436, 437, 438, 439, 440, 738, 500, 501, 973, 974, 975, 976, 977, 978, 979, 980, 981, 982, 983, 984, 1019, 1020, 1021] (by decide +kernel) (by decide +kernel)
set_option maxRecDepth 20000 in
theorem gL_law_X5_dues : GoodIn wsL_law (wsV RL 134 RX5 yX5_dues wsX5_dues) := goodIn_app (goodIn_of _ (by decide +kernel)) ggL_law_X5_dues
set_option maxRecDepth 20000 in
theorem ggL_law_X6_dues : GoodIn wsL_law wsX6_dues := goodIn_r _ [742, 68, 379, 110, 111, 5, 112, 113, 114, 115, 116, 117, 118, 119, 120, 67, 159, 160, 161, 162, 69, 445, 446, 447, 383, 384, 385, 394, 395, 396, 163, 164, 165, 166, 167, 985, 986, 987, 988, 989, 990, 991, 992, 993, 994, 995, 996, 997, 998, 999, 1000, 1001, 1002, 1003, 1004, 1005, 1006, 1007, 1008, 1009, 1010, 1011, 1012, 1013, 1014, 1015, 1016, 1017, 1018] (by decide +kernel) (by decide +kernel)
set_option maxRecDepth 20000 in
theorem gL_law_X6_dues : GoodIn wsL_law (wsV RL 137 RX6 yX6_dues wsX6_dues) := goodIn_app (goodIn_of _ (by decide +kernel)) ggL_law_X6_dues
set_option maxRecDepth 20000 in
theorem ggL_law_X5_kinds : GoodIn wsL_law wsX5_kinds := goodIn_r _ [746, 747, 748, 749, 2, 750, 15, 130, 131, 132, 133, 92, 93, 94, 14, 95, 39, 134, 135, 136, 137, 138, 139, 140, 141, 105, 96, 97, 98, 99, 100, 32, 213, 146, 147, 148, 149, 40, 38, 150, 143, 144, 145, 435, 436, 437, 751, 752, 753, 754, 755, 756, 261, 757, 439, 440, 758, 343, 344, 345, 346, 347, 348, 349, 350, 973, 974, 975, 976, 977, 978, 979, 980, 981, 982, 983, 984, 1019, 1020, 1021] (by decide +kernel) (by decide +kernel)
set_option maxRecDepth 20000 in
theorem gL_law_X5_kinds : GoodIn wsL_law (wsV RL 138 RX5 yX5_kinds wsX5_kinds) := goodIn_app (goodIn_of _ (by decide +kernel)) ggL_law_X5_kinds
set_option maxRecDepth 20000 in
theorem ggL_law_X6_kinds : GoodIn wsL_law wsX6_kinds := goodIn_r _ [762, 763, 764, 765, 5, 766, 68, 110, 111, 112, 113, 114, 115, 116, 117, 118, 119, 120, 67, 159, 160, 161, 162, 69, 445, 446, 447, 767, 768, 769, 770, 380, 381, 382, 985, 986, 987, 988, 989, 990, 991, 992, 993, 994, 995, 996, 997, 998, 999, 1000, 1001, 1002, 1003, 1004, 1005, 1006, 1007, 1008, 1009, 1010, 1011, 1012, 1013, 1014, 1015, 1016, 1017, 1018] (by decide +kernel) (by decide +kernel)
set_option maxRecDepth 20000 in
theorem gL_law_X6_kinds : GoodIn wsL_law (wsV RL 141 RX6 yX6_kinds wsX6_kinds) := goodIn_app (goodIn_of _ (by decide +kernel)) ggL_law_X6_kinds
set_option maxRecDepth 20000 in
theorem ggL_law_X5_test : GoodIn wsL_law wsX5_test := goodIn_r _ [774, 775, 355, 356, 357, 125, 747, 748, 749, 2, 750, 15, 130, 131, 132, 133, 92, 93, 94, 14, 95, 39, 134, 135, 136, 137, 138, 139, 140, 141, 105, 96, 97, 98, 99, 100, 32, 213, 146, 147, 148, 149, 40, 38, 150, 143, 144, 145, 435, 436, 437, 751, 752, 753, 754, 755, 756, 261, 757, 439, 440, 758, 343, 344, 345, 346, 347, 348, 349, 350, 407, 408, 409, 410, 411, 412, 413, 973, 974, 975, 976, 977, 978, 979, 980, 981, 982, 983, 984, 1019, 1020, 1021] (by decide +kernel) (by decide +kernel)
set_option maxRecDepth 20000 in
theorem gL_law_X5_test : GoodIn wsL_law (wsV RL 142 RX5 yX5_test wsX5_test) := goodIn_app (goodIn_of _ (by decide +kernel)) ggL_law_X5_test
set_option maxRecDepth 20000 in
theorem ggL_law_X6_test : GoodIn wsL_law wsX6_test := goodIn_r _ [779, 763, 764, 765, 5, 766, 68, 110, 111, 112, 113, 114, 115, 116, 117, 118, 119, 120, 67, 159, 160, 161, 162, 69, 445, 446, 447, 767, 768, 769, 770, 380, 381, 382, 383, 384, 385, 424, 425, 426, 163, 164, 165, 166, 167, 985, 986, 987, 988, 989, 990, 991, 992, 993, 994, 995, 996, 997, 998, 999, 1000, 1001, 1002, 1003, 1004, 1005, 1006, 1007, 1008, 1009, 1010, 1011, 1012, 1013, 1014, 1015, 1016, 1017, 1018] (by decide +kernel) (by decide +kernel)
set_option maxRecDepth 20000 in
theorem gL_law_X6_test : GoodIn wsL_law (wsV RL 145 RX6 yX6_test wsX6_test) := goodIn_app (goodIn_of _ (by decide +kernel)) ggL_law_X6_test
set_option maxRecDepth 20000 in
theorem ggL_law_X5_duel : GoodIn wsL_law wsX5_duel := goodIn_r _ [783, 24, 326, 327, 328, 23, 329, 302, 784, 785, 786, 787, 55, 310, 311, 312, 313, 53, 314, 52, 788, 789, 790, 791, 792, 793, 794, 795, 796, 354, 355, 356, 357, 334, 335, 336, 337, 309, 338, 339, 340, 341, 51, 54, 342, 343, 261, 344, 345, 346, 347, 348, 349, 350, 351, 352, 353, 358, 797, 798, 409, 799, 800, 500, 2, 501, 502, 439, 440, 496, 497, 498, 499, 464, 465, 466, 467, 50, 523, 524, 525, 526, 801, 802, 803, 804, 973, 974, 975, 976, 977, 978, 979, 980, 981, 982, 983, 984, 1027, 1028, 1029, 1030, 1031, 1032, 1033, 1034, 1035, 1036, 1037, 1038, 1039] (by decide +kernel) (by decide +kernel)
set_option maxRecDepth 20000 in
theorem gL_law_X5_duel : GoodIn wsL_law (wsV RL 146 RX5 yX5_duel wsX5_duel) := goodIn_app (goodIn_of _ (by decide +kernel)) ggL_law_X5_duel
set_option maxRecDepth 20000 in
theorem ggL_law_X6_duel : GoodIn wsL_law wsX6_duel := goodIn_r _ [808, 86, 809, 363, 364, 365, 5, 366, 320, 113, 114, 115, 810, 811, 812, 813, 87, 80, 77, 379, 386, 387, 388, 389, 390, 391, 392, 393, 79, 78, 394, 395, 396, 383, 384, 385, 380, 381, 382, 985, 986, 987, 988, 989, 990, 991, 992, 993, 994, 995, 996, 997, 998, 999, 1000, 1001, 1002, 1003, 1004, 1005, 1006, 1007, 1008, 1009, 1010, 1011, 1012, 1013, 1014, 1015, 1016, 1017, 1018] (by decide +kernel) (by decide +kernel)
set_option maxRecDepth 20000 in
theorem gL_law_X6_duel : GoodIn wsL_law (wsV RL 149 RX6 yX6_duel wsX6_duel) := goodIn_app (goodIn_of _ (by decide +kernel)) ggL_law_X6_duel
set_option maxRecDepth 20000 in
theorem ggL_law_X5_odds : GoodIn wsL_law wsX5_odds := goodIn_r _ [817, 24, 326, 327, 328, 23, 329, 302, 818, 311, 312, 313, 53, 314, 52, 784, 785, 786, 787, 55, 310, 819, 820, 2, 821, 407, 408, 409, 410, 411, 412, 413, 822, 823, 824, 825, 438, 439, 440, 738, 500, 501, 502, 596, 597, 598, 599, 600, 33, 601, 602, 603, 973, 974, 975, 976, 977, 978, 979, 980, 981, 982, 983, 984, 1027, 1028, 1029, 1030, 1031, 1032, 1033, 1034, 1035, 1036, 1037, 1038, 1039] (by decide +kernel) (by decide +kernel)
set_option maxRecDepth 20000 in
theorem gL_law_X5_odds : GoodIn wsL_law (wsV RL 150 RX5 yX5_odds wsX5_odds) := goodIn_app (goodIn_of _ (by decide +kernel)) ggL_law_X5_odds
set_option maxRecDepth 20000 in
theorem ggL_law_X6_odds : GoodIn wsL_law wsX6_odds := goodIn_r _ [829, 80, 830, 363, 364, 365, 5, 366, 320, 113, 114, 115, 424, 425, 426, 394, 395, 396, 379, 383, 384, 385, 390, 391, 392, 393, 79, 78, 609, 610, 611, 612, 613, 66, 985, 986, 987, 988, 989, 990, 991, 992, 993, 994, 995, 996, 997, 998, 999, 1000, 1001, 1002, 1003, 1004, 1005, 1006, 1007, 1008, 1009, 1010, 1011, 1012, 1013, 1014, 1015, 1016, 1017, 1018] (by decide +kernel) (by decide +kernel)
set_option maxRecDepth 20000 in
theorem gL_law_X6_odds : GoodIn wsL_law (wsV RL 153 RX6 yX6_odds wsX6_odds) := goodIn_app (goodIn_of _ (by decide +kernel)) ggL_law_X6_odds
set_option maxRecDepth 20000 in
theorem ggL_law_X5_mid : GoodIn wsL_law wsX5_mid := goodIn_r _ [834, 24, 835, 326, 327, 328, 23, 329, 302, 784, 785, 786, 787, 55, 310, 311, 312, 313, 53, 314, 52, 596, 597, 598, 2, 599, 600, 33, 601, 602, 603, 973, 974, 975, 976, 977, 978, 979, 980, 981, 982, 983, 984, 1027, 1028, 1029, 1030, 1031, 1032, 1033, 1034, 1035, 1036, 1037, 1038, 1039] (by decide +kernel) (by decide +kernel)
set_option maxRecDepth 20000 in
theorem gL_law_X5_mid : GoodIn wsL_law (wsV RL 154 RX5 yX5_mid wsX5_mid) := goodIn_app (goodIn_of _ (by decide +kernel)) ggL_law_X5_mid
set_option maxRecDepth 20000 in
theorem ggL_law_X6_mid : GoodIn wsL_law wsX6_mid := goodIn_r _ [839, 830, 80, 840, 363, 364, 365, 5, 366, 320, 113, 114, 115, 394, 395, 396, 379, 383, 384, 385, 609, 610, 611, 612, 613, 66, 985, 986, 987, 988, 989, 990, 991, 992, 993, 994, 995, 996, 997, 998, 999, 1000, 1001, 1002, 1003, 1004, 1005, 1006, 1007, 1008, 1009, 1010, 1011, 1012, 1013, 1014, 1015, 1016, 1017, 1018] (by decide +kernel) (by decide +kernel)
set_option maxRecDepth 20000 in
theorem gL_law_X6_mid : GoodIn wsL_law (wsV RL 157 RX6 yX6_mid wsX6_mid) := goodIn_app (goodIn_of _ (by decide +kernel)) ggL_law_X6_mid
set_option maxRecDepth 20000 in
theorem ggL_law_X5_lots : GoodIn wsL_law wsX5_lots := goodIn_r _ [844, 845, 24, 846, 847, 456, 457, 458, 23, 459, 308, 848, 849, 850, 851, 302, 852, 453, 454, 455, 303, 853, 461, 462, 463, 464, 465, 466, 467, 50, 309, 468, 469, 470, 471, 56, 57, 58, 854, 516, 517, 518, 54, 439, 2, 440, 855, 520, 521, 522, 523, 524, 525, 526, 55, 500, 501, 502, 856, 489, 490, 491, 334, 335, 336, 337, 338, 339, 340, 341, 51, 342, 343, 261, 344, 345, 346, 347, 348, 349, 350, 351, 352, 353, 314, 354, 355, 356, 357, 358, 857, 493, 494, 495, 496, 497, 498, 499, 858, 859, 860, 861, 973, 974, 975, 976, 977, 978, 979, 980, 981, 982, 983, 984, 1027, 1028, 1029, 1030, 1031, 1032, 1033, 1034, 1035, 1036, 1037, 1038, 1039] (by decide +kernel) (by decide +kernel)
set_option maxRecDepth 20000 in
theorem gL_law_X5_lots : GoodIn wsL_law (wsV RL 158 RX5 yX5_lots wsX5_lots) := goodIn_app (goodIn_of _ (by decide +kernel)) ggL_law_X5_lots
set_option maxRecDepth 20000 in
theorem ggL_law_X6_lots : GoodIn wsL_law wsX6_lots := goodIn_r _ [865, 866, 320, 321, 867, 868, 869, 870, 871, 872, 80, 873, 113, 114, 5, 115, 476, 477, 478, 479, 81, 480, 481, 482, 483, 383, 384, 385, 531, 532, 533, 534, 371, 372, 373, 374, 375, 376, 377, 378, 77, 379, 380, 381, 382, 386, 387, 388, 389, 390, 391, 392, 393, 79, 78, 394, 395, 396, 507, 508, 509, 510, 874, 875, 876, 877, 68, 71, 82, 424, 425, 426, 427, 428, 429, 430, 418, 419, 420, 985, 986, 987, 988, 989, 990, 991, 992, 993, 994, 995, 996, 997, 998, 999, 1000, 1001, 1002, 1003, 1004, 1005, 1006, 1007, 1008, 1009, 1010, 1011, 1012, 1013, 1014, 1015, 1016, 1017, 1018] (by decide +kernel) (by decide +kernel)
set_option maxRecDepth 20000 in
theorem gL_law_X6_lots : GoodIn wsL_law (wsV RL 161 RX6 yX6_lots wsX6_lots) := goodIn_app (goodIn_of _ (by decide +kernel)) ggL_law_X6_lots
set_option maxRecDepth 20000 in
theorem ggL_law_X5_asked : GoodIn wsL_law wsX5_asked := goodIn_r _ [881, 125, 973, 974, 975, 976, 977, 978, 979, 980, 981, 982, 983, 984] (by decide +kernel) (by decide +kernel)
set_option maxRecDepth 20000 in
theorem gL_law_X5_asked : GoodIn wsL_law (wsV RL 162 RX5 yX5_asked wsX5_asked) := goodIn_app (goodIn_of _ (by decide +kernel)) ggL_law_X5_asked
set_option maxRecDepth 20000 in
theorem ggL_law_X6_asked : GoodIn wsL_law wsX6_asked := goodIn_r _ [885, 167, 985, 986, 987, 988, 989, 990, 991, 992, 993, 994, 995, 996, 997, 998, 999, 1000, 1001, 1002, 1003, 1004, 1005, 1006, 1007, 1008, 1009, 1010, 1011, 1012, 1013, 1014, 1015, 1016, 1017, 1018] (by decide +kernel) (by decide +kernel)
set_option maxRecDepth 20000 in
theorem gL_law_X6_asked : GoodIn wsL_law (wsV RL 165 RX6 yX6_asked wsX6_asked) := goodIn_app (goodIn_of _ (by decide +kernel)) ggL_law_X6_asked
set_option maxRecDepth 20000 in
theorem ggL_law_X5_upper : GoodIn wsL_law wsX5_upper := goodIn_r _ [889, 600, 973, 974, 975, 976, 977, 978, 979, 980, 981, 982, 983, 984] (by decide +kernel) (by decide +kernel)
set_option maxRecDepth 20000 in
theorem gL_law_X5_upper : GoodIn wsL_law (wsV RL 166 RX5 yX5_upper wsX5_upper) := goodIn_app (goodIn_of _ (by decide +kernel)) ggL_law_X5_upper
set_option maxRecDepth 20000 in
theorem ggL_law_X6_upper : GoodIn wsL_law wsX6_upper := goodIn_r _ [893, 613, 985, 986, 987, 988, 989, 990, 991, 992, 993, 994, 995, 996, 997, 998, 999, 1000, 1001, 1002, 1003, 1004, 1005, 1006, 1007, 1008, 1009, 1010, 1011, 1012, 1013, 1014, 1015, 1016, 1017, 1018] (by decide +kernel) (by decide +kernel)
set_option maxRecDepth 20000 in
theorem gL_law_X6_upper : GoodIn wsL_law (wsV RL 170 RX6 yX6_upper wsX6_upper) := goodIn_app (goodIn_of _ (by decide +kernel)) ggL_law_X6_upper
set_option maxRecDepth 20000 in
theorem ggL_law_X5_lower : GoodIn wsL_law wsX5_lower := goodIn_r _ [897, 33, 973, 974, 975, 976, 977, 978, 979, 980, 981, 982, 983, 984] (by decide +kernel) (by decide +kernel)
set_option maxRecDepth 20000 in
theorem gL_law_X5_lower : GoodIn wsL_law (wsV RL 171 RX5 yX5_lower wsX5_lower) := goodIn_app (goodIn_of _ (by decide +kernel)) ggL_law_X5_lower
set_option maxRecDepth 20000 in
theorem ggL_law_X6_lower : GoodIn wsL_law wsX6_lower := goodIn_r _ [901, 66, 985, 986, 987, 988, 989, 990, 991, 992, 993, 994, 995, 996, 997, 998, 999, 1000, 1001, 1002, 1003, 1004, 1005, 1006, 1007, 1008, 1009, 1010, 1011, 1012, 1013, 1014, 1015, 1016, 1017, 1018] (by decide +kernel) (by decide +kernel)
set_option maxRecDepth 20000 in
theorem gL_law_X6_lower : GoodIn wsL_law (wsV RL 174 RX6 yX6_lower wsX6_lower) := goodIn_app (goodIn_of _ (by decide +kernel)) ggL_law_X6_lower
set_option maxRecDepth 20000 in
theorem ggL_law_X5_count : GoodIn wsL_law wsX5_count := goodIn_r _ [905, 24, 15, 16, 858, 859, 860, 23, 861, 50, 906, 907, 908, 909, 302, 54, 910, 408, 409, 410, 411, 412, 413, 911, 912, 913, 914, 55, 915, 916, 917, 14, 918, 39, 919, 135, 136, 137, 138, 139, 140, 141, 105, 93, 94, 95, 920, 921, 922, 2, 923, 25, 924, 925, 926, 927, 51, 928, 404, 261, 405, 973, 974, 975, 976, 977, 978, 979, 980, 981, 982, 983, 984, 1027, 1028, 1029, 1030, 1031, 1032, 1033, 1034, 1035, 1036, 1037, 1038, 1039, 1019, 1020, 1021] (by decide +kernel) (by decide +kernel)
set_option maxRecDepth 20000 in
theorem gL_law_X5_count : GoodIn wsL_law (wsV RL 175 RX5 yX5_count wsX5_count) := goodIn_app (goodIn_of _ (by decide +kernel)) ggL_law_X5_count
set_option maxRecDepth 20000 in
theorem ggL_law_X6_count : GoodIn wsL_law wsX6_count := goodIn_r _ [932, 113, 114, 5, 115, 874, 875, 876, 877, 320, 80, 321, 68, 71, 82, 77, 424, 425, 426, 386, 387, 388, 389, 390, 391, 392, 393, 379, 79, 78, 394, 395, 396, 383, 384, 385, 427, 428, 429, 430, 418, 419, 420, 985, 986, 987, 988, 989, 990, 991, 992, 993, 994, 995, 996, 997, 998, 999, 1000, 1001, 1002, 1003, 1004, 1005, 1006, 1007, 1008, 1009, 1010, 1011, 1012, 1013, 1014, 1015, 1016, 1017, 1018] (by decide +kernel) (by decide +kernel)
set_option maxRecDepth 20000 in
theorem gL_law_X6_count : GoodIn wsL_law (wsV RL 178 RX6 yX6_count wsX6_count) := goodIn_app (goodIn_of _ (by decide +kernel)) ggL_law_X6_count
set_option maxRecDepth 20000 in
theorem ggL_law_X5_finding : GoodIn wsL_law wsX5_finding := goodIn_r _ [936, 100, 973, 974, 975, 976, 977, 978, 979, 980, 981, 982, 983, 984] (by decide +kernel) (by decide +kernel)
set_option maxRecDepth 20000 in
theorem gL_law_X5_finding : GoodIn wsL_law (wsV RL 179 RX5 yX5_finding wsX5_finding) := goodIn_app (goodIn_of _ (by decide +kernel)) ggL_law_X5_finding
set_option maxRecDepth 20000 in
theorem ggL_law_X6_finding : GoodIn wsL_law wsX6_finding := goodIn_r _ [940, 120, 985, 986, 987, 988, 989, 990, 991, 992, 993, 994, 995, 996, 997, 998, 999, 1000, 1001, 1002, 1003, 1004, 1005, 1006, 1007, 1008, 1009, 1010, 1011, 1012, 1013, 1014, 1015, 1016, 1017, 1018] (by decide +kernel) (by decide +kernel)
set_option maxRecDepth 20000 in
theorem gL_law_X6_finding : GoodIn wsL_law (wsV RL 182 RX6 yX6_finding wsX6_finding) := goodIn_app (goodIn_of _ (by decide +kernel)) ggL_law_X6_finding
set_option maxRecDepth 20000 in
theorem ggL_law_X5_findings : GoodIn wsL_law wsX5_findings := goodIn_r _ [944, 32, 973, 974, 975, 976, 977, 978, 979, 980, 981, 982, 983, 984] (by decide +kernel) (by decide +kernel)
set_option maxRecDepth 20000 in
theorem gL_law_X5_findings : GoodIn wsL_law (wsV RL 183 RX5 yX5_findings wsX5_findings) := goodIn_app (goodIn_of _ (by decide +kernel)) ggL_law_X5_findings
set_option maxRecDepth 20000 in
theorem ggL_law_X6_findings : GoodIn wsL_law wsX6_findings := goodIn_r _ [948, 67, 113, 114, 5, 115, 985, 986, 987, 988, 989, 990, 991, 992, 993, 994, 995, 996, 997, 998, 999, 1000, 1001, 1002, 1003, 1004, 1005, 1006, 1007, 1008, 1009, 1010, 1011, 1012, 1013, 1014, 1015, 1016, 1017, 1018] (by decide +kernel) (by decide +kernel)
set_option maxRecDepth 20000 in
theorem gL_law_X6_findings : GoodIn wsL_law (wsV RL 186 RX6 yX6_findings wsX6_findings) := goodIn_app (goodIn_of _ (by decide +kernel)) ggL_law_X6_findings
set_option maxRecDepth 20000 in
theorem ggL_law_X5_digest : GoodIn wsL_law wsX5_digest := goodIn_r _ [952, 953, 954, 24, 25, 16, 15, 955, 903, 904, 2, 905, 858, 859, 860, 23, 861, 50, 906, 907, 908, 909, 302, 54, 910, 408, 409, 410, 411, 412, 413, 911, 912, 913, 914, 55, 915, 916, 917, 14, 918, 39, 919, 135, 136, 137, 138, 139, 140, 141, 105, 93, 94, 95, 920, 921, 922, 923, 924, 925, 926, 927, 51, 928, 404, 261, 405, 330, 331, 332, 333, 52, 53, 334, 335, 336, 337, 309, 338, 339, 340, 341, 342, 343, 344, 345, 346, 347, 348, 349, 350, 351, 352, 353, 314, 354, 355, 356, 357, 358, 956, 957, 958, 959, 960, 961, 147, 148, 149, 40, 38, 150, 143, 144, 145, 973, 974, 975, 976, 977, 978, 979, 980, 981, 982, 983, 984, 1027, 1028, 1029, 1030, 1031, 1032, 1033, 1034, 1035, 1036, 1037, 1038, 1039, 1019, 1020, 1021] (by decide +kernel) (by decide +kernel)
set_option maxRecDepth 20000 in
theorem gL_law_X5_digest : GoodIn wsL_law (wsV RL 187 RX5 yX5_digest wsX5_digest) := goodIn_app (goodIn_of _ (by decide +kernel)) ggL_law_X5_digest
set_option maxRecDepth 20000 in
theorem ggL_law_X6_digest : GoodIn wsL_law wsX6_digest := goodIn_r _ [965, 966, 967, 320, 80, 82, 68, 71, 73, 874, 875, 876, 5, 877, 321, 77, 424, 425, 426, 386, 387, 388, 389, 390, 391, 392, 393, 379, 79, 78, 394, 395, 396, 383, 384, 385, 427, 428, 429, 430, 418, 419, 420, 968, 969, 970, 971, 972, 367, 368, 369, 370, 371, 372, 373, 374, 375, 376, 377, 378, 380, 381, 382, 159, 160, 161, 162, 69, 985, 986, 987, 988, 989, 990, 991, 992, 993, 994, 995, 996, 997, 998, 999, 1000, 1001, 1002, 1003, 1004, 1005, 1006, 1007, 1008, 1009, 1010, 1011, 1012, 1013, 1014, 1015, 1016, 1017, 1018] (by decide +kernel) (by decide +kernel)
set_option maxRecDepth 20000 in
theorem gL_law_X6_digest : GoodIn wsL_law (wsV RL 190 RX6 yX6_digest wsX6_digest) := goodIn_app (goodIn_of _ (by decide +kernel)) ggL_law_X6_digest
