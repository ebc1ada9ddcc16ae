set_option maxRecDepth 20000 in
theorem ggL_law_X11_today : GoodIn wsL_law wsX11_today := goodIn_r _ [596, 20, 25, 32, 419, 420, 421, 19, 422, 183, 542, 543, 544, 31, 545, 546, 83, 84, 85, 547, 330, 331, 332, 184, 68, 597, 598, 599, 600, 601, 602, 603, 604, 605, 606, 607, 608, 567, 512, 209, 513, 609, 610, 611, 612, 87, 562, 208, 210, 613, 614, 615, 616, 617, 618, 619, 620, 621, 622, 623, 624, 625, 909, 910, 911, 912, 913, 914, 915, 916, 917, 975, 976, 977, 978, 979, 980, 981, 982, 983, 965, 966, 967, 968, 969, 970, 971, 972, 973, 974, 984, 985, 986, 987, 988, 989, 990, 991] (by decide +kernel) (by decide +kernel)
set_option maxRecDepth 20000 in
theorem gL_law_X11_today : GoodIn wsL_law (wsV RL 75 RX11 yX11_today wsX11_today) := goodIn_app (goodIn_of _ (by decide +kernel)) ggL_law_X11_today
set_option maxRecDepth 20000 in
theorem ggL_law_X12_today : GoodIn wsL_law wsX12_today := goodIn_r _ [629, 373, 343, 352, 126, 630, 117, 113, 112, 127, 150, 151, 5, 152, 631, 632, 633, 634, 918, 919, 920, 921, 922, 923, 924, 925, 926, 927, 928, 929, 930, 931, 932, 933, 934, 935, 936, 937, 938, 939, 940, 941, 942, 943, 944, 945, 946, 947, 948, 949, 950, 951, 952, 953, 954, 955] (by decide +kernel) (by decide +kernel)
set_option maxRecDepth 20000 in
theorem gL_law_X12_today : GoodIn wsL_law (wsV RL 78 RX12 yX12_today wsX12_today) := goodIn_app (goodIn_of _ (by decide +kernel)) ggL_law_X12_today
set_option maxRecDepth 20000 in
theorem ggL_law_X11_got : GoodIn wsL_law wsX11_got := goodIn_r _ [638, 20, 639, 36, 25, 419, 420, 421, 19, 422, 183, 640, 641, 642, 35, 643, 93, 644, 645, 327, 646, 647, 648, 649, 650, 447, 448, 449, 71, 69, 651, 477, 478, 479, 652, 653, 654, 655, 656, 657, 658, 659, 660, 661, 662, 663, 664, 665, 666, 209, 667, 909, 910, 911, 912, 913, 914, 915, 916, 917, 975, 976, 977, 978, 979, 980, 981, 982, 983, 965, 966, 967, 968, 969, 970, 971, 972, 973, 974, 992] (by decide +kernel) (by decide +kernel)
set_option maxRecDepth 20000 in
theorem gL_law_X11_got : GoodIn wsL_law (wsV RL 79 RX11 yX11_got wsX11_got) := goodIn_app (goodIn_of _ (by decide +kernel)) ggL_law_X11_got
set_option maxRecDepth 20000 in
theorem ggL_law_X12_got : GoodIn wsL_law wsX12_got := goodIn_r _ [671, 672, 373, 128, 116, 353, 115, 349, 343, 374, 150, 151, 5, 152, 428, 429, 430, 431, 918, 919, 920, 921, 922, 923, 924, 925, 926, 927, 928, 929, 930, 931, 932, 933, 934, 935, 936, 937, 938, 939, 940, 941, 942, 943, 944, 945, 946, 947, 948, 949, 950, 951, 952, 953, 954, 955] (by decide +kernel) (by decide +kernel)
set_option maxRecDepth 20000 in
theorem gL_law_X12_got : GoodIn wsL_law (wsV RL 83 RX12 yX12_got wsX12_got) := goodIn_app (goodIn_of _ (by decide +kernel)) ggL_law_X12_got
set_option maxRecDepth 20000 in
theorem ggL_law_X11_tried : GoodIn wsL_law wsX11_tried := goodIn_r _ [676, 20, 32, 25, 542, 543, 544, 31, 545, 546, 83, 84, 85, 547, 330, 331, 19, 332, 184, 68, 677, 678, 679, 680, 625, 681, 682, 683, 684, 685, 686, 687, 688, 562, 208, 209, 210, 88, 689, 690, 691, 692, 552, 553, 554, 555, 86, 556, 313, 314, 315, 557, 693, 694, 695, 696, 563, 564, 565, 566, 567, 512, 513, 909, 910, 911, 912, 913, 914, 915, 916, 917, 965, 966, 967, 968, 969, 970, 971, 972, 973, 974, 984, 985, 986, 987, 988, 989, 990, 991, 975, 976, 977, 978, 979, 980, 981, 982, 983] (by decide +kernel) (by decide +kernel)
set_option maxRecDepth 20000 in
theorem gL_law_X11_tried : GoodIn wsL_law (wsV RL 84 RX11 yX11_tried wsX11_tried) := goodIn_app (goodIn_of _ (by decide +kernel)) ggL_law_X11_tried
set_option maxRecDepth 20000 in
theorem ggL_law_X12_tried : GoodIn wsL_law wsX12_tried := goodIn_r _ [700, 427, 701, 373, 702, 343, 150, 151, 5, 152, 703, 704, 705, 706, 129, 117, 352, 351, 113, 112, 411, 412, 413, 414, 345, 114, 707, 708, 709, 710, 918, 919, 920, 921, 922, 923, 924, 925, 926, 927, 928, 929, 930, 931, 932, 933, 934, 935, 936, 937, 938, 939, 940, 941, 942, 943, 944, 945, 946, 947, 948, 949, 950, 951, 952, 953, 954, 955] (by decide +kernel) (by decide +kernel)
set_option maxRecDepth 20000 in
theorem gL_law_X12_tried : GoodIn wsL_law (wsV RL 88 RX12 yX12_tried wsX12_tried) := goodIn_app (goodIn_of _ (by decide +kernel)) ggL_law_X12_tried
set_option maxRecDepth 20000 in
theorem ggL_law_X11_saw : GoodIn wsL_law wsX11_saw := goodIn_r _ [714, 20, 25, 715, 716, 717, 19, 718, 183, 719, 720, 721, 24, 722, 324, 77, 78, 909, 910, 911, 912, 913, 914, 915, 916, 917, 975, 976, 977, 978, 979, 980, 981, 982, 983, 965, 966, 967, 968, 969, 970, 971, 972, 973, 974] (by decide +kernel) (by decide +kernel)
set_option maxRecDepth 20000 in
theorem gL_law_X11_saw : GoodIn wsL_law (wsV RL 89 RX11 yX11_saw wsX11_saw) := goodIn_app (goodIn_of _ (by decide +kernel)) ggL_law_X11_saw
set_option maxRecDepth 20000 in
theorem ggL_law_X12_saw : GoodIn wsL_law wsX12_saw := goodIn_r _ [726, 727, 343, 354, 120, 121, 150, 151, 5, 152, 918, 919, 920, 921, 922, 923, 924, 925, 926, 927, 928, 929, 930, 931, 932, 933, 934, 935, 936, 937, 938, 939, 940, 941, 942, 943, 944, 945, 946, 947, 948, 949, 950, 951, 952, 953, 954, 955] (by decide +kernel) (by decide +kernel)
set_option maxRecDepth 20000 in
theorem gL_law_X12_saw : GoodIn wsL_law (wsV RL 92 RX12 yX12_saw wsX12_saw) := goodIn_app (goodIn_of _ (by decide +kernel)) ggL_law_X12_saw
set_option maxRecDepth 20000 in
theorem ggL_law_X11_forget : GoodIn wsL_law wsX11_forget := goodIn_r _ [731, 25, 909, 910, 911, 912, 913, 914, 915, 916, 917, 975, 976, 977, 978, 979, 980, 981, 982, 983] (by decide +kernel) (by decide +kernel)
set_option maxRecDepth 20000 in
theorem gL_law_X11_forget : GoodIn wsL_law (wsV RL 93 RX11 yX11_forget wsX11_forget) := goodIn_app (goodIn_of _ (by decide +kernel)) ggL_law_X11_forget
set_option maxRecDepth 20000 in
theorem ggL_law_X12_forget : GoodIn wsL_law wsX12_forget := goodIn_r _ [735, 354, 918, 919, 920, 921, 922, 923, 924, 925, 926, 927, 928, 929, 930, 931, 932, 933, 934, 935, 936, 937, 938, 939, 940, 941, 942, 943, 944, 945, 946, 947, 948, 949, 950, 951, 952, 953, 954, 955] (by decide +kernel) (by decide +kernel)
set_option maxRecDepth 20000 in
theorem gL_law_X12_forget : GoodIn wsL_law (wsV RL 96 RX12 yX12_forget wsX12_forget) := goodIn_app (goodIn_of _ (by decide +kernel)) ggL_law_X12_forget
