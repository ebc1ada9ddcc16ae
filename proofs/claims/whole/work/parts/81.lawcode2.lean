set_option maxRecDepth 20000 in
theorem ggL_law_X11_end : GoodIn wsL_law wsX11_end := goodIn_r _ [506, 25, 20, 507, 508, 509, 24, 510, 75, 511, 512, 209, 513, 76, 321, 322, 329, 330, 331, 19, 332, 184, 68, 909, 910, 911, 912, 913, 914, 915, 916, 917, 975, 976, 977, 978, 979, 980, 981, 982, 983, 965, 966, 967, 968, 969, 970, 971, 972, 973, 974] (by decide +kernel) (by decide +kernel)
set_option maxRecDepth 20000 in
theorem gL_law_X11_end : GoodIn wsL_law (wsV RL 55 RX11 yX11_end wsX11_end) := goodIn_app (goodIn_of _ (by decide +kernel)) ggL_law_X11_end
set_option maxRecDepth 20000 in
theorem ggL_law_X12_end : GoodIn wsL_law wsX12_end := goodIn_r _ [517, 351, 343, 117, 113, 112, 118, 352, 411, 412, 413, 5, 414, 345, 114, 918, 919, 920, 921, 922, 923, 924, 925, 926, 927, 928, 929, 930, 931, 932, 933, 934, 935, 936, 937, 938, 939, 940, 941, 942, 943, 944, 945, 946, 947, 948, 949, 950, 951, 952, 953, 954, 955] (by decide +kernel) (by decide +kernel)
set_option maxRecDepth 20000 in
theorem gL_law_X12_end : GoodIn wsL_law (wsV RL 58 RX12 yX12_end wsX12_end) := goodIn_app (goodIn_of _ (by decide +kernel)) ggL_law_X12_end
set_option maxRecDepth 20000 in
theorem ggL_law_X11_now : GoodIn wsL_law wsX11_now := goodIn_r _ [521, 25, 522, 523, 524, 2, 525, 20, 909, 910, 911, 912, 913, 914, 915, 916, 917, 975, 976, 977, 978, 979, 980, 981, 982, 983, 965, 966, 967, 968, 969, 970, 971, 972, 973, 974] (by decide +kernel) (by decide +kernel)
set_option maxRecDepth 20000 in
theorem gL_law_X11_now : GoodIn wsL_law (wsV RL 59 RX11 yX11_now wsX11_now) := goodIn_app (goodIn_of _ (by decide +kernel)) ggL_law_X11_now
set_option maxRecDepth 20000 in
theorem ggL_law_X12_now : GoodIn wsL_law wsX12_now := goodIn_r _ [529, 343, 117, 118, 351, 352, 353, 918, 919, 920, 921, 922, 923, 924, 925, 926, 927, 928, 929, 930, 931, 932, 933, 934, 935, 936, 937, 938, 939, 940, 941, 942, 943, 944, 945, 946, 947, 948, 949, 950, 951, 952, 953, 954, 955] (by decide +kernel) (by decide +kernel)
set_option maxRecDepth 20000 in
theorem gL_law_X12_now : GoodIn wsL_law (wsV RL 62 RX12 yX12_now wsX12_now) := goodIn_app (goodIn_of _ (by decide +kernel)) ggL_law_X12_now
set_option maxRecDepth 20000 in
theorem ggL_law_X11_lot : GoodIn wsL_law wsX11_lot := goodIn_r _ [533, 25, 909, 910, 911, 912, 913, 914, 915, 916, 917, 975, 976, 977, 978, 979, 980, 981, 982, 983] (by decide +kernel) (by decide +kernel)
set_option maxRecDepth 20000 in
theorem gL_law_X11_lot : GoodIn wsL_law (wsV RL 63 RX11 yX11_lot wsX11_lot) := goodIn_app (goodIn_of _ (by decide +kernel)) ggL_law_X11_lot
set_option maxRecDepth 20000 in
theorem ggL_law_X12_lot : GoodIn wsL_law wsX12_lot := goodIn_r _ [537, 119, 918, 919, 920, 921, 922, 923, 924, 925, 926, 927, 928, 929, 930, 931, 932, 933, 934, 935, 936, 937, 938, 939, 940, 941, 942, 943, 944, 945, 946, 947, 948, 949, 950, 951, 952, 953, 954, 955] (by decide +kernel) (by decide +kernel)
set_option maxRecDepth 20000 in
theorem gL_law_X12_lot : GoodIn wsL_law (wsV RL 66 RX12 yX12_lot wsX12_lot) := goodIn_app (goodIn_of _ (by decide +kernel)) ggL_law_X12_lot
set_option maxRecDepth 20000 in
theorem ggL_law_X11_safe : GoodIn wsL_law wsX11_safe := goodIn_r _ [541, 32, 20, 25, 542, 543, 544, 31, 545, 546, 83, 84, 85, 547, 330, 331, 19, 332, 184, 68, 548, 549, 550, 551, 552, 553, 554, 555, 86, 556, 313, 314, 315, 557, 558, 559, 560, 561, 562, 208, 209, 210, 563, 564, 565, 566, 567, 512, 513, 909, 910, 911, 912, 913, 914, 915, 916, 917, 965, 966, 967, 968, 969, 970, 971, 972, 973, 974, 984, 985, 986, 987, 988, 989, 990, 991, 975, 976, 977, 978, 979, 980, 981, 982, 983] (by decide +kernel) (by decide +kernel)
set_option maxRecDepth 20000 in
theorem gL_law_X11_safe : GoodIn wsL_law (wsV RL 67 RX11 yX11_safe wsX11_safe) := goodIn_app (goodIn_of _ (by decide +kernel)) ggL_law_X11_safe
set_option maxRecDepth 20000 in
theorem ggL_law_X12_safe : GoodIn wsL_law wsX12_safe := goodIn_r _ [571, 572, 573, 574, 5, 575, 352, 351, 343, 411, 412, 413, 414, 345, 114, 576, 577, 578, 579, 112, 113, 117, 918, 919, 920, 921, 922, 923, 924, 925, 926, 927, 928, 929, 930, 931, 932, 933, 934, 935, 936, 937, 938, 939, 940, 941, 942, 943, 944, 945, 946, 947, 948, 949, 950, 951, 952, 953, 954, 955] (by decide +kernel) (by decide +kernel)
set_option maxRecDepth 20000 in
theorem gL_law_X12_safe : GoodIn wsL_law (wsV RL 70 RX12 yX12_safe wsX12_safe) := goodIn_app (goodIn_of _ (by decide +kernel)) ggL_law_X12_safe
set_option maxRecDepth 20000 in
theorem ggL_law_X11_least : GoodIn wsL_law wsX11_least := goodIn_r _ [583, 32, 20, 25, 542, 543, 544, 31, 545, 546, 83, 84, 85, 547, 330, 331, 19, 332, 184, 68, 584, 585, 586, 587, 552, 553, 554, 555, 86, 556, 313, 314, 315, 557, 558, 559, 560, 561, 562, 208, 209, 210, 563, 564, 565, 566, 567, 512, 513, 909, 910, 911, 912, 913, 914, 915, 916, 917, 965, 966, 967, 968, 969, 970, 971, 972, 973, 974, 984, 985, 986, 987, 988, 989, 990, 991, 975, 976, 977, 978, 979, 980, 981, 982, 983] (by decide +kernel) (by decide +kernel)
set_option maxRecDepth 20000 in
theorem gL_law_X11_least : GoodIn wsL_law (wsV RL 71 RX11 yX11_least wsX11_least) := goodIn_app (goodIn_of _ (by decide +kernel)) ggL_law_X11_least
set_option maxRecDepth 20000 in
theorem ggL_law_X12_least : GoodIn wsL_law wsX12_least := goodIn_r _ [591, 592, 150, 151, 5, 152, 572, 573, 574, 575, 352, 351, 343, 411, 412, 413, 414, 345, 114, 576, 577, 578, 579, 112, 113, 117, 918, 919, 920, 921, 922, 923, 924, 925, 926, 927, 928, 929, 930, 931, 932, 933, 934, 935, 936, 937, 938, 939, 940, 941, 942, 943, 944, 945, 946, 947, 948, 949, 950, 951, 952, 953, 954, 955] (by decide +kernel) (by decide +kernel)
set_option maxRecDepth 20000 in
theorem gL_law_X12_least : GoodIn wsL_law (wsV RL 74 RX12 yX12_least wsX12_least) := goodIn_app (goodIn_of _ (by decide +kernel)) ggL_law_X12_least
