set_option maxRecDepth 20000 in
theorem ggL_law_X11_count : GoodIn wsL_law wsX11_count := goodIn_r _ [885, 20, 25, 16, 139, 140, 141, 15, 142, 138, 909, 910, 911, 912, 913, 914, 915, 916, 917, 965, 966, 967, 968, 969, 970, 971, 972, 973, 974, 975, 976, 977, 978, 979, 980, 981, 982, 983, 956, 957, 958, 959, 960, 961, 962, 963, 964] (by decide +kernel) (by decide +kernel)
set_option maxRecDepth 20000 in
theorem gL_law_X11_count : GoodIn wsL_law (wsV RL 117 RX11 yX11_count wsX11_count) := goodIn_app (goodIn_of _ (by decide +kernel)) ggL_law_X11_count
set_option maxRecDepth 20000 in
theorem ggL_law_X12_count : GoodIn wsL_law wsX12_count := goodIn_r _ [889, 343, 345, 347, 349, 354, 148, 918, 919, 920, 921, 922, 923, 924, 925, 926, 927, 928, 929, 930, 931, 932, 933, 934, 935, 936, 937, 938, 939, 940, 941, 942, 943, 944, 945, 946, 947, 948, 949, 950, 951, 952, 953, 954, 955] (by decide +kernel) (by decide +kernel)
set_option maxRecDepth 20000 in
theorem gL_law_X12_count : GoodIn wsL_law (wsV RL 120 RX12 yX12_count wsX12_count) := goodIn_app (goodIn_of _ (by decide +kernel)) ggL_law_X12_count
set_option maxRecDepth 20000 in
theorem ggL_law_X11_trace : GoodIn wsL_law wsX11_trace := goodIn_r _ [893, 55, 894, 895, 896, 897, 39, 898, 797, 899, 900, 901, 902, 903, 904, 909, 910, 911, 912, 913, 914, 915, 916, 917, 994, 997, 993, 995, 998, 996] (by decide +kernel) (by decide +kernel)
set_option maxRecDepth 20000 in
theorem gL_law_X11_trace : GoodIn wsL_law (wsV RL 121 RX11 yX11_trace wsX11_trace) := goodIn_app (goodIn_of _ (by decide +kernel)) ggL_law_X11_trace
set_option maxRecDepth 20000 in
theorem ggL_law_X12_trace : GoodIn wsL_law wsX12_trace := goodIn_r _ [908, 856, 918, 919, 920, 921, 922, 923, 924, 925, 926, 927, 928, 929, 930, 931, 932, 933, 934, 935, 936, 937, 938, 939, 940, 941, 942, 943, 944, 945, 946, 947, 948, 949, 950, 951, 952, 953, 954, 955] (by decide +kernel) (by decide +kernel)
set_option maxRecDepth 20000 in
theorem gL_law_X12_trace : GoodIn wsL_law (wsV RL 125 RX12 yX12_trace wsX12_trace) := goodIn_app (goodIn_of _ (by decide +kernel)) ggL_law_X12_trace
