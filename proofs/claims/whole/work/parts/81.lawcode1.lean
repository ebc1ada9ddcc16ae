set_option maxRecDepth 20000 in
theorem ggL_law_X11_drip : GoodIn wsL_law wsX11_drip := goodIn_r _ [435, 20, 436, 330, 331, 19, 332, 184, 68, 909, 910, 911, 912, 913, 914, 915, 916, 917, 965, 966, 967, 968, 969, 970, 971, 972, 973, 974] (by decide +kernel) (by decide +kernel)
set_option maxRecDepth 20000 in
theorem gL_law_X11_drip : GoodIn wsL_law (wsV RL 34 RX11 yX11_drip wsX11_drip) := goodIn_app (goodIn_of _ (by decide +kernel)) ggL_law_X11_drip
set_option maxRecDepth 20000 in
theorem ggL_law_X12_drip : GoodIn wsL_law wsX12_drip := goodIn_r _ [440, 441, 150, 151, 5, 152, 411, 412, 413, 414, 345, 114, 918, 919, 920, 921, 922, 923, 924, 925, 926, 927, 928, 929, 930, 931, 932, 933, 934, 935, 936, 937, 938, 939, 940, 941, 942, 943, 944, 945, 946, 947, 948, 949, 950, 951, 952, 953, 954, 955] (by decide +kernel) (by decide +kernel)
set_option maxRecDepth 20000 in
theorem gL_law_X12_drip : GoodIn wsL_law (wsV RL 38 RX12 yX12_drip wsX12_drip) := goodIn_app (goodIn_of _ (by decide +kernel)) ggL_law_X12_drip
set_option maxRecDepth 20000 in
theorem ggL_law_X11_song : GoodIn wsL_law wsX11_song := goodIn_r _ [445, 20, 446, 447, 448, 19, 449, 71, 69, 909, 910, 911, 912, 913, 914, 915, 916, 917, 965, 966, 967, 968, 969, 970, 971, 972, 973, 974] (by decide +kernel) (by decide +kernel)
set_option maxRecDepth 20000 in
theorem gL_law_X11_song : GoodIn wsL_law (wsV RL 39 RX11 yX11_song wsX11_song) := goodIn_app (goodIn_of _ (by decide +kernel)) ggL_law_X11_song
set_option maxRecDepth 20000 in
theorem ggL_law_X12_song : GoodIn wsL_law wsX12_song := goodIn_r _ [453, 115, 116, 918, 919, 920, 921, 922, 923, 924, 925, 926, 927, 928, 929, 930, 931, 932, 933, 934, 935, 936, 937, 938, 939, 940, 941, 942, 943, 944, 945, 946, 947, 948, 949, 950, 951, 952, 953, 954, 955] (by decide +kernel) (by decide +kernel)
set_option maxRecDepth 20000 in
theorem gL_law_X12_song : GoodIn wsL_law (wsV RL 42 RX12 yX12_song wsX12_song) := goodIn_app (goodIn_of _ (by decide +kernel)) ggL_law_X12_song
set_option maxRecDepth 20000 in
theorem ggL_law_X11_deal : GoodIn wsL_law wsX11_deal := goodIn_r _ [457, 25, 20, 458, 459, 460, 24, 461, 322, 323, 75, 462, 463, 464, 465, 466, 467, 468, 469, 470, 447, 448, 19, 449, 71, 69, 471, 472, 473, 474, 79, 475, 476, 477, 478, 479, 183, 480, 420, 421, 422, 909, 910, 911, 912, 913, 914, 915, 916, 917, 975, 976, 977, 978, 979, 980, 981, 982, 983, 965, 966, 967, 968, 969, 970, 971, 972, 973, 974] (by decide +kernel) (by decide +kernel)
set_option maxRecDepth 20000 in
theorem gL_law_X11_deal : GoodIn wsL_law (wsV RL 43 RX11 yX11_deal wsX11_deal) := goodIn_app (goodIn_of _ (by decide +kernel)) ggL_law_X11_deal
set_option maxRecDepth 20000 in
theorem ggL_law_X12_deal : GoodIn wsL_law wsX12_deal := goodIn_r _ [484, 352, 343, 347, 353, 116, 115, 117, 112, 349, 119, 485, 918, 919, 920, 921, 922, 923, 924, 925, 926, 927, 928, 929, 930, 931, 932, 933, 934, 935, 936, 937, 938, 939, 940, 941, 942, 943, 944, 945, 946, 947, 948, 949, 950, 951, 952, 953, 954, 955] (by decide +kernel) (by decide +kernel)
set_option maxRecDepth 20000 in
theorem gL_law_X12_deal : GoodIn wsL_law (wsV RL 46 RX12 yX12_deal wsX12_deal) := goodIn_app (goodIn_of _ (by decide +kernel)) ggL_law_X12_deal
set_option maxRecDepth 20000 in
theorem ggL_law_X11_give : GoodIn wsL_law wsX11_give := goodIn_r _ [489, 20, 25, 419, 420, 421, 19, 422, 183, 909, 910, 911, 912, 913, 914, 915, 916, 917, 975, 976, 977, 978, 979, 980, 981, 982, 983, 965, 966, 967, 968, 969, 970, 971, 972, 973, 974] (by decide +kernel) (by decide +kernel)
set_option maxRecDepth 20000 in
theorem gL_law_X11_give : GoodIn wsL_law (wsV RL 47 RX11 yX11_give wsX11_give) := goodIn_app (goodIn_of _ (by decide +kernel)) ggL_law_X11_give
set_option maxRecDepth 20000 in
theorem ggL_law_X12_give : GoodIn wsL_law wsX12_give := goodIn_r _ [493, 494, 352, 117, 428, 429, 430, 5, 431, 343, 150, 151, 152, 918, 919, 920, 921, 922, 923, 924, 925, 926, 927, 928, 929, 930, 931, 932, 933, 934, 935, 936, 937, 938, 939, 940, 941, 942, 943, 944, 945, 946, 947, 948, 949, 950, 951, 952, 953, 954, 955] (by decide +kernel) (by decide +kernel)
set_option maxRecDepth 20000 in
theorem gL_law_X12_give : GoodIn wsL_law (wsV RL 50 RX12 yX12_give wsX12_give) := goodIn_app (goodIn_of _ (by decide +kernel)) ggL_law_X12_give
set_option maxRecDepth 20000 in
theorem ggL_law_X11_bird : GoodIn wsL_law wsX11_bird := goodIn_r _ [498, 20, 25, 419, 420, 421, 19, 422, 183, 909, 910, 911, 912, 913, 914, 915, 916, 917, 975, 976, 977, 978, 979, 980, 981, 982, 983, 965, 966, 967, 968, 969, 970, 971, 972, 973, 974] (by decide +kernel) (by decide +kernel)
set_option maxRecDepth 20000 in
theorem gL_law_X11_bird : GoodIn wsL_law (wsV RL 51 RX11 yX11_bird wsX11_bird) := goodIn_app (goodIn_of _ (by decide +kernel)) ggL_law_X11_bird
set_option maxRecDepth 20000 in
theorem ggL_law_X12_bird : GoodIn wsL_law wsX12_bird := goodIn_r _ [502, 117, 428, 429, 430, 5, 431, 343, 150, 151, 152, 918, 919, 920, 921, 922, 923, 924, 925, 926, 927, 928, 929, 930, 931, 932, 933, 934, 935, 936, 937, 938, 939, 940, 941, 942, 943, 944, 945, 946, 947, 948, 949, 950, 951, 952, 953, 954, 955] (by decide +kernel) (by decide +kernel)
set_option maxRecDepth 20000 in
theorem gL_law_X12_bird : GoodIn wsL_law (wsV RL 54 RX12 yX12_bird wsX12_bird) := goodIn_app (goodIn_of _ (by decide +kernel)) ggL_law_X12_bird
