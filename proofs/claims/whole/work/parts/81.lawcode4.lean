set_option maxRecDepth 20000 in
theorem ggL_law_X11_could : GoodIn wsL_law wsX11_could := goodIn_r _ [739, 36, 20, 25, 740, 741, 742, 35, 743, 744, 745, 746, 747, 716, 717, 19, 718, 183, 748, 749, 750, 24, 751, 324, 77, 78, 650, 447, 448, 449, 71, 69, 651, 477, 478, 479, 909, 910, 911, 912, 913, 914, 915, 916, 917, 965, 966, 967, 968, 969, 970, 971, 972, 973, 974, 975, 976, 977, 978, 979, 980, 981, 982, 983] (by decide +kernel) (by decide +kernel)
set_option maxRecDepth 20000 in
theorem gL_law_X11_could : GoodIn wsL_law (wsV RL 97 RX11 yX11_could wsX11_could) := goodIn_app (goodIn_of _ (by decide +kernel)) ggL_law_X11_could
set_option maxRecDepth 20000 in
theorem ggL_law_X12_could : GoodIn wsL_law wsX12_could := goodIn_r _ [755, 672, 150, 151, 5, 152, 756, 757, 758, 759, 343, 760, 761, 762, 763, 116, 115, 764, 765, 766, 767, 354, 120, 121, 918, 919, 920, 921, 922, 923, 924, 925, 926, 927, 928, 929, 930, 931, 932, 933, 934, 935, 936, 937, 938, 939, 940, 941, 942, 943, 944, 945, 946, 947, 948, 949, 950, 951, 952, 953, 954, 955] (by decide +kernel) (by decide +kernel)
set_option maxRecDepth 20000 in
theorem gL_law_X12_could : GoodIn wsL_law (wsV RL 100 RX12 yX12_could wsX12_could) := goodIn_app (goodIn_of _ (by decide +kernel)) ggL_law_X12_could
set_option maxRecDepth 20000 in
theorem ggL_law_X11_who : GoodIn wsL_law wsX11_who := goodIn_r _ [771, 36, 20, 25, 772, 773, 774, 35, 775, 776, 741, 742, 743, 744, 745, 746, 747, 716, 717, 19, 718, 183, 748, 749, 750, 24, 751, 324, 77, 78, 650, 447, 448, 449, 71, 69, 651, 477, 478, 479, 909, 910, 911, 912, 913, 914, 915, 916, 917, 965, 966, 967, 968, 969, 970, 971, 972, 973, 974, 975, 976, 977, 978, 979, 980, 981, 982, 983] (by decide +kernel) (by decide +kernel)
set_option maxRecDepth 20000 in
theorem gL_law_X11_who : GoodIn wsL_law (wsV RL 101 RX11 yX11_who wsX11_who) := goodIn_app (goodIn_of _ (by decide +kernel)) ggL_law_X11_who
set_option maxRecDepth 20000 in
theorem ggL_law_X12_who : GoodIn wsL_law wsX12_who := goodIn_r _ [780, 672, 116, 115, 343, 150, 151, 5, 152, 756, 757, 758, 759, 760, 761, 762, 763, 764, 765, 766, 767, 354, 120, 121, 918, 919, 920, 921, 922, 923, 924, 925, 926, 927, 928, 929, 930, 931, 932, 933, 934, 935, 936, 937, 938, 939, 940, 941, 942, 943, 944, 945, 946, 947, 948, 949, 950, 951, 952, 953, 954, 955] (by decide +kernel) (by decide +kernel)
set_option maxRecDepth 20000 in
theorem gL_law_X12_who : GoodIn wsL_law (wsV RL 104 RX12 yX12_who wsX12_who) := goodIn_app (goodIn_of _ (by decide +kernel)) ggL_law_X12_who
set_option maxRecDepth 20000 in
theorem ggL_law_X11_mark : GoodIn wsL_law wsX11_mark := goodIn_r _ [784, 55, 20, 785, 25, 419, 420, 421, 19, 422, 183, 786, 787, 788, 789, 790, 42, 791, 792, 793, 794, 795, 39, 796, 797, 798, 799, 800, 801, 802, 803, 804, 805, 806, 807, 808, 809, 810, 811, 812, 813, 51, 814, 815, 816, 817, 818, 819, 820, 821, 45, 822, 823, 824, 825, 826, 827, 828, 829, 830, 831, 832, 833, 54, 834, 835, 836, 837, 838, 839, 840, 841, 842, 48, 843, 844, 845, 846, 847, 848, 849, 909, 910, 911, 912, 913, 914, 915, 916, 917, 965, 966, 967, 968, 969, 970, 971, 972, 973, 974, 994, 997, 993, 995, 998, 996, 975, 976, 977, 978, 979, 980, 981, 982, 983] (by decide +kernel) (by decide +kernel)
set_option maxRecDepth 20000 in
theorem gL_law_X11_mark : GoodIn wsL_law (wsV RL 105 RX11 yX11_mark wsX11_mark) := goodIn_app (goodIn_of _ (by decide +kernel)) ggL_law_X11_mark
set_option maxRecDepth 20000 in
theorem ggL_law_X12_mark : GoodIn wsL_law wsX12_mark := goodIn_r _ [853, 854, 855, 856, 857, 858, 859, 860, 861, 117, 112, 113, 118, 150, 151, 5, 152, 428, 429, 430, 431, 343, 918, 919, 920, 921, 922, 923, 924, 925, 926, 927, 928, 929, 930, 931, 932, 933, 934, 935, 936, 937, 938, 939, 940, 941, 942, 943, 944, 945, 946, 947, 948, 949, 950, 951, 952, 953, 954, 955] (by decide +kernel) (by decide +kernel)
set_option maxRecDepth 20000 in
theorem gL_law_X12_mark : GoodIn wsL_law (wsV RL 108 RX12 yX12_mark wsX12_mark) := goodIn_app (goodIn_of _ (by decide +kernel)) ggL_law_X12_mark
set_option maxRecDepth 20000 in
theorem ggL_law_X11_keep : GoodIn wsL_law wsX11_keep := goodIn_r _ [865, 26, 25, 28, 866, 867, 868, 24, 869, 75, 320, 313, 314, 315, 76, 77, 78, 321, 322, 323, 79, 324, 909, 910, 911, 912, 913, 914, 915, 916, 917, 975, 976, 977, 978, 979, 980, 981, 982, 983] (by decide +kernel) (by decide +kernel)
set_option maxRecDepth 20000 in
theorem gL_law_X11_keep : GoodIn wsL_law (wsV RL 109 RX11 yX11_keep wsX11_keep) := goodIn_app (goodIn_of _ (by decide +kernel)) ggL_law_X11_keep
set_option maxRecDepth 20000 in
theorem ggL_law_X12_keep : GoodIn wsL_law wsX12_keep := goodIn_r _ [873, 122, 351, 352, 353, 119, 354, 117, 118, 120, 121, 150, 151, 5, 152, 918, 919, 920, 921, 922, 923, 924, 925, 926, 927, 928, 929, 930, 931, 932, 933, 934, 935, 936, 937, 938, 939, 940, 941, 942, 943, 944, 945, 946, 947, 948, 949, 950, 951, 952, 953, 954, 955] (by decide +kernel) (by decide +kernel)
set_option maxRecDepth 20000 in
theorem gL_law_X12_keep : GoodIn wsL_law (wsV RL 112 RX12 yX12_keep wsX12_keep) := goodIn_app (goodIn_of _ (by decide +kernel)) ggL_law_X12_keep
set_option maxRecDepth 20000 in
theorem ggL_law_X11_back : GoodIn wsL_law wsX11_back := goodIn_r _ [877, 28, 25, 26, 866, 867, 868, 24, 869, 75, 320, 313, 314, 315, 76, 77, 78, 321, 322, 323, 79, 324, 909, 910, 911, 912, 913, 914, 915, 916, 917, 975, 976, 977, 978, 979, 980, 981, 982, 983] (by decide +kernel) (by decide +kernel)
set_option maxRecDepth 20000 in
theorem gL_law_X11_back : GoodIn wsL_law (wsV RL 113 RX11 yX11_back wsX11_back) := goodIn_app (goodIn_of _ (by decide +kernel)) ggL_law_X11_back
set_option maxRecDepth 20000 in
theorem ggL_law_X12_back : GoodIn wsL_law wsX12_back := goodIn_r _ [881, 122, 351, 352, 353, 119, 354, 117, 118, 120, 121, 150, 151, 5, 152, 918, 919, 920, 921, 922, 923, 924, 925, 926, 927, 928, 929, 930, 931, 932, 933, 934, 935, 936, 937, 938, 939, 940, 941, 942, 943, 944, 945, 946, 947, 948, 949, 950, 951, 952, 953, 954, 955] (by decide +kernel) (by decide +kernel)
set_option maxRecDepth 20000 in
theorem gL_law_X12_back : GoodIn wsL_law (wsV RL 116 RX12 yX12_back wsX12_back) := goodIn_app (goodIn_of _ (by decide +kernel)) ggL_law_X12_back
