set_option maxRecDepth 20000 in
theorem ggL_law_X9_init : GoodIn wsL_law wsX9_init := goodIn_r _ [9, 10, 11, 12, 13, 14, 15, 16, 17, 18, 19, 20, 21, 22, 23, 24, 25, 26, 27, 28, 29, 30, 31, 32, 33, 34, 35, 36, 37, 38, 39, 40, 41, 42, 43, 44, 45, 46, 47, 48, 49, 50, 51, 52, 53, 54, 55, 56, 57, 58, 59, 60, 61, 62, 63, 64, 65, 66, 67, 68, 69, 70, 71, 72, 73, 74, 75, 76, 77, 78, 79, 80, 81, 82, 83, 84, 85, 86, 87, 88, 89, 90, 91, 92, 93, 94, 95, 96, 97, 98, 99, 100, 101, 102, 103, 104, 105, 106, 107, 108, 109, 110, 111, 112, 113, 114, 115, 116, 117, 118, 119, 120, 121, 122, 918, 919, 871, 872, 873, 874, 875, 876, 877, 878, 879, 880, 881, 920, 921, 922, 923, 924, 925, 926, 927, 928, 929, 930, 931, 932, 933, 934, 935, 936, 937, 938, 939, 940, 941, 942, 943, 944, 945, 946, 947] (by decide +kernel) (by decide +kernel)
set_option maxRecDepth 20000 in
theorem gL_law_X9_init : GoodIn wsL_law (wsX9_init) := ggL_law_X9_init
set_option maxRecDepth 20000 in
theorem ggL_law_X10_init : GoodIn wsL_law wsX10_init := goodIn_r _ [125, 126, 11, 12, 127, 53, 128, 129, 130, 131, 132, 133, 134, 135, 136, 137, 138, 139, 140, 141, 142, 143, 144, 145, 146, 147, 148, 149, 150, 882, 883, 884, 885, 886, 887, 888, 889, 890, 891, 892, 893, 894, 895, 896, 897, 898, 899, 900, 901, 902, 903, 904, 905, 906, 907, 908, 909, 910, 911, 912, 913, 914, 915, 916, 917] (by decide +kernel) (by decide +kernel)
set_option maxRecDepth 20000 in
theorem gL_law_X10_init : GoodIn wsL_law (wsX10_init) := ggL_law_X10_init
set_option maxRecDepth 20000 in
theorem ggL_law_X9_letters : GoodIn wsL_law wsX9_letters := goodIn_r _ [154, 16, 155, 156, 15, 157, 158, 159, 160, 161, 162, 163, 164, 165, 166, 167, 168, 169, 170, 54, 171, 172, 173, 174, 871, 872, 873, 874, 875, 876, 877, 878, 879, 880, 881, 918, 919] (by decide +kernel) (by decide +kernel)
set_option maxRecDepth 20000 in
theorem gL_law_X9_letters : GoodIn wsL_law (wsV RL 15 RX9 yX9_letters wsX9_letters) := goodIn_app (goodIn_of _ (by decide +kernel)) ggL_law_X9_letters
set_option maxRecDepth 20000 in
theorem ggL_law_X10_letters : GoodIn wsL_law wsX10_letters := goodIn_r _ [178, 179, 180, 137, 882, 883, 884, 885, 886, 887, 888, 889, 890, 891, 892, 893, 894, 895, 896, 897, 898, 899, 900, 901, 902, 903, 904, 905, 906, 907, 908, 909, 910, 911, 912, 913, 914, 915, 916, 917] (by decide +kernel) (by decide +kernel)
set_option maxRecDepth 20000 in
theorem gL_law_X10_letters : GoodIn wsL_law (wsV RL 19 RX10 yX10_letters wsX10_letters) := goodIn_app (goodIn_of _ (by decide +kernel)) ggL_law_X10_letters
set_option maxRecDepth 20000 in
theorem ggL_law_X9_blank : GoodIn wsL_law wsX9_blank := goodIn_r _ [184, 16, 171, 172, 173, 15, 174, 166, 185, 186, 187, 188, 871, 872, 873, 874, 875, 876, 877, 878, 879, 880, 881, 918, 919] (by decide +kernel) (by decide +kernel)
set_option maxRecDepth 20000 in
theorem gL_law_X9_blank : GoodIn wsL_law (wsV RL 20 RX9 yX9_blank wsX9_blank) := goodIn_app (goodIn_of _ (by decide +kernel)) ggL_law_X9_blank
set_option maxRecDepth 20000 in
theorem ggL_law_X10_blank : GoodIn wsL_law wsX10_blank := goodIn_r _ [192, 180, 882, 883, 884, 885, 886, 887, 888, 889, 890, 891, 892, 893, 894, 895, 896, 897, 898, 899, 900, 901, 902, 903, 904, 905, 906, 907, 908, 909, 910, 911, 912, 913, 914, 915, 916, 917] (by decide +kernel) (by decide +kernel)
set_option maxRecDepth 20000 in
theorem gL_law_X10_blank : GoodIn wsL_law (wsV RL 24 RX10 yX10_blank wsX10_blank) := goodIn_app (goodIn_of _ (by decide +kernel)) ggL_law_X10_blank
set_option maxRecDepth 20000 in
theorem ggL_law_X9_fault : GoodIn wsL_law wsX9_fault := goodIn_r _ [196, 16, 197, 198, 19, 199, 200, 172, 173, 15, 174, 166, 201, 202, 203, 204, 54, 205, 206, 207, 208, 209, 210, 211, 2, 212, 213, 214, 215, 216, 217, 23, 218, 219, 220, 221, 222, 223, 224, 225, 226, 871, 872, 873, 874, 875, 876, 877, 878, 879, 880, 881, 918, 919] (by decide +kernel) (by decide +kernel)
set_option maxRecDepth 20000 in
theorem gL_law_X9_fault : GoodIn wsL_law (wsV RL 25 RX9 yX9_fault wsX9_fault) := goodIn_app (goodIn_of _ (by decide +kernel)) ggL_law_X9_fault
set_option maxRecDepth 20000 in
theorem ggL_law_X10_fault : GoodIn wsL_law wsX10_fault := goodIn_r _ [230, 231, 232, 233, 5, 234, 235, 236, 237, 238, 239, 180, 137, 138, 139, 240, 241, 242, 243, 244, 245, 246, 247, 140, 141, 882, 883, 884, 885, 886, 887, 888, 889, 890, 891, 892, 893, 894, 895, 896, 897, 898, 899, 900, 901, 902, 903, 904, 905, 906, 907, 908, 909, 910, 911, 912, 913, 914, 915, 916, 917] (by decide +kernel) (by decide +kernel)
set_option maxRecDepth 20000 in
theorem gL_law_X10_fault : GoodIn wsL_law (wsV RL 29 RX10 yX10_fault wsX10_fault) := goodIn_app (goodIn_of _ (by decide +kernel)) ggL_law_X10_fault
set_option maxRecDepth 20000 in
theorem ggL_law_X9_law : GoodIn wsL_law wsX9_law := goodIn_r _ [251, 16, 20, 252, 253, 19, 254, 200, 172, 173, 15, 174, 166, 255, 198, 199, 201, 202, 203, 204, 54, 205, 206, 207, 208, 209, 210, 211, 2, 212, 213, 214, 215, 256, 257, 258, 259, 66, 260, 62, 63, 64, 65, 59, 60, 67, 68, 69, 70, 71, 72, 73, 74, 61, 75, 76, 77, 78, 79, 80, 185, 186, 187, 188, 261, 262, 263, 264, 871, 872, 873, 874, 875, 876, 877, 878, 879, 880, 881, 918, 919, 920, 921, 922, 923, 924] (by decide +kernel) (by decide +kernel)
set_option maxRecDepth 20000 in
theorem gL_law_X9_law : GoodIn wsL_law (wsV RL 30 RX9 yX9_law wsX9_law) := goodIn_app (goodIn_of _ (by decide +kernel)) ggL_law_X9_law
set_option maxRecDepth 20000 in
theorem ggL_law_X10_law : GoodIn wsL_law wsX10_law := goodIn_r _ [268, 240, 239, 127, 128, 138, 129, 139, 269, 180, 235, 236, 237, 5, 238, 137, 231, 232, 233, 234, 241, 242, 243, 882, 883, 884, 885, 886, 887, 888, 889, 890, 891, 892, 893, 894, 895, 896, 897, 898, 899, 900, 901, 902, 903, 904, 905, 906, 907, 908, 909, 910, 911, 912, 913, 914, 915, 916, 917] (by decide +kernel) (by decide +kernel)
set_option maxRecDepth 20000 in
theorem gL_law_X10_law : GoodIn wsL_law (wsV RL 33 RX10 yX10_law wsX10_law) := goodIn_app (goodIn_of _ (by decide +kernel)) ggL_law_X10_law
set_option maxRecDepth 20000 in
theorem ggL_law_X9_week : GoodIn wsL_law wsX9_week := goodIn_r _ [273, 16, 24, 274, 275, 23, 276, 219, 172, 173, 15, 174, 166, 277, 217, 218, 220, 221, 222, 223, 202, 203, 204, 54, 224, 225, 226, 211, 2, 212, 278, 279, 280, 281, 282, 84, 85, 283, 185, 186, 187, 188, 284, 285, 286, 287, 871, 872, 873, 874, 875, 876, 877, 878, 879, 880, 881, 918, 919, 925, 926, 927, 928] (by decide +kernel) (by decide +kernel)
set_option maxRecDepth 20000 in
theorem gL_law_X9_week : GoodIn wsL_law (wsV RL 34 RX9 yX9_week wsX9_week) := goodIn_app (goodIn_of _ (by decide +kernel)) ggL_law_X9_week
set_option maxRecDepth 20000 in
theorem ggL_law_X10_week : GoodIn wsL_law wsX10_week := goodIn_r _ [291, 240, 239, 292, 130, 140, 131, 141, 293, 180, 244, 245, 246, 5, 247, 137, 231, 232, 233, 234, 882, 883, 884, 885, 886, 887, 888, 889, 890, 891, 892, 893, 894, 895, 896, 897, 898, 899, 900, 901, 902, 903, 904, 905, 906, 907, 908, 909, 910, 911, 912, 913, 914, 915, 916, 917] (by decide +kernel) (by decide +kernel)
set_option maxRecDepth 20000 in
theorem gL_law_X10_week : GoodIn wsL_law (wsV RL 37 RX10 yX10_week wsX10_week) := goodIn_app (goodIn_of _ (by decide +kernel)) ggL_law_X10_week
set_option maxRecDepth 20000 in
theorem ggL_law_X9_grown : GoodIn wsL_law wsX9_grown := goodIn_r _ [297, 20, 298, 299, 2, 300, 301, 211, 212, 302, 303, 304, 19, 305, 61, 871, 872, 873, 874, 875, 876, 877, 878, 879, 880, 881, 920, 921, 922, 923, 924] (by decide +kernel) (by decide +kernel)
set_option maxRecDepth 20000 in
theorem gL_law_X9_grown : GoodIn wsL_law (wsV RL 38 RX9 yX9_grown wsX9_grown) := goodIn_app (goodIn_of _ (by decide +kernel)) ggL_law_X9_grown
set_option maxRecDepth 20000 in
theorem ggL_law_X10_grown : GoodIn wsL_law wsX10_grown := goodIn_r _ [309, 310, 311, 5, 312, 232, 233, 234, 313, 314, 315, 316, 127, 317, 318, 319, 320, 128, 129, 321, 322, 323, 882, 883, 884, 885, 886, 887, 888, 889, 890, 891, 892, 893, 894, 895, 896, 897, 898, 899, 900, 901, 902, 903, 904, 905, 906, 907, 908, 909, 910, 911, 912, 913, 914, 915, 916, 917] (by decide +kernel) (by decide +kernel)
set_option maxRecDepth 20000 in
theorem gL_law_X10_grown : GoodIn wsL_law (wsV RL 41 RX10 yX10_grown wsX10_grown) := goodIn_app (goodIn_of _ (by decide +kernel)) ggL_law_X10_grown
set_option maxRecDepth 20000 in
theorem ggL_law_X9_telling : GoodIn wsL_law wsX9_telling := goodIn_r _ [327, 24, 328, 329, 330, 23, 331, 282, 301, 211, 2, 212, 332, 333, 334, 335, 84, 336, 337, 338, 339, 340, 85, 871, 872, 873, 874, 875, 876, 877, 878, 879, 880, 881, 925, 926, 927, 928] (by decide +kernel) (by decide +kernel)
set_option maxRecDepth 20000 in
theorem gL_law_X9_telling : GoodIn wsL_law (wsV RL 42 RX9 yX9_telling wsX9_telling) := goodIn_app (goodIn_of _ (by decide +kernel)) ggL_law_X9_telling
set_option maxRecDepth 20000 in
theorem ggL_law_X10_telling : GoodIn wsL_law wsX10_telling := goodIn_r _ [344, 292, 130, 131, 232, 233, 5, 234, 882, 883, 884, 885, 886, 887, 888, 889, 890, 891, 892, 893, 894, 895, 896, 897, 898, 899, 900, 901, 902, 903, 904, 905, 906, 907, 908, 909, 910, 911, 912, 913, 914, 915, 916, 917] (by decide +kernel) (by decide +kernel)
set_option maxRecDepth 20000 in
theorem gL_law_X10_telling : GoodIn wsL_law (wsV RL 46 RX10 yX10_telling wsX10_telling) := goodIn_app (goodIn_of _ (by decide +kernel)) ggL_law_X10_telling
set_option maxRecDepth 20000 in
theorem ggL_law_X9_person : GoodIn wsL_law wsX9_person := goodIn_r _ [348, 28, 349, 350, 2, 351, 301, 211, 212, 352, 353, 354, 27, 355, 356, 357, 358, 359, 360, 90, 361, 871, 872, 873, 874, 875, 876, 877, 878, 879, 880, 881, 929, 930, 931, 932, 933] (by decide +kernel) (by decide +kernel)
set_option maxRecDepth 20000 in
theorem gL_law_X9_person : GoodIn wsL_law (wsV RL 47 RX9 yX9_person wsX9_person) := goodIn_app (goodIn_of _ (by decide +kernel)) ggL_law_X9_person
set_option maxRecDepth 20000 in
theorem ggL_law_X10_person : GoodIn wsL_law wsX10_person := goodIn_r _ [365, 366, 132, 133, 232, 233, 5, 234, 882, 883, 884, 885, 886, 887, 888, 889, 890, 891, 892, 893, 894, 895, 896, 897, 898, 899, 900, 901, 902, 903, 904, 905, 906, 907, 908, 909, 910, 911, 912, 913, 914, 915, 916, 917] (by decide +kernel) (by decide +kernel)
set_option maxRecDepth 20000 in
theorem gL_law_X10_person : GoodIn wsL_law (wsV RL 50 RX10 yX10_person wsX10_person) := goodIn_app (goodIn_of _ (by decide +kernel)) ggL_law_X10_person
set_option maxRecDepth 20000 in
theorem ggL_law_X9_kind : GoodIn wsL_law wsX9_kind := goodIn_r _ [370, 28, 371, 372, 373, 27, 374, 356, 375, 376, 377, 378, 90, 379, 871, 872, 873, 874, 875, 876, 877, 878, 879, 880, 881, 929, 930, 931, 932, 933] (by decide +kernel) (by decide +kernel)
set_option maxRecDepth 20000 in
theorem gL_law_X9_kind : GoodIn wsL_law (wsV RL 51 RX9 yX9_kind wsX9_kind) := goodIn_app (goodIn_of _ (by decide +kernel)) ggL_law_X9_kind
set_option maxRecDepth 20000 in
theorem ggL_law_X10_kind : GoodIn wsL_law wsX10_kind := goodIn_r _ [383, 132, 384, 385, 386, 5, 387, 366, 232, 233, 234, 882, 883, 884, 885, 886, 887, 888, 889, 890, 891, 892, 893, 894, 895, 896, 897, 898, 899, 900, 901, 902, 903, 904, 905, 906, 907, 908, 909, 910, 911, 912, 913, 914, 915, 916, 917] (by decide +kernel) (by decide +kernel)
set_option maxRecDepth 20000 in
theorem gL_law_X10_kind : GoodIn wsL_law (wsV RL 54 RX10 yX10_kind wsX10_kind) := goodIn_app (goodIn_of _ (by decide +kernel)) ggL_law_X10_kind
set_option maxRecDepth 20000 in
theorem ggL_law_X9_as : GoodIn wsL_law wsX9_as := goodIn_r _ [391, 28, 371, 372, 373, 27, 374, 356, 349, 350, 2, 351, 301, 211, 212, 375, 376, 377, 378, 90, 379, 392, 393, 394, 871, 872, 873, 874, 875, 876, 877, 878, 879, 880, 881, 929, 930, 931, 932, 933] (by decide +kernel) (by decide +kernel)
set_option maxRecDepth 20000 in
theorem gL_law_X9_as : GoodIn wsL_law (wsV RL 55 RX9 yX9_as wsX9_as) := goodIn_app (goodIn_of _ (by decide +kernel)) ggL_law_X9_as
set_option maxRecDepth 20000 in
theorem ggL_law_X10_as : GoodIn wsL_law wsX10_as := goodIn_r _ [398, 132, 384, 385, 386, 5, 387, 366, 232, 233, 234, 882, 883, 884, 885, 886, 887, 888, 889, 890, 891, 892, 893, 894, 895, 896, 897, 898, 899, 900, 901, 902, 903, 904, 905, 906, 907, 908, 909, 910, 911, 912, 913, 914, 915, 916, 917] (by decide +kernel) (by decide +kernel)
set_option maxRecDepth 20000 in
theorem gL_law_X10_as : GoodIn wsL_law (wsV RL 58 RX10 yX10_as wsX10_as) := goodIn_app (goodIn_of _ (by decide +kernel)) ggL_law_X10_as
set_option maxRecDepth 20000 in
theorem ggL_law_X9_tells : GoodIn wsL_law wsX9_tells := goodIn_r _ [402, 28, 20, 371, 372, 373, 27, 374, 356, 298, 299, 2, 300, 301, 211, 212, 375, 376, 377, 378, 90, 379, 403, 404, 405, 19, 406, 407, 303, 304, 305, 61, 871, 872, 873, 874, 875, 876, 877, 878, 879, 880, 881, 929, 930, 931, 932, 933, 920, 921, 922, 923, 924] (by decide +kernel) (by decide +kernel)
set_option maxRecDepth 20000 in
theorem gL_law_X9_tells : GoodIn wsL_law (wsV RL 59 RX9 yX9_tells wsX9_tells) := goodIn_app (goodIn_of _ (by decide +kernel)) ggL_law_X9_tells
set_option maxRecDepth 20000 in
theorem ggL_law_X10_tells : GoodIn wsL_law wsX10_tells := goodIn_r _ [411, 132, 384, 385, 386, 5, 387, 366, 232, 233, 234, 310, 311, 312, 412, 413, 414, 415, 313, 314, 315, 316, 127, 317, 318, 319, 320, 128, 129, 321, 322, 323, 882, 883, 884, 885, 886, 887, 888, 889, 890, 891, 892, 893, 894, 895, 896, 897, 898, 899, 900, 901, 902, 903, 904, 905, 906, 907, 908, 909, 910, 911, 912, 913, 914, 915, 916, 917] (by decide +kernel) (by decide +kernel)
set_option maxRecDepth 20000 in
theorem gL_law_X10_tells : GoodIn wsL_law (wsV RL 62 RX10 yX10_tells wsX10_tells) := goodIn_app (goodIn_of _ (by decide +kernel)) ggL_law_X10_tells
set_option maxRecDepth 20000 in
theorem ggL_law_X9_knows : GoodIn wsL_law wsX9_knows := goodIn_r _ [419, 28, 420, 421, 422, 27, 423, 379, 372, 373, 374, 356, 424, 425, 426, 427, 91, 428, 429, 430, 431, 432, 871, 872, 873, 874, 875, 876, 877, 878, 879, 880, 881, 929, 930, 931, 932, 933] (by decide +kernel) (by decide +kernel)
set_option maxRecDepth 20000 in
theorem gL_law_X9_knows : GoodIn wsL_law (wsV RL 63 RX9 yX9_knows wsX9_knows) := goodIn_app (goodIn_of _ (by decide +kernel)) ggL_law_X9_knows
set_option maxRecDepth 20000 in
theorem ggL_law_X10_knows : GoodIn wsL_law wsX10_knows := goodIn_r _ [436, 133, 384, 385, 386, 5, 387, 366, 232, 233, 234, 882, 883, 884, 885, 886, 887, 888, 889, 890, 891, 892, 893, 894, 895, 896, 897, 898, 899, 900, 901, 902, 903, 904, 905, 906, 907, 908, 909, 910, 911, 912, 913, 914, 915, 916, 917] (by decide +kernel) (by decide +kernel)
set_option maxRecDepth 20000 in
theorem gL_law_X10_knows : GoodIn wsL_law (wsV RL 67 RX10 yX10_knows wsX10_knows) := goodIn_app (goodIn_of _ (by decide +kernel)) ggL_law_X10_knows
set_option maxRecDepth 20000 in
theorem ggL_law_X9_see : GoodIn wsL_law wsX9_see := goodIn_r _ [440, 28, 441, 442, 2, 443, 301, 211, 212, 371, 372, 373, 27, 374, 356, 298, 299, 300, 444, 445, 446, 447, 92, 93, 448, 449, 450, 451, 871, 872, 873, 874, 875, 876, 877, 878, 879, 880, 881, 929, 930, 931, 932, 933] (by decide +kernel) (by decide +kernel)
set_option maxRecDepth 20000 in
theorem gL_law_X9_see : GoodIn wsL_law (wsV RL 68 RX9 yX9_see wsX9_see) := goodIn_app (goodIn_of _ (by decide +kernel)) ggL_law_X9_see
set_option maxRecDepth 20000 in
theorem ggL_law_X10_see : GoodIn wsL_law wsX10_see := goodIn_r _ [455, 134, 135, 456, 457, 5, 458, 232, 233, 234, 384, 385, 386, 387, 366, 310, 311, 312, 882, 883, 884, 885, 886, 887, 888, 889, 890, 891, 892, 893, 894, 895, 896, 897, 898, 899, 900, 901, 902, 903, 904, 905, 906, 907, 908, 909, 910, 911, 912, 913, 914, 915, 916, 917] (by decide +kernel) (by decide +kernel)
set_option maxRecDepth 20000 in
theorem gL_law_X10_see : GoodIn wsL_law (wsV RL 72 RX10 yX10_see wsX10_see) := goodIn_app (goodIn_of _ (by decide +kernel)) ggL_law_X10_see
set_option maxRecDepth 20000 in
theorem ggL_law_X9_drop : GoodIn wsL_law wsX9_drop := goodIn_r _ [462, 28, 441, 442, 2, 443, 301, 211, 212, 444, 445, 446, 27, 447, 92, 93, 448, 449, 450, 451, 871, 872, 873, 874, 875, 876, 877, 878, 879, 880, 881, 929, 930, 931, 932, 933] (by decide +kernel) (by decide +kernel)
set_option maxRecDepth 20000 in
theorem gL_law_X9_drop : GoodIn wsL_law (wsV RL 73 RX9 yX9_drop wsX9_drop) := goodIn_app (goodIn_of _ (by decide +kernel)) ggL_law_X9_drop
set_option maxRecDepth 20000 in
theorem ggL_law_X10_drop : GoodIn wsL_law wsX10_drop := goodIn_r _ [466, 134, 456, 457, 5, 458, 232, 233, 234, 882, 883, 884, 885, 886, 887, 888, 889, 890, 891, 892, 893, 894, 895, 896, 897, 898, 899, 900, 901, 902, 903, 904, 905, 906, 907, 908, 909, 910, 911, 912, 913, 914, 915, 916, 917] (by decide +kernel) (by decide +kernel)
set_option maxRecDepth 20000 in
theorem gL_law_X10_drop : GoodIn wsL_law (wsV RL 76 RX10 yX10_drop wsX10_drop) := goodIn_app (goodIn_of _ (by decide +kernel)) ggL_law_X10_drop
set_option maxRecDepth 20000 in
theorem ggL_law_X9_size : GoodIn wsL_law wsX9_size := goodIn_r _ [470, 28, 33, 371, 372, 373, 27, 374, 356, 441, 442, 2, 443, 301, 211, 212, 471, 449, 450, 451, 92, 472, 473, 474, 475, 93, 476, 477, 478, 479, 24, 480, 481, 482, 32, 483, 101, 102, 484, 95, 96, 97, 485, 486, 487, 284, 285, 286, 23, 287, 282, 332, 333, 334, 335, 84, 336, 329, 330, 331, 337, 338, 339, 340, 85, 420, 421, 422, 423, 379, 375, 376, 377, 378, 90, 488, 489, 490, 491, 20, 492, 493, 494, 495, 403, 404, 405, 19, 406, 407, 303, 304, 305, 61, 496, 497, 498, 499, 871, 872, 873, 874, 875, 876, 877, 878, 879, 880, 881, 929, 930, 931, 932, 933, 934, 935, 925, 926, 927, 928, 920, 921, 922, 923, 924] (by decide +kernel) (by decide +kernel)
set_option maxRecDepth 20000 in
theorem gL_law_X9_size : GoodIn wsL_law (wsV RL 77 RX9 yX9_size wsX9_size) := goodIn_app (goodIn_of _ (by decide +kernel)) ggL_law_X9_size
set_option maxRecDepth 20000 in
theorem ggL_law_X10_size : GoodIn wsL_law wsX10_size := goodIn_r _ [503, 142, 384, 385, 386, 5, 387, 366, 232, 233, 234, 456, 457, 458, 504, 505, 506, 507, 134, 135, 508, 509, 510, 511, 292, 130, 131, 512, 513, 514, 515, 143, 516, 517, 518, 519, 132, 412, 413, 414, 415, 313, 314, 315, 316, 127, 317, 318, 319, 320, 128, 129, 321, 322, 323, 882, 883, 884, 885, 886, 887, 888, 889, 890, 891, 892, 893, 894, 895, 896, 897, 898, 899, 900, 901, 902, 903, 904, 905, 906, 907, 908, 909, 910, 911, 912, 913, 914, 915, 916, 917] (by decide +kernel) (by decide +kernel)
set_option maxRecDepth 20000 in
theorem gL_law_X10_size : GoodIn wsL_law (wsV RL 80 RX10 yX10_size wsX10_size) := goodIn_app (goodIn_of _ (by decide +kernel)) ggL_law_X10_size
set_option maxRecDepth 20000 in
theorem ggL_law_X9_from : GoodIn wsL_law wsX9_from := goodIn_r _ [523, 28, 33, 371, 372, 373, 27, 374, 356, 441, 442, 2, 443, 301, 211, 212, 471, 449, 450, 451, 92, 472, 473, 474, 475, 93, 476, 477, 478, 479, 24, 480, 481, 482, 32, 483, 101, 102, 484, 95, 96, 97, 485, 486, 487, 284, 285, 286, 23, 287, 282, 332, 333, 334, 335, 84, 336, 329, 330, 331, 337, 338, 339, 340, 85, 420, 421, 422, 423, 379, 375, 376, 377, 378, 90, 488, 489, 490, 491, 20, 492, 493, 494, 495, 403, 404, 405, 19, 406, 407, 303, 304, 305, 61, 496, 497, 498, 499, 524, 525, 526, 527, 871, 872, 873, 874, 875, 876, 877, 878, 879, 880, 881, 929, 930, 931, 932, 933, 934, 935, 925, 926, 927, 928, 920, 921, 922, 923, 924] (by decide +kernel) (by decide +kernel)
set_option maxRecDepth 20000 in
theorem gL_law_X9_from : GoodIn wsL_law (wsV RL 81 RX9 yX9_from wsX9_from) := goodIn_app (goodIn_of _ (by decide +kernel)) ggL_law_X9_from
set_option maxRecDepth 20000 in
theorem ggL_law_X10_from : GoodIn wsL_law wsX10_from := goodIn_r _ [531, 143, 384, 385, 386, 5, 387, 366, 232, 233, 234, 456, 457, 458, 504, 505, 506, 507, 134, 135, 508, 509, 510, 511, 292, 130, 131, 512, 513, 514, 515, 142, 516, 517, 518, 519, 132, 412, 413, 414, 415, 313, 314, 315, 316, 127, 317, 318, 319, 320, 128, 129, 321, 322, 323, 882, 883, 884, 885, 886, 887, 888, 889, 890, 891, 892, 893, 894, 895, 896, 897, 898, 899, 900, 901, 902, 903, 904, 905, 906, 907, 908, 909, 910, 911, 912, 913, 914, 915, 916, 917] (by decide +kernel) (by decide +kernel)
set_option maxRecDepth 20000 in
theorem gL_law_X10_from : GoodIn wsL_law (wsV RL 84 RX10 yX10_from wsX10_from) := goodIn_app (goodIn_of _ (by decide +kernel)) ggL_law_X10_from
set_option maxRecDepth 20000 in
theorem ggL_law_X9_firsts : GoodIn wsL_law wsX9_firsts := goodIn_r _ [535, 28, 441, 442, 2, 443, 301, 211, 212, 371, 372, 373, 27, 374, 356, 298, 299, 300, 471, 449, 450, 451, 92, 536, 537, 538, 539, 33, 476, 477, 478, 479, 24, 480, 481, 482, 32, 483, 101, 102, 484, 95, 96, 97, 485, 486, 487, 284, 285, 286, 23, 287, 282, 332, 333, 334, 335, 84, 336, 329, 330, 331, 337, 338, 339, 340, 85, 420, 421, 422, 423, 379, 375, 376, 377, 378, 90, 488, 489, 490, 491, 20, 492, 493, 494, 495, 403, 404, 405, 19, 406, 407, 303, 304, 305, 61, 496, 497, 498, 499, 871, 872, 873, 874, 875, 876, 877, 878, 879, 880, 881, 929, 930, 931, 932, 933, 934, 935, 925, 926, 927, 928, 920, 921, 922, 923, 924] (by decide +kernel) (by decide +kernel)
set_option maxRecDepth 20000 in
theorem gL_law_X9_firsts : GoodIn wsL_law (wsV RL 85 RX9 yX9_firsts wsX9_firsts) := goodIn_app (goodIn_of _ (by decide +kernel)) ggL_law_X9_firsts
set_option maxRecDepth 20000 in
theorem ggL_law_X10_firsts : GoodIn wsL_law wsX10_firsts := goodIn_r _ [543, 134, 142, 456, 457, 5, 458, 232, 233, 234, 384, 385, 386, 387, 366, 310, 311, 312, 508, 509, 510, 511, 292, 130, 131, 512, 513, 514, 515, 143, 516, 517, 518, 519, 132, 412, 413, 414, 415, 313, 314, 315, 316, 127, 317, 318, 319, 320, 128, 129, 321, 322, 323, 882, 883, 884, 885, 886, 887, 888, 889, 890, 891, 892, 893, 894, 895, 896, 897, 898, 899, 900, 901, 902, 903, 904, 905, 906, 907, 908, 909, 910, 911, 912, 913, 914, 915, 916, 917] (by decide +kernel) (by decide +kernel)
set_option maxRecDepth 20000 in
theorem gL_law_X10_firsts : GoodIn wsL_law (wsV RL 89 RX10 yX10_firsts wsX10_firsts) := goodIn_app (goodIn_of _ (by decide +kernel)) ggL_law_X10_firsts
set_option maxRecDepth 20000 in
theorem ggL_law_X9_modest : GoodIn wsL_law wsX9_modest := goodIn_r _ [547, 28, 33, 441, 442, 2, 443, 301, 211, 212, 371, 372, 373, 27, 374, 356, 298, 299, 300, 471, 449, 450, 451, 92, 548, 549, 550, 551, 375, 376, 377, 378, 90, 379, 392, 393, 394, 472, 473, 474, 475, 93, 476, 477, 478, 479, 24, 480, 481, 482, 32, 483, 101, 102, 484, 95, 96, 97, 485, 486, 487, 284, 285, 286, 23, 287, 282, 332, 333, 334, 335, 84, 336, 329, 330, 331, 337, 338, 339, 340, 85, 420, 421, 422, 423, 488, 489, 490, 491, 20, 492, 493, 494, 495, 403, 404, 405, 19, 406, 407, 303, 304, 305, 61, 496, 497, 498, 499, 871, 872, 873, 874, 875, 876, 877, 878, 879, 880, 881, 929, 930, 931, 932, 933, 934, 935, 925, 926, 927, 928, 920, 921, 922, 923, 924] (by decide +kernel) (by decide +kernel)
set_option maxRecDepth 20000 in
theorem gL_law_X9_modest : GoodIn wsL_law (wsV RL 90 RX9 yX9_modest wsX9_modest) := goodIn_app (goodIn_of _ (by decide +kernel)) ggL_law_X9_modest
set_option maxRecDepth 20000 in
theorem ggL_law_X10_modest : GoodIn wsL_law wsX10_modest := goodIn_r _ [555, 134, 366, 132, 142, 456, 457, 5, 458, 232, 233, 234, 384, 385, 386, 387, 310, 311, 312, 504, 505, 506, 507, 135, 508, 509, 510, 511, 292, 130, 131, 512, 513, 514, 515, 143, 516, 517, 518, 519, 412, 413, 414, 415, 313, 314, 315, 316, 127, 317, 318, 319, 320, 128, 129, 321, 322, 323, 882, 883, 884, 885, 886, 887, 888, 889, 890, 891, 892, 893, 894, 895, 896, 897, 898, 899, 900, 901, 902, 903, 904, 905, 906, 907, 908, 909, 910, 911, 912, 913, 914, 915, 916, 917] (by decide +kernel) (by decide +kernel)
set_option maxRecDepth 20000 in
theorem gL_law_X10_modest : GoodIn wsL_law (wsV RL 93 RX10 yX10_modest wsX10_modest) := goodIn_app (goodIn_of _ (by decide +kernel)) ggL_law_X10_modest
set_option maxRecDepth 20000 in
theorem ggL_law_X9_one : GoodIn wsL_law wsX9_one := goodIn_r _ [559, 28, 560, 79, 73, 80, 561, 72, 74, 420, 421, 422, 27, 423, 379, 372, 373, 374, 356, 298, 299, 2, 300, 301, 211, 212, 548, 549, 550, 551, 536, 537, 538, 539, 33, 476, 477, 478, 479, 24, 480, 481, 482, 32, 483, 101, 102, 484, 95, 96, 97, 485, 486, 487, 284, 285, 286, 23, 287, 282, 332, 333, 334, 335, 84, 336, 329, 330, 331, 337, 338, 339, 340, 85, 375, 376, 377, 378, 90, 488, 489, 490, 491, 20, 492, 493, 494, 495, 403, 404, 405, 19, 406, 407, 303, 304, 305, 61, 496, 497, 498, 499, 871, 872, 873, 874, 875, 876, 877, 878, 879, 880, 881, 929, 930, 931, 932, 933, 934, 935, 925, 926, 927, 928, 920, 921, 922, 923, 924] (by decide +kernel) (by decide +kernel)
set_option maxRecDepth 20000 in
theorem gL_law_X9_one : GoodIn wsL_law (wsV RL 94 RX9 yX9_one wsX9_one) := goodIn_app (goodIn_of _ (by decide +kernel)) ggL_law_X9_one
set_option maxRecDepth 20000 in
theorem ggL_law_X10_one : GoodIn wsL_law wsX10_one := goodIn_r _ [565, 384, 385, 386, 5, 387, 366, 232, 233, 234, 310, 311, 312, 566, 567, 568, 569, 142, 508, 509, 510, 511, 292, 130, 131, 512, 513, 514, 515, 143, 516, 517, 518, 519, 132, 412, 413, 414, 415, 313, 314, 315, 316, 127, 317, 318, 319, 320, 128, 129, 321, 322, 323, 882, 883, 884, 885, 886, 887, 888, 889, 890, 891, 892, 893, 894, 895, 896, 897, 898, 899, 900, 901, 902, 903, 904, 905, 906, 907, 908, 909, 910, 911, 912, 913, 914, 915, 916, 917] (by decide +kernel) (by decide +kernel)
set_option maxRecDepth 20000 in
theorem gL_law_X10_one : GoodIn wsL_law (wsV RL 97 RX10 yX10_one wsX10_one) := goodIn_app (goodIn_of _ (by decide +kernel)) ggL_law_X10_one
set_option maxRecDepth 20000 in
theorem ggL_law_X9_ask : GoodIn wsL_law wsX9_ask := goodIn_r _ [573, 28, 37, 371, 372, 373, 27, 374, 356, 574, 575, 576, 2, 577, 33, 578, 579, 580, 36, 581, 106, 107, 108, 582, 95, 96, 97, 476, 477, 478, 479, 24, 480, 481, 482, 32, 483, 101, 102, 484, 485, 486, 487, 284, 285, 286, 23, 287, 282, 332, 333, 334, 335, 84, 336, 329, 330, 331, 337, 338, 339, 340, 85, 420, 421, 422, 423, 379, 375, 376, 377, 378, 90, 488, 489, 490, 491, 20, 492, 493, 494, 495, 403, 404, 405, 19, 406, 407, 303, 304, 305, 61, 496, 497, 498, 499, 548, 549, 550, 551, 583, 584, 585, 586, 587, 79, 73, 80, 588, 589, 590, 591, 871, 872, 873, 874, 875, 876, 877, 878, 879, 880, 881, 929, 930, 931, 932, 933, 936, 937, 938, 934, 935, 925, 926, 927, 928, 920, 921, 922, 923, 924] (by decide +kernel) (by decide +kernel)
set_option maxRecDepth 20000 in
theorem gL_law_X9_ask : GoodIn wsL_law (wsV RL 98 RX9 yX9_ask wsX9_ask) := goodIn_app (goodIn_of _ (by decide +kernel)) ggL_law_X9_ask
set_option maxRecDepth 20000 in
theorem ggL_law_X10_ask : GoodIn wsL_law wsX10_ask := goodIn_r _ [595, 384, 385, 386, 5, 387, 366, 232, 233, 234, 596, 597, 598, 599, 600, 601, 602, 603, 144, 142, 508, 509, 510, 511, 292, 130, 131, 512, 513, 514, 515, 143, 516, 517, 518, 519, 132, 412, 413, 414, 415, 313, 314, 315, 316, 127, 317, 318, 319, 320, 128, 129, 321, 322, 323, 882, 883, 884, 885, 886, 887, 888, 889, 890, 891, 892, 893, 894, 895, 896, 897, 898, 899, 900, 901, 902, 903, 904, 905, 906, 907, 908, 909, 910, 911, 912, 913, 914, 915, 916, 917] (by decide +kernel) (by decide +kernel)
set_option maxRecDepth 20000 in
theorem gL_law_X10_ask : GoodIn wsL_law (wsV RL 101 RX10 yX10_ask wsX10_ask) := goodIn_app (goodIn_of _ (by decide +kernel)) ggL_law_X10_ask
set_option maxRecDepth 20000 in
theorem ggL_law_X9_chain : GoodIn wsL_law wsX9_chain := goodIn_r _ [607, 28, 41, 20, 371, 372, 373, 27, 374, 356, 298, 299, 2, 300, 301, 211, 212, 608, 609, 610, 40, 611, 612, 613, 614, 615, 616, 617, 618, 619, 620, 621, 622, 113, 623, 624, 96, 625, 626, 627, 628, 629, 114, 115, 630, 631, 632, 633, 634, 635, 636, 637, 638, 376, 377, 378, 90, 379, 639, 404, 405, 19, 406, 407, 303, 304, 305, 61, 640, 641, 642, 643, 91, 644, 549, 550, 551, 645, 646, 647, 648, 649, 650, 651, 652, 653, 871, 872, 873, 874, 875, 876, 877, 878, 879, 880, 881, 929, 930, 931, 932, 933, 939, 940, 941, 942, 943, 944, 920, 921, 922, 923, 924] (by decide +kernel) (by decide +kernel)
set_option maxRecDepth 20000 in
theorem gL_law_X9_chain : GoodIn wsL_law (wsV RL 102 RX9 yX9_chain wsX9_chain) := goodIn_app (goodIn_of _ (by decide +kernel)) ggL_law_X9_chain
set_option maxRecDepth 20000 in
theorem ggL_law_X10_chain : GoodIn wsL_law wsX10_chain := goodIn_r _ [657, 658, 384, 385, 386, 5, 387, 366, 232, 233, 234, 310, 311, 312, 659, 660, 661, 662, 145, 146, 663, 147, 664, 665, 666, 667, 668, 669, 670, 671, 132, 133, 412, 413, 414, 415, 313, 314, 315, 316, 127, 317, 318, 319, 320, 128, 129, 321, 322, 323, 672, 673, 674, 882, 883, 884, 885, 886, 887, 888, 889, 890, 891, 892, 893, 894, 895, 896, 897, 898, 899, 900, 901, 902, 903, 904, 905, 906, 907, 908, 909, 910, 911, 912, 913, 914, 915, 916, 917] (by decide +kernel) (by decide +kernel)
set_option maxRecDepth 20000 in
theorem gL_law_X10_chain : GoodIn wsL_law (wsV RL 106 RX10 yX10_chain wsX10_chain) := goodIn_app (goodIn_of _ (by decide +kernel)) ggL_law_X10_chain
set_option maxRecDepth 20000 in
theorem ggL_law_X9_chance : GoodIn wsL_law wsX9_chance := goodIn_r _ [678, 679, 45, 20, 301, 211, 2, 212, 298, 299, 300, 680, 681, 682, 44, 683, 684, 72, 73, 74, 685, 119, 686, 624, 96, 625, 687, 688, 689, 690, 691, 303, 304, 19, 305, 61, 692, 693, 694, 695, 696, 697, 698, 699, 871, 872, 873, 874, 875, 876, 877, 878, 879, 880, 881, 945, 946, 920, 921, 922, 923, 924] (by decide +kernel) (by decide +kernel)
set_option maxRecDepth 20000 in
theorem gL_law_X9_chance : GoodIn wsL_law (wsV RL 107 RX9 yX9_chance wsX9_chance) := goodIn_app (goodIn_of _ (by decide +kernel)) ggL_law_X9_chance
set_option maxRecDepth 20000 in
theorem ggL_law_X10_chance : GoodIn wsL_law wsX10_chance := goodIn_r _ [703, 704, 232, 233, 5, 234, 310, 311, 312, 705, 706, 707, 708, 709, 710, 711, 313, 314, 315, 316, 127, 317, 318, 319, 320, 128, 129, 321, 322, 323, 712, 713, 714, 882, 883, 884, 885, 886, 887, 888, 889, 890, 891, 892, 893, 894, 895, 896, 897, 898, 899, 900, 901, 902, 903, 904, 905, 906, 907, 908, 909, 910, 911, 912, 913, 914, 915, 916, 917] (by decide +kernel) (by decide +kernel)
set_option maxRecDepth 20000 in
theorem gL_law_X10_chance : GoodIn wsL_law (wsV RL 111 RX10 yX10_chance wsX10_chance) := goodIn_app (goodIn_of _ (by decide +kernel)) ggL_law_X10_chance
set_option maxRecDepth 20000 in
theorem ggL_law_X9_likeliest : GoodIn wsL_law wsX9_likeliest := goodIn_r _ [718, 45, 20, 301, 211, 2, 212, 298, 299, 300, 680, 681, 682, 44, 683, 684, 72, 73, 74, 685, 119, 686, 624, 96, 625, 687, 688, 689, 690, 691, 303, 304, 19, 305, 61, 871, 872, 873, 874, 875, 876, 877, 878, 879, 880, 881, 945, 946, 920, 921, 922, 923, 924] (by decide +kernel) (by decide +kernel)
set_option maxRecDepth 20000 in
theorem gL_law_X9_likeliest : GoodIn wsL_law (wsV RL 112 RX9 yX9_likeliest wsX9_likeliest) := goodIn_app (goodIn_of _ (by decide +kernel)) ggL_law_X9_likeliest
set_option maxRecDepth 20000 in
theorem ggL_law_X10_likeliest : GoodIn wsL_law wsX10_likeliest := goodIn_r _ [722, 232, 233, 5, 234, 310, 311, 312, 723, 724, 725, 726, 705, 706, 707, 708, 709, 710, 711, 313, 314, 315, 316, 127, 317, 318, 319, 320, 128, 129, 321, 322, 323, 882, 883, 884, 885, 886, 887, 888, 889, 890, 891, 892, 893, 894, 895, 896, 897, 898, 899, 900, 901, 902, 903, 904, 905, 906, 907, 908, 909, 910, 911, 912, 913, 914, 915, 916, 917] (by decide +kernel) (by decide +kernel)
set_option maxRecDepth 20000 in
theorem gL_law_X10_likeliest : GoodIn wsL_law (wsV RL 115 RX10 yX10_likeliest wsX10_likeliest) := goodIn_app (goodIn_of _ (by decide +kernel)) ggL_law_X10_likeliest
set_option maxRecDepth 20000 in
theorem ggL_law_X9_gossip : GoodIn wsL_law wsX9_gossip := goodIn_r _ [730, 28, 33, 49, 301, 211, 2, 212, 548, 549, 550, 27, 551, 356, 731, 732, 733, 734, 471, 449, 450, 451, 92, 442, 443, 472, 473, 474, 475, 93, 480, 481, 482, 32, 483, 101, 102, 484, 95, 96, 97, 485, 486, 487, 735, 736, 737, 48, 738, 739, 740, 741, 742, 743, 744, 745, 746, 747, 375, 376, 377, 378, 90, 379, 372, 373, 374, 488, 489, 490, 491, 20, 492, 493, 494, 495, 403, 404, 405, 19, 406, 407, 303, 304, 305, 61, 496, 497, 498, 499, 748, 749, 750, 751, 752, 753, 754, 755, 756, 79, 73, 80, 757, 758, 759, 760, 871, 872, 873, 874, 875, 876, 877, 878, 879, 880, 881, 929, 930, 931, 932, 933, 934, 935, 947, 920, 921, 922, 923, 924] (by decide +kernel) (by decide +kernel)
set_option maxRecDepth 20000 in
theorem gL_law_X9_gossip : GoodIn wsL_law (wsV RL 116 RX9 yX9_gossip wsX9_gossip) := goodIn_app (goodIn_of _ (by decide +kernel)) ggL_law_X9_gossip
set_option maxRecDepth 20000 in
theorem ggL_law_X10_gossip : GoodIn wsL_law wsX10_gossip := goodIn_r _ [764, 366, 232, 233, 5, 234, 765, 766, 767, 768, 769, 134, 135, 142, 512, 513, 514, 515, 143, 770, 771, 772, 773, 774, 775, 776, 777, 516, 517, 518, 519, 132, 384, 385, 386, 387, 412, 413, 414, 415, 313, 314, 315, 316, 127, 317, 318, 319, 320, 128, 129, 321, 322, 323, 882, 883, 884, 885, 886, 887, 888, 889, 890, 891, 892, 893, 894, 895, 896, 897, 898, 899, 900, 901, 902, 903, 904, 905, 906, 907, 908, 909, 910, 911, 912, 913, 914, 915, 916, 917] (by decide +kernel) (by decide +kernel)
set_option maxRecDepth 20000 in
theorem gL_law_X10_gossip : GoodIn wsL_law (wsV RL 119 RX10 yX10_gossip wsX10_gossip) := goodIn_app (goodIn_of _ (by decide +kernel)) ggL_law_X10_gossip
set_option maxRecDepth 20000 in
theorem ggL_law_X9_image : GoodIn wsL_law wsX9_image := goodIn_r _ [781, 29, 28, 782, 783, 784, 785, 27, 786, 90, 787, 788, 789, 790, 91, 92, 93, 356, 548, 549, 550, 551, 871, 872, 873, 874, 875, 876, 877, 878, 879, 880, 881, 929, 930, 931, 932, 933] (by decide +kernel) (by decide +kernel)
set_option maxRecDepth 20000 in
theorem gL_law_X9_image : GoodIn wsL_law (wsV RL 120 RX9 yX9_image wsX9_image) := goodIn_app (goodIn_of _ (by decide +kernel)) ggL_law_X9_image
set_option maxRecDepth 20000 in
theorem ggL_law_X10_image : GoodIn wsL_law wsX10_image := goodIn_r _ [794, 795, 366, 796, 148, 133, 149, 134, 150, 135, 882, 883, 884, 885, 886, 887, 888, 889, 890, 891, 892, 893, 894, 895, 896, 897, 898, 899, 900, 901, 902, 903, 904, 905, 906, 907, 908, 909, 910, 911, 912, 913, 914, 915, 916, 917] (by decide +kernel) (by decide +kernel)
set_option maxRecDepth 20000 in
theorem gL_law_X10_image : GoodIn wsL_law (wsV RL 123 RX10 yX10_image wsX10_image) := goodIn_app (goodIn_of _ (by decide +kernel)) ggL_law_X10_image
set_option maxRecDepth 20000 in
theorem ggL_law_X9_restore : GoodIn wsL_law wsX9_restore := goodIn_r _ [800, 782, 28, 29, 783, 784, 785, 27, 786, 90, 787, 788, 789, 790, 91, 92, 93, 356, 548, 549, 550, 551, 871, 872, 873, 874, 875, 876, 877, 878, 879, 880, 881, 929, 930, 931, 932, 933] (by decide +kernel) (by decide +kernel)
set_option maxRecDepth 20000 in
theorem gL_law_X9_restore : GoodIn wsL_law (wsV RL 124 RX9 yX9_restore wsX9_restore) := goodIn_app (goodIn_of _ (by decide +kernel)) ggL_law_X9_restore
set_option maxRecDepth 20000 in
theorem ggL_law_X10_restore : GoodIn wsL_law wsX10_restore := goodIn_r _ [804, 795, 796, 366, 133, 148, 134, 149, 135, 150, 882, 883, 884, 885, 886, 887, 888, 889, 890, 891, 892, 893, 894, 895, 896, 897, 898, 899, 900, 901, 902, 903, 904, 905, 906, 907, 908, 909, 910, 911, 912, 913, 914, 915, 916, 917] (by decide +kernel) (by decide +kernel)
set_option maxRecDepth 20000 in
theorem gL_law_X10_restore : GoodIn wsL_law (wsV RL 127 RX10 yX10_restore wsX10_restore) := goodIn_app (goodIn_of _ (by decide +kernel)) ggL_law_X10_restore
set_option maxRecDepth 20000 in
theorem ggL_law_X9_count : GoodIn wsL_law wsX9_count := goodIn_r _ [808, 28, 20, 24, 16, 41, 548, 549, 550, 27, 551, 356, 261, 262, 263, 19, 264, 66, 284, 285, 286, 23, 287, 282, 809, 810, 811, 812, 92, 171, 172, 173, 15, 174, 166, 813, 814, 815, 816, 260, 817, 818, 819, 820, 283, 608, 609, 610, 40, 611, 612, 871, 872, 873, 874, 875, 876, 877, 878, 879, 880, 881, 929, 930, 931, 932, 933, 920, 921, 922, 923, 924, 925, 926, 927, 928, 918, 919, 939, 940, 941, 942, 943, 944] (by decide +kernel) (by decide +kernel)
set_option maxRecDepth 20000 in
theorem gL_law_X9_count : GoodIn wsL_law (wsV RL 128 RX9 yX9_count wsX9_count) := goodIn_app (goodIn_of _ (by decide +kernel)) ggL_law_X9_count
set_option maxRecDepth 20000 in
theorem ggL_law_X10_count : GoodIn wsL_law wsX10_count := goodIn_r _ [824, 825, 826, 827, 5, 828, 366, 127, 292, 180, 269, 293, 658, 829, 830, 831, 832, 134, 882, 883, 884, 885, 886, 887, 888, 889, 890, 891, 892, 893, 894, 895, 896, 897, 898, 899, 900, 901, 902, 903, 904, 905, 906, 907, 908, 909, 910, 911, 912, 913, 914, 915, 916, 917] (by decide +kernel) (by decide +kernel)
set_option maxRecDepth 20000 in
theorem gL_law_X10_count : GoodIn wsL_law (wsV RL 131 RX10 yX10_count wsX10_count) := goodIn_app (goodIn_of _ (by decide +kernel)) ggL_law_X10_count
set_option maxRecDepth 20000 in
theorem ggL_law_X9_digest : GoodIn wsL_law wsX9_digest := goodIn_r _ [836, 837, 24, 28, 16, 838, 295, 296, 2, 297, 20, 298, 299, 300, 301, 211, 212, 302, 303, 304, 19, 305, 61, 839, 840, 841, 842, 284, 285, 286, 23, 287, 282, 332, 333, 334, 335, 84, 336, 329, 330, 331, 337, 338, 339, 340, 85, 843, 844, 845, 846, 548, 549, 550, 27, 551, 356, 847, 368, 369, 370, 371, 372, 373, 374, 375, 376, 377, 378, 90, 379, 848, 400, 401, 402, 403, 404, 405, 406, 407, 849, 468, 469, 470, 33, 441, 442, 443, 471, 449, 450, 451, 92, 472, 473, 474, 475, 93, 476, 477, 478, 479, 480, 481, 482, 32, 483, 101, 102, 484, 95, 96, 97, 485, 486, 487, 420, 421, 422, 423, 488, 489, 490, 491, 492, 493, 494, 495, 496, 497, 498, 499, 850, 521, 522, 523, 524, 525, 526, 527, 851, 557, 558, 559, 560, 79, 73, 80, 561, 72, 74, 536, 537, 538, 539, 852, 571, 572, 573, 37, 574, 575, 576, 577, 578, 579, 580, 36, 581, 106, 107, 108, 582, 583, 584, 585, 586, 587, 588, 589, 590, 591, 853, 716, 717, 718, 45, 680, 681, 682, 44, 683, 684, 685, 119, 686, 624, 625, 687, 688, 689, 690, 691, 171, 172, 173, 15, 174, 166, 854, 202, 203, 204, 54, 855, 806, 807, 808, 41, 261, 262, 263, 264, 66, 809, 810, 811, 812, 813, 814, 815, 816, 260, 817, 818, 819, 820, 283, 608, 609, 610, 40, 611, 612, 871, 872, 873, 874, 875, 876, 877, 878, 879, 880, 881, 920, 921, 922, 923, 924, 925, 926, 927, 928, 929, 930, 931, 932, 933, 934, 935, 936, 937, 938, 945, 946, 918, 919, 939, 940, 941, 942, 943, 944] (by decide +kernel) (by decide +kernel)
set_option maxRecDepth 20000 in
theorem gL_law_X9_digest : GoodIn wsL_law (wsV RL 132 RX9 yX9_digest wsX9_digest) := goodIn_app (goodIn_of _ (by decide +kernel)) ggL_law_X9_digest
set_option maxRecDepth 20000 in
theorem ggL_law_X10_digest : GoodIn wsL_law wsX10_digest := goodIn_r _ [859, 860, 861, 292, 130, 131, 366, 180, 137, 313, 314, 315, 5, 316, 127, 317, 318, 319, 320, 128, 129, 321, 322, 323, 862, 863, 864, 865, 866, 867, 868, 869, 870, 132, 142, 143, 412, 413, 414, 415, 504, 505, 506, 507, 134, 135, 508, 509, 510, 511, 512, 513, 514, 515, 516, 517, 518, 519, 384, 385, 386, 387, 232, 233, 234, 566, 567, 568, 569, 596, 597, 598, 599, 600, 601, 602, 603, 144, 723, 724, 725, 726, 705, 706, 707, 708, 709, 710, 711, 825, 826, 827, 828, 269, 293, 658, 829, 830, 831, 832, 882, 883, 884, 885, 886, 887, 888, 889, 890, 891, 892, 893, 894, 895, 896, 897, 898, 899, 900, 901, 902, 903, 904, 905, 906, 907, 908, 909, 910, 911, 912, 913, 914, 915, 916, 917] (by decide +kernel) (by decide +kernel)
set_option maxRecDepth 20000 in
theorem gL_law_X10_digest : GoodIn wsL_law (wsV RL 136 RX10 yX10_digest wsX10_digest) := goodIn_app (goodIn_of _ (by decide +kernel)) ggL_law_X10_digest

