set_option maxRecDepth 20000 in
theorem gX9_chance_X5_allWays : GoodIn wsX9_chance (wsV RX9 239 RX5 yX5_allWays wsX5_allWays) := goodIn_app (goodIn_of _ (by decide +kernel)) ggX9_chance_X5_allWays
set_option maxRecDepth 20000 in
theorem ggX9_chance_X9_greatestDivisor : GoodIn wsX9_chance wsX9_greatestDivisor := goodIn_r _ [43] (by decide +kernel) (by decide +kernel)
set_option maxRecDepth 20000 in
theorem gX9_chance_X9_greatestDivisor : GoodIn wsX9_chance (va_wsS RX9 243 yX9_greatestDivisor wsX9_greatestDivisor) := goodIn_app (goodIn_of _ (by decide +kernel)) ggX9_chance_X9_greatestDivisor
set_option maxRecDepth 20000 in
theorem ggX9_likeliest_X9_isWithin : GoodIn wsX9_likeliest wsX9_isWithin := goodIn_r _ [6] (by decide +kernel) (by decide +kernel)
set_option maxRecDepth 20000 in
theorem gX9_likeliest_X9_isWithin : GoodIn wsX9_likeliest (va_wsS RX9 127 yX9_isWithin wsX9_isWithin) := goodIn_app (goodIn_of _ (by decide +kernel)) ggX9_likeliest_X9_isWithin
set_option maxRecDepth 20000 in
theorem ggX9_likeliest_X9_isSize : GoodIn wsX9_likeliest wsX9_isSize := goodIn_r _ [9, 3, 4, 5, 6] (by decide +kernel) (by decide +kernel)
set_option maxRecDepth 20000 in
theorem gX9_likeliest_X9_isSize : GoodIn wsX9_likeliest (va_wsS RX9 117 yX9_isSize wsX9_isSize) := goodIn_app (goodIn_of _ (by decide +kernel)) ggX9_likeliest_X9_isSize
set_option maxRecDepth 20000 in
theorem ggX9_likeliest_X5_weigh : GoodIn wsX9_likeliest wsX5_weigh := goodIn_r _ [14, 15, 16, 17, 18, 19, 20, 21, 22, 23, 24, 46, 47] (by decide +kernel) (by decide +kernel)
set_option maxRecDepth 20000 in
theorem gX9_likeliest_X5_weigh : GoodIn wsX9_likeliest (wsV RX9 231 RX5 yX5_weigh wsX5_weigh) := goodIn_app (goodIn_of _ (by decide +kernel)) ggX9_likeliest_X5_weigh
set_option maxRecDepth 20000 in
theorem ggX9_likeliest_X5_waysFrom : GoodIn wsX9_likeliest wsX5_waysFrom := goodIn_r _ [28, 19, 20, 29, 30, 31, 32, 33, 34, 46, 47, 48, 49, 50, 51, 52] (by decide +kernel) (by decide +kernel)
set_option maxRecDepth 20000 in
theorem gX9_likeliest_X5_waysFrom : GoodIn wsX9_likeliest (wsV RX9 235 RX5 yX5_waysFrom wsX5_waysFrom) := goodIn_app (goodIn_of _ (by decide +kernel)) ggX9_likeliest_X5_waysFrom
set_option maxRecDepth 20000 in
theorem ggX9_gossip_X9_isWithin : GoodIn wsX9_gossip wsX9_isWithin := goodIn_r _ [7] (by decide +kernel) (by decide +kernel)
set_option maxRecDepth 20000 in
theorem gX9_gossip_X9_isWithin : GoodIn wsX9_gossip (va_wsS RX9 127 yX9_isWithin wsX9_isWithin) := goodIn_app (goodIn_of _ (by decide +kernel)) ggX9_gossip_X9_isWithin
set_option maxRecDepth 20000 in
theorem ggX9_gossip_X3_people : GoodIn wsX9_gossip wsX3_people := goodIn_r _ [12, 13, 117, 118, 119, 120, 121] (by decide +kernel) (by decide +kernel)
set_option maxRecDepth 20000 in
theorem gX9_gossip_X3_people : GoodIn wsX9_gossip (wsV RX9 195 RX3 yX3_people wsX3_people) := goodIn_app (goodIn_of _ (by decide +kernel)) ggX9_gossip_X3_people
set_option maxRecDepth 20000 in
theorem ggX9_gossip_X9_gossipTaleZero : GoodIn wsX9_gossip wsX9_gossipTaleZero := goodIn_r _ [17, 2, 1, 3, 18, 19, 20, 11, 21, 22, 23, 6, 24, 4, 5, 7, 25, 26, 27, 28, 29, 30, 31, 32, 33, 34, 35, 36, 37, 38, 39, 40, 41, 42, 43, 44, 45, 46, 47, 48, 49, 8, 9, 10, 12, 13, 50, 51, 52, 53, 54, 55, 56, 57, 58, 59, 60, 61, 62, 63, 64, 65, 66, 67, 68, 69, 70, 71, 72, 73, 74, 75, 76, 77, 78, 79, 80, 81, 82, 83, 84, 85, 86, 87, 88, 89, 106, 107, 108, 109, 110, 111, 112, 113, 114, 115, 116, 117, 118, 119, 120, 121, 122, 123, 124, 125, 126, 127, 128, 129] (by decide +kernel) (by decide +kernel)
set_option maxRecDepth 20000 in
theorem gX9_gossip_X9_gossipTaleZero : GoodIn wsX9_gossip (wsV RX9 247 RX9 yX9_gossipTaleZero wsX9_gossipTaleZero) := goodIn_app (goodIn_of _ (by decide +kernel)) ggX9_gossip_X9_gossipTaleZero
set_option maxRecDepth 20000 in
theorem ggX9_gossip_X7_howManyHaveIt : GoodIn wsX9_gossip wsX7_howManyHaveIt := goodIn_r _ [93, 35, 122, 123] (by decide +kernel) (by decide +kernel)
set_option maxRecDepth 20000 in
theorem gX9_gossip_X7_howManyHaveIt : GoodIn wsX9_gossip (wsV RX9 250 RX7 yX7_howManyHaveIt wsX7_howManyHaveIt) := goodIn_app (goodIn_of _ (by decide +kernel)) ggX9_gossip_X7_howManyHaveIt
set_option maxRecDepth 20000 in
theorem ggX9_gossip_X7_biggest : GoodIn wsX9_gossip wsX7_biggest := goodIn_r _ [97, 35, 98, 99, 100, 101, 122, 123] (by decide +kernel) (by decide +kernel)
set_option maxRecDepth 20000 in
theorem gX9_gossip_X7_biggest : GoodIn wsX9_gossip (wsV RX9 253 RX7 yX7_biggest wsX7_biggest) := goodIn_app (goodIn_of _ (by decide +kernel)) ggX9_gossip_X7_biggest
set_option maxRecDepth 20000 in
theorem ggX9_gossip_X2_seed : GoodIn wsX9_gossip wsX2_seed := goodIn_r _ [105, 49, 124] (by decide +kernel) (by decide +kernel)
set_option maxRecDepth 20000 in
theorem gX9_gossip_X2_seed : GoodIn wsX9_gossip (wsV RX9 256 RX2 yX2_seed wsX2_seed) := goodIn_app (goodIn_of _ (by decide +kernel)) ggX9_gossip_X2_seed
set_option maxRecDepth 20000 in
theorem ggX9_image_X3_takeAll : GoodIn wsX9_image wsX3_takeAll := goodIn_r _ [8, 9, 10, 11, 12, 13, 14, 15, 16, 17, 33, 34, 35, 36, 37] (by decide +kernel) (by decide +kernel)
set_option maxRecDepth 20000 in
theorem gX9_image_X3_takeAll : GoodIn wsX9_image (wsV RX9 259 RX3 yX3_takeAll wsX3_takeAll) := goodIn_app (goodIn_of _ (by decide +kernel)) ggX9_image_X3_takeAll
set_option maxRecDepth 20000 in
theorem ggX9_image_X3_people : GoodIn wsX9_image wsX3_people := goodIn_r _ [21, 17, 33, 34, 35, 36, 37] (by decide +kernel) (by decide +kernel)
set_option maxRecDepth 20000 in
theorem gX9_image_X3_people : GoodIn wsX9_image (wsV RX9 195 RX3 yX3_people wsX3_people) := goodIn_app (goodIn_of _ (by decide +kernel)) ggX9_image_X3_people
set_option maxRecDepth 20000 in
theorem ggX9_restore_X3_takeAll : GoodIn wsX9_restore wsX3_takeAll := goodIn_r _ [8, 9, 10, 11, 12, 13, 14, 15, 16, 17, 33, 34, 35, 36, 37] (by decide +kernel) (by decide +kernel)
set_option maxRecDepth 20000 in
theorem gX9_restore_X3_takeAll : GoodIn wsX9_restore (wsV RX9 259 RX3 yX3_takeAll wsX3_takeAll) := goodIn_app (goodIn_of _ (by decide +kernel)) ggX9_restore_X3_takeAll
set_option maxRecDepth 20000 in
theorem ggX9_restore_X3_people : GoodIn wsX9_restore wsX3_people := goodIn_r _ [21, 17, 33, 34, 35, 36, 37] (by decide +kernel) (by decide +kernel)
set_option maxRecDepth 20000 in
theorem gX9_restore_X3_people : GoodIn wsX9_restore (wsV RX9 195 RX3 yX3_people wsX3_people) := goodIn_app (goodIn_of _ (by decide +kernel)) ggX9_restore_X3_people
set_option maxRecDepth 20000 in
theorem ggX9_count_X3_people : GoodIn wsX9_count wsX3_people := goodIn_r _ [10, 11, 62, 63, 64, 65, 66] (by decide +kernel) (by decide +kernel)
set_option maxRecDepth 20000 in
theorem gX9_count_X3_people : GoodIn wsX9_count (wsV RX9 195 RX3 yX3_people wsX3_people) := goodIn_app (goodIn_of _ (by decide +kernel)) ggX9_count_X3_people
set_option maxRecDepth 20000 in
theorem ggX9_count_X4_steps : GoodIn wsX9_count wsX4_steps := goodIn_r _ [16, 17, 67, 68, 69, 70, 71] (by decide +kernel) (by decide +kernel)
set_option maxRecDepth 20000 in
theorem gX9_count_X4_steps : GoodIn wsX9_count (wsV RX9 107 RX4 yX4_steps wsX4_steps) := goodIn_app (goodIn_of _ (by decide +kernel)) ggX9_count_X4_steps
set_option maxRecDepth 20000 in
theorem ggX9_count_X8_tellings : GoodIn wsX9_count wsX8_tellings := goodIn_r _ [22, 23, 72, 73, 74, 75] (by decide +kernel) (by decide +kernel)
set_option maxRecDepth 20000 in
theorem gX9_count_X8_tellings : GoodIn wsX9_count (wsV RX9 114 RX8 yX8_tellings wsX8_tellings) := goodIn_app (goodIn_of _ (by decide +kernel)) ggX9_count_X8_tellings
set_option maxRecDepth 20000 in
theorem ggX9_count_X3_talesSeen : GoodIn wsX9_count wsX3_talesSeen := goodIn_r _ [27, 28, 62, 63, 64, 65, 66] (by decide +kernel) (by decide +kernel)
set_option maxRecDepth 20000 in
theorem gX9_count_X3_talesSeen : GoodIn wsX9_count (wsV RX9 267 RX3 yX3_talesSeen wsX3_talesSeen) := goodIn_app (goodIn_of _ (by decide +kernel)) ggX9_count_X3_talesSeen
set_option maxRecDepth 20000 in
theorem ggX9_count_X6_length : GoodIn wsX9_count wsX6_length := goodIn_r _ [33, 34, 76, 77] (by decide +kernel) (by decide +kernel)
set_option maxRecDepth 20000 in
theorem gX9_count_X6_length : GoodIn wsX9_count (wsV RX9 87 RX6 yX6_length wsX6_length) := goodIn_app (goodIn_of _ (by decide +kernel)) ggX9_count_X6_length
set_option maxRecDepth 20000 in
theorem ggX9_count_X4_readings : GoodIn wsX9_count wsX4_readings := goodIn_r _ [38, 39, 67, 68, 69, 70, 71] (by decide +kernel) (by decide +kernel)
set_option maxRecDepth 20000 in
theorem gX9_count_X4_readings : GoodIn wsX9_count (wsV RX9 270 RX4 yX4_readings wsX4_readings) := goodIn_app (goodIn_of _ (by decide +kernel)) ggX9_count_X4_readings
set_option maxRecDepth 20000 in
theorem ggX9_count_X8_readings : GoodIn wsX9_count wsX8_readings := goodIn_r _ [43, 44, 72, 73, 74, 75] (by decide +kernel) (by decide +kernel)
set_option maxRecDepth 20000 in
theorem gX9_count_X8_readings : GoodIn wsX9_count (wsV RX9 273 RX8 yX8_readings wsX8_readings) := goodIn_app (goodIn_of _ (by decide +kernel)) ggX9_count_X8_readings
set_option maxRecDepth 20000 in
theorem ggX9_count_X1_done : GoodIn wsX9_count wsX1_done := goodIn_r _ [49, 50, 78, 79, 80, 81, 82, 83] (by decide +kernel) (by decide +kernel)
set_option maxRecDepth 20000 in
theorem gX9_count_X1_done : GoodIn wsX9_count (wsV RX9 213 RX1 yX1_done wsX1_done) := goodIn_app (goodIn_of _ (by decide +kernel)) ggX9_count_X1_done
set_option maxRecDepth 20000 in
theorem ggX9_digest_X9_grown : GoodIn wsX9_digest wsX9_grown := goodIn_r _ [9, 10, 11, 12, 8, 13, 14, 15, 16, 17, 18, 19, 20, 21, 22, 244, 245, 246, 247, 248, 249, 250, 251, 252, 253, 254, 255, 256, 257, 258, 259] (by decide +kernel) (by decide +kernel)
set_option maxRecDepth 20000 in
theorem gX9_digest_X9_grown : GoodIn wsX9_digest (wsV RX9 276 RX9 yX9_grown wsX9_grown) := goodIn_app (goodIn_of _ (by decide +kernel)) ggX9_digest_X9_grown
set_option maxRecDepth 20000 in
theorem ggX9_digest_X9_mixed : GoodIn wsX9_digest wsX9_mixed := goodIn_r _ [25, 26] (by decide +kernel) (by decide +kernel)
set_option maxRecDepth 20000 in
theorem gX9_digest_X9_mixed : GoodIn wsX9_digest (va_wsS RX9 279 yX9_mixed wsX9_mixed) := goodIn_app (goodIn_of _ (by decide +kernel)) ggX9_digest_X9_mixed
set_option maxRecDepth 20000 in
theorem ggX9_digest_X8_tellings : GoodIn wsX9_digest wsX8_tellings := goodIn_r _ [31, 32, 260, 261, 262, 263] (by decide +kernel) (by decide +kernel)
set_option maxRecDepth 20000 in
theorem gX9_digest_X8_tellings : GoodIn wsX9_digest (wsV RX9 114 RX8 yX8_tellings wsX8_tellings) := goodIn_app (goodIn_of _ (by decide +kernel)) ggX9_digest_X8_tellings
set_option maxRecDepth 20000 in
theorem ggX9_digest_X8_who : GoodIn wsX9_digest wsX8_who := goodIn_r _ [36, 37, 38, 39, 40, 30, 41, 32, 260, 261, 262, 263] (by decide +kernel) (by decide +kernel)
set_option maxRecDepth 20000 in
theorem gX9_digest_X8_who : GoodIn wsX9_digest (wsV RX9 131 RX8 yX8_who wsX8_who) := goodIn_app (goodIn_of _ (by decide +kernel)) ggX9_digest_X8_who
set_option maxRecDepth 20000 in
theorem ggX9_digest_X8_whom : GoodIn wsX9_digest wsX8_whom := goodIn_r _ [45, 46, 38, 39, 40, 30, 41, 32, 260, 261, 262, 263] (by decide +kernel) (by decide +kernel)
set_option maxRecDepth 20000 in
theorem gX9_digest_X8_whom : GoodIn wsX9_digest (wsV RX9 134 RX8 yX8_whom wsX8_whom) := goodIn_app (goodIn_of _ (by decide +kernel)) ggX9_digest_X8_whom
set_option maxRecDepth 20000 in
theorem ggX9_digest_X9_peopleMixed : GoodIn wsX9_digest wsX9_peopleMixed := goodIn_r _ [50, 3, 51, 52, 53, 54, 55, 56, 57, 58, 59, 8, 60, 61, 62, 63, 64, 65, 66, 67, 68, 69, 70, 23, 24, 25, 26, 71, 72, 73, 74, 10, 11, 12, 13, 14, 15, 16, 75, 76, 77, 20, 78, 79, 18, 19, 21, 22, 80, 81, 82, 83, 84, 85, 86, 87, 88, 89, 90, 91, 92, 93, 94, 95, 96, 97, 98, 99, 100, 101, 2, 102, 103, 104, 105, 106, 107, 108, 109, 110, 111, 112, 113, 114, 115, 27, 28, 29, 30, 31, 32, 33, 34, 35, 36, 37, 38, 39, 40, 41, 42, 43, 44, 45, 46, 116, 117, 118, 119, 120, 121, 122, 123, 124, 125, 126, 127, 128, 129, 130, 131, 132, 133, 134, 135, 136, 137, 138, 139, 244, 245, 246, 247, 248, 249, 250, 251, 252, 253, 254, 264, 265, 266, 267, 268, 255, 256, 257, 258, 259, 269, 270, 260, 261, 262, 263] (by decide +kernel) (by decide +kernel)
set_option maxRecDepth 20000 in
theorem gX9_digest_X9_peopleMixed : GoodIn wsX9_digest (wsV RX9 282 RX9 yX9_peopleMixed wsX9_peopleMixed) := goodIn_app (goodIn_of _ (by decide +kernel)) ggX9_digest_X9_peopleMixed
set_option maxRecDepth 20000 in
theorem ggX9_digest_X3_people : GoodIn wsX9_digest wsX3_people := goodIn_r _ [55, 56, 264, 265, 266, 267, 268] (by decide +kernel) (by decide +kernel)
set_option maxRecDepth 20000 in
theorem gX9_digest_X3_people : GoodIn wsX9_digest (wsV RX9 195 RX3 yX3_people wsX3_people) := goodIn_app (goodIn_of _ (by decide +kernel)) ggX9_digest_X3_people
set_option maxRecDepth 20000 in
theorem ggX9_digest_X9_one : GoodIn wsX9_digest wsX9_one := goodIn_r _ [143, 3, 144, 145, 146, 147, 148, 149, 150, 116, 117, 118, 54, 119, 70, 62, 63, 64, 56, 11, 12, 8, 13, 14, 15, 16, 51, 52, 53, 55, 151, 152, 153, 154, 84, 98, 99, 100, 101, 2, 102, 103, 104, 105, 106, 107, 108, 109, 110, 111, 112, 113, 114, 115, 27, 28, 29, 30, 31, 32, 33, 34, 35, 36, 37, 38, 39, 40, 41, 42, 43, 44, 45, 46, 65, 66, 67, 68, 69, 120, 121, 122, 123, 10, 124, 125, 126, 127, 75, 76, 77, 20, 78, 79, 18, 19, 21, 22, 128, 129, 130, 131, 244, 245, 246, 247, 248, 249, 250, 251, 252, 253, 254, 264, 265, 266, 267, 268, 269, 270, 260, 261, 262, 263, 255, 256, 257, 258, 259] (by decide +kernel) (by decide +kernel)
set_option maxRecDepth 20000 in
theorem gX9_digest_X9_one : GoodIn wsX9_digest (wsV RX9 286 RX9 yX9_one wsX9_one) := goodIn_app (goodIn_of _ (by decide +kernel)) ggX9_digest_X9_one
set_option maxRecDepth 20000 in
theorem ggX9_digest_X9_ask : GoodIn wsX9_digest wsX9_ask := goodIn_r _ [158, 3, 159, 61, 62, 63, 54, 64, 56, 160, 161, 162, 8, 163, 84, 164, 165, 166, 167, 168, 169, 170, 171, 172, 110, 111, 112, 98, 99, 100, 101, 2, 102, 103, 104, 105, 106, 107, 108, 109, 113, 114, 115, 27, 28, 29, 30, 31, 32, 33, 34, 35, 36, 37, 38, 39, 40, 41, 42, 43, 44, 45, 46, 116, 117, 118, 119, 70, 65, 66, 67, 68, 69, 120, 121, 122, 123, 10, 124, 125, 126, 127, 75, 76, 77, 20, 78, 79, 18, 19, 21, 22, 128, 129, 130, 131, 51, 52, 53, 55, 173, 174, 175, 176, 177, 145, 146, 147, 178, 179, 180, 181, 244, 245, 246, 247, 248, 249, 250, 251, 252, 253, 254, 264, 265, 266, 267, 268, 271, 272, 273, 269, 270, 260, 261, 262, 263, 255, 256, 257, 258, 259] (by decide +kernel) (by decide +kernel)
set_option maxRecDepth 20000 in
theorem gX9_digest_X9_ask : GoodIn wsX9_digest (wsV RX9 290 RX9 yX9_ask wsX9_ask) := goodIn_app (goodIn_of _ (by decide +kernel)) ggX9_digest_X9_ask
set_option maxRecDepth 20000 in
theorem ggX9_digest_X9_likeliest : GoodIn wsX9_digest wsX9_likeliest := goodIn_r _ [185, 186, 10, 14, 15, 8, 16, 11, 12, 13, 187, 188, 189, 190, 191, 192, 149, 146, 150, 193, 194, 195, 196, 111, 197, 198, 199, 200, 201, 202, 18, 19, 20, 21, 22, 244, 245, 246, 247, 248, 249, 250, 251, 252, 253, 254, 274, 275, 255, 256, 257, 258, 259] (by decide +kernel) (by decide +kernel)
set_option maxRecDepth 20000 in
theorem gX9_digest_X9_likeliest : GoodIn wsX9_digest (wsV RX9 293 RX9 yX9_likeliest wsX9_likeliest) := goodIn_app (goodIn_of _ (by decide +kernel)) ggX9_digest_X9_likeliest
set_option maxRecDepth 20000 in
theorem ggX9_digest_X6_length : GoodIn wsX9_digest wsX6_length := goodIn_r _ [207, 208, 276, 277] (by decide +kernel) (by decide +kernel)
set_option maxRecDepth 20000 in
theorem gX9_digest_X6_length : GoodIn wsX9_digest (wsV RX9 87 RX6 yX6_length wsX6_length) := goodIn_app (goodIn_of _ (by decide +kernel)) ggX9_digest_X6_length
set_option maxRecDepth 20000 in
theorem ggX9_digest_X6_letterAt : GoodIn wsX9_digest wsX6_letterAt := goodIn_r _ [212, 208, 213, 276, 277] (by decide +kernel) (by decide +kernel)
set_option maxRecDepth 20000 in
theorem gX9_digest_X6_letterAt : GoodIn wsX9_digest (wsV RX9 296 RX6 yX6_letterAt wsX6_letterAt) := goodIn_app (goodIn_of _ (by decide +kernel)) ggX9_digest_X6_letterAt
set_option maxRecDepth 20000 in
theorem ggX9_digest_X9_count : GoodIn wsX9_digest wsX9_count := goodIn_r _ [217, 3, 10, 2, 4, 218, 51, 52, 53, 54, 55, 56, 219, 220, 221, 20, 222, 223, 27, 28, 29, 30, 31, 32, 224, 225, 226, 227, 92, 203, 204, 205, 206, 207, 208, 228, 229, 230, 231, 232, 233, 234, 235, 236, 237, 238, 239, 240, 241, 242, 243, 244, 245, 246, 247, 248, 249, 250, 251, 252, 253, 254, 264, 265, 266, 267, 268, 255, 256, 257, 258, 259, 260, 261, 262, 263, 276, 277, 278, 279, 280, 281, 282, 283] (by decide +kernel) (by decide +kernel)
set_option maxRecDepth 20000 in
theorem gX9_digest_X9_count : GoodIn wsX9_digest (wsV RX9 299 RX9 yX9_count wsX9_count) := goodIn_app (goodIn_of _ (by decide +kernel)) ggX9_digest_X9_count
set_option maxRecDepth 20000 in
theorem ggX9_isSize_X9_isWithin : GoodIn wsX9_isSize wsX9_isWithin := goodIn_r _ [4] (by decide +kernel) (by decide +kernel)
set_option maxRecDepth 20000 in
theorem gX9_isSize_X9_isWithin : GoodIn wsX9_isSize (va_wsS RX9 127 yX9_isWithin wsX9_isWithin) := goodIn_app (goodIn_of _ (by decide +kernel)) ggX9_isSize_X9_isWithin
set_option maxRecDepth 20000 in
theorem ggX9_isTale_X9_isWithin : GoodIn wsX9_isTale wsX9_isWithin := goodIn_r _ [4] (by decide +kernel) (by decide +kernel)
set_option maxRecDepth 20000 in
theorem gX9_isTale_X9_isWithin : GoodIn wsX9_isTale (va_wsS RX9 127 yX9_isWithin wsX9_isWithin) := goodIn_app (goodIn_of _ (by decide +kernel)) ggX9_isTale_X9_isWithin
set_option maxRecDepth 20000 in
theorem ggX9_isKind_X9_isWithin : GoodIn wsX9_isKind wsX9_isWithin := goodIn_r _ [4] (by decide +kernel) (by decide +kernel)
set_option maxRecDepth 20000 in
theorem gX9_isKind_X9_isWithin : GoodIn wsX9_isKind (va_wsS RX9 127 yX9_isWithin wsX9_isWithin) := goodIn_app (goodIn_of _ (by decide +kernel)) ggX9_isKind_X9_isWithin
set_option maxRecDepth 20000 in
theorem ggX9_peopleMixed_X3_people : GoodIn wsX9_peopleMixed wsX3_people := goodIn_r _ [6, 7, 140, 141, 142, 143, 144] (by decide +kernel) (by decide +kernel)
set_option maxRecDepth 20000 in
theorem gX9_peopleMixed_X3_people : GoodIn wsX9_peopleMixed (wsV RX9 195 RX3 yX3_people wsX3_people) := goodIn_app (goodIn_of _ (by decide +kernel)) ggX9_peopleMixed_X3_people
set_option maxRecDepth 20000 in
theorem ggX9_peopleMixed_X9_kind : GoodIn wsX9_peopleMixed wsX9_kind := goodIn_r _ [12, 1, 13, 14, 15, 5, 16, 7, 17, 18, 19, 20, 21, 22, 129, 130, 131, 132, 133, 134, 135, 136, 137, 138, 139, 140, 141, 142, 143, 144] (by decide +kernel) (by decide +kernel)
set_option maxRecDepth 20000 in
theorem gX9_peopleMixed_X9_kind : GoodIn wsX9_peopleMixed (wsV RX9 304 RX9 yX9_kind wsX9_kind) := goodIn_app (goodIn_of _ (by decide +kernel)) ggX9_peopleMixed_X9_kind
set_option maxRecDepth 20000 in
theorem ggX9_peopleMixed_X9_mixed : GoodIn wsX9_peopleMixed wsX9_mixed := goodIn_r _ [25, 26] (by decide +kernel) (by decide +kernel)
set_option maxRecDepth 20000 in
theorem gX9_peopleMixed_X9_mixed : GoodIn wsX9_peopleMixed (va_wsS RX9 279 yX9_mixed wsX9_mixed) := goodIn_app (goodIn_of _ (by decide +kernel)) ggX9_peopleMixed_X9_mixed
set_option maxRecDepth 20000 in
theorem ggX9_peopleMixed_X9_tells : GoodIn wsX9_peopleMixed wsX9_tells := goodIn_r _ [30, 1, 31, 13, 14, 15, 5, 16, 7, 32, 33, 11, 34, 35, 36, 37, 17, 18, 19, 20, 21, 22, 38, 39, 40, 41, 42, 43, 44, 45, 46, 47, 129, 130, 131, 132, 133, 134, 135, 136, 137, 138, 139, 140, 141, 142, 143, 144, 145, 146, 147, 148, 149] (by decide +kernel) (by decide +kernel)
set_option maxRecDepth 20000 in
theorem gX9_peopleMixed_X9_tells : GoodIn wsX9_peopleMixed (wsV RX9 307 RX9 yX9_tells wsX9_tells) := goodIn_app (goodIn_of _ (by decide +kernel)) ggX9_peopleMixed_X9_tells
set_option maxRecDepth 20000 in
theorem ggX9_peopleMixed_X9_size : GoodIn wsX9_peopleMixed wsX9_size := goodIn_r _ [51, 1, 52, 13, 14, 15, 5, 16, 7, 53, 54, 11, 55, 35, 36, 37, 56, 57, 58, 59, 60, 61, 62, 63, 64, 65, 66, 67, 68, 69, 70, 71, 72, 73, 74, 75, 76, 77, 78, 79, 80, 81, 82, 83, 84, 85, 86, 87, 88, 89, 90, 91, 92, 93, 94, 95, 96, 97, 98, 99, 100, 101, 102, 103, 104, 105, 106, 107, 108, 22, 17, 18, 19, 20, 21, 109, 110, 111, 112, 31, 113, 114, 115, 116, 38, 39, 40, 41, 42, 43, 44, 45, 46, 47, 117, 118, 119, 120, 129, 130, 131, 132, 133, 134, 135, 136, 137, 138, 139, 140, 141, 142, 143, 144, 150, 151, 152, 153, 154, 155, 145, 146, 147, 148, 149] (by decide +kernel) (by decide +kernel)
set_option maxRecDepth 20000 in
theorem gX9_peopleMixed_X9_size : GoodIn wsX9_peopleMixed (wsV RX9 310 RX9 yX9_size wsX9_size) := goodIn_app (goodIn_of _ (by decide +kernel)) ggX9_peopleMixed_X9_size
set_option maxRecDepth 20000 in
theorem ggX9_peopleMixed_X9_from : GoodIn wsX9_peopleMixed wsX9_from := goodIn_r _ [124, 1, 52, 13, 14, 15, 5, 16, 7, 53, 54, 11, 55, 35, 36, 37, 56, 57, 58, 59, 60, 61, 62, 63, 64, 65, 66, 67, 68, 69, 70, 71, 72, 73, 74, 75, 76, 77, 78, 79, 80, 81, 82, 83, 84, 85, 86, 87, 88, 89, 90, 91, 92, 93, 94, 95, 96, 97, 98, 99, 100, 101, 102, 103, 104, 105, 106, 107, 108, 22, 17, 18, 19, 20, 21, 109, 110, 111, 112, 31, 113, 114, 115, 116, 38, 39, 40, 41, 42, 43, 44, 45, 46, 47, 117, 118, 119, 120, 125, 126, 127, 128, 129, 130, 131, 132, 133, 134, 135, 136, 137, 138, 139, 140, 141, 142, 143, 144, 150, 151, 152, 153, 154, 155, 145, 146, 147, 148, 149] (by decide +kernel) (by decide +kernel)
set_option maxRecDepth 20000 in
theorem gX9_peopleMixed_X9_from : GoodIn wsX9_peopleMixed (wsV RX9 313 RX9 yX9_from wsX9_from) := goodIn_app (goodIn_of _ (by decide +kernel)) ggX9_peopleMixed_X9_from
set_option maxRecDepth 20000 in
theorem ggX9_spread_X7_begin : GoodIn wsX9_spread wsX7_begin := goodIn_r _ [8, 9, 10, 11, 12, 13, 14, 15, 16, 7, 17, 88, 89] (by decide +kernel) (by decide +kernel)
set_option maxRecDepth 20000 in
theorem gX9_spread_X7_begin : GoodIn wsX9_spread (wsV RX9 316 RX7 yX7_begin wsX7_begin) := goodIn_app (goodIn_of _ (by decide +kernel)) ggX9_spread_X7_begin
set_option maxRecDepth 20000 in
theorem ggX9_spread_X8_tellings : GoodIn wsX9_spread wsX8_tellings := goodIn_r _ [22, 23, 90, 91, 92, 93] (by decide +kernel) (by decide +kernel)
set_option maxRecDepth 20000 in
theorem gX9_spread_X8_tellings : GoodIn wsX9_spread (wsV RX9 114 RX8 yX8_tellings wsX8_tellings) := goodIn_app (goodIn_of _ (by decide +kernel)) ggX9_spread_X8_tellings
set_option maxRecDepth 20000 in
theorem ggX9_spread_X8_who : GoodIn wsX9_spread wsX8_who := goodIn_r _ [27, 28, 29, 30, 31, 21, 32, 23, 90, 91, 92, 93] (by decide +kernel) (by decide +kernel)
set_option maxRecDepth 20000 in
theorem gX9_spread_X8_who : GoodIn wsX9_spread (wsV RX9 131 RX8 yX8_who wsX8_who) := goodIn_app (goodIn_of _ (by decide +kernel)) ggX9_spread_X8_who
set_option maxRecDepth 20000 in
theorem ggX9_spread_X8_whom : GoodIn wsX9_spread wsX8_whom := goodIn_r _ [36, 37, 29, 30, 31, 21, 32, 23, 90, 91, 92, 93] (by decide +kernel) (by decide +kernel)
set_option maxRecDepth 20000 in
theorem gX9_spread_X8_whom : GoodIn wsX9_spread (wsV RX9 134 RX8 yX8_whom wsX8_whom) := goodIn_app (goodIn_of _ (by decide +kernel)) ggX9_spread_X8_whom
set_option maxRecDepth 20000 in
theorem ggX9_spread_X3_hasBoth : GoodIn wsX9_spread wsX3_hasBoth := goodIn_r _ [42, 43, 44, 45, 41, 46, 47, 94, 95, 96, 97, 98] (by decide +kernel) (by decide +kernel)
set_option maxRecDepth 20000 in
theorem gX9_spread_X3_hasBoth : GoodIn wsX9_spread (wsV RX9 159 RX3 yX3_hasBoth wsX3_hasBoth) := goodIn_app (goodIn_of _ (by decide +kernel)) ggX9_spread_X3_hasBoth
set_option maxRecDepth 20000 in
theorem ggX9_spread_X3_kindOf : GoodIn wsX9_spread wsX3_kindOf := goodIn_r _ [51, 52, 43, 44, 45, 41, 46, 47, 94, 95, 96, 97, 98] (by decide +kernel) (by decide +kernel)
set_option maxRecDepth 20000 in
theorem gX9_spread_X3_kindOf : GoodIn wsX9_spread (wsV RX9 148 RX3 yX3_kindOf wsX3_kindOf) := goodIn_app (goodIn_of _ (by decide +kernel)) ggX9_spread_X3_kindOf
set_option maxRecDepth 20000 in
theorem ggX9_spread_X9_tellOn : GoodIn wsX9_spread wsX9_tellOn := goodIn_r _ [57, 1, 58, 59, 60, 61, 7, 62, 9, 15, 16, 17, 63, 64, 65, 66, 67, 68, 69, 70, 71, 72, 73, 74, 75, 76, 10, 77, 78, 79, 80, 81, 82, 83, 84, 85, 86, 87, 88, 89, 99, 100, 101, 102, 103] (by decide +kernel) (by decide +kernel)
set_option maxRecDepth 20000 in
theorem gX9_spread_X9_tellOn : GoodIn wsX9_spread (wsV RX9 319 RX9 yX9_tellOn wsX9_tellOn) := goodIn_app (goodIn_of _ (by decide +kernel)) ggX9_spread_X9_tellOn
set_option maxRecDepth 20000 in
theorem ggX9_tellOn_X7_sizeAt : GoodIn wsX9_tellOn wsX7_sizeAt := goodIn_r _ [7, 8, 9, 10, 6, 11, 38, 39] (by decide +kernel) (by decide +kernel)
set_option maxRecDepth 20000 in
theorem gX9_tellOn_X7_sizeAt : GoodIn wsX9_tellOn (wsV RX9 186 RX7 yX7_sizeAt wsX7_sizeAt) := goodIn_app (goodIn_of _ (by decide +kernel)) ggX9_tellOn_X7_sizeAt
set_option maxRecDepth 20000 in
theorem ggX9_tellOn_X4_toldBy : GoodIn wsX9_tellOn wsX4_toldBy := goodIn_r _ [16, 17, 18, 19, 15, 20, 21, 40, 41, 42, 43, 44] (by decide +kernel) (by decide +kernel)
set_option maxRecDepth 20000 in
theorem gX9_tellOn_X4_toldBy : GoodIn wsX9_tellOn (wsV RX9 155 RX4 yX4_toldBy wsX4_toldBy) := goodIn_app (goodIn_of _ (by decide +kernel)) ggX9_tellOn_X4_toldBy
set_option maxRecDepth 20000 in
theorem ggX9_tellOn_X7_take : GoodIn wsX9_tellOn wsX7_take := goodIn_r _ [25, 8, 26, 9, 10, 6, 11, 38, 39] (by decide +kernel) (by decide +kernel)
set_option maxRecDepth 20000 in
theorem gX9_tellOn_X7_take : GoodIn wsX9_tellOn (wsV RX9 322 RX7 yX7_take wsX7_take) := goodIn_app (goodIn_of _ (by decide +kernel)) ggX9_tellOn_X7_take
set_option maxRecDepth 20000 in
theorem ggX9_firstsBelow_X9_spread : GoodIn wsX9_firstsBelow wsX9_spread := goodIn_r _ [6, 1, 7, 8, 9, 10, 11, 12, 13, 14, 15, 16, 17, 18, 19, 20, 21, 22, 23, 24, 25, 26, 27, 28, 29, 30, 31, 32, 33, 34, 35, 36, 37, 38, 39, 40, 41, 42, 43, 44, 45, 46, 47, 48, 49, 50, 51, 52, 53, 54, 55, 56, 57, 58, 59, 60, 5, 61, 62, 63, 64, 65, 66, 67, 68, 69, 70, 71, 72, 73, 74, 75, 76, 77, 78, 79, 80, 81, 82, 83, 84, 85, 86, 87, 88, 89, 90, 91, 92, 93, 94, 95, 96, 97, 98, 99, 100, 101, 102, 103, 104, 105, 106, 107] (by decide +kernel) (by decide +kernel)
set_option maxRecDepth 20000 in
theorem gX9_firstsBelow_X9_spread : GoodIn wsX9_firstsBelow (wsV RX9 182 RX9 yX9_spread wsX9_spread) := goodIn_app (goodIn_of _ (by decide +kernel)) ggX9_firstsBelow_X9_spread
set_option maxRecDepth 20000 in
theorem ggX9_firstsBelow_X7_sizeAt : GoodIn wsX9_firstsBelow wsX7_sizeAt := goodIn_r _ [66, 14, 20, 21, 12, 22, 92, 93] (by decide +kernel) (by decide +kernel)
set_option maxRecDepth 20000 in
theorem gX9_firstsBelow_X7_sizeAt : GoodIn wsX9_firstsBelow (wsV RX9 186 RX7 yX7_sizeAt wsX7_sizeAt) := goodIn_app (goodIn_of _ (by decide +kernel)) ggX9_firstsBelow_X7_sizeAt
set_option maxRecDepth 20000 in
theorem ggX9_countAlike_X0_clear : GoodIn wsX9_countAlike wsX0_clear := goodIn_r _ [8, 9, 10, 11, 12, 13, 14, 15, 114, 115, 116] (by decide +kernel) (by decide +kernel)
set_option maxRecDepth 20000 in
theorem gX9_countAlike_X0_clear : GoodIn wsX9_countAlike (wsV RX9 325 RX0 yX0_clear wsX0_clear) := goodIn_app (goodIn_of _ (by decide +kernel)) ggX9_countAlike_X0_clear
set_option maxRecDepth 20000 in
theorem ggX9_countAlike_X9_spread : GoodIn wsX9_countAlike wsX9_spread := goodIn_r _ [20, 3, 21, 2, 22, 23, 24, 25, 26, 27, 28, 29, 13, 14, 15, 30, 31, 32, 33, 34, 35, 36, 37, 38, 39, 40, 41, 42, 43, 44, 45, 46, 47, 48, 49, 50, 51, 52, 53, 54, 55, 56, 57, 58, 59, 60, 61, 62, 63, 64, 65, 66, 67, 68, 69, 70, 19, 71, 72, 73, 74, 75, 76, 77, 78, 79, 80, 81, 82, 83, 84, 85, 86, 87, 88, 89, 90, 103, 104, 105, 106, 107, 108, 109, 110, 111, 112, 113, 117, 118, 119, 120, 121, 122, 123, 124, 125, 126, 127, 128, 129, 130, 131, 132] (by decide +kernel) (by decide +kernel)
set_option maxRecDepth 20000 in
theorem gX9_countAlike_X9_spread : GoodIn wsX9_countAlike (wsV RX9 182 RX9 yX9_spread wsX9_spread) := goodIn_app (goodIn_of _ (by decide +kernel)) ggX9_countAlike_X9_spread
set_option maxRecDepth 20000 in
theorem ggX9_countAlike_X3_people : GoodIn wsX9_countAlike wsX3_people := goodIn_r _ [94, 62, 123, 124, 125, 126, 127] (by decide +kernel) (by decide +kernel)
set_option maxRecDepth 20000 in
theorem gX9_countAlike_X3_people : GoodIn wsX9_countAlike (wsV RX9 195 RX3 yX3_people wsX3_people) := goodIn_app (goodIn_of _ (by decide +kernel)) ggX9_countAlike_X3_people
set_option maxRecDepth 20000 in
theorem ggX9_countAlike_X7_sizeAt : GoodIn wsX9_countAlike wsX7_sizeAt := goodIn_r _ [76, 27, 30, 31, 25, 32, 117, 118] (by decide +kernel) (by decide +kernel)
set_option maxRecDepth 20000 in
theorem gX9_countAlike_X7_sizeAt : GoodIn wsX9_countAlike (wsV RX9 186 RX7 yX7_sizeAt wsX7_sizeAt) := goodIn_app (goodIn_of _ (by decide +kernel)) ggX9_countAlike_X7_sizeAt
set_option maxRecDepth 20000 in
theorem ggX9_countAlike_X0_add : GoodIn wsX9_countAlike wsX0_add := goodIn_r _ [98, 10, 9, 11, 99, 100, 101, 102, 114, 115, 116] (by decide +kernel) (by decide +kernel)
set_option maxRecDepth 20000 in
theorem gX9_countAlike_X0_add : GoodIn wsX9_countAlike (wsV RX9 326 RX0 yX0_add wsX0_add) := goodIn_app (goodIn_of _ (by decide +kernel)) ggX9_countAlike_X0_add
set_option maxRecDepth 20000 in
theorem ggX9_gossipTaleZero_X3_witnessOf : GoodIn wsX9_gossipTaleZero wsX3_witnessOf := goodIn_r _ [8, 9, 10, 11, 12, 13, 14, 15, 97, 98, 99, 100, 101] (by decide +kernel) (by decide +kernel)
set_option maxRecDepth 20000 in
theorem gX9_gossipTaleZero_X3_witnessOf : GoodIn wsX9_gossipTaleZero (wsV RX9 176 RX3 yX3_witnessOf wsX3_witnessOf) := goodIn_app (goodIn_of _ (by decide +kernel)) ggX9_gossipTaleZero_X3_witnessOf
set_option maxRecDepth 20000 in
theorem ggX9_gossipTaleZero_X3_seenSizeOf : GoodIn wsX9_gossipTaleZero wsX3_seenSizeOf := goodIn_r _ [19, 20, 10, 11, 12, 13, 14, 15, 97, 98, 99, 100, 101] (by decide +kernel) (by decide +kernel)
set_option maxRecDepth 20000 in
theorem gX9_gossipTaleZero_X3_seenSizeOf : GoodIn wsX9_gossipTaleZero (wsV RX9 179 RX3 yX3_seenSizeOf wsX3_seenSizeOf) := goodIn_app (goodIn_of _ (by decide +kernel)) ggX9_gossipTaleZero_X3_seenSizeOf
set_option maxRecDepth 20000 in
theorem ggX9_gossipTaleZero_X7_begin : GoodIn wsX9_gossipTaleZero wsX7_begin := goodIn_r _ [25, 26, 27, 28, 29, 30, 31, 32, 33, 24, 34, 102, 103] (by decide +kernel) (by decide +kernel)
set_option maxRecDepth 20000 in
theorem gX9_gossipTaleZero_X7_begin : GoodIn wsX9_gossipTaleZero (wsV RX9 316 RX7 yX7_begin wsX7_begin) := goodIn_app (goodIn_of _ (by decide +kernel)) ggX9_gossipTaleZero_X7_begin
set_option maxRecDepth 20000 in
theorem ggX9_gossipTaleZero_X2_sow : GoodIn wsX9_gossipTaleZero wsX2_sow := goodIn_r _ [39, 40, 104] (by decide +kernel) (by decide +kernel)
set_option maxRecDepth 20000 in
theorem gX9_gossipTaleZero_X2_sow : GoodIn wsX9_gossipTaleZero (wsV RX9 328 RX2 yX2_sow wsX2_sow) := goodIn_app (goodIn_of _ (by decide +kernel)) ggX9_gossipTaleZero_X2_sow
set_option maxRecDepth 20000 in
theorem ggX9_gossipTaleZero_X3_people : GoodIn wsX9_gossipTaleZero wsX3_people := goodIn_r _ [44, 45, 97, 98, 99, 100, 101] (by decide +kernel) (by decide +kernel)
set_option maxRecDepth 20000 in
theorem gX9_gossipTaleZero_X3_people : GoodIn wsX9_gossipTaleZero (wsV RX9 195 RX3 yX3_people wsX3_people) := goodIn_app (goodIn_of _ (by decide +kernel)) ggX9_gossipTaleZero_X3_people
set_option maxRecDepth 20000 in
theorem ggX9_gossipTaleZero_X2_draw : GoodIn wsX9_gossipTaleZero wsX2_draw := goodIn_r _ [49, 50, 40, 51, 52, 53, 104] (by decide +kernel) (by decide +kernel)
set_option maxRecDepth 20000 in
theorem gX9_gossipTaleZero_X2_draw : GoodIn wsX9_gossipTaleZero (wsV RX9 331 RX2 yX2_draw wsX2_draw) := goodIn_app (goodIn_of _ (by decide +kernel)) ggX9_gossipTaleZero_X2_draw
set_option maxRecDepth 20000 in
theorem ggX9_gossipTaleZero_X3_kindOf : GoodIn wsX9_gossipTaleZero wsX3_kindOf := goodIn_r _ [57, 58, 59, 60, 61, 7, 62, 45, 97, 98, 99, 100, 101] (by decide +kernel) (by decide +kernel)
set_option maxRecDepth 20000 in
theorem gX9_gossipTaleZero_X3_kindOf : GoodIn wsX9_gossipTaleZero (wsV RX9 148 RX3 yX3_kindOf wsX3_kindOf) := goodIn_app (goodIn_of _ (by decide +kernel)) ggX9_gossipTaleZero_X3_kindOf
set_option maxRecDepth 20000 in
theorem ggX9_gossipTaleZero_X9_tellOn : GoodIn wsX9_gossipTaleZero wsX9_tellOn := goodIn_r _ [66, 1, 67, 68, 69, 70, 24, 71, 26, 32, 33, 34, 72, 73, 74, 75, 76, 77, 78, 79, 80, 81, 82, 83, 84, 85, 27, 86, 87, 88, 89, 90, 91, 92, 93, 94, 95, 96, 102, 103, 105, 106, 107, 108, 109] (by decide +kernel) (by decide +kernel)
set_option maxRecDepth 20000 in
theorem gX9_gossipTaleZero_X9_tellOn : GoodIn wsX9_gossipTaleZero (wsV RX9 319 RX9 yX9_tellOn wsX9_tellOn) := goodIn_app (goodIn_of _ (by decide +kernel)) ggX9_gossipTaleZero_X9_tellOn
set_option maxRecDepth 20000 in
theorem ggX10_readLaw_X10_within : GoodIn wsX10_readLaw wsX10_within := goodIn_r _ [11] (by decide +kernel) (by decide +kernel)
set_option maxRecDepth 20000 in
theorem gX10_readLaw_X10_within : GoodIn wsX10_readLaw (va_wsS RX10 87 yX10_within wsX10_within) := goodIn_app (goodIn_of _ (by decide +kernel)) ggX10_readLaw_X10_within
set_option maxRecDepth 20000 in
theorem ggX10_readLaw_X10_stepBy : GoodIn wsX10_readLaw wsX10_stepBy := goodIn_r _ [14] (by decide +kernel) (by decide +kernel)
set_option maxRecDepth 20000 in
theorem gX10_readLaw_X10_stepBy : GoodIn wsX10_readLaw (va_wsS RX10 91 yX10_stepBy wsX10_stepBy) := goodIn_app (goodIn_of _ (by decide +kernel)) ggX10_readLaw_X10_stepBy
set_option maxRecDepth 20000 in
theorem ggX10_readWeek_X10_within : GoodIn wsX10_readWeek wsX10_within := goodIn_r _ [11] (by decide +kernel) (by decide +kernel)
set_option maxRecDepth 20000 in
theorem gX10_readWeek_X10_within : GoodIn wsX10_readWeek (va_wsS RX10 87 yX10_within wsX10_within) := goodIn_app (goodIn_of _ (by decide +kernel)) ggX10_readWeek_X10_within
set_option maxRecDepth 20000 in
theorem ggX10_fault_X10_within : GoodIn wsX10_fault wsX10_within := goodIn_r _ [5] (by decide +kernel) (by decide +kernel)
set_option maxRecDepth 20000 in
theorem gX10_fault_X10_within : GoodIn wsX10_fault (va_wsS RX10 87 yX10_within wsX10_within) := goodIn_app (goodIn_of _ (by decide +kernel)) ggX10_fault_X10_within
set_option maxRecDepth 20000 in
theorem ggX10_fault_X10_readLaw : GoodIn wsX10_fault wsX10_readLaw := goodIn_r _ [9, 10, 11, 12, 13, 14, 1, 15, 2, 3, 4, 5, 16, 17, 18, 25, 26, 27, 28, 29, 30, 31, 32, 33, 34, 35, 36, 37, 38, 39, 40, 41, 42, 43, 44, 45, 46, 47, 48, 49, 50, 51, 52, 53, 54, 55, 56, 57, 58, 59, 60] (by decide +kernel) (by decide +kernel)
set_option maxRecDepth 20000 in
theorem gX10_fault_X10_readLaw : GoodIn wsX10_fault (wsV RX10 102 RX10 yX10_readLaw wsX10_readLaw) := goodIn_app (goodIn_of _ (by decide +kernel)) ggX10_fault_X10_readLaw
set_option maxRecDepth 20000 in
theorem ggX10_fault_X10_readWeek : GoodIn wsX10_fault wsX10_readWeek := goodIn_r _ [22, 10, 11, 12, 23, 24, 1, 15, 2, 3, 4, 5, 25, 26, 27, 28, 29, 30, 31, 32, 33, 34, 35, 36, 37, 38, 39, 40, 41, 42, 43, 44, 45, 46, 47, 48, 49, 50, 51, 52, 53, 54, 55, 56, 57, 58, 59, 60] (by decide +kernel) (by decide +kernel)
set_option maxRecDepth 20000 in
theorem gX10_fault_X10_readWeek : GoodIn wsX10_fault (wsV RX10 105 RX10 yX10_readWeek wsX10_readWeek) := goodIn_app (goodIn_of _ (by decide +kernel)) ggX10_fault_X10_readWeek
set_option maxRecDepth 20000 in
theorem ggX10_law_X10_readLaw : GoodIn wsX10_law wsX10_readLaw := goodIn_r _ [14, 2, 9, 15, 5, 7, 16, 1, 17, 18, 13, 19, 20, 21, 22, 23, 24, 25, 26, 27, 28, 29, 30, 31, 32, 33, 34, 35, 36, 37, 38, 39, 40, 41, 42, 43, 44, 45, 46, 47, 48, 49, 50, 51, 52, 53, 54, 55, 56, 57, 58] (by decide +kernel) (by decide +kernel)
set_option maxRecDepth 20000 in
theorem gX10_law_X10_readLaw : GoodIn wsX10_law (wsV RX10 102 RX10 yX10_readLaw wsX10_readLaw) := goodIn_app (goodIn_of _ (by decide +kernel)) ggX10_law_X10_readLaw
set_option maxRecDepth 20000 in
theorem ggX10_week_X10_readWeek : GoodIn wsX10_week wsX10_readWeek := goodIn_r _ [14, 2, 9, 15, 5, 7, 16, 1, 17, 18, 13, 19, 20, 21, 22, 23, 24, 25, 26, 27, 28, 29, 30, 31, 32, 33, 34, 35, 36, 37, 38, 39, 40, 41, 42, 43, 44, 45, 46, 47, 48, 49, 50, 51, 52, 53, 54, 55] (by decide +kernel) (by decide +kernel)
set_option maxRecDepth 20000 in
theorem gX10_week_X10_readWeek : GoodIn wsX10_week (wsV RX10 105 RX10 yX10_readWeek wsX10_readWeek) := goodIn_app (goodIn_of _ (by decide +kernel)) ggX10_week_X10_readWeek
set_option maxRecDepth 20000 in
theorem ggX10_grownBy_X10_stepped : GoodIn wsX10_grownBy wsX10_stepped := goodIn_r _ [6, 7, 8, 12, 13, 14, 15, 16, 17, 18, 19, 20, 21, 22, 23, 24, 25, 26, 27, 28, 29, 30, 31, 32, 33, 34, 35, 36, 37, 38, 39, 40, 41, 42, 43, 44, 45, 46, 47] (by decide +kernel) (by decide +kernel)
set_option maxRecDepth 20000 in
theorem gX10_grownBy_X10_stepped : GoodIn wsX10_grownBy (wsV RX10 117 RX10 yX10_stepped wsX10_stepped) := goodIn_app (goodIn_of _ (by decide +kernel)) ggX10_grownBy_X10_stepped
set_option maxRecDepth 20000 in
theorem ggX10_grownBy_X10_capped : GoodIn wsX10_grownBy wsX10_capped := goodIn_r _ [11] (by decide +kernel) (by decide +kernel)
set_option maxRecDepth 20000 in
theorem gX10_grownBy_X10_capped : GoodIn wsX10_grownBy (va_wsS RX10 121 yX10_capped wsX10_capped) := goodIn_app (goodIn_of _ (by decide +kernel)) ggX10_grownBy_X10_capped
set_option maxRecDepth 20000 in
theorem ggX10_isSize_X10_within : GoodIn wsX10_isSize wsX10_within := goodIn_r _ [4] (by decide +kernel) (by decide +kernel)
set_option maxRecDepth 20000 in
theorem gX10_isSize_X10_within : GoodIn wsX10_isSize (va_wsS RX10 87 yX10_within wsX10_within) := goodIn_app (goodIn_of _ (by decide +kernel)) ggX10_isSize_X10_within
set_option maxRecDepth 20000 in
theorem ggX10_grown_X10_isSize : GoodIn wsX10_grown wsX10_isSize := goodIn_r _ [4, 5, 6, 3, 7] (by decide +kernel) (by decide +kernel)
set_option maxRecDepth 20000 in
theorem gX10_grown_X10_isSize : GoodIn wsX10_grown (va_wsS RX10 124 yX10_isSize wsX10_isSize) := goodIn_app (goodIn_of _ (by decide +kernel)) ggX10_grown_X10_isSize
set_option maxRecDepth 20000 in
theorem ggX10_grown_X10_grownBy : GoodIn wsX10_grown wsX10_grownBy := goodIn_r _ [11, 12, 13, 14, 15, 3, 16, 17, 18, 19, 20, 21, 22, 23, 24, 25, 26, 27, 28, 29, 30, 31, 32, 33, 34, 35, 36, 37, 38, 39, 40, 41, 42, 43, 44, 45, 46, 47, 48, 49, 50, 51, 52, 53, 54, 55, 56, 57] (by decide +kernel) (by decide +kernel)
set_option maxRecDepth 20000 in
theorem gX10_grown_X10_grownBy : GoodIn wsX10_grown (wsV RX10 128 RX10 yX10_grownBy wsX10_grownBy) := goodIn_app (goodIn_of _ (by decide +kernel)) ggX10_grown_X10_grownBy
set_option maxRecDepth 20000 in
theorem ggX10_telling_X10_within : GoodIn wsX10_telling wsX10_within := goodIn_r _ [7] (by decide +kernel) (by decide +kernel)
set_option maxRecDepth 20000 in
theorem gX10_telling_X10_within : GoodIn wsX10_telling (va_wsS RX10 87 yX10_within wsX10_within) := goodIn_app (goodIn_of _ (by decide +kernel)) ggX10_telling_X10_within
set_option maxRecDepth 20000 in
theorem ggX10_isPerson_X10_within : GoodIn wsX10_isPerson wsX10_within := goodIn_r _ [5] (by decide +kernel) (by decide +kernel)
set_option maxRecDepth 20000 in
theorem gX10_isPerson_X10_within : GoodIn wsX10_isPerson (va_wsS RX10 87 yX10_within wsX10_within) := goodIn_app (goodIn_of _ (by decide +kernel)) ggX10_isPerson_X10_within
set_option maxRecDepth 20000 in
theorem ggX10_isTale_X10_within : GoodIn wsX10_isTale wsX10_within := goodIn_r _ [4] (by decide +kernel) (by decide +kernel)
set_option maxRecDepth 20000 in
theorem gX10_isTale_X10_within : GoodIn wsX10_isTale (va_wsS RX10 87 yX10_within wsX10_within) := goodIn_app (goodIn_of _ (by decide +kernel)) ggX10_isTale_X10_within
set_option maxRecDepth 20000 in
theorem ggX10_person_X10_within : GoodIn wsX10_person wsX10_within := goodIn_r _ [7] (by decide +kernel) (by decide +kernel)
set_option maxRecDepth 20000 in
theorem gX10_person_X10_within : GoodIn wsX10_person (va_wsS RX10 87 yX10_within wsX10_within) := goodIn_app (goodIn_of _ (by decide +kernel)) ggX10_person_X10_within
set_option maxRecDepth 20000 in
theorem ggX10_kind_X10_isPerson : GoodIn wsX10_kind wsX10_isPerson := goodIn_r _ [6, 7, 8, 9, 5, 10, 11, 12, 13, 14, 15, 16, 17, 18, 19, 20, 21, 22, 23, 24, 25, 26, 27, 28, 29, 30, 31, 32, 33, 34, 35, 36, 37, 38, 39, 40, 41, 42, 43, 44, 45, 46] (by decide +kernel) (by decide +kernel)
set_option maxRecDepth 20000 in
theorem gX10_kind_X10_isPerson : GoodIn wsX10_kind (wsV RX10 134 RX10 yX10_isPerson wsX10_isPerson) := goodIn_app (goodIn_of _ (by decide +kernel)) ggX10_kind_X10_isPerson
set_option maxRecDepth 20000 in
theorem ggX10_as_X10_isPerson : GoodIn wsX10_as wsX10_isPerson := goodIn_r _ [6, 7, 8, 9, 5, 10, 11, 12, 13, 14, 15, 16, 17, 18, 19, 20, 21, 22, 23, 24, 25, 26, 27, 28, 29, 30, 31, 32, 33, 34, 35, 36, 37, 38, 39, 40, 41, 42, 43, 44, 45, 46] (by decide +kernel) (by decide +kernel)
set_option maxRecDepth 20000 in
theorem gX10_as_X10_isPerson : GoodIn wsX10_as (wsV RX10 134 RX10 yX10_isPerson wsX10_isPerson) := goodIn_app (goodIn_of _ (by decide +kernel)) ggX10_as_X10_isPerson
set_option maxRecDepth 20000 in
theorem ggX10_as_X10_within : GoodIn wsX10_as wsX10_within := goodIn_r _ [10] (by decide +kernel) (by decide +kernel)
set_option maxRecDepth 20000 in
theorem gX10_as_X10_within : GoodIn wsX10_as (va_wsS RX10 87 yX10_within wsX10_within) := goodIn_app (goodIn_of _ (by decide +kernel)) ggX10_as_X10_within
set_option maxRecDepth 20000 in
theorem ggX10_tellsBy_X10_grownBy : GoodIn wsX10_tellsBy wsX10_grownBy := goodIn_r _ [5, 6, 7, 8, 9, 4, 10, 11, 12, 13, 14, 15, 16, 17, 18, 19, 20, 21, 22, 23, 24, 25, 26, 27, 28, 29, 30, 31, 32, 33, 34, 35, 36, 37, 38, 39, 40, 41, 42, 43, 44, 45, 46, 47, 48, 49, 50, 51] (by decide +kernel) (by decide +kernel)
set_option maxRecDepth 20000 in
theorem gX10_tellsBy_X10_grownBy : GoodIn wsX10_tellsBy (wsV RX10 128 RX10 yX10_grownBy wsX10_grownBy) := goodIn_app (goodIn_of _ (by decide +kernel)) ggX10_tellsBy_X10_grownBy
set_option maxRecDepth 20000 in
theorem ggX10_tells_X10_isPerson : GoodIn wsX10_tells wsX10_isPerson := goodIn_r _ [6, 7, 8, 9, 5, 10, 32, 33, 34, 35, 36, 37, 38, 39, 40, 41, 42, 43, 44, 45, 46, 47, 48, 49, 50, 51, 52, 53, 54, 55, 56, 57, 58, 59, 60, 61, 62, 63, 64, 65, 66, 67] (by decide +kernel) (by decide +kernel)
set_option maxRecDepth 20000 in
theorem gX10_tells_X10_isPerson : GoodIn wsX10_tells (wsV RX10 134 RX10 yX10_isPerson wsX10_isPerson) := goodIn_app (goodIn_of _ (by decide +kernel)) ggX10_tells_X10_isPerson
set_option maxRecDepth 20000 in
theorem ggX10_tells_X10_isSize : GoodIn wsX10_tells wsX10_isSize := goodIn_r _ [13, 8, 9, 5, 10] (by decide +kernel) (by decide +kernel)
set_option maxRecDepth 20000 in
theorem gX10_tells_X10_isSize : GoodIn wsX10_tells (va_wsS RX10 124 yX10_isSize wsX10_isSize) := goodIn_app (goodIn_of _ (by decide +kernel)) ggX10_tells_X10_isSize
set_option maxRecDepth 20000 in
theorem ggX10_tells_X10_tellsBy : GoodIn wsX10_tells wsX10_tellsBy := goodIn_r _ [17, 18, 19, 20, 5, 21, 22, 23, 24, 25, 26, 27, 28, 29, 30, 31, 32, 33, 34, 35, 36, 37, 38, 39, 40, 41, 42, 43, 44, 45, 46, 47, 48, 49, 50, 51, 52, 53, 54, 55, 56, 57, 58, 59, 60, 61, 62, 63, 64, 65, 66, 67] (by decide +kernel) (by decide +kernel)
set_option maxRecDepth 20000 in
theorem gX10_tells_X10_tellsBy : GoodIn wsX10_tells (wsV RX10 137 RX10 yX10_tellsBy wsX10_tellsBy) := goodIn_app (goodIn_of _ (by decide +kernel)) ggX10_tells_X10_tellsBy
set_option maxRecDepth 20000 in
theorem ggX10_knows_X10_isPerson : GoodIn wsX10_knows wsX10_isPerson := goodIn_r _ [6, 7, 8, 9, 5, 10, 11, 12, 13, 14, 15, 16, 17, 18, 19, 20, 21, 22, 23, 24, 25, 26, 27, 28, 29, 30, 31, 32, 33, 34, 35, 36, 37, 38, 39, 40, 41, 42, 43, 44, 45, 46] (by decide +kernel) (by decide +kernel)
set_option maxRecDepth 20000 in
theorem gX10_knows_X10_isPerson : GoodIn wsX10_knows (wsV RX10 134 RX10 yX10_isPerson wsX10_isPerson) := goodIn_app (goodIn_of _ (by decide +kernel)) ggX10_knows_X10_isPerson
set_option maxRecDepth 20000 in
theorem ggX10_see_X10_isTale : GoodIn wsX10_see wsX10_isTale := goodIn_r _ [6, 7, 8, 5, 9] (by decide +kernel) (by decide +kernel)
set_option maxRecDepth 20000 in
theorem gX10_see_X10_isTale : GoodIn wsX10_see (va_wsS RX10 140 yX10_isTale wsX10_isTale) := goodIn_app (goodIn_of _ (by decide +kernel)) ggX10_see_X10_isTale
set_option maxRecDepth 20000 in
theorem ggX10_see_X10_isPerson : GoodIn wsX10_see wsX10_isPerson := goodIn_r _ [13, 14, 7, 8, 5, 9, 18, 19, 20, 21, 22, 23, 24, 25, 26, 27, 28, 29, 30, 31, 32, 33, 34, 35, 36, 37, 38, 39, 40, 41, 42, 43, 44, 45, 46, 47, 48, 49, 50, 51, 52, 53] (by decide +kernel) (by decide +kernel)
set_option maxRecDepth 20000 in
theorem gX10_see_X10_isPerson : GoodIn wsX10_see (wsV RX10 134 RX10 yX10_isPerson wsX10_isPerson) := goodIn_app (goodIn_of _ (by decide +kernel)) ggX10_see_X10_isPerson
set_option maxRecDepth 20000 in
theorem ggX10_see_X10_isSize : GoodIn wsX10_see wsX10_isSize := goodIn_r _ [17, 7, 8, 5, 9] (by decide +kernel) (by decide +kernel)
set_option maxRecDepth 20000 in
theorem gX10_see_X10_isSize : GoodIn wsX10_see (va_wsS RX10 124 yX10_isSize wsX10_isSize) := goodIn_app (goodIn_of _ (by decide +kernel)) ggX10_see_X10_isSize
set_option maxRecDepth 20000 in
theorem ggX10_drop_X10_isTale : GoodIn wsX10_drop wsX10_isTale := goodIn_r _ [5, 6, 7, 4, 8] (by decide +kernel) (by decide +kernel)
set_option maxRecDepth 20000 in
theorem gX10_drop_X10_isTale : GoodIn wsX10_drop (va_wsS RX10 140 yX10_isTale wsX10_isTale) := goodIn_app (goodIn_of _ (by decide +kernel)) ggX10_drop_X10_isTale
set_option maxRecDepth 20000 in
theorem ggX10_tell_X10_isPerson : GoodIn wsX10_tell wsX10_isPerson := goodIn_r _ [8, 9, 10, 11, 7, 12, 31, 32, 33, 34, 35, 36, 37, 38, 39, 40, 41, 42, 43, 44, 45, 46, 47, 48, 49, 50, 51, 52, 53, 54, 55, 56, 57, 58, 59, 60, 61, 62, 63, 64, 65, 66] (by decide +kernel) (by decide +kernel)
set_option maxRecDepth 20000 in
theorem gX10_tell_X10_isPerson : GoodIn wsX10_tell (wsV RX10 134 RX10 yX10_isPerson wsX10_isPerson) := goodIn_app (goodIn_of _ (by decide +kernel)) ggX10_tell_X10_isPerson
set_option maxRecDepth 20000 in
theorem ggX10_tell_X10_tellsBy : GoodIn wsX10_tell wsX10_tellsBy := goodIn_r _ [16, 17, 18, 19, 7, 20, 21, 22, 23, 24, 25, 26, 27, 28, 29, 30, 31, 32, 33, 34, 35, 36, 37, 38, 39, 40, 41, 42, 43, 44, 45, 46, 47, 48, 49, 50, 51, 52, 53, 54, 55, 56, 57, 58, 59, 60, 61, 62, 63, 64, 65, 66] (by decide +kernel) (by decide +kernel)
set_option maxRecDepth 20000 in
theorem gX10_tell_X10_tellsBy : GoodIn wsX10_tell (wsV RX10 137 RX10 yX10_tellsBy wsX10_tellsBy) := goodIn_app (goodIn_of _ (by decide +kernel)) ggX10_tell_X10_tellsBy
set_option maxRecDepth 20000 in
theorem ggX10_goWeek_X10_begin : GoodIn wsX10_goWeek wsX10_begin := goodIn_r _ [8, 9, 10, 42, 43, 44, 45, 46, 47, 48, 49, 50, 51, 52, 53, 54, 55, 56, 57, 58, 59, 60, 61, 62, 63, 64, 65, 66, 67, 68, 69, 70, 71, 72, 73, 74, 75, 76, 77] (by decide +kernel) (by decide +kernel)
set_option maxRecDepth 20000 in
theorem gX10_goWeek_X10_begin : GoodIn wsX10_goWeek (wsV RX10 143 RX10 yX10_begin wsX10_begin) := goodIn_app (goodIn_of _ (by decide +kernel)) ggX10_goWeek_X10_begin
set_option maxRecDepth 20000 in
theorem ggX10_goWeek_X10_tell : GoodIn wsX10_goWeek wsX10_tell := goodIn_r _ [14, 9, 15, 10, 16, 17, 18, 7, 19, 20, 21, 22, 23, 24, 25, 26, 27, 28, 29, 30, 31, 32, 33, 34, 35, 36, 37, 38, 39, 40, 41, 42, 43, 44, 45, 46, 47, 48, 49, 50, 51, 52, 53, 54, 55, 56, 57, 58, 59, 60, 61, 62, 63, 64, 65, 66, 67, 68, 69, 70, 71, 72, 73, 74, 75, 76, 77] (by decide +kernel) (by decide +kernel)
set_option maxRecDepth 20000 in
theorem gX10_goWeek_X10_tell : GoodIn wsX10_goWeek (wsV RX10 147 RX10 yX10_tell wsX10_tell) := goodIn_app (goodIn_of _ (by decide +kernel)) ggX10_goWeek_X10_tell
set_option maxRecDepth 20000 in
theorem ggX10_goTale_X10_goWeek : GoodIn wsX10_goTale wsX10_goWeek := goodIn_r _ [7, 8, 9, 10, 11, 12, 13, 6, 14, 15, 16, 17, 18, 19, 20, 21, 22, 23, 24, 25, 26, 27, 28, 29, 30, 31, 32, 33, 34, 35, 36, 37, 38, 39, 40, 41, 42, 43, 44, 45, 46, 47, 48, 49, 50, 51, 52, 53, 54, 55, 56, 57, 58, 59, 60, 61, 62, 63, 64, 65, 66, 67, 68, 69, 70, 71, 72, 73, 74, 75, 76, 77, 78, 79, 80, 81, 82, 83] (by decide +kernel) (by decide +kernel)
set_option maxRecDepth 20000 in
theorem gX10_goTale_X10_goWeek : GoodIn wsX10_goTale (wsV RX10 150 RX10 yX10_goWeek wsX10_goWeek) := goodIn_app (goodIn_of _ (by decide +kernel)) ggX10_goTale_X10_goWeek
set_option maxRecDepth 20000 in
theorem ggX10_size_X10_isPerson : GoodIn wsX10_size wsX10_isPerson := goodIn_r _ [6, 7, 8, 9, 5, 10, 55, 56, 57, 58, 59, 60, 61, 62, 63, 64, 65, 66, 67, 68, 69, 70, 71, 72, 73, 74, 75, 76, 77, 78, 79, 80, 81, 82, 83, 84, 85, 86, 87, 88, 89, 90] (by decide +kernel) (by decide +kernel)
set_option maxRecDepth 20000 in
theorem gX10_size_X10_isPerson : GoodIn wsX10_size (wsV RX10 134 RX10 yX10_isPerson wsX10_isPerson) := goodIn_app (goodIn_of _ (by decide +kernel)) ggX10_size_X10_isPerson
set_option maxRecDepth 20000 in
theorem ggX10_size_X10_isTale : GoodIn wsX10_size wsX10_isTale := goodIn_r _ [13, 8, 9, 5, 10] (by decide +kernel) (by decide +kernel)
set_option maxRecDepth 20000 in
theorem gX10_size_X10_isTale : GoodIn wsX10_size (va_wsS RX10 140 yX10_isTale wsX10_isTale) := goodIn_app (goodIn_of _ (by decide +kernel)) ggX10_size_X10_isTale
set_option maxRecDepth 20000 in
theorem ggX10_size_X10_goTale : GoodIn wsX10_size wsX10_goTale := goodIn_r _ [17, 18, 19, 20, 21, 22, 5, 23, 24, 25, 26, 27, 28, 29, 30, 1, 31, 32, 33, 34, 35, 36, 2, 3, 4, 6, 7, 8, 9, 10, 37, 38, 39, 40, 41, 42, 43, 44, 45, 46, 47, 48, 49, 50, 51, 52, 53, 54, 55, 56, 57, 58, 59, 60, 61, 62, 63, 64, 65, 66, 67, 68, 69, 70, 71, 72, 73, 74, 75, 76, 77, 78, 79, 80, 81, 82, 83, 84, 85, 86, 87, 88, 89, 90] (by decide +kernel) (by decide +kernel)
set_option maxRecDepth 20000 in
theorem gX10_size_X10_goTale : GoodIn wsX10_size (wsV RX10 153 RX10 yX10_goTale wsX10_goTale) := goodIn_app (goodIn_of _ (by decide +kernel)) ggX10_size_X10_goTale
set_option maxRecDepth 20000 in
theorem ggX10_from_X10_isPerson : GoodIn wsX10_from wsX10_isPerson := goodIn_r _ [6, 7, 8, 9, 5, 10, 55, 56, 57, 58, 59, 60, 61, 62, 63, 64, 65, 66, 67, 68, 69, 70, 71, 72, 73, 74, 75, 76, 77, 78, 79, 80, 81, 82, 83, 84, 85, 86, 87, 88, 89, 90] (by decide +kernel) (by decide +kernel)
set_option maxRecDepth 20000 in
theorem gX10_from_X10_isPerson : GoodIn wsX10_from (wsV RX10 134 RX10 yX10_isPerson wsX10_isPerson) := goodIn_app (goodIn_of _ (by decide +kernel)) ggX10_from_X10_isPerson
set_option maxRecDepth 20000 in
theorem ggX10_from_X10_isTale : GoodIn wsX10_from wsX10_isTale := goodIn_r _ [13, 8, 9, 5, 10] (by decide +kernel) (by decide +kernel)
set_option maxRecDepth 20000 in
theorem gX10_from_X10_isTale : GoodIn wsX10_from (va_wsS RX10 140 yX10_isTale wsX10_isTale) := goodIn_app (goodIn_of _ (by decide +kernel)) ggX10_from_X10_isTale
set_option maxRecDepth 20000 in
theorem ggX10_from_X10_goTale : GoodIn wsX10_from wsX10_goTale := goodIn_r _ [17, 18, 19, 20, 21, 22, 5, 23, 24, 25, 26, 27, 28, 29, 30, 31, 1, 32, 33, 34, 35, 36, 2, 3, 4, 6, 7, 8, 9, 10, 37, 38, 39, 40, 41, 42, 43, 44, 45, 46, 47, 48, 49, 50, 51, 52, 53, 54, 55, 56, 57, 58, 59, 60, 61, 62, 63, 64, 65, 66, 67, 68, 69, 70, 71, 72, 73, 74, 75, 76, 77, 78, 79, 80, 81, 82, 83, 84, 85, 86, 87, 88, 89, 90] (by decide +kernel) (by decide +kernel)
set_option maxRecDepth 20000 in
theorem gX10_from_X10_goTale : GoodIn wsX10_from (wsV RX10 153 RX10 yX10_goTale wsX10_goTale) := goodIn_app (goodIn_of _ (by decide +kernel)) ggX10_from_X10_goTale
set_option maxRecDepth 20000 in
theorem ggX10_firsts_X10_isTale : GoodIn wsX10_firsts wsX10_isTale := goodIn_r _ [6, 7, 8, 5, 9] (by decide +kernel) (by decide +kernel)
set_option maxRecDepth 20000 in
theorem gX10_firsts_X10_isTale : GoodIn wsX10_firsts (va_wsS RX10 140 yX10_isTale wsX10_isTale) := goodIn_app (goodIn_of _ (by decide +kernel)) ggX10_firsts_X10_isTale
set_option maxRecDepth 20000 in
theorem ggX10_firsts_X10_isPerson : GoodIn wsX10_firsts wsX10_isPerson := goodIn_r _ [13, 14, 7, 8, 5, 9, 53, 54, 55, 56, 57, 58, 59, 60, 61, 62, 63, 64, 65, 66, 67, 68, 69, 70, 71, 72, 73, 74, 75, 76, 77, 78, 79, 80, 81, 82, 83, 84, 85, 86, 87, 88] (by decide +kernel) (by decide +kernel)
set_option maxRecDepth 20000 in
theorem gX10_firsts_X10_isPerson : GoodIn wsX10_firsts (wsV RX10 134 RX10 yX10_isPerson wsX10_isPerson) := goodIn_app (goodIn_of _ (by decide +kernel)) ggX10_firsts_X10_isPerson
set_option maxRecDepth 20000 in
theorem ggX10_firsts_X10_isSize : GoodIn wsX10_firsts wsX10_isSize := goodIn_r _ [17, 7, 8, 5, 9] (by decide +kernel) (by decide +kernel)
set_option maxRecDepth 20000 in
theorem gX10_firsts_X10_isSize : GoodIn wsX10_firsts (va_wsS RX10 124 yX10_isSize wsX10_isSize) := goodIn_app (goodIn_of _ (by decide +kernel)) ggX10_firsts_X10_isSize
set_option maxRecDepth 20000 in
theorem ggX10_firsts_X10_within : GoodIn wsX10_firsts wsX10_within := goodIn_r _ [9] (by decide +kernel) (by decide +kernel)
set_option maxRecDepth 20000 in
theorem gX10_firsts_X10_within : GoodIn wsX10_firsts (va_wsS RX10 87 yX10_within wsX10_within) := goodIn_app (goodIn_of _ (by decide +kernel)) ggX10_firsts_X10_within
set_option maxRecDepth 20000 in
theorem ggX10_firsts_X10_goWeek : GoodIn wsX10_firsts wsX10_goWeek := goodIn_r _ [21, 22, 23, 24, 25, 26, 27, 5, 28, 2, 29, 30, 31, 32, 33, 34, 10, 11, 12, 13, 14, 7, 8, 9, 35, 36, 37, 38, 39, 40, 41, 42, 43, 44, 45, 46, 47, 48, 49, 50, 51, 52, 53, 54, 55, 56, 57, 58, 59, 60, 61, 62, 63, 64, 65, 66, 67, 68, 69, 70, 71, 72, 73, 74, 75, 76, 77, 78, 79, 80, 81, 82, 83, 84, 85, 86, 87, 88] (by decide +kernel) (by decide +kernel)
set_option maxRecDepth 20000 in
theorem gX10_firsts_X10_goWeek : GoodIn wsX10_firsts (wsV RX10 150 RX10 yX10_goWeek wsX10_goWeek) := goodIn_app (goodIn_of _ (by decide +kernel)) ggX10_firsts_X10_goWeek
set_option maxRecDepth 20000 in
theorem ggX10_modest_X10_isTale : GoodIn wsX10_modest wsX10_isTale := goodIn_r _ [8, 9, 10, 7, 11] (by decide +kernel) (by decide +kernel)
set_option maxRecDepth 20000 in
theorem gX10_modest_X10_isTale : GoodIn wsX10_modest (va_wsS RX10 140 yX10_isTale wsX10_isTale) := goodIn_app (goodIn_of _ (by decide +kernel)) ggX10_modest_X10_isTale
set_option maxRecDepth 20000 in
theorem ggX10_modest_X10_isPerson : GoodIn wsX10_modest wsX10_isPerson := goodIn_r _ [15, 2, 9, 10, 7, 11, 58, 59, 60, 61, 62, 63, 64, 65, 66, 67, 68, 69, 70, 71, 72, 73, 74, 75, 76, 77, 78, 79, 80, 81, 82, 83, 84, 85, 86, 87, 88, 89, 90, 91, 92, 93] (by decide +kernel) (by decide +kernel)
set_option maxRecDepth 20000 in
theorem gX10_modest_X10_isPerson : GoodIn wsX10_modest (wsV RX10 134 RX10 yX10_isPerson wsX10_isPerson) := goodIn_app (goodIn_of _ (by decide +kernel)) ggX10_modest_X10_isPerson
set_option maxRecDepth 20000 in
theorem ggX10_modest_X10_isSize : GoodIn wsX10_modest wsX10_isSize := goodIn_r _ [18, 9, 10, 7, 11] (by decide +kernel) (by decide +kernel)
set_option maxRecDepth 20000 in
theorem gX10_modest_X10_isSize : GoodIn wsX10_modest (va_wsS RX10 124 yX10_isSize wsX10_isSize) := goodIn_app (goodIn_of _ (by decide +kernel)) ggX10_modest_X10_isSize
set_option maxRecDepth 20000 in
theorem ggX10_modest_X10_goTale : GoodIn wsX10_modest wsX10_goTale := goodIn_r _ [22, 1, 23, 24, 25, 26, 7, 27, 28, 29, 30, 31, 32, 33, 34, 4, 35, 36, 37, 38, 39, 3, 12, 13, 14, 15, 2, 9, 10, 11, 40, 41, 42, 43, 44, 45, 46, 47, 48, 49, 50, 51, 52, 53, 54, 55, 56, 57, 58, 59, 60, 61, 62, 63, 64, 65, 66, 67, 68, 69, 70, 71, 72, 73, 74, 75, 76, 77, 78, 79, 80, 81, 82, 83, 84, 85, 86, 87, 88, 89, 90, 91, 92, 93] (by decide +kernel) (by decide +kernel)
set_option maxRecDepth 20000 in
theorem gX10_modest_X10_goTale : GoodIn wsX10_modest (wsV RX10 153 RX10 yX10_goTale wsX10_goTale) := goodIn_app (goodIn_of _ (by decide +kernel)) ggX10_modest_X10_goTale
set_option maxRecDepth 20000 in
theorem ggX10_oneNow_X10_goWeek : GoodIn wsX10_oneNow wsX10_goWeek := goodIn_r _ [7, 8, 9, 10, 11, 12, 13, 6, 14, 2, 15, 16, 17, 18, 19, 20, 21, 22, 23, 24, 1, 25, 26, 27, 28, 29, 30, 31, 32, 33, 34, 35, 36, 37, 38, 39, 40, 41, 42, 43, 44, 45, 46, 47, 48, 49, 50, 51, 52, 53, 54, 55, 56, 57, 58, 59, 60, 61, 62, 63, 64, 65, 66, 67, 68, 69, 70, 71, 72, 73, 74, 75, 76, 77, 78, 79, 80, 81] (by decide +kernel) (by decide +kernel)
set_option maxRecDepth 20000 in
theorem gX10_oneNow_X10_goWeek : GoodIn wsX10_oneNow (wsV RX10 150 RX10 yX10_goWeek wsX10_goWeek) := goodIn_app (goodIn_of _ (by decide +kernel)) ggX10_oneNow_X10_goWeek
set_option maxRecDepth 20000 in
theorem ggX10_one_X10_isPerson : GoodIn wsX10_one wsX10_isPerson := goodIn_r _ [5, 6, 7, 8, 4, 9, 53, 54, 55, 56, 57, 58, 59, 60, 61, 62, 63, 64, 65, 66, 67, 68, 69, 70, 71, 72, 73, 74, 75, 76, 77, 78, 79, 80, 81, 82, 83, 84, 85, 86, 87, 88] (by decide +kernel) (by decide +kernel)
set_option maxRecDepth 20000 in
theorem gX10_one_X10_isPerson : GoodIn wsX10_one (wsV RX10 134 RX10 yX10_isPerson wsX10_isPerson) := goodIn_app (goodIn_of _ (by decide +kernel)) ggX10_one_X10_isPerson
set_option maxRecDepth 20000 in
theorem ggX10_one_X10_isSize : GoodIn wsX10_one wsX10_isSize := goodIn_r _ [12, 7, 8, 4, 9] (by decide +kernel) (by decide +kernel)
set_option maxRecDepth 20000 in
theorem gX10_one_X10_isSize : GoodIn wsX10_one (va_wsS RX10 124 yX10_isSize wsX10_isSize) := goodIn_app (goodIn_of _ (by decide +kernel)) ggX10_one_X10_isSize
set_option maxRecDepth 20000 in
theorem ggX10_one_X10_oneNow : GoodIn wsX10_one wsX10_oneNow := goodIn_r _ [16, 6, 17, 18, 19, 20, 4, 21, 22, 23, 24, 25, 26, 27, 28, 29, 30, 31, 32, 33, 34, 1, 2, 3, 5, 7, 8, 9, 35, 36, 37, 38, 39, 40, 41, 42, 43, 44, 45, 46, 47, 48, 49, 50, 51, 52, 53, 54, 55, 56, 57, 58, 59, 60, 61, 62, 63, 64, 65, 66, 67, 68, 69, 70, 71, 72, 73, 74, 75, 76, 77, 78, 79, 80, 81, 82, 83, 84, 85, 86, 87, 88] (by decide +kernel) (by decide +kernel)
set_option maxRecDepth 20000 in
theorem gX10_one_X10_oneNow : GoodIn wsX10_one (wsV RX10 157 RX10 yX10_oneNow wsX10_oneNow) := goodIn_app (goodIn_of _ (by decide +kernel)) ggX10_one_X10_oneNow
set_option maxRecDepth 20000 in
theorem ggX10_greatestClass_X10_goWeek : GoodIn wsX10_greatestClass wsX10_goWeek := goodIn_r _ [7, 8, 9, 10, 11, 12, 13, 6, 14, 2, 15, 16, 17, 18, 19, 20, 21, 22, 23, 24, 25, 26, 27, 28, 29, 30, 31, 32, 33, 34, 35, 36, 37, 38, 39, 40, 41, 42, 43, 44, 45, 46, 47, 48, 49, 50, 51, 52, 53, 54, 55, 56, 57, 58, 59, 60, 61, 62, 63, 64, 65, 66, 67, 68, 69, 70, 71, 72, 73, 74, 75, 76, 77, 78, 79, 80, 81, 82] (by decide +kernel) (by decide +kernel)
set_option maxRecDepth 20000 in
theorem gX10_greatestClass_X10_goWeek : GoodIn wsX10_greatestClass (wsV RX10 150 RX10 yX10_goWeek wsX10_goWeek) := goodIn_app (goodIn_of _ (by decide +kernel)) ggX10_greatestClass_X10_goWeek
set_option maxRecDepth 20000 in
theorem ggX10_askNow_X10_greatestClass : GoodIn wsX10_askNow wsX10_greatestClass := goodIn_r _ [6, 7, 8, 9, 10, 11, 5, 12, 13, 14, 15, 16, 17, 18, 19, 20, 21, 22, 23, 24, 25, 26, 27, 28, 29, 1, 30, 31, 32, 33, 34, 35, 36, 37, 38, 39, 40, 41, 42, 43, 44, 45, 46, 47, 48, 49, 50, 51, 52, 53, 54, 55, 56, 57, 58, 59, 60, 61, 62, 63, 64, 65, 66, 67, 68, 69, 70, 71, 72, 73, 74, 75, 76, 77, 78, 79, 80, 81, 82, 83, 84, 85, 86] (by decide +kernel) (by decide +kernel)
set_option maxRecDepth 20000 in
theorem gX10_askNow_X10_greatestClass : GoodIn wsX10_askNow (wsV RX10 161 RX10 yX10_greatestClass wsX10_greatestClass) := goodIn_app (goodIn_of _ (by decide +kernel)) ggX10_askNow_X10_greatestClass
set_option maxRecDepth 20000 in
theorem ggX10_ask_X10_isPerson : GoodIn wsX10_ask wsX10_isPerson := goodIn_r _ [5, 6, 7, 8, 4, 9, 55, 56, 57, 58, 59, 60, 61, 62, 63, 64, 65, 66, 67, 68, 69, 70, 71, 72, 73, 74, 75, 76, 77, 78, 79, 80, 81, 82, 83, 84, 85, 86, 87, 88, 89, 90] (by decide +kernel) (by decide +kernel)
set_option maxRecDepth 20000 in
theorem gX10_ask_X10_isPerson : GoodIn wsX10_ask (wsV RX10 134 RX10 yX10_isPerson wsX10_isPerson) := goodIn_app (goodIn_of _ (by decide +kernel)) ggX10_ask_X10_isPerson
set_option maxRecDepth 20000 in
theorem ggX10_ask_X10_askNow : GoodIn wsX10_ask wsX10_askNow := goodIn_r _ [13, 6, 14, 15, 16, 4, 17, 18, 19, 20, 21, 22, 23, 24, 25, 26, 27, 28, 29, 30, 31, 32, 33, 34, 35, 36, 1, 2, 3, 5, 7, 8, 9, 37, 38, 39, 40, 41, 42, 43, 44, 45, 46, 47, 48, 49, 50, 51, 52, 53, 54, 55, 56, 57, 58, 59, 60, 61, 62, 63, 64, 65, 66, 67, 68, 69, 70, 71, 72, 73, 74, 75, 76, 77, 78, 79, 80, 81, 82, 83, 84, 85, 86, 87, 88, 89, 90] (by decide +kernel) (by decide +kernel)
set_option maxRecDepth 20000 in
theorem gX10_ask_X10_askNow : GoodIn wsX10_ask (wsV RX10 164 RX10 yX10_askNow wsX10_askNow) := goodIn_app (goodIn_of _ (by decide +kernel)) ggX10_ask_X10_askNow
set_option maxRecDepth 20000 in
theorem ggX10_tellOn_X10_tellsBy : GoodIn wsX10_tellOn wsX10_tellsBy := goodIn_r _ [9, 10, 11, 12, 8, 13, 14, 15, 16, 17, 18, 19, 20, 21, 22, 23, 33, 34, 35, 36, 37, 38, 39, 40, 41, 42, 43, 44, 45, 46, 47, 48, 49, 50, 51, 52, 53, 54, 55, 56, 57, 58, 59, 60, 61, 62, 63, 64, 65, 66, 67, 68] (by decide +kernel) (by decide +kernel)
set_option maxRecDepth 20000 in
theorem gX10_tellOn_X10_tellsBy : GoodIn wsX10_tellOn (wsV RX10 137 RX10 yX10_tellsBy wsX10_tellsBy) := goodIn_app (goodIn_of _ (by decide +kernel)) ggX10_tellOn_X10_tellsBy
set_option maxRecDepth 20000 in
theorem ggX10_tellOn_X10_has : GoodIn wsX10_tellOn wsX10_has := goodIn_r _ [26] (by decide +kernel) (by decide +kernel)
set_option maxRecDepth 20000 in
theorem gX10_tellOn_X10_has : GoodIn wsX10_tellOn (va_wsS RX10 170 yX10_has wsX10_has) := goodIn_app (goodIn_of _ (by decide +kernel)) ggX10_tellOn_X10_has
set_option maxRecDepth 20000 in
theorem ggX10_tellOn_X10_come : GoodIn wsX10_tellOn wsX10_come := goodIn_r _ [30, 4, 31, 32, 33, 34, 35, 36, 37, 38, 39, 40, 41, 42, 43, 44, 45, 46, 47, 48, 49, 50, 51, 52, 53, 54, 55, 56, 57, 58, 59, 60, 61, 62, 63, 64, 65, 66, 67, 68] (by decide +kernel) (by decide +kernel)
set_option maxRecDepth 20000 in
theorem gX10_tellOn_X10_come : GoodIn wsX10_tellOn (wsV RX10 174 RX10 yX10_come wsX10_come) := goodIn_app (goodIn_of _ (by decide +kernel)) ggX10_tellOn_X10_come
set_option maxRecDepth 20000 in
theorem ggX10_chainNow_X10_come : GoodIn wsX10_chainNow wsX10_come := goodIn_r _ [9, 2, 4, 3, 38, 39, 40, 41, 42, 43, 44, 45, 46, 47, 48, 49, 50, 51, 52, 53, 54, 55, 56, 57, 58, 59, 60, 61, 62, 63, 64, 65, 66, 67, 68, 69, 70, 71, 72, 73] (by decide +kernel) (by decide +kernel)
set_option maxRecDepth 20000 in
theorem gX10_chainNow_X10_come : GoodIn wsX10_chainNow (wsV RX10 174 RX10 yX10_come wsX10_come) := goodIn_app (goodIn_of _ (by decide +kernel)) ggX10_chainNow_X10_come
set_option maxRecDepth 20000 in
theorem ggX10_chainNow_X10_tellOn : GoodIn wsX10_chainNow wsX10_tellOn := goodIn_r _ [13, 14, 15, 16, 2, 17, 18, 19, 8, 20, 21, 22, 23, 24, 25, 26, 27, 28, 29, 30, 31, 32, 33, 34, 35, 36, 37, 5, 6, 7, 9, 4, 3, 38, 39, 40, 41, 42, 43, 44, 45, 46, 47, 48, 49, 50, 51, 52, 53, 54, 55, 56, 57, 58, 59, 60, 61, 62, 63, 64, 65, 66, 67, 68, 69, 70, 71, 72, 73] (by decide +kernel) (by decide +kernel)
set_option maxRecDepth 20000 in
theorem gX10_chainNow_X10_tellOn : GoodIn wsX10_chainNow (wsV RX10 178 RX10 yX10_tellOn wsX10_tellOn) := goodIn_app (goodIn_of _ (by decide +kernel)) ggX10_chainNow_X10_tellOn
set_option maxRecDepth 20000 in
theorem ggX10_chain_X10_isPerson : GoodIn wsX10_chain wsX10_isPerson := goodIn_r _ [6, 7, 8, 9, 5, 10, 53, 54, 55, 56, 57, 58, 59, 60, 61, 62, 63, 64, 65, 66, 67, 68, 69, 70, 71, 72, 73, 74, 75, 76, 77, 78, 79, 80, 81, 82, 83, 84, 85, 86, 87, 88] (by decide +kernel) (by decide +kernel)
set_option maxRecDepth 20000 in
theorem gX10_chain_X10_isPerson : GoodIn wsX10_chain (wsV RX10 134 RX10 yX10_isPerson wsX10_isPerson) := goodIn_app (goodIn_of _ (by decide +kernel)) ggX10_chain_X10_isPerson
set_option maxRecDepth 20000 in
theorem ggX10_chain_X10_isSize : GoodIn wsX10_chain wsX10_isSize := goodIn_r _ [13, 8, 9, 5, 10] (by decide +kernel) (by decide +kernel)
set_option maxRecDepth 20000 in
theorem gX10_chain_X10_isSize : GoodIn wsX10_chain (va_wsS RX10 124 yX10_isSize wsX10_isSize) := goodIn_app (goodIn_of _ (by decide +kernel)) ggX10_chain_X10_isSize
set_option maxRecDepth 20000 in
theorem ggX10_chain_X10_within : GoodIn wsX10_chain wsX10_within := goodIn_r _ [10] (by decide +kernel) (by decide +kernel)
set_option maxRecDepth 20000 in
theorem gX10_chain_X10_within : GoodIn wsX10_chain (va_wsS RX10 87 yX10_within wsX10_within) := goodIn_app (goodIn_of _ (by decide +kernel)) ggX10_chain_X10_within
set_option maxRecDepth 20000 in
theorem ggX10_chain_X10_chainNow : GoodIn wsX10_chain wsX10_chainNow := goodIn_r _ [17, 18, 19, 20, 21, 22, 23, 24, 5, 25, 26, 27, 28, 29, 30, 7, 31, 32, 33, 34, 35, 36, 37, 38, 39, 40, 41, 42, 43, 44, 45, 46, 47, 48, 49, 50, 51, 52, 53, 54, 55, 56, 57, 58, 59, 60, 61, 62, 63, 64, 65, 66, 67, 68, 69, 70, 71, 72, 73, 74, 75, 76, 77, 78, 79, 80, 81, 82, 83, 84, 85, 86, 87, 88] (by decide +kernel) (by decide +kernel)
set_option maxRecDepth 20000 in
theorem gX10_chain_X10_chainNow : GoodIn wsX10_chain (wsV RX10 185 RX10 yX10_chainNow wsX10_chainNow) := goodIn_app (goodIn_of _ (by decide +kernel)) ggX10_chain_X10_chainNow
set_option maxRecDepth 20000 in
theorem ggX10_chanceNow_X10_power : GoodIn wsX10_chanceNow wsX10_power := goodIn_r _ [4] (by decide +kernel) (by decide +kernel)
set_option maxRecDepth 20000 in
theorem gX10_chanceNow_X10_power : GoodIn wsX10_chanceNow (va_wsS RX10 189 yX10_power wsX10_power) := goodIn_app (goodIn_of _ (by decide +kernel)) ggX10_chanceNow_X10_power
set_option maxRecDepth 20000 in
theorem ggX10_chanceNow_X10_grownBy : GoodIn wsX10_chanceNow wsX10_grownBy := goodIn_r _ [8, 9, 10, 11, 12, 3, 13, 14, 15, 16, 17, 18, 19, 20, 21, 22, 23, 24, 25, 26, 27, 28, 29, 30, 31, 32, 33, 34, 35, 36, 37, 38, 39, 40, 41, 42, 43, 44, 45, 46, 47, 48, 49, 50, 51, 52, 53, 54] (by decide +kernel) (by decide +kernel)
set_option maxRecDepth 20000 in
theorem gX10_chanceNow_X10_grownBy : GoodIn wsX10_chanceNow (wsV RX10 128 RX10 yX10_grownBy wsX10_grownBy) := goodIn_app (goodIn_of _ (by decide +kernel)) ggX10_chanceNow_X10_grownBy
set_option maxRecDepth 20000 in
theorem ggX10_chance_X10_within : GoodIn wsX10_chance wsX10_within := goodIn_r _ [5] (by decide +kernel) (by decide +kernel)
set_option maxRecDepth 20000 in
theorem gX10_chance_X10_within : GoodIn wsX10_chance (va_wsS RX10 87 yX10_within wsX10_within) := goodIn_app (goodIn_of _ (by decide +kernel)) ggX10_chance_X10_within
set_option maxRecDepth 20000 in
theorem ggX10_chance_X10_isSize : GoodIn wsX10_chance wsX10_isSize := goodIn_r _ [8, 2, 3, 4, 5] (by decide +kernel) (by decide +kernel)
set_option maxRecDepth 20000 in
theorem gX10_chance_X10_isSize : GoodIn wsX10_chance (va_wsS RX10 124 yX10_isSize wsX10_isSize) := goodIn_app (goodIn_of _ (by decide +kernel)) ggX10_chance_X10_isSize
set_option maxRecDepth 20000 in
theorem ggX10_chance_X10_chanceNow : GoodIn wsX10_chance wsX10_chanceNow := goodIn_r _ [12, 13, 14, 4, 15, 16, 17, 18, 19, 20, 21, 22, 23, 24, 25, 26, 27, 28, 29, 33, 34, 35, 36, 37, 38, 39, 40, 41, 42, 43, 44, 45, 46, 47, 48, 49, 50, 51, 52, 53, 54, 55, 56, 57, 58, 59, 60, 61, 62, 63, 64, 65, 66, 67, 68] (by decide +kernel) (by decide +kernel)
set_option maxRecDepth 20000 in
theorem gX10_chance_X10_chanceNow : GoodIn wsX10_chance (wsV RX10 195 RX10 yX10_chanceNow wsX10_chanceNow) := goodIn_app (goodIn_of _ (by decide +kernel)) ggX10_chance_X10_chanceNow
set_option maxRecDepth 20000 in
theorem ggX10_chance_X10_power : GoodIn wsX10_chance wsX10_power := goodIn_r _ [15] (by decide +kernel) (by decide +kernel)
set_option maxRecDepth 20000 in
theorem gX10_chance_X10_power : GoodIn wsX10_chance (va_wsS RX10 189 yX10_power wsX10_power) := goodIn_app (goodIn_of _ (by decide +kernel)) ggX10_chance_X10_power
set_option maxRecDepth 20000 in
theorem ggX10_chance_X10_lowest : GoodIn wsX10_chance wsX10_lowest := goodIn_r _ [32] (by decide +kernel) (by decide +kernel)
set_option maxRecDepth 20000 in
theorem gX10_chance_X10_lowest : GoodIn wsX10_chance (va_wsS RX10 199 yX10_lowest wsX10_lowest) := goodIn_app (goodIn_of _ (by decide +kernel)) ggX10_chance_X10_lowest
set_option maxRecDepth 20000 in
theorem ggX10_likeliestNow_X10_chanceNow : GoodIn wsX10_likeliestNow wsX10_chanceNow := goodIn_r _ [5, 6, 7, 4, 8, 9, 10, 11, 12, 13, 14, 15, 16, 17, 18, 19, 20, 21, 22, 23, 24, 25, 26, 27, 28, 29, 30, 31, 32, 33, 34, 35, 36, 37, 38, 39, 40, 41, 42, 43, 44, 45, 46, 47, 48, 49, 50, 51, 52, 53, 54, 55, 56, 57, 58] (by decide +kernel) (by decide +kernel)
set_option maxRecDepth 20000 in
theorem gX10_likeliestNow_X10_chanceNow : GoodIn wsX10_likeliestNow (wsV RX10 195 RX10 yX10_chanceNow wsX10_chanceNow) := goodIn_app (goodIn_of _ (by decide +kernel)) ggX10_likeliestNow_X10_chanceNow
set_option maxRecDepth 20000 in
theorem ggX10_likeliest_X10_within : GoodIn wsX10_likeliest wsX10_within := goodIn_r _ [4] (by decide +kernel) (by decide +kernel)
set_option maxRecDepth 20000 in
theorem gX10_likeliest_X10_within : GoodIn wsX10_likeliest (va_wsS RX10 87 yX10_within wsX10_within) := goodIn_app (goodIn_of _ (by decide +kernel)) ggX10_likeliest_X10_within
set_option maxRecDepth 20000 in
theorem ggX10_likeliest_X10_isSize : GoodIn wsX10_likeliest wsX10_isSize := goodIn_r _ [7, 1, 2, 3, 4] (by decide +kernel) (by decide +kernel)
set_option maxRecDepth 20000 in
theorem gX10_likeliest_X10_isSize : GoodIn wsX10_likeliest (va_wsS RX10 124 yX10_isSize wsX10_isSize) := goodIn_app (goodIn_of _ (by decide +kernel)) ggX10_likeliest_X10_isSize
set_option maxRecDepth 20000 in
theorem ggX10_likeliest_X10_likeliestNow : GoodIn wsX10_likeliest wsX10_likeliestNow := goodIn_r _ [11, 12, 13, 14, 3, 15, 16, 17, 18, 19, 20, 21, 22, 23, 24, 25, 26, 27, 28, 29, 30, 31, 32, 33, 34, 35, 36, 37, 38, 39, 40, 41, 42, 43, 44, 45, 46, 47, 48, 49, 50, 51, 52, 53, 54, 55, 56, 57, 58, 59, 60, 61, 62, 63, 64, 65, 66, 67, 68] (by decide +kernel) (by decide +kernel)
set_option maxRecDepth 20000 in
theorem gX10_likeliest_X10_likeliestNow : GoodIn wsX10_likeliest (wsV RX10 203 RX10 yX10_likeliestNow wsX10_likeliestNow) := goodIn_app (goodIn_of _ (by decide +kernel)) ggX10_likeliest_X10_likeliestNow
set_option maxRecDepth 20000 in
theorem ggX10_gossipNow_X10_begin : GoodIn wsX10_gossipNow wsX10_begin := goodIn_r _ [10, 5, 11, 50, 51, 52, 53, 54, 55, 56, 57, 58, 59, 60, 61, 62, 63, 64, 65, 66, 67, 68, 69, 70, 71, 72, 73, 74, 75, 76, 77, 78, 79, 80, 81, 82, 83, 84, 85] (by decide +kernel) (by decide +kernel)
set_option maxRecDepth 20000 in
theorem gX10_gossipNow_X10_begin : GoodIn wsX10_gossipNow (wsV RX10 143 RX10 yX10_begin wsX10_begin) := goodIn_app (goodIn_of _ (by decide +kernel)) ggX10_gossipNow_X10_begin
set_option maxRecDepth 20000 in
theorem ggX10_gossipNow_X10_draw : GoodIn wsX10_gossipNow wsX10_draw := goodIn_r _ [15, 16, 1, 17, 18, 19, 50, 51, 52, 53, 54, 55, 56, 57, 58, 59, 60, 61, 62, 63, 64, 65, 66, 67, 68, 69, 70, 71, 72, 73, 74, 75, 76, 77, 78, 79, 80, 81, 82, 83, 84, 85] (by decide +kernel) (by decide +kernel)
set_option maxRecDepth 20000 in
theorem gX10_gossipNow_X10_draw : GoodIn wsX10_gossipNow (wsV RX10 219 RX10 yX10_draw wsX10_draw) := goodIn_app (goodIn_of _ (by decide +kernel)) ggX10_gossipNow_X10_draw
set_option maxRecDepth 20000 in
theorem ggX10_gossipNow_X10_tell : GoodIn wsX10_gossipNow wsX10_tell := goodIn_r _ [23, 5, 24, 11, 25, 26, 27, 9, 28, 4, 29, 30, 31, 32, 33, 34, 35, 36, 37, 38, 39, 40, 41, 42, 43, 44, 45, 46, 47, 48, 49, 50, 51, 52, 53, 54, 55, 56, 57, 58, 59, 60, 61, 62, 63, 64, 65, 66, 67, 68, 69, 70, 71, 72, 73, 74, 75, 76, 77, 78, 79, 80, 81, 82, 83, 84, 85] (by decide +kernel) (by decide +kernel)
set_option maxRecDepth 20000 in
theorem gX10_gossipNow_X10_tell : GoodIn wsX10_gossipNow (wsV RX10 147 RX10 yX10_tell wsX10_tell) := goodIn_app (goodIn_of _ (by decide +kernel)) ggX10_gossipNow_X10_tell
set_option maxRecDepth 20000 in
theorem ggX10_gossip_X10_within : GoodIn wsX10_gossip wsX10_within := goodIn_r _ [5] (by decide +kernel) (by decide +kernel)
set_option maxRecDepth 20000 in
theorem gX10_gossip_X10_within : GoodIn wsX10_gossip (va_wsS RX10 87 yX10_within wsX10_within) := goodIn_app (goodIn_of _ (by decide +kernel)) ggX10_gossip_X10_within
set_option maxRecDepth 20000 in
theorem ggX10_gossip_X10_gossipNow : GoodIn wsX10_gossip wsX10_gossipNow := goodIn_r _ [9, 10, 11, 12, 1, 13, 14, 15, 16, 4, 17, 18, 19, 20, 21, 22, 23, 24, 25, 26, 27, 28, 29, 30, 31, 32, 33, 34, 35, 2, 3, 5, 36, 37, 38, 39, 40, 41, 42, 43, 44, 45, 46, 47, 48, 49, 50, 51, 52, 53, 54, 55, 56, 57, 58, 59, 60, 61, 62, 63, 64, 65, 66, 67, 68, 69, 70, 71, 72, 73, 74, 75, 76, 77, 78, 79, 80, 81, 82, 83, 84, 85, 86, 87, 88, 89] (by decide +kernel) (by decide +kernel)
set_option maxRecDepth 20000 in
theorem gX10_gossip_X10_gossipNow : GoodIn wsX10_gossip (wsV RX10 222 RX10 yX10_gossipNow wsX10_gossipNow) := goodIn_app (goodIn_of _ (by decide +kernel)) ggX10_gossip_X10_gossipNow
set_option maxRecDepth 20000 in
theorem ggX10_howMany_X10_seenMany : GoodIn wsX10_howMany wsX10_seenMany := goodIn_r _ [12, 13, 14, 15, 16, 17, 18, 19, 20, 21, 22, 23, 24, 25, 26, 27, 28, 29, 30, 31, 32, 33, 34, 35, 36, 37, 38, 39, 40, 41, 42, 43, 44, 45, 46, 47, 48, 49] (by decide +kernel) (by decide +kernel)
set_option maxRecDepth 20000 in
theorem gX10_howMany_X10_seenMany : GoodIn wsX10_howMany (wsV RX10 231 RX10 yX10_seenMany wsX10_seenMany) := goodIn_app (goodIn_of _ (by decide +kernel)) ggX10_howMany_X10_seenMany
set_option maxRecDepth 20000 in
theorem ggX10_count_X10_howMany : GoodIn wsX10_count wsX10_howMany := goodIn_r _ [5, 6, 7, 8, 9, 10, 11, 12, 13, 14, 15, 4, 16, 17, 18, 19, 20, 21, 22, 23, 24, 25, 26, 27, 28, 29, 30, 31, 32, 33, 34, 35, 36, 37, 38, 39, 40, 41, 42, 43, 44, 45, 46, 47, 48, 49, 50, 51, 52, 53] (by decide +kernel) (by decide +kernel)
set_option maxRecDepth 20000 in
theorem gX10_count_X10_howMany : GoodIn wsX10_count (wsV RX10 235 RX10 yX10_howMany wsX10_howMany) := goodIn_app (goodIn_of _ (by decide +kernel)) ggX10_count_X10_howMany
set_option maxRecDepth 20000 in
theorem ggX10_mixPerson_X10_mix : GoodIn wsX10_mixPerson wsX10_mix := goodIn_r _ [8, 9, 10, 58, 59, 60, 61, 62, 63, 64, 65, 66, 67, 68, 69, 70, 71, 72, 73, 74, 75, 76, 77, 78, 79, 80, 81, 82, 83, 84, 85, 86, 87, 88, 89, 90, 91, 92, 93] (by decide +kernel) (by decide +kernel)
set_option maxRecDepth 20000 in
theorem gX10_mixPerson_X10_mix : GoodIn wsX10_mixPerson (wsV RX10 243 RX10 yX10_mix wsX10_mix) := goodIn_app (goodIn_of _ (by decide +kernel)) ggX10_mixPerson_X10_mix
set_option maxRecDepth 20000 in
theorem ggX10_mixPerson_X10_tellsBy : GoodIn wsX10_mixPerson wsX10_tellsBy := goodIn_r _ [14, 15, 16, 17, 7, 18, 19, 20, 21, 22, 23, 24, 25, 26, 27, 28, 58, 59, 60, 61, 62, 63, 64, 65, 66, 67, 68, 69, 70, 71, 72, 73, 74, 75, 76, 77, 78, 79, 80, 81, 82, 83, 84, 85, 86, 87, 88, 89, 90, 91, 92, 93] (by decide +kernel) (by decide +kernel)
set_option maxRecDepth 20000 in
theorem gX10_mixPerson_X10_tellsBy : GoodIn wsX10_mixPerson (wsV RX10 137 RX10 yX10_tellsBy wsX10_tellsBy) := goodIn_app (goodIn_of _ (by decide +kernel)) ggX10_mixPerson_X10_tellsBy
set_option maxRecDepth 20000 in
theorem ggX10_mixPerson_X10_goTale : GoodIn wsX10_mixPerson wsX10_goTale := goodIn_r _ [32, 33, 34, 35, 36, 37, 7, 38, 39, 40, 41, 42, 43, 44, 45, 2, 3, 46, 47, 48, 49, 1, 50, 51, 52, 53, 54, 55, 56, 57, 11, 12, 13, 14, 15, 16, 17, 18, 19, 20, 21, 22, 23, 24, 25, 26, 27, 28, 58, 59, 60, 61, 62, 63, 64, 65, 66, 67, 68, 69, 70, 71, 72, 73, 74, 75, 76, 77, 78, 79, 80, 81, 82, 83, 84, 85, 86, 87, 88, 89, 90, 91, 92, 93] (by decide +kernel) (by decide +kernel)
set_option maxRecDepth 20000 in
theorem gX10_mixPerson_X10_goTale : GoodIn wsX10_mixPerson (wsV RX10 153 RX10 yX10_goTale wsX10_goTale) := goodIn_app (goodIn_of _ (by decide +kernel)) ggX10_mixPerson_X10_goTale
set_option maxRecDepth 20000 in
theorem ggX10_digest_X10_grownBy : GoodIn wsX10_digest wsX10_grownBy := goodIn_r _ [13, 14, 15, 16, 17, 12, 18, 19, 20, 21, 22, 23, 100, 101, 102, 103, 104, 105, 106, 107, 108, 109, 110, 111, 112, 113, 114, 115, 116, 117, 118, 119, 120, 121, 122, 123, 124, 125, 126, 127, 128, 129, 130, 131, 132, 133, 134, 135] (by decide +kernel) (by decide +kernel)
set_option maxRecDepth 20000 in
theorem gX10_digest_X10_grownBy : GoodIn wsX10_digest (wsV RX10 128 RX10 yX10_grownBy wsX10_grownBy) := goodIn_app (goodIn_of _ (by decide +kernel)) ggX10_digest_X10_grownBy
set_option maxRecDepth 20000 in
theorem ggX10_digest_X10_mix : GoodIn wsX10_digest wsX10_mix := goodIn_r _ [27, 28, 2, 100, 101, 102, 103, 104, 105, 106, 107, 108, 109, 110, 111, 112, 113, 114, 115, 116, 117, 118, 119, 120, 121, 122, 123, 124, 125, 126, 127, 128, 129, 130, 131, 132, 133, 134, 135] (by decide +kernel) (by decide +kernel)
set_option maxRecDepth 20000 in
theorem gX10_digest_X10_mix : GoodIn wsX10_digest (wsV RX10 243 RX10 yX10_mix wsX10_mix) := goodIn_app (goodIn_of _ (by decide +kernel)) ggX10_digest_X10_mix
set_option maxRecDepth 20000 in
theorem ggX10_digest_X10_mixPerson : GoodIn wsX10_digest wsX10_mixPerson := goodIn_r _ [32, 33, 34, 35, 24, 25, 26, 12, 27, 28, 2, 36, 37, 38, 39, 9, 10, 11, 13, 14, 15, 16, 17, 18, 19, 20, 21, 22, 23, 40, 41, 42, 43, 44, 45, 46, 47, 48, 49, 3, 4, 5, 50, 51, 52, 53, 54, 55, 56, 57, 58, 59, 60, 61, 6, 62, 63, 64, 100, 101, 102, 103, 104, 105, 106, 107, 108, 109, 110, 111, 112, 113, 114, 115, 116, 117, 118, 119, 120, 121, 122, 123, 124, 125, 126, 127, 128, 129, 130, 131, 132, 133, 134, 135] (by decide +kernel) (by decide +kernel)
set_option maxRecDepth 20000 in
theorem gX10_digest_X10_mixPerson : GoodIn wsX10_digest (wsV RX10 249 RX10 yX10_mixPerson wsX10_mixPerson) := goodIn_app (goodIn_of _ (by decide +kernel)) ggX10_digest_X10_mixPerson
set_option maxRecDepth 20000 in
theorem ggX10_digest_X10_oneNow : GoodIn wsX10_digest wsX10_oneNow := goodIn_r _ [68, 6, 34, 46, 47, 48, 12, 49, 3, 4, 5, 50, 51, 52, 53, 35, 54, 55, 56, 57, 33, 58, 59, 60, 61, 62, 63, 64, 36, 37, 38, 39, 9, 10, 11, 13, 14, 15, 16, 17, 18, 19, 20, 21, 22, 23, 100, 101, 102, 103, 104, 105, 106, 107, 108, 109, 110, 111, 112, 113, 114, 115, 116, 117, 118, 119, 120, 121, 122, 123, 124, 125, 126, 127, 128, 129, 130, 131, 132, 133, 134, 135] (by decide +kernel) (by decide +kernel)
set_option maxRecDepth 20000 in
theorem gX10_digest_X10_oneNow : GoodIn wsX10_digest (wsV RX10 157 RX10 yX10_oneNow wsX10_oneNow) := goodIn_app (goodIn_of _ (by decide +kernel)) ggX10_digest_X10_oneNow
set_option maxRecDepth 20000 in
theorem ggX10_digest_X10_askNow : GoodIn wsX10_digest wsX10_askNow := goodIn_r _ [72, 6, 73, 74, 75, 12, 76, 77, 34, 46, 47, 48, 49, 3, 4, 5, 50, 51, 52, 53, 35, 54, 55, 56, 57, 33, 58, 59, 60, 61, 62, 63, 64, 36, 37, 38, 39, 9, 10, 11, 13, 14, 15, 16, 17, 18, 19, 20, 21, 22, 23, 100, 101, 102, 103, 104, 105, 106, 107, 108, 109, 110, 111, 112, 113, 114, 115, 116, 117, 118, 119, 120, 121, 122, 123, 124, 125, 126, 127, 128, 129, 130, 131, 132, 133, 134, 135] (by decide +kernel) (by decide +kernel)
set_option maxRecDepth 20000 in
theorem gX10_digest_X10_askNow : GoodIn wsX10_digest (wsV RX10 164 RX10 yX10_askNow wsX10_askNow) := goodIn_app (goodIn_of _ (by decide +kernel)) ggX10_digest_X10_askNow
set_option maxRecDepth 20000 in
theorem ggX10_digest_X10_likeliestNow : GoodIn wsX10_digest wsX10_likeliestNow := goodIn_r _ [81, 82, 83, 84, 12, 85, 86, 87, 88, 9, 10, 11, 13, 14, 15, 16, 17, 18, 19, 20, 21, 22, 23, 100, 101, 102, 103, 104, 105, 106, 107, 108, 109, 110, 111, 112, 113, 114, 115, 116, 117, 118, 119, 120, 121, 122, 123, 124, 125, 126, 127, 128, 129, 130, 131, 132, 133, 134, 135] (by decide +kernel) (by decide +kernel)
set_option maxRecDepth 20000 in
theorem gX10_digest_X10_likeliestNow : GoodIn wsX10_digest (wsV RX10 203 RX10 yX10_likeliestNow wsX10_likeliestNow) := goodIn_app (goodIn_of _ (by decide +kernel)) ggX10_digest_X10_likeliestNow
set_option maxRecDepth 20000 in
theorem ggX10_digest_X10_howMany : GoodIn wsX10_digest wsX10_howMany := goodIn_r _ [92, 6, 14, 3, 7, 93, 94, 95, 96, 97, 98, 12, 99, 44, 100, 101, 102, 103, 104, 105, 106, 107, 108, 109, 110, 111, 112, 113, 114, 115, 116, 117, 118, 119, 120, 121, 122, 123, 124, 125, 126, 127, 128, 129, 130, 131, 132, 133, 134, 135] (by decide +kernel) (by decide +kernel)
set_option maxRecDepth 20000 in
theorem gX10_digest_X10_howMany : GoodIn wsX10_digest (wsV RX10 235 RX10 yX10_howMany wsX10_howMany) := goodIn_app (goodIn_of _ (by decide +kernel)) ggX10_digest_X10_howMany
