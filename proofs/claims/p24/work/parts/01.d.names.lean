set_option maxRecDepth 20000 in
theorem ggX3_count_X2_states : GoodIn wsX3_count wsX2_states := goodIn_r _ [8, 9, 107, 108, 109] rfl (by decide +kernel)
set_option maxRecDepth 20000 in
theorem gX3_count_X2_states : GoodIn wsX3_count (wsV RX3 108 RX2 yX2_states wsX2_states) := goodIn_app (goodIn_of _ (by decide +kernel)) ggX3_count_X2_states
set_option maxRecDepth 20000 in
theorem ggX3_count_X0_length : GoodIn wsX3_count wsX0_length := goodIn_r _ [14, 15, 110, 111, 112, 113, 114, 115] rfl (by decide +kernel)
set_option maxRecDepth 20000 in
theorem gX3_count_X0_length : GoodIn wsX3_count (wsV RX3 139 RX0 yX0_length wsX0_length) := goodIn_app (goodIn_of _ (by decide +kernel)) ggX3_count_X0_length
set_option maxRecDepth 20000 in
theorem ggX3_count_X1_tellWhole : GoodIn wsX3_count wsX1_tellWhole := goodIn_r _ [20, 21, 22, 23, 24, 25, 26, 27, 28, 29, 30, 19, 31, 32, 33, 34, 35, 36, 37, 38, 39, 40, 41, 42, 43, 44, 45, 46, 47, 48, 49, 50, 51, 52, 53, 54, 55, 56, 57, 58, 59, 60, 61, 62, 63, 64, 65, 66, 67, 68, 69, 70, 71, 72, 73, 74, 75, 76, 77, 78, 79, 80, 81, 82, 83, 84, 85, 86, 87, 88, 89, 90, 91, 92, 93, 94, 95, 96, 97, 98, 99, 100, 116, 117, 118, 119, 120, 121, 122, 123, 124, 125, 126, 127, 128, 129, 130] rfl (by decide +kernel)
set_option maxRecDepth 20000 in
theorem gX3_count_X1_tellWhole : GoodIn wsX3_count (wsV RX3 142 RX1 yX1_tellWhole wsX1_tellWhole) := goodIn_app (goodIn_of _ (by decide +kernel)) ggX3_count_X1_tellWhole
set_option maxRecDepth 20000 in
theorem ggX3_startTrial_X1_takeOver : GoodIn wsX3_startTrial wsX1_takeOver := goodIn_r _ [7, 8, 9, 10, 11, 12, 13, 14, 15, 16, 17, 18, 19, 20, 21, 22, 23, 24, 25, 26, 33, 34, 35, 36, 37, 38, 39, 40, 41, 42, 43, 44, 45, 46, 47] rfl (by decide +kernel)
set_option maxRecDepth 20000 in
theorem gX3_startTrial_X1_takeOver : GoodIn wsX3_startTrial (wsV RX3 115 RX1 yX1_takeOver wsX1_takeOver) := goodIn_app (goodIn_of _ (by decide +kernel)) ggX3_startTrial_X1_takeOver
set_option maxRecDepth 20000 in
theorem ggX3_settle_X2_record : GoodIn wsX3_settle wsX2_record := goodIn_r _ [8, 9, 10, 11, 12, 13, 14, 15, 16, 17, 18, 19, 20, 21, 22, 23, 24, 25, 26, 27, 28, 29, 30, 31, 32, 33, 34, 35, 43, 44, 45, 46, 47, 48, 49, 50, 51, 52, 53, 54, 55, 56, 57, 58, 59, 60] rfl (by decide +kernel)
set_option maxRecDepth 20000 in
theorem gX3_settle_X2_record : GoodIn wsX3_settle (wsV RX3 145 RX2 yX2_record wsX2_record) := goodIn_app (goodIn_of _ (by decide +kernel)) ggX3_settle_X2_record
set_option maxRecDepth 20000 in
theorem ggX3_settle_X1_takeOver : GoodIn wsX3_settle wsX1_takeOver := goodIn_r _ [16, 17, 18, 19, 20, 21, 22, 23, 24, 25, 26, 27, 28, 29, 30, 31, 32, 33, 34, 35, 46, 47, 48, 49, 50, 51, 52, 53, 54, 55, 56, 57, 58, 59, 60] rfl (by decide +kernel)
set_option maxRecDepth 20000 in
theorem gX3_settle_X1_takeOver : GoodIn wsX3_settle (wsV RX3 115 RX1 yX1_takeOver wsX1_takeOver) := goodIn_app (goodIn_of _ (by decide +kernel)) ggX3_settle_X1_takeOver
set_option maxRecDepth 20000 in
theorem ggX3_stepsBetween_X3_placeOf : GoodIn wsX3_stepsBetween wsX3_placeOf := goodIn_r _ [8] rfl (by decide +kernel)
set_option maxRecDepth 20000 in
theorem gX3_stepsBetween_X3_placeOf : GoodIn wsX3_stepsBetween (va_wsS RX3 148 yX3_placeOf wsX3_placeOf) := goodIn_app (goodIn_of _ (by decide +kernel)) ggX3_stepsBetween_X3_placeOf
set_option maxRecDepth 20000 in
theorem ggX3_stepsBetween_X3_headOf : GoodIn wsX3_stepsBetween wsX3_headOf := goodIn_r _ [11] rfl (by decide +kernel)
set_option maxRecDepth 20000 in
theorem gX3_stepsBetween_X3_headOf : GoodIn wsX3_stepsBetween (va_wsS RX3 156 yX3_headOf wsX3_headOf) := goodIn_app (goodIn_of _ (by decide +kernel)) ggX3_stepsBetween_X3_headOf
set_option maxRecDepth 20000 in
theorem ggL_digest_X3_count : GoodIn wsL_digest wsX3_count := goodIn_r _ [9, 10, 11, 12, 13, 14, 15, 16, 17, 18, 19, 20, 21, 22, 23, 24, 25, 26, 27, 28, 29, 30, 31, 32, 33, 34, 35, 36, 37, 38, 39, 40, 41, 42, 43, 44, 45, 46, 47, 48, 49, 50, 51, 52, 53, 54, 55, 56, 57, 58, 8, 59, 60, 61, 62, 63, 64, 65, 66, 67, 68, 69, 70, 71, 72, 73, 74, 75, 76, 77, 78, 79, 80, 81, 82, 83, 84, 85, 86, 87, 88, 89, 90, 91, 92, 93, 94, 95, 96, 97, 98, 99, 100, 101, 102, 103, 104, 105, 106, 107, 108, 157, 158, 159, 160, 161, 162, 163, 164, 165, 166, 167, 168, 169, 170, 171, 172, 173, 174, 175, 176, 177, 178, 179, 180, 181, 182, 183, 184, 185, 186] rfl (by decide +kernel)
set_option maxRecDepth 20000 in
theorem gL_digest_X3_count : GoodIn wsL_digest (wsV RL 13 RX3 yX3_count wsX3_count) := goodIn_app (goodIn_of _ (by decide +kernel)) ggL_digest_X3_count
set_option maxRecDepth 20000 in
theorem ggL_digest_X3_sector : GoodIn wsL_digest wsX3_sector := goodIn_r _ [112, 12, 113, 103, 8, 104, 114, 115, 116, 28, 117, 66, 48, 87, 88, 89, 90, 62, 63, 64, 65, 30, 91, 92, 93, 94, 99, 100, 101, 102, 46, 60, 61, 58, 59, 54, 55, 56, 57, 47, 157, 158, 159, 160, 161, 162, 172, 173, 174, 175, 176, 177, 178, 179, 180, 181, 182, 183, 184, 185, 186] rfl (by decide +kernel)
set_option maxRecDepth 20000 in
theorem gL_digest_X3_sector : GoodIn wsL_digest (wsV RL 21 RX3 yX3_sector wsX3_sector) := goodIn_app (goodIn_of _ (by decide +kernel)) ggL_digest_X3_sector
set_option maxRecDepth 20000 in
theorem ggL_digest_X3_address : GoodIn wsL_digest wsX3_address := goodIn_r _ [121, 12, 122, 100, 101, 28, 102, 46, 103, 8, 104, 60, 61, 58, 59, 123, 124, 125, 126, 127, 49, 128, 75, 76, 77, 78, 105, 106, 107, 108, 129, 130, 131, 132, 133, 134, 135, 136, 54, 55, 56, 57, 48, 47, 62, 63, 64, 65, 66, 30, 50, 51, 52, 53, 137, 138, 139, 140, 31, 141, 142, 143, 144, 145, 146, 147, 148, 157, 158, 159, 160, 161, 162, 172, 173, 174, 175, 176, 177, 178, 179, 180, 181, 182, 183, 184, 185, 186] rfl (by decide +kernel)
set_option maxRecDepth 20000 in
theorem gL_digest_X3_address : GoodIn wsL_digest (wsV RL 27 RX3 yX3_address wsX3_address) := goodIn_app (goodIn_of _ (by decide +kernel)) ggL_digest_X3_address
set_option maxRecDepth 20000 in
theorem ggL_digest_X3_head : GoodIn wsL_digest wsX3_head := goodIn_r _ [152, 12, 153, 154, 8, 155, 156, 42, 43, 28, 44, 45, 46, 47, 48, 49, 50, 51, 52, 53, 54, 55, 56, 57, 58, 59, 60, 61, 62, 63, 64, 65, 66, 30, 67, 68, 69, 70, 71, 72, 73, 74, 75, 76, 77, 78, 79, 80, 81, 82, 83, 84, 85, 86, 87, 88, 89, 90, 91, 92, 93, 94, 157, 158, 159, 160, 161, 162, 172, 173, 174, 175, 176, 177, 178, 179, 180, 181, 182, 183, 184, 185, 186] rfl (by decide +kernel)
set_option maxRecDepth 20000 in
theorem gL_digest_X3_head : GoodIn wsL_digest (wsV RL 30 RX3 yX3_head wsX3_head) := goodIn_app (goodIn_of _ (by decide +kernel)) ggL_digest_X3_head
set_option maxRecDepth 20000 in
theorem ggL_sectors_X3_count : GoodIn wsL_sectors wsX3_count := goodIn_r _ [5, 6, 7, 8, 9, 10, 11, 12, 13, 14, 15, 16, 17, 18, 19, 20, 21, 22, 23, 24, 25, 26, 27, 28, 29, 30, 31, 32, 33, 34, 35, 36, 37, 38, 39, 40, 41, 42, 43, 44, 45, 46, 47, 48, 49, 50, 51, 52, 53, 54, 4, 55, 56, 57, 58, 59, 60, 61, 62, 63, 64, 65, 66, 67, 68, 69, 70, 71, 72, 73, 74, 75, 76, 77, 78, 79, 80, 81, 82, 83, 84, 85, 86, 87, 88, 89, 90, 91, 92, 93, 94, 95, 96, 97, 98, 99, 100, 101, 102, 103, 104, 153, 154, 155, 156, 157, 158, 159, 160, 161, 162, 163, 164, 165, 166, 167, 168, 169, 170, 171, 172, 173, 174, 175, 176, 177, 178, 179, 180, 181, 182] rfl (by decide +kernel)
set_option maxRecDepth 20000 in
theorem gL_sectors_X3_count : GoodIn wsL_sectors (wsV RL 13 RX3 yX3_count wsX3_count) := goodIn_app (goodIn_of _ (by decide +kernel)) ggL_sectors_X3_count
set_option maxRecDepth 20000 in
theorem ggL_sectors_X3_sector : GoodIn wsL_sectors wsX3_sector := goodIn_r _ [108, 8, 109, 99, 4, 100, 110, 111, 112, 24, 113, 62, 44, 83, 84, 85, 86, 58, 59, 60, 61, 26, 87, 88, 89, 90, 95, 96, 97, 98, 42, 56, 57, 54, 55, 50, 51, 52, 53, 43, 153, 154, 155, 156, 157, 158, 168, 169, 170, 171, 172, 173, 174, 175, 176, 177, 178, 179, 180, 181, 182] rfl (by decide +kernel)
set_option maxRecDepth 20000 in
theorem gL_sectors_X3_sector : GoodIn wsL_sectors (wsV RL 21 RX3 yX3_sector wsX3_sector) := goodIn_app (goodIn_of _ (by decide +kernel)) ggL_sectors_X3_sector
set_option maxRecDepth 20000 in
theorem ggL_sectors_X3_head : GoodIn wsL_sectors wsX3_head := goodIn_r _ [117, 8, 118, 119, 4, 120, 121, 38, 39, 24, 40, 41, 42, 43, 44, 45, 46, 47, 48, 49, 50, 51, 52, 53, 54, 55, 56, 57, 58, 59, 60, 61, 62, 26, 63, 64, 65, 66, 67, 68, 69, 70, 71, 72, 73, 74, 75, 76, 77, 78, 79, 80, 81, 82, 83, 84, 85, 86, 87, 88, 89, 90, 153, 154, 155, 156, 157, 158, 168, 169, 170, 171, 172, 173, 174, 175, 176, 177, 178, 179, 180, 181, 182] rfl (by decide +kernel)
set_option maxRecDepth 20000 in
theorem gL_sectors_X3_head : GoodIn wsL_sectors (wsV RL 30 RX3 yX3_head wsX3_head) := goodIn_app (goodIn_of _ (by decide +kernel)) ggL_sectors_X3_head
set_option maxRecDepth 20000 in
theorem ggL_sectors_X3_address : GoodIn wsL_sectors wsX3_address := goodIn_r _ [125, 8, 126, 96, 97, 24, 98, 42, 99, 4, 100, 56, 57, 54, 55, 127, 128, 129, 130, 131, 45, 132, 71, 72, 73, 74, 101, 102, 103, 104, 133, 134, 135, 136, 137, 138, 139, 140, 50, 51, 52, 53, 44, 43, 58, 59, 60, 61, 62, 26, 46, 47, 48, 49, 141, 142, 143, 144, 27, 145, 146, 147, 148, 149, 150, 151, 152, 153, 154, 155, 156, 157, 158, 168, 169, 170, 171, 172, 173, 174, 175, 176, 177, 178, 179, 180, 181, 182] rfl (by decide +kernel)
set_option maxRecDepth 20000 in
theorem gL_sectors_X3_address : GoodIn wsL_sectors (wsV RL 27 RX3 yX3_address wsX3_address) := goodIn_app (goodIn_of _ (by decide +kernel)) ggL_sectors_X3_address
set_option maxRecDepth 20000 in
theorem ggL_lends_X3_head : GoodIn wsL_lends wsX3_head := goodIn_r _ [5, 6, 7, 8, 4, 9, 10, 11, 12, 13, 14, 15, 16, 17, 18, 19, 20, 21, 22, 23, 24, 25, 26, 27, 28, 29, 30, 31, 32, 33, 34, 35, 36, 37, 38, 39, 40, 41, 42, 43, 44, 45, 46, 47, 48, 49, 50, 51, 52, 53, 54, 55, 56, 57, 58, 59, 60, 61, 62, 63, 64, 65, 81, 82, 83, 84, 85, 86, 87, 88, 89, 90, 91, 92, 93, 94, 95, 96, 97, 98, 99, 100, 101] rfl (by decide +kernel)
set_option maxRecDepth 20000 in
theorem gL_lends_X3_head : GoodIn wsL_lends (wsV RL 30 RX3 yX3_head wsX3_head) := goodIn_app (goodIn_of _ (by decide +kernel)) ggL_lends_X3_head
set_option maxRecDepth 20000 in
theorem ggL_lends_X3_sector : GoodIn wsL_lends wsX3_sector := goodIn_r _ [69, 6, 70, 71, 4, 72, 73, 74, 75, 13, 76, 36, 18, 58, 59, 60, 61, 32, 33, 34, 35, 37, 62, 63, 64, 65, 77, 78, 79, 80, 16, 30, 31, 28, 29, 24, 25, 26, 27, 17, 81, 82, 83, 84, 85, 86, 87, 88, 89, 90, 91, 92, 93, 94, 95, 96, 97, 98, 99, 100, 101] rfl (by decide +kernel)
set_option maxRecDepth 20000 in
theorem gL_lends_X3_sector : GoodIn wsL_lends (wsV RL 21 RX3 yX3_sector wsX3_sector) := goodIn_app (goodIn_of _ (by decide +kernel)) ggL_lends_X3_sector
set_option maxRecDepth 20000 in
theorem ggL_addresses_L_lends : GoodIn wsL_addresses wsL_lends := goodIn_r _ [4, 5, 6, 7, 8, 9, 10, 11, 12, 13, 14, 15, 16, 17, 18, 19, 20, 21, 22, 23, 24, 25, 26, 27, 28, 29, 30, 31, 32, 33, 34, 35, 36, 37, 38, 39, 40, 41, 42, 43, 44, 45, 46, 47, 48, 49, 50, 51, 52, 53, 54, 55, 56, 57, 58, 59, 60, 61, 62, 63, 64, 65, 66, 67, 68, 69, 70, 71, 72, 73, 74, 75, 76, 77, 78, 79, 80, 81, 82, 83, 84, 163, 164, 165, 166, 167, 168, 169, 170, 171, 172, 173, 174, 175, 176, 177, 178, 179, 180, 181, 182, 183] rfl (by decide +kernel)
set_option maxRecDepth 20000 in
theorem gL_addresses_L_lends : GoodIn wsL_addresses (va_wsS RL 33 yL_lends wsL_lends) := goodIn_app (goodIn_of _ (by decide +kernel)) ggL_addresses_L_lends
set_option maxRecDepth 20000 in
theorem ggL_addresses_X3_sector : GoodIn wsL_addresses wsX3_sector := goodIn_r _ [73, 10, 74, 75, 8, 76, 77, 78, 79, 17, 80, 40, 22, 62, 63, 64, 65, 36, 37, 38, 39, 41, 66, 67, 68, 69, 81, 82, 83, 84, 20, 34, 35, 32, 33, 28, 29, 30, 31, 21, 163, 164, 165, 166, 167, 168, 169, 170, 171, 172, 173, 174, 175, 176, 177, 178, 179, 180, 181, 182, 183] rfl (by decide +kernel)
set_option maxRecDepth 20000 in
theorem gL_addresses_X3_sector : GoodIn wsL_addresses (wsV RL 21 RX3 yX3_sector wsX3_sector) := goodIn_app (goodIn_of _ (by decide +kernel)) ggL_addresses_X3_sector
set_option maxRecDepth 20000 in
theorem ggL_addresses_X3_address : GoodIn wsL_addresses wsX3_address := goodIn_r _ [88, 10, 89, 82, 83, 17, 84, 20, 75, 8, 76, 34, 35, 32, 33, 90, 91, 92, 93, 94, 23, 95, 50, 51, 52, 53, 96, 97, 98, 99, 100, 101, 102, 103, 104, 105, 106, 107, 28, 29, 30, 31, 22, 21, 36, 37, 38, 39, 40, 41, 24, 25, 26, 27, 108, 109, 110, 111, 112, 113, 114, 115, 116, 117, 118, 119, 120, 163, 164, 165, 166, 167, 168, 169, 170, 171, 172, 173, 174, 175, 176, 177, 178, 179, 180, 181, 182, 183] rfl (by decide +kernel)
set_option maxRecDepth 20000 in
theorem gL_addresses_X3_address : GoodIn wsL_addresses (wsV RL 27 RX3 yX3_address wsX3_address) := goodIn_app (goodIn_of _ (by decide +kernel)) ggL_addresses_X3_address
set_option maxRecDepth 20000 in
theorem ggL_addresses_L_steps : GoodIn wsL_addresses wsL_steps := goodIn_r _ [123, 124, 125, 126, 8, 127, 128, 129, 10, 130, 131, 132, 133, 134, 135, 136, 137, 138, 139, 140, 141, 142, 143, 144, 17, 145, 41, 112, 146, 147, 148, 149, 150, 151, 152, 153, 154, 155, 15, 16, 18, 19, 20, 21, 22, 23, 24, 25, 26, 27, 28, 29, 30, 31, 32, 33, 34, 35, 36, 37, 38, 39, 40, 42, 43, 44, 45, 46, 47, 48, 49, 50, 51, 52, 53, 54, 55, 56, 57, 58, 59, 60, 61, 62, 63, 64, 65, 66, 67, 68, 69, 156, 157, 158, 159, 81, 82, 83, 84, 75, 76, 96, 97, 98, 99, 5, 6, 7, 9, 11, 12, 13, 14, 160, 161, 3, 162, 163, 164, 165, 166, 167, 168, 184, 185, 186, 187, 188, 189, 190, 191, 192, 169, 170, 171, 172, 173, 174, 175, 176, 177, 178, 179, 180, 181, 182, 183] rfl (by decide +kernel)
set_option maxRecDepth 20000 in
theorem gL_addresses_L_steps : GoodIn wsL_addresses (va_wsS RL 39 yL_steps wsL_steps) := goodIn_app (goodIn_of _ (by decide +kernel)) ggL_addresses_L_steps
set_option maxRecDepth 20000 in
theorem ggL_addresses_X3_head : GoodIn wsL_addresses wsX3_head := goodIn_r _ [9, 10, 11, 12, 8, 13, 14, 15, 16, 17, 18, 19, 20, 21, 22, 23, 24, 25, 26, 27, 28, 29, 30, 31, 32, 33, 34, 35, 36, 37, 38, 39, 40, 41, 42, 43, 44, 45, 46, 47, 48, 49, 50, 51, 52, 53, 54, 55, 56, 57, 58, 59, 60, 61, 62, 63, 64, 65, 66, 67, 68, 69, 163, 164, 165, 166, 167, 168, 169, 170, 171, 172, 173, 174, 175, 176, 177, 178, 179, 180, 181, 182, 183] rfl (by decide +kernel)
set_option maxRecDepth 20000 in
theorem gL_addresses_X3_head : GoodIn wsL_addresses (wsV RL 30 RX3 yX3_head wsX3_head) := goodIn_app (goodIn_of _ (by decide +kernel)) ggL_addresses_X3_head
set_option maxRecDepth 20000 in
theorem ggL_addresses_X3_count : GoodIn wsL_addresses wsX3_count := goodIn_r _ [127, 128, 129, 10, 130, 131, 132, 133, 134, 135, 136, 137, 138, 139, 140, 141, 142, 143, 144, 17, 145, 41, 112, 146, 147, 148, 149, 150, 151, 152, 153, 154, 155, 15, 16, 18, 19, 20, 21, 22, 23, 24, 25, 26, 27, 28, 29, 30, 31, 32, 8, 33, 34, 35, 36, 37, 38, 39, 40, 42, 43, 44, 45, 46, 47, 48, 49, 50, 51, 52, 53, 54, 55, 56, 57, 58, 59, 60, 61, 62, 63, 64, 65, 66, 67, 68, 69, 156, 157, 158, 159, 81, 82, 83, 84, 75, 76, 96, 97, 98, 99, 163, 164, 165, 166, 167, 168, 184, 185, 186, 187, 188, 189, 190, 191, 192, 169, 170, 171, 172, 173, 174, 175, 176, 177, 178, 179, 180, 181, 182, 183] rfl (by decide +kernel)
set_option maxRecDepth 20000 in
theorem gL_addresses_X3_count : GoodIn wsL_addresses (wsV RL 13 RX3 yX3_count wsX3_count) := goodIn_app (goodIn_of _ (by decide +kernel)) ggL_addresses_X3_count
set_option maxRecDepth 20000 in
theorem ggL_steps_X3_count : GoodIn wsL_steps wsX3_count := goodIn_r _ [5, 6, 7, 8, 9, 10, 11, 12, 13, 14, 15, 16, 17, 18, 19, 20, 21, 22, 23, 24, 25, 26, 27, 28, 29, 30, 31, 32, 33, 34, 35, 36, 37, 38, 39, 40, 41, 42, 43, 44, 45, 46, 47, 48, 49, 50, 51, 52, 53, 54, 4, 55, 56, 57, 58, 59, 60, 61, 62, 63, 64, 65, 66, 67, 68, 69, 70, 71, 72, 73, 74, 75, 76, 77, 78, 79, 80, 81, 82, 83, 84, 85, 86, 87, 88, 89, 90, 91, 92, 93, 94, 95, 96, 97, 98, 99, 100, 101, 102, 103, 104, 117, 118, 119, 120, 121, 122, 123, 124, 125, 126, 127, 128, 129, 130, 131, 132, 133, 134, 135, 136, 137, 138, 139, 140, 141, 142, 143, 144, 145, 146] rfl (by decide +kernel)
set_option maxRecDepth 20000 in
theorem gL_steps_X3_count : GoodIn wsL_steps (wsV RL 13 RX3 yX3_count wsX3_count) := goodIn_app (goodIn_of _ (by decide +kernel)) ggL_steps_X3_count
set_option maxRecDepth 20000 in
theorem ggL_steps_X3_head : GoodIn wsL_steps wsX3_head := goodIn_r _ [108, 8, 109, 110, 4, 111, 112, 38, 39, 24, 40, 41, 42, 43, 44, 45, 46, 47, 48, 49, 50, 51, 52, 53, 54, 55, 56, 57, 58, 59, 60, 61, 62, 26, 63, 64, 65, 66, 67, 68, 69, 70, 71, 72, 73, 74, 75, 76, 77, 78, 79, 80, 81, 82, 83, 84, 85, 86, 87, 88, 89, 90, 117, 118, 119, 120, 121, 122, 132, 133, 134, 135, 136, 137, 138, 139, 140, 141, 142, 143, 144, 145, 146] rfl (by decide +kernel)
set_option maxRecDepth 20000 in
theorem gL_steps_X3_head : GoodIn wsL_steps (wsV RL 30 RX3 yX3_head wsX3_head) := goodIn_app (goodIn_of _ (by decide +kernel)) ggL_steps_X3_head
set_option maxRecDepth 20000 in
theorem ggL_steps_L_apart : GoodIn wsL_steps wsL_apart := goodIn_r _ [116] rfl (by decide +kernel)
set_option maxRecDepth 20000 in
theorem gL_steps_L_apart : GoodIn wsL_steps (va_wsS RL 43 yL_apart wsL_apart) := goodIn_app (goodIn_of _ (by decide +kernel)) ggL_steps_L_apart
set_option maxRecDepth 20000 in
theorem ggL_worst_X3_worst : GoodIn wsL_worst wsX3_worst := goodIn_r _ [6, 7, 8, 9, 10, 11, 12, 13, 14, 15, 16, 17, 18, 19, 20, 21, 22, 5, 23, 24, 25, 26, 27, 28, 29, 30, 31, 32, 33, 34, 35, 36, 37, 162, 163, 164, 165, 166, 167, 168, 169, 170, 171, 172, 173, 174, 175, 176, 177, 178, 179, 180, 181, 182] rfl (by decide +kernel)
set_option maxRecDepth 20000 in
theorem gL_worst_X3_worst : GoodIn wsL_worst (wsV RL 48 RX3 yX3_worst wsX3_worst) := goodIn_app (goodIn_of _ (by decide +kernel)) ggL_worst_X3_worst
set_option maxRecDepth 20000 in
theorem ggL_worst_X3_count : GoodIn wsL_worst wsX3_count := goodIn_r _ [41, 42, 43, 7, 44, 45, 46, 47, 48, 49, 50, 51, 52, 53, 54, 55, 56, 57, 58, 11, 59, 60, 61, 62, 63, 64, 65, 66, 67, 68, 69, 70, 71, 72, 73, 74, 75, 21, 76, 77, 32, 78, 79, 80, 81, 82, 83, 84, 85, 26, 5, 27, 24, 25, 86, 87, 88, 89, 37, 90, 91, 92, 93, 94, 95, 96, 97, 28, 29, 30, 31, 98, 99, 100, 101, 102, 103, 104, 105, 106, 107, 108, 109, 110, 111, 112, 113, 114, 115, 116, 117, 17, 18, 19, 20, 22, 23, 118, 119, 120, 121, 162, 163, 164, 165, 166, 167, 183, 184, 185, 186, 187, 188, 189, 190, 191, 168, 169, 170, 171, 172, 173, 174, 175, 176, 177, 178, 179, 180, 181, 182] rfl (by decide +kernel)
set_option maxRecDepth 20000 in
theorem gL_worst_X3_count : GoodIn wsL_worst (wsV RL 13 RX3 yX3_count wsX3_count) := goodIn_app (goodIn_of _ (by decide +kernel)) ggL_worst_X3_count
set_option maxRecDepth 20000 in
theorem ggL_worst_X3_address : GoodIn wsL_worst wsX3_address := goodIn_r _ [125, 7, 126, 18, 19, 11, 20, 21, 22, 5, 23, 24, 25, 26, 27, 127, 128, 129, 130, 131, 32, 132, 28, 29, 30, 31, 118, 119, 120, 121, 133, 134, 135, 136, 137, 138, 139, 140, 82, 83, 84, 85, 77, 76, 86, 87, 88, 89, 37, 60, 78, 79, 80, 81, 141, 142, 143, 144, 61, 145, 146, 147, 148, 149, 150, 151, 152, 162, 163, 164, 165, 166, 167, 168, 169, 170, 171, 172, 173, 174, 175, 176, 177, 178, 179, 180, 181, 182] rfl (by decide +kernel)
set_option maxRecDepth 20000 in
theorem gL_worst_X3_address : GoodIn wsL_worst (wsV RL 27 RX3 yX3_address wsX3_address) := goodIn_app (goodIn_of _ (by decide +kernel)) ggL_worst_X3_address
set_option maxRecDepth 20000 in
theorem ggL_worst_X3_sector : GoodIn wsL_worst wsX3_sector := goodIn_r _ [156, 7, 157, 22, 5, 23, 158, 159, 160, 11, 161, 37, 77, 106, 107, 108, 109, 86, 87, 88, 89, 60, 110, 111, 112, 113, 17, 18, 19, 20, 21, 24, 25, 26, 27, 82, 83, 84, 85, 76, 162, 163, 164, 165, 166, 167, 168, 169, 170, 171, 172, 173, 174, 175, 176, 177, 178, 179, 180, 181, 182] rfl (by decide +kernel)
set_option maxRecDepth 20000 in
theorem gL_worst_X3_sector : GoodIn wsL_worst (wsV RL 21 RX3 yX3_sector wsX3_sector) := goodIn_app (goodIn_of _ (by decide +kernel)) ggL_worst_X3_sector
set_option maxRecDepth 20000 in
theorem ggL_reads_X3_address : GoodIn wsL_reads wsX3_address := goodIn_r _ [5, 6, 7, 8, 9, 10, 11, 12, 13, 4, 14, 15, 16, 17, 18, 19, 20, 21, 22, 23, 24, 25, 26, 27, 28, 29, 30, 31, 32, 33, 34, 35, 36, 37, 38, 39, 40, 41, 42, 43, 44, 45, 46, 47, 48, 49, 50, 51, 52, 53, 54, 55, 56, 57, 58, 59, 60, 61, 62, 63, 64, 65, 66, 67, 68, 69, 70, 222, 223, 224, 225, 226, 227, 228, 229, 230, 231, 232, 233, 234, 235, 236, 237, 238, 239, 240, 241, 242] rfl (by decide +kernel)
set_option maxRecDepth 20000 in
theorem gL_reads_X3_address : GoodIn wsL_reads (wsV RL 27 RX3 yX3_address wsX3_address) := goodIn_app (goodIn_of _ (by decide +kernel)) ggL_reads_X3_address
set_option maxRecDepth 20000 in
theorem ggL_reads_X3_count : GoodIn wsL_reads wsX3_count := goodIn_r _ [74, 75, 76, 6, 77, 78, 79, 80, 81, 82, 83, 84, 85, 86, 87, 88, 89, 90, 91, 10, 92, 53, 62, 93, 94, 95, 96, 97, 98, 99, 100, 101, 102, 103, 104, 105, 106, 12, 47, 46, 24, 54, 55, 56, 57, 42, 43, 44, 45, 17, 4, 18, 15, 16, 48, 49, 50, 51, 52, 107, 108, 109, 110, 111, 112, 113, 114, 26, 27, 28, 29, 115, 116, 117, 118, 119, 120, 121, 122, 123, 124, 125, 126, 127, 128, 129, 130, 131, 132, 133, 134, 135, 8, 9, 11, 13, 14, 30, 31, 32, 33, 222, 223, 224, 225, 226, 227, 243, 244, 245, 246, 247, 248, 249, 250, 251, 228, 229, 230, 231, 232, 233, 234, 235, 236, 237, 238, 239, 240, 241, 242] rfl (by decide +kernel)
set_option maxRecDepth 20000 in
theorem gL_reads_X3_count : GoodIn wsL_reads (wsV RL 13 RX3 yX3_count wsX3_count) := goodIn_app (goodIn_of _ (by decide +kernel)) ggL_reads_X3_count
set_option maxRecDepth 20000 in
theorem ggL_reads_L_low : GoodIn wsL_reads wsL_low := goodIn_r _ [139, 140] rfl (by decide +kernel)
set_option maxRecDepth 20000 in
theorem gL_reads_L_low : GoodIn wsL_reads (va_wsS RL 51 yL_low wsL_low) := goodIn_app (goodIn_of _ (by decide +kernel)) ggL_reads_L_low
set_option maxRecDepth 20000 in
theorem ggL_reads_X3_readsLeft : GoodIn wsL_reads wsX3_readsLeft := goodIn_r _ [144, 6, 145, 146, 147, 10, 148, 24, 53, 52, 106, 135, 8, 9, 11, 12, 13, 4, 14, 15, 16, 17, 18, 26, 27, 28, 29, 34, 35, 36, 37, 38, 39, 40, 41, 42, 43, 44, 45, 46, 47, 48, 49, 50, 51, 54, 55, 56, 57, 222, 223, 224, 225, 226, 227, 228, 229, 230, 231, 232, 233, 234, 235, 236, 237, 238, 239, 240, 241, 242] rfl (by decide +kernel)
set_option maxRecDepth 20000 in
theorem gL_reads_X3_readsLeft : GoodIn wsL_reads (wsV RL 54 RX3 yX3_readsLeft wsX3_readsLeft) := goodIn_app (goodIn_of _ (by decide +kernel)) ggL_reads_X3_readsLeft
set_option maxRecDepth 20000 in
theorem ggL_reads_X3_read : GoodIn wsL_reads wsX3_read := goodIn_r _ [152, 153, 154, 155, 156, 4, 157, 6, 158, 159, 160, 10, 161, 53, 106, 162, 163, 164, 165, 12, 47, 52, 23, 25, 24, 46, 62, 93, 94, 95, 96, 97, 166, 167, 168, 169, 135, 8, 9, 11, 13, 14, 15, 16, 17, 18, 26, 27, 28, 29, 170, 171, 172, 173, 58, 59, 60, 61, 63, 64, 65, 66, 67, 68, 69, 70, 174, 175, 176, 177, 178, 179, 180, 181, 48, 49, 50, 51, 34, 35, 36, 37, 38, 39, 40, 41, 42, 43, 44, 45, 54, 55, 56, 57, 182, 183, 184, 185, 186, 187, 188, 189, 190, 191, 192, 193, 194, 195, 196, 197, 127, 128, 129, 130, 198, 199, 200, 201, 202, 203, 204, 205, 75, 206, 207, 208, 80, 209, 82, 210, 211, 212, 222, 223, 224, 225, 226, 227, 228, 229, 230, 231, 232, 233, 234, 235, 236, 237, 238, 239, 240, 241, 242, 243, 244, 245] rfl (by decide +kernel)
set_option maxRecDepth 20000 in
theorem gL_reads_X3_read : GoodIn wsL_reads (wsV RL 57 RX3 yX3_read wsX3_read) := goodIn_app (goodIn_of _ (by decide +kernel)) ggL_reads_X3_read
set_option maxRecDepth 20000 in
theorem ggL_reads_X3_sector : GoodIn wsL_reads wsX3_sector := goodIn_r _ [216, 6, 217, 13, 4, 14, 218, 219, 220, 10, 221, 52, 46, 123, 124, 125, 126, 48, 49, 50, 51, 53, 127, 128, 129, 130, 135, 8, 9, 11, 12, 15, 16, 17, 18, 42, 43, 44, 45, 47, 222, 223, 224, 225, 226, 227, 228, 229, 230, 231, 232, 233, 234, 235, 236, 237, 238, 239, 240, 241, 242] rfl (by decide +kernel)
set_option maxRecDepth 20000 in
theorem gL_reads_X3_sector : GoodIn wsL_reads (wsV RL 21 RX3 yX3_sector wsX3_sector) := goodIn_app (goodIn_of _ (by decide +kernel)) ggL_reads_X3_sector
set_option maxRecDepth 20000 in
theorem ggL_writes_X3_address : GoodIn wsL_writes wsX3_address := goodIn_r _ [5, 6, 7, 8, 9, 10, 11, 12, 13, 4, 14, 15, 16, 17, 18, 19, 20, 21, 22, 23, 24, 25, 26, 27, 28, 29, 30, 31, 32, 33, 34, 35, 36, 37, 38, 39, 40, 41, 42, 43, 44, 45, 46, 47, 48, 49, 50, 51, 52, 53, 54, 55, 56, 57, 58, 59, 60, 61, 62, 63, 64, 65, 66, 67, 68, 69, 70, 196, 197, 198, 199, 200, 201, 202, 203, 204, 205, 206, 207, 208, 209, 210, 211, 212, 213, 214, 215, 216] rfl (by decide +kernel)
set_option maxRecDepth 20000 in
theorem gL_writes_X3_address : GoodIn wsL_writes (wsV RL 27 RX3 yX3_address wsX3_address) := goodIn_app (goodIn_of _ (by decide +kernel)) ggL_writes_X3_address
set_option maxRecDepth 20000 in
theorem ggL_writes_X3_count : GoodIn wsL_writes wsX3_count := goodIn_r _ [74, 75, 76, 6, 77, 78, 79, 80, 81, 82, 83, 84, 85, 86, 87, 88, 89, 90, 91, 10, 92, 53, 62, 93, 94, 95, 96, 97, 98, 99, 100, 101, 102, 103, 104, 105, 106, 12, 47, 46, 24, 54, 55, 56, 57, 42, 43, 44, 45, 17, 4, 18, 15, 16, 48, 49, 50, 51, 52, 107, 108, 109, 110, 111, 112, 113, 114, 26, 27, 28, 29, 115, 116, 117, 118, 119, 120, 121, 122, 123, 124, 125, 126, 127, 128, 129, 130, 131, 132, 133, 134, 135, 8, 9, 11, 13, 14, 30, 31, 32, 33, 196, 197, 198, 199, 200, 201, 217, 218, 219, 220, 221, 222, 223, 224, 225, 202, 203, 204, 205, 206, 207, 208, 209, 210, 211, 212, 213, 214, 215, 216] rfl (by decide +kernel)
set_option maxRecDepth 20000 in
theorem gL_writes_X3_count : GoodIn wsL_writes (wsV RL 13 RX3 yX3_count wsX3_count) := goodIn_app (goodIn_of _ (by decide +kernel)) ggL_writes_X3_count
set_option maxRecDepth 20000 in
theorem ggL_writes_X3_write : GoodIn wsL_writes wsX3_write := goodIn_r _ [139, 140, 141, 142, 143, 4, 144, 6, 145, 146, 147, 10, 148, 53, 106, 149, 150, 151, 152, 12, 47, 52, 23, 25, 24, 46, 62, 93, 94, 95, 96, 97, 153, 154, 155, 156, 135, 8, 9, 11, 13, 14, 15, 16, 17, 18, 26, 27, 28, 29, 34, 35, 36, 37, 38, 39, 40, 41, 42, 43, 44, 45, 48, 49, 50, 51, 54, 55, 56, 57, 157, 158, 159, 160, 161, 162, 163, 164, 165, 166, 167, 168, 58, 59, 60, 61, 63, 64, 65, 66, 67, 68, 69, 70, 169, 170, 171, 172, 173, 174, 175, 176, 177, 178, 179, 180, 127, 128, 129, 130, 181, 182, 183, 184, 185, 186, 187, 188, 75, 189, 190, 191, 80, 192, 82, 193, 194, 195, 196, 197, 198, 199, 200, 201, 202, 203, 204, 205, 206, 207, 208, 209, 210, 211, 212, 213, 214, 215, 216, 217, 218, 219] rfl (by decide +kernel)
set_option maxRecDepth 20000 in
theorem gL_writes_X3_write : GoodIn wsL_writes (wsV RL 60 RX3 yX3_write wsX3_write) := goodIn_app (goodIn_of _ (by decide +kernel)) ggL_writes_X3_write
set_option maxRecDepth 20000 in
theorem ggL_gives_X3_address : GoodIn wsL_gives wsX3_address := goodIn_r _ [5, 6, 7, 8, 9, 10, 11, 12, 13, 4, 14, 15, 16, 17, 18, 19, 20, 21, 22, 23, 24, 25, 26, 27, 28, 29, 30, 31, 32, 33, 34, 35, 36, 37, 38, 39, 40, 41, 42, 43, 44, 45, 46, 47, 48, 49, 50, 51, 52, 53, 54, 55, 56, 57, 58, 59, 60, 61, 62, 63, 64, 65, 66, 67, 68, 69, 70, 205, 206, 207, 208, 209, 210, 211, 212, 213, 214, 215, 216, 217, 218, 219, 220, 221, 222, 223, 224, 225] rfl (by decide +kernel)
set_option maxRecDepth 20000 in
theorem gL_gives_X3_address : GoodIn wsL_gives (wsV RL 27 RX3 yX3_address wsX3_address) := goodIn_app (goodIn_of _ (by decide +kernel)) ggL_gives_X3_address
set_option maxRecDepth 20000 in
theorem ggL_gives_X3_giveBack : GoodIn wsL_gives wsX3_giveBack := goodIn_r _ [74, 75, 76, 77, 78, 4, 79, 6, 80, 81, 82, 10, 83, 53, 84, 85, 86, 87, 88, 12, 47, 52, 23, 25, 24, 46, 62, 89, 90, 91, 92, 93, 94, 95, 96, 97, 98, 8, 9, 11, 13, 14, 15, 16, 17, 18, 30, 31, 32, 33, 26, 27, 28, 29, 48, 49, 50, 51, 99, 100, 101, 102, 58, 59, 60, 61, 63, 64, 65, 66, 67, 68, 69, 70, 103, 104, 105, 106, 107, 108, 109, 110, 111, 112, 113, 114, 115, 116, 117, 118, 119, 120, 121, 122, 123, 124, 125, 126, 127, 128, 129, 130, 131, 132, 205, 206, 207, 208, 209, 210, 211, 212, 213, 214, 215, 216, 217, 218, 219, 220, 221, 222, 223, 224, 225, 226, 227, 228] rfl (by decide +kernel)
set_option maxRecDepth 20000 in
theorem gL_gives_X3_giveBack : GoodIn wsL_gives (wsV RL 63 RX3 yX3_giveBack wsX3_giveBack) := goodIn_app (goodIn_of _ (by decide +kernel)) ggL_gives_X3_giveBack
set_option maxRecDepth 20000 in
theorem ggL_gives_X3_sector : GoodIn wsL_gives wsX3_sector := goodIn_r _ [136, 6, 137, 13, 4, 14, 138, 139, 140, 10, 141, 52, 46, 142, 143, 144, 145, 48, 49, 50, 51, 53, 146, 147, 148, 149, 98, 8, 9, 11, 12, 15, 16, 17, 18, 42, 43, 44, 45, 47, 205, 206, 207, 208, 209, 210, 211, 212, 213, 214, 215, 216, 217, 218, 219, 220, 221, 222, 223, 224, 225] rfl (by decide +kernel)
set_option maxRecDepth 20000 in
theorem gL_gives_X3_sector : GoodIn wsL_gives (wsV RL 21 RX3 yX3_sector wsX3_sector) := goodIn_app (goodIn_of _ (by decide +kernel)) ggL_gives_X3_sector
set_option maxRecDepth 20000 in
theorem ggL_gives_X3_count : GoodIn wsL_gives wsX3_count := goodIn_r _ [153, 123, 154, 6, 155, 156, 157, 127, 158, 129, 159, 160, 161, 162, 163, 164, 165, 166, 167, 10, 168, 53, 62, 89, 90, 91, 92, 93, 169, 170, 171, 172, 173, 174, 175, 176, 84, 12, 47, 46, 24, 54, 55, 56, 57, 42, 43, 44, 45, 17, 4, 18, 15, 16, 48, 49, 50, 51, 52, 177, 178, 179, 180, 181, 182, 183, 184, 26, 27, 28, 29, 185, 186, 187, 188, 189, 190, 191, 192, 142, 143, 144, 145, 146, 147, 148, 149, 193, 194, 195, 196, 98, 8, 9, 11, 13, 14, 30, 31, 32, 33, 205, 206, 207, 208, 209, 210, 226, 227, 228, 229, 230, 231, 232, 233, 234, 211, 212, 213, 214, 215, 216, 217, 218, 219, 220, 221, 222, 223, 224, 225] rfl (by decide +kernel)
set_option maxRecDepth 20000 in
theorem gL_gives_X3_count : GoodIn wsL_gives (wsV RL 13 RX3 yX3_count wsX3_count) := goodIn_app (goodIn_of _ (by decide +kernel)) ggL_gives_X3_count
set_option maxRecDepth 20000 in
theorem ggL_gives_X3_head : GoodIn wsL_gives wsX3_head := goodIn_r _ [200, 6, 201, 202, 4, 203, 204, 174, 175, 10, 176, 84, 12, 47, 46, 24, 54, 55, 56, 57, 42, 43, 44, 45, 17, 18, 15, 16, 48, 49, 50, 51, 52, 53, 177, 178, 179, 180, 181, 182, 183, 184, 26, 27, 28, 29, 185, 186, 187, 188, 189, 190, 191, 192, 142, 143, 144, 145, 146, 147, 148, 149, 205, 206, 207, 208, 209, 210, 211, 212, 213, 214, 215, 216, 217, 218, 219, 220, 221, 222, 223, 224, 225] rfl (by decide +kernel)
set_option maxRecDepth 20000 in
theorem gL_gives_X3_head : GoodIn wsL_gives (wsV RL 30 RX3 yX3_head wsX3_head) := goodIn_app (goodIn_of _ (by decide +kernel)) ggL_gives_X3_head
set_option maxRecDepth 20000 in
theorem ggL_drops_X3_wouldLose : GoodIn wsL_drops wsX3_wouldLose := goodIn_r _ [5, 6, 7, 8, 9, 4, 10, 11, 12, 13, 14, 15, 16, 17, 18, 19, 20, 21, 22, 23, 24, 25, 26, 27, 28, 29, 30, 31, 32, 33, 34, 35, 36, 37, 38, 39, 40, 41, 42, 43, 44, 45, 46, 47, 48, 49, 50, 51, 52, 53, 54, 55, 56, 57, 58, 59, 60, 61, 62, 63, 64, 65, 66, 67, 68, 69, 70, 71, 72, 73, 74, 75, 76, 77, 78, 79, 80, 81, 82, 83, 84, 85, 86, 87, 88, 89, 90, 91, 92, 93, 94, 95, 96, 97, 98, 99, 100, 187, 188, 189, 190, 191, 192, 193, 194, 195, 196, 197, 198, 199, 200, 201, 202, 203, 204, 205, 206, 207] rfl (by decide +kernel)
set_option maxRecDepth 20000 in
theorem gL_drops_X3_wouldLose : GoodIn wsL_drops (wsV RL 66 RX3 yX3_wouldLose wsX3_wouldLose) := goodIn_app (goodIn_of _ (by decide +kernel)) ggL_drops_X3_wouldLose
set_option maxRecDepth 20000 in
theorem ggL_drops_X3_count : GoodIn wsL_drops wsX3_count := goodIn_r _ [104, 105, 106, 6, 107, 108, 109, 110, 111, 112, 113, 114, 115, 116, 117, 118, 119, 120, 121, 14, 122, 25, 37, 38, 39, 40, 41, 42, 123, 124, 125, 126, 127, 128, 129, 130, 26, 31, 16, 36, 35, 81, 82, 83, 84, 73, 74, 75, 76, 55, 4, 56, 53, 54, 77, 78, 79, 80, 32, 131, 132, 133, 134, 135, 136, 137, 138, 57, 58, 59, 60, 139, 140, 141, 142, 143, 144, 145, 146, 147, 148, 149, 150, 151, 152, 153, 154, 155, 156, 157, 158, 47, 48, 49, 50, 51, 52, 159, 160, 161, 162, 187, 188, 189, 190, 191, 192, 208, 209, 210, 211, 212, 213, 214, 215, 216, 193, 194, 195, 196, 197, 198, 199, 200, 201, 202, 203, 204, 205, 206, 207] rfl (by decide +kernel)
set_option maxRecDepth 20000 in
theorem gL_drops_X3_count : GoodIn wsL_drops (wsV RL 13 RX3 yX3_count wsX3_count) := goodIn_app (goodIn_of _ (by decide +kernel)) ggL_drops_X3_count
set_option maxRecDepth 20000 in
theorem ggL_drops_X3_head : GoodIn wsL_drops wsX3_head := goodIn_r _ [166, 6, 8, 9, 4, 10, 167, 128, 129, 14, 130, 26, 31, 16, 36, 35, 81, 82, 83, 84, 73, 74, 75, 76, 55, 56, 53, 54, 77, 78, 79, 80, 32, 25, 131, 132, 133, 134, 135, 136, 137, 138, 57, 58, 59, 60, 139, 140, 141, 142, 143, 144, 145, 146, 147, 148, 149, 150, 151, 152, 153, 154, 187, 188, 189, 190, 191, 192, 193, 194, 195, 196, 197, 198, 199, 200, 201, 202, 203, 204, 205, 206, 207] rfl (by decide +kernel)
set_option maxRecDepth 20000 in
theorem gL_drops_X3_head : GoodIn wsL_drops (wsV RL 30 RX3 yX3_head wsX3_head) := goodIn_app (goodIn_of _ (by decide +kernel)) ggL_drops_X3_head
set_option maxRecDepth 20000 in
theorem ggL_drops_X3_giveUp : GoodIn wsL_drops wsX3_giveUp := goodIn_r _ [171, 6, 7, 8, 9, 4, 10, 172, 173, 174, 14, 175, 16, 11, 12, 13, 15, 17, 18, 19, 20, 21, 22, 23, 24, 25, 26, 27, 28, 29, 30, 31, 32, 33, 34, 35, 36, 37, 38, 39, 40, 41, 42, 43, 44, 45, 46, 47, 48, 49, 50, 51, 52, 53, 54, 55, 56, 57, 58, 59, 60, 61, 62, 63, 64, 65, 66, 67, 68, 69, 70, 71, 72, 73, 74, 75, 76, 77, 78, 79, 80, 81, 82, 83, 84, 85, 86, 87, 88, 89, 90, 91, 92, 93, 94, 95, 96, 97, 98, 99, 100, 176, 177, 178, 179, 105, 180, 181, 182, 110, 183, 112, 184, 185, 186, 187, 188, 189, 190, 191, 192, 193, 194, 195, 196, 197, 198, 199, 200, 201, 202, 203, 204, 205, 206, 207, 208, 209, 210] rfl (by decide +kernel)
set_option maxRecDepth 20000 in
theorem gL_drops_X3_giveUp : GoodIn wsL_drops (wsV RL 69 RX3 yX3_giveUp wsX3_giveUp) := goodIn_app (goodIn_of _ (by decide +kernel)) ggL_drops_X3_giveUp
set_option maxRecDepth 20000 in
theorem ggL_does_L_low : GoodIn wsL_does wsL_low := goodIn_r _ [4, 5] rfl (by decide +kernel)
set_option maxRecDepth 20000 in
theorem gL_does_L_low : GoodIn wsL_does (va_wsS RL 51 yL_low wsL_low) := goodIn_app (goodIn_of _ (by decide +kernel)) ggL_does_L_low
set_option maxRecDepth 20000 in
theorem ggL_does_L_reads : GoodIn wsL_does wsL_reads := goodIn_r _ [8, 9, 10, 11, 12, 13, 14, 15, 16, 17, 18, 19, 20, 21, 22, 23, 24, 25, 26, 27, 28, 29, 30, 31, 32, 33, 34, 35, 36, 37, 38, 39, 40, 41, 42, 43, 44, 45, 46, 47, 48, 49, 50, 51, 52, 53, 54, 55, 56, 57, 58, 59, 60, 61, 62, 63, 64, 65, 66, 67, 68, 69, 70, 71, 72, 73, 74, 75, 76, 77, 78, 79, 80, 81, 82, 83, 84, 85, 86, 87, 88, 89, 90, 91, 92, 93, 94, 95, 96, 97, 98, 99, 100, 101, 102, 103, 104, 105, 106, 107, 108, 109, 110, 111, 112, 113, 114, 115, 116, 117, 118, 119, 120, 121, 122, 123, 124, 125, 126, 127, 128, 129, 130, 131, 132, 133, 134, 135, 136, 137, 138, 139, 140, 141, 142, 143, 1, 2, 3, 4, 5, 144, 145, 146, 147, 148, 149, 150, 151, 152, 153, 154, 155, 156, 157, 158, 159, 160, 161, 162, 163, 164, 165, 166, 167, 168, 169, 170, 171, 172, 173, 174, 175, 176, 177, 178, 179, 180, 181, 182, 183, 184, 185, 186, 187, 188, 189, 190, 191, 192, 193, 194, 195, 196, 197, 198, 199, 200, 201, 202, 203, 204, 205, 206, 207, 208, 209, 210, 211, 212, 213, 214, 215, 216, 217, 218, 219, 220, 221, 222, 223, 224, 308, 309, 310, 311, 312, 313, 314, 315, 316, 317, 318, 319, 320, 321, 322, 323, 324, 325, 326, 327, 328, 329, 330, 331, 332, 333, 334, 335, 336, 337] rfl (by decide +kernel)
set_option maxRecDepth 20000 in
theorem gL_does_L_reads : GoodIn wsL_does (va_wsS RL 72 yL_reads wsL_reads) := goodIn_app (goodIn_of _ (by decide +kernel)) ggL_does_L_reads
set_option maxRecDepth 20000 in
theorem ggL_does_L_writes : GoodIn wsL_does wsL_writes := goodIn_r _ [227, 9, 10, 11, 12, 13, 14, 15, 16, 17, 18, 19, 20, 21, 22, 23, 24, 25, 26, 27, 28, 29, 30, 31, 32, 33, 34, 35, 36, 37, 38, 39, 40, 41, 42, 43, 44, 45, 46, 47, 48, 49, 50, 51, 52, 53, 54, 55, 56, 57, 58, 59, 60, 61, 62, 63, 64, 65, 66, 67, 68, 69, 70, 71, 72, 73, 74, 75, 76, 77, 78, 79, 80, 81, 82, 83, 84, 85, 86, 87, 88, 89, 90, 91, 92, 93, 94, 95, 96, 97, 98, 99, 100, 101, 102, 103, 104, 105, 106, 107, 108, 109, 110, 111, 112, 113, 114, 115, 116, 117, 118, 119, 120, 121, 122, 123, 124, 125, 126, 127, 128, 129, 130, 131, 132, 133, 134, 135, 136, 137, 138, 139, 140, 141, 142, 143, 228, 229, 230, 231, 156, 157, 158, 159, 160, 161, 162, 163, 164, 165, 166, 167, 168, 232, 233, 234, 235, 185, 186, 187, 188, 189, 190, 191, 192, 173, 174, 175, 176, 197, 198, 199, 200, 181, 182, 183, 184, 193, 194, 195, 196, 201, 202, 203, 204, 205, 206, 207, 208, 209, 210, 211, 212, 213, 214, 215, 308, 309, 310, 311, 312, 313, 314, 315, 316, 317, 318, 319, 320, 321, 322, 323, 324, 325, 326, 327, 328, 329, 330, 331, 332, 333, 334, 335, 336, 337] rfl (by decide +kernel)
set_option maxRecDepth 20000 in
theorem gL_does_L_writes : GoodIn wsL_does (va_wsS RL 76 yL_writes wsL_writes) := goodIn_app (goodIn_of _ (by decide +kernel)) ggL_does_L_writes
set_option maxRecDepth 20000 in
theorem ggL_does_X3_count : GoodIn wsL_does wsX3_count := goodIn_r _ [82, 83, 84, 14, 85, 86, 87, 88, 89, 90, 91, 92, 93, 94, 95, 96, 97, 98, 99, 18, 100, 61, 70, 101, 102, 103, 104, 105, 106, 107, 108, 109, 110, 111, 112, 113, 114, 20, 55, 54, 32, 62, 63, 64, 65, 50, 51, 52, 53, 25, 12, 26, 23, 24, 56, 57, 58, 59, 60, 115, 116, 117, 118, 119, 120, 121, 122, 34, 35, 36, 37, 123, 124, 125, 126, 127, 128, 129, 130, 131, 132, 133, 134, 135, 136, 137, 138, 139, 140, 141, 142, 143, 16, 17, 19, 21, 22, 38, 39, 40, 41, 308, 309, 310, 311, 312, 313, 329, 330, 331, 332, 333, 334, 335, 336, 337, 314, 315, 316, 317, 318, 319, 320, 321, 322, 323, 324, 325, 326, 327, 328] rfl (by decide +kernel)
set_option maxRecDepth 20000 in
theorem gL_does_X3_count : GoodIn wsL_does (wsV RL 13 RX3 yX3_count wsX3_count) := goodIn_app (goodIn_of _ (by decide +kernel)) ggL_does_X3_count
set_option maxRecDepth 20000 in
theorem ggL_does_X3_head : GoodIn wsL_does wsX3_head := goodIn_r _ [239, 14, 240, 241, 12, 242, 243, 111, 112, 18, 113, 114, 20, 55, 54, 32, 62, 63, 64, 65, 50, 51, 52, 53, 25, 26, 23, 24, 56, 57, 58, 59, 60, 61, 115, 116, 117, 118, 119, 120, 121, 122, 34, 35, 36, 37, 123, 124, 125, 126, 127, 128, 129, 130, 131, 132, 133, 134, 135, 136, 137, 138, 308, 309, 310, 311, 312, 313, 314, 315, 316, 317, 318, 319, 320, 321, 322, 323, 324, 325, 326, 327, 328] rfl (by decide +kernel)
set_option maxRecDepth 20000 in
theorem gL_does_X3_head : GoodIn wsL_does (wsV RL 30 RX3 yX3_head wsX3_head) := goodIn_app (goodIn_of _ (by decide +kernel)) ggL_does_X3_head
set_option maxRecDepth 20000 in
theorem ggL_does_X3_test : GoodIn wsL_does wsX3_test := goodIn_r _ [247, 156, 240, 241, 12, 242, 157, 158, 159, 160, 14, 161, 162, 163, 18, 164, 61, 114, 165, 166, 167, 168, 20, 55, 60, 31, 33, 32, 54, 70, 101, 102, 103, 104, 105, 248, 249, 250, 251, 119, 120, 121, 122, 34, 35, 36, 37, 252, 170, 171, 172, 143, 16, 17, 19, 21, 22, 23, 24, 25, 26, 173, 174, 175, 176, 66, 67, 68, 69, 71, 72, 73, 74, 75, 76, 77, 78, 177, 178, 179, 180, 181, 182, 183, 184, 56, 57, 58, 59, 42, 43, 44, 45, 46, 47, 48, 49, 50, 51, 52, 53, 62, 63, 64, 65, 185, 186, 187, 188, 189, 190, 191, 192, 193, 194, 195, 196, 197, 198, 199, 200, 135, 136, 137, 138, 201, 202, 203, 204, 205, 206, 207, 208, 83, 209, 210, 211, 88, 212, 90, 213, 214, 215, 308, 309, 310, 311, 312, 313, 314, 315, 316, 317, 318, 319, 320, 321, 322, 323, 324, 325, 326, 327, 328, 329, 330, 331] rfl (by decide +kernel)
set_option maxRecDepth 20000 in
theorem gL_does_X3_test : GoodIn wsL_does (wsV RL 79 RX3 yX3_test wsX3_test) := goodIn_app (goodIn_of _ (by decide +kernel)) ggL_does_X3_test
set_option maxRecDepth 20000 in
theorem ggL_does_L_gives : GoodIn wsL_does wsL_gives := goodIn_r _ [255, 9, 10, 11, 12, 13, 14, 15, 16, 17, 18, 19, 20, 21, 22, 23, 24, 25, 26, 27, 28, 29, 30, 31, 32, 33, 34, 35, 36, 37, 38, 39, 40, 41, 42, 43, 44, 45, 46, 47, 48, 49, 50, 51, 52, 53, 54, 55, 56, 57, 58, 59, 60, 61, 62, 63, 64, 65, 66, 67, 68, 69, 70, 71, 72, 73, 74, 75, 76, 77, 78, 256, 257, 258, 259, 156, 157, 158, 159, 160, 161, 162, 163, 164, 114, 165, 166, 167, 168, 101, 102, 103, 104, 105, 260, 261, 262, 263, 143, 173, 174, 175, 176, 193, 194, 195, 196, 197, 198, 199, 200, 185, 186, 187, 188, 189, 190, 191, 192, 205, 206, 207, 208, 83, 209, 210, 211, 88, 212, 90, 213, 214, 215, 216, 217, 218, 219, 220, 221, 222, 223, 224, 131, 132, 133, 134, 135, 136, 137, 138, 79, 80, 81, 82, 84, 85, 86, 87, 89, 91, 92, 93, 94, 95, 96, 97, 98, 99, 100, 106, 107, 108, 109, 110, 111, 112, 113, 115, 116, 117, 118, 119, 120, 121, 122, 123, 124, 125, 126, 127, 128, 129, 130, 139, 140, 141, 142, 236, 237, 238, 239, 240, 241, 242, 243, 308, 309, 310, 311, 312, 313, 314, 315, 316, 317, 318, 319, 320, 321, 322, 323, 324, 325, 326, 327, 328, 329, 330, 331, 332, 333, 334, 335, 336, 337] rfl (by decide +kernel)
set_option maxRecDepth 20000 in
theorem gL_does_L_gives : GoodIn wsL_does (va_wsS RL 82 yL_gives wsL_gives) := goodIn_app (goodIn_of _ (by decide +kernel)) ggL_does_L_gives
set_option maxRecDepth 20000 in
theorem ggL_does_L_drops : GoodIn wsL_does wsL_drops := goodIn_r _ [266, 267, 268, 269, 12, 270, 14, 156, 240, 241, 242, 271, 272, 273, 18, 274, 55, 157, 158, 159, 160, 161, 162, 163, 164, 61, 114, 165, 166, 167, 168, 20, 60, 31, 33, 32, 54, 70, 101, 102, 103, 104, 105, 275, 276, 277, 278, 143, 16, 17, 19, 21, 22, 23, 24, 25, 26, 34, 35, 36, 37, 279, 280, 281, 282, 42, 43, 44, 45, 46, 47, 48, 49, 50, 51, 52, 53, 56, 57, 58, 59, 62, 63, 64, 65, 201, 202, 203, 204, 189, 190, 191, 192, 185, 186, 187, 188, 197, 198, 199, 200, 79, 80, 81, 82, 83, 84, 85, 86, 87, 88, 89, 90, 91, 92, 93, 94, 95, 96, 97, 98, 99, 100, 106, 107, 108, 109, 110, 111, 112, 113, 115, 116, 117, 118, 119, 120, 121, 122, 123, 124, 125, 126, 127, 128, 129, 130, 131, 132, 133, 134, 135, 136, 137, 138, 139, 140, 141, 142, 38, 39, 40, 41, 236, 237, 238, 239, 243, 283, 284, 285, 286, 287, 288, 289, 290, 205, 206, 207, 208, 209, 210, 211, 212, 213, 214, 215, 308, 309, 310, 311, 312, 313, 314, 315, 316, 317, 318, 319, 320, 321, 322, 323, 324, 325, 326, 327, 328, 329, 330, 331, 332, 333, 334, 335, 336, 337] rfl (by decide +kernel)
set_option maxRecDepth 20000 in
theorem gL_does_L_drops : GoodIn wsL_does (va_wsS RL 86 yL_drops wsL_drops) := goodIn_app (goodIn_of _ (by decide +kernel)) ggL_does_L_drops
set_option maxRecDepth 20000 in
theorem ggL_does_X3_setLimit : GoodIn wsL_does wsX3_setLimit := goodIn_r _ [294, 156, 157, 158, 159, 12, 160, 14, 161, 162, 163, 18, 164, 61, 114, 165, 166, 167, 168, 20, 55, 60, 31, 33, 32, 54, 70, 101, 102, 103, 104, 105, 295, 296, 297, 298, 205, 206, 207, 208, 83, 209, 210, 211, 88, 212, 90, 213, 214, 215, 308, 309, 310, 311, 312, 313, 314, 315, 316, 317, 318, 319, 320, 321, 322, 323, 324, 325, 326, 327, 328, 329, 330, 331] rfl (by decide +kernel)
set_option maxRecDepth 20000 in
theorem gL_does_X3_setLimit : GoodIn wsL_does (wsV RL 89 RX3 yX3_setLimit wsX3_setLimit) := goodIn_app (goodIn_of _ (by decide +kernel)) ggL_does_X3_setLimit
set_option maxRecDepth 20000 in
theorem ggL_does_X3_sector : GoodIn wsL_does wsX3_sector := goodIn_r _ [219, 14, 220, 21, 12, 22, 221, 222, 223, 18, 224, 60, 54, 131, 132, 133, 134, 56, 57, 58, 59, 61, 135, 136, 137, 138, 143, 16, 17, 19, 20, 23, 24, 25, 26, 50, 51, 52, 53, 55, 308, 309, 310, 311, 312, 313, 314, 315, 316, 317, 318, 319, 320, 321, 322, 323, 324, 325, 326, 327, 328] rfl (by decide +kernel)
set_option maxRecDepth 20000 in
theorem gL_does_X3_sector : GoodIn wsL_does (wsV RL 21 RX3 yX3_sector wsX3_sector) := goodIn_app (goodIn_of _ (by decide +kernel)) ggL_does_X3_sector
set_option maxRecDepth 20000 in
theorem ggL_does_X3_copy : GoodIn wsL_does wsX3_copy := goodIn_r _ [302, 14, 156, 15, 16, 17, 18, 19, 20, 21, 12, 22, 23, 24, 25, 26, 157, 158, 159, 160, 161, 162, 163, 164, 61, 114, 165, 166, 167, 168, 55, 60, 31, 33, 32, 54, 70, 101, 102, 103, 104, 105, 303, 304, 305, 306, 252, 170, 171, 172, 143, 34, 35, 36, 37, 173, 174, 175, 176, 66, 67, 68, 69, 71, 72, 73, 74, 75, 76, 77, 78, 177, 178, 179, 180, 181, 182, 183, 184, 56, 57, 58, 59, 42, 43, 44, 45, 46, 47, 48, 49, 50, 51, 52, 53, 62, 63, 64, 65, 185, 186, 187, 188, 189, 190, 191, 192, 193, 194, 195, 196, 197, 198, 199, 200, 135, 136, 137, 138, 201, 202, 203, 204, 307, 233, 234, 235, 205, 206, 207, 208, 83, 209, 210, 211, 88, 212, 90, 213, 214, 215, 308, 309, 310, 311, 312, 313, 314, 315, 316, 317, 318, 319, 320, 321, 322, 323, 324, 325, 326, 327, 328, 329, 330, 331] rfl (by decide +kernel)
set_option maxRecDepth 20000 in
theorem gL_does_X3_copy : GoodIn wsL_does (wsV RL 92 RX3 yX3_copy wsX3_copy) := goodIn_app (goodIn_of _ (by decide +kernel)) ggL_does_X3_copy
set_option maxRecDepth 20000 in
theorem ggL_law_X3_init : GoodIn wsL_law wsX3_init := goodIn_r _ [6, 7, 8, 9, 10, 11, 12, 13, 14, 15, 16, 17, 18, 19, 20, 21, 22, 23, 24, 25, 26, 27, 28, 29, 30, 31, 32, 33, 34, 35, 36, 37, 38, 39, 40, 41, 42, 43, 44, 45, 46, 47, 48, 49, 50, 51, 52, 53, 54, 2, 55, 56, 57, 58, 59, 60, 61, 62, 63, 64, 65, 66, 67, 68, 69, 70, 71, 72, 73, 74, 75, 76, 77, 463, 464, 465, 466, 467, 468, 469, 470, 471, 472, 473, 474, 475, 476, 477, 457, 458, 459, 460, 461, 462, 478, 479, 480, 481, 482, 483, 484, 485, 486] rfl (by decide +kernel)
set_option maxRecDepth 20000 in
theorem gL_law_X3_init : GoodIn wsL_law (wsX3_init) := ggL_law_X3_init
set_option maxRecDepth 20000 in
theorem ggL_law_X3_undo : GoodIn wsL_law wsX3_undo := goodIn_r _ [81, 19, 13, 82, 83, 84, 18, 85, 67, 86, 87, 88, 89, 65, 66, 90, 91, 92, 12, 93, 29, 31, 94, 95, 96, 97, 32, 34, 35, 36, 37, 38, 39, 40, 41, 42, 43, 44, 45, 457, 458, 459, 460, 461, 462, 478, 479, 480, 463, 464, 465, 466, 467, 468, 469, 470, 471, 472, 473, 474, 475, 476, 477] rfl (by decide +kernel)
set_option maxRecDepth 20000 in
theorem gL_law_X3_undo : GoodIn wsL_law (wsV RL 96 RX3 yX3_undo wsX3_undo) := goodIn_app (goodIn_of _ (by decide +kernel)) ggL_law_X3_undo
set_option maxRecDepth 20000 in
theorem ggL_law_X3_restore : GoodIn wsL_law wsX3_restore := goodIn_r _ [101, 24, 14, 15, 102, 91, 92, 12, 93, 29, 31, 94, 95, 96, 97, 32, 34, 35, 36, 37, 38, 39, 40, 41, 42, 43, 44, 45, 103, 104, 105, 106, 107, 108, 109, 2, 110, 19, 13, 111, 112, 113, 18, 114, 67, 66, 65, 90, 457, 458, 459, 460, 461, 462, 463, 464, 465, 466, 467, 468, 469, 470, 471, 472, 473, 474, 475, 476, 477, 478, 479, 480] rfl (by decide +kernel)
set_option maxRecDepth 20000 in
theorem gL_law_X3_restore : GoodIn wsL_law (wsV RL 100 RX3 yX3_restore wsX3_restore) := goodIn_app (goodIn_of _ (by decide +kernel)) ggL_law_X3_restore
set_option maxRecDepth 20000 in
theorem ggL_law_X3_perform : GoodIn wsL_law wsX3_perform := goodIn_r _ [118, 23, 14, 119, 120, 121, 22, 122, 77, 76, 123, 124, 125, 126, 127, 128, 129, 130, 131, 132, 133, 134, 73, 72, 135, 136, 137, 138, 139, 140, 141, 142, 143, 144, 145, 146, 74, 75, 147, 148, 149, 2, 150, 13, 102, 91, 92, 12, 93, 29, 31, 94, 95, 96, 97, 32, 34, 35, 36, 37, 38, 39, 40, 41, 42, 43, 44, 45, 151, 152, 153, 154, 155, 156, 157, 158, 159, 160, 161, 162, 163, 164, 165, 166, 50, 51, 52, 53, 54, 55, 56, 57, 58, 59, 167, 168, 169, 170, 171, 172, 173, 174, 175, 176, 177, 178, 179, 180, 181, 182, 183, 184, 185, 186, 187, 188, 189, 190, 191, 192, 193, 194, 195, 196, 197, 198, 199, 200, 201, 202, 203, 204, 205, 206, 207, 208, 209, 210, 211, 212, 213, 214, 215, 216, 217, 218, 219, 220, 221, 222, 223, 224, 225, 226, 227, 228, 229, 230, 231, 232, 233, 234, 235, 236, 237, 238, 239, 240, 241, 242, 107, 108, 109, 110, 19, 111, 112, 113, 18, 114, 67, 66, 65, 90, 457, 458, 459, 460, 461, 462, 481, 482, 483, 484, 485, 486, 463, 464, 465, 466, 467, 468, 469, 470, 471, 472, 473, 474, 475, 476, 477, 478, 479, 480] rfl (by decide +kernel)
set_option maxRecDepth 20000 in
theorem gL_law_X3_perform : GoodIn wsL_law (wsV RL 103 RX3 yX3_perform wsX3_perform) := goodIn_app (goodIn_of _ (by decide +kernel)) ggL_law_X3_perform
set_option maxRecDepth 20000 in
theorem ggL_law_X3_count : GoodIn wsL_law wsX3_count := goodIn_r _ [246, 19, 23, 13, 82, 83, 84, 18, 85, 67, 247, 248, 249, 22, 250, 73, 251, 252, 253, 12, 254, 29, 40, 41, 42, 43, 44, 45, 255, 256, 257, 258, 259, 260, 261, 262, 31, 32, 34, 39, 38, 211, 212, 213, 214, 207, 208, 209, 210, 58, 2, 59, 56, 57, 195, 196, 197, 198, 35, 263, 264, 265, 266, 267, 268, 269, 270, 167, 168, 169, 170, 271, 272, 273, 274, 275, 276, 277, 278, 279, 280, 281, 282, 231, 232, 233, 234, 283, 284, 285, 286, 50, 51, 52, 53, 54, 55, 287, 288, 289, 290, 457, 458, 459, 460, 461, 462, 478, 479, 480, 481, 482, 483, 484, 485, 486, 463, 464, 465, 466, 467, 468, 469, 470, 471, 472, 473, 474, 475, 476, 477] rfl (by decide +kernel)
set_option maxRecDepth 20000 in
theorem gL_law_X3_count : GoodIn wsL_law (wsV RL 13 RX3 yX3_count wsX3_count) := goodIn_app (goodIn_of _ (by decide +kernel)) ggL_law_X3_count
set_option maxRecDepth 20000 in
theorem ggL_law_X3_address : GoodIn wsL_law wsX3_address := goodIn_r _ [294, 13, 295, 51, 52, 12, 53, 32, 54, 2, 55, 56, 57, 58, 59, 296, 297, 298, 299, 36, 38, 37, 167, 168, 169, 170, 287, 288, 289, 290, 199, 200, 201, 202, 203, 204, 205, 206, 207, 208, 209, 210, 39, 34, 195, 196, 197, 198, 35, 29, 211, 212, 213, 214, 175, 176, 177, 178, 40, 179, 180, 181, 182, 183, 184, 185, 186, 457, 458, 459, 460, 461, 462, 463, 464, 465, 466, 467, 468, 469, 470, 471, 472, 473, 474, 475, 476, 477] rfl (by decide +kernel)
set_option maxRecDepth 20000 in
theorem gL_law_X3_address : GoodIn wsL_law (wsV RL 27 RX3 yX3_address wsX3_address) := goodIn_app (goodIn_of _ (by decide +kernel)) ggL_law_X3_address
set_option maxRecDepth 20000 in
theorem ggL_law_X3_worst : GoodIn wsL_law wsX3_worst := goodIn_r _ [303, 13, 304, 305, 306, 12, 307, 308, 309, 310, 311, 50, 51, 52, 53, 32, 54, 2, 55, 56, 57, 58, 59, 167, 168, 169, 170, 38, 312, 313, 314, 315, 35, 457, 458, 459, 460, 461, 462, 463, 464, 465, 466, 467, 468, 469, 470, 471, 472, 473, 474, 475, 476, 477] rfl (by decide +kernel)
set_option maxRecDepth 20000 in
theorem gL_law_X3_worst : GoodIn wsL_law (wsV RL 48 RX3 yX3_worst wsX3_worst) := goodIn_app (goodIn_of _ (by decide +kernel)) ggL_law_X3_worst
set_option maxRecDepth 20000 in
theorem ggL_law_X3_head : GoodIn wsL_law wsX3_head := goodIn_r _ [319, 13, 320, 321, 2, 322, 323, 260, 261, 12, 262, 31, 32, 34, 39, 38, 211, 212, 213, 214, 207, 208, 209, 210, 58, 59, 56, 57, 195, 196, 197, 198, 35, 29, 263, 264, 265, 266, 267, 268, 269, 270, 167, 168, 169, 170, 271, 272, 273, 274, 275, 276, 277, 278, 279, 280, 281, 282, 231, 232, 233, 234, 457, 458, 459, 460, 461, 462, 463, 464, 465, 466, 467, 468, 469, 470, 471, 472, 473, 474, 475, 476, 477] rfl (by decide +kernel)
set_option maxRecDepth 20000 in
theorem gL_law_X3_head : GoodIn wsL_law (wsV RL 30 RX3 yX3_head wsX3_head) := goodIn_app (goodIn_of _ (by decide +kernel)) ggL_law_X3_head
set_option maxRecDepth 20000 in
theorem ggL_law_L_cell : GoodIn wsL_law wsL_cell := goodIn_r _ [327, 328] rfl (by decide +kernel)
set_option maxRecDepth 20000 in
theorem gL_law_L_cell : GoodIn wsL_law (va_wsS RL 106 yL_cell wsL_cell) := goodIn_app (goodIn_of _ (by decide +kernel)) ggL_law_L_cell
set_option maxRecDepth 20000 in
theorem ggL_law_L_low : GoodIn wsL_law wsL_low := goodIn_r _ [331, 332] rfl (by decide +kernel)
set_option maxRecDepth 20000 in
theorem gL_law_L_low : GoodIn wsL_law (va_wsS RL 51 yL_low wsL_low) := goodIn_app (goodIn_of _ (by decide +kernel)) ggL_law_L_low
set_option maxRecDepth 20000 in
theorem ggL_law_X3_setLimit : GoodIn wsL_law wsX3_setLimit := goodIn_r _ [336, 14, 147, 148, 149, 2, 150, 13, 102, 91, 92, 12, 93, 29, 31, 94, 95, 96, 97, 32, 34, 35, 36, 37, 38, 39, 40, 41, 42, 43, 44, 45, 337, 338, 339, 340, 107, 108, 109, 110, 19, 111, 112, 113, 18, 114, 67, 66, 65, 90, 457, 458, 459, 460, 461, 462, 463, 464, 465, 466, 467, 468, 469, 470, 471, 472, 473, 474, 475, 476, 477, 478, 479, 480] rfl (by decide +kernel)
set_option maxRecDepth 20000 in
theorem gL_law_X3_setLimit : GoodIn wsL_law (wsV RL 89 RX3 yX3_setLimit wsX3_setLimit) := goodIn_app (goodIn_of _ (by decide +kernel)) ggL_law_X3_setLimit
set_option maxRecDepth 20000 in
theorem ggL_law_L_digest : GoodIn wsL_law wsL_digest := goodIn_r _ [343, 344, 345, 346, 347, 243, 244, 245, 2, 246, 19, 23, 13, 82, 83, 84, 18, 85, 67, 247, 248, 249, 22, 250, 73, 251, 252, 253, 12, 254, 29, 40, 41, 42, 43, 44, 45, 255, 256, 257, 258, 259, 260, 261, 262, 31, 32, 34, 39, 38, 211, 212, 213, 214, 207, 208, 209, 210, 58, 59, 56, 57, 195, 196, 197, 198, 35, 263, 264, 265, 266, 267, 268, 269, 270, 167, 168, 169, 170, 271, 272, 273, 274, 275, 276, 277, 278, 279, 280, 281, 282, 231, 232, 233, 234, 283, 284, 285, 286, 50, 51, 52, 53, 54, 55, 287, 288, 289, 290, 348, 349, 350, 351, 352, 353, 354, 355, 356, 291, 292, 293, 294, 295, 296, 297, 298, 299, 36, 37, 199, 200, 201, 202, 203, 204, 205, 206, 175, 176, 177, 178, 179, 180, 181, 182, 183, 184, 185, 186, 316, 317, 318, 319, 320, 321, 322, 323, 457, 458, 459, 460, 461, 462, 478, 479, 480, 481, 482, 483, 484, 485, 486, 463, 464, 465, 466, 467, 468, 469, 470, 471, 472, 473, 474, 475, 476, 477] rfl (by decide +kernel)
set_option maxRecDepth 20000 in
theorem gL_law_L_digest : GoodIn wsL_law (va_wsS RL 111 yL_digest wsL_digest) := goodIn_app (goodIn_of _ (by decide +kernel)) ggL_law_L_digest
set_option maxRecDepth 20000 in
theorem ggL_law_L_does : GoodIn wsL_law wsL_does := goodIn_r _ [359, 329, 330, 326, 331, 332, 360, 361, 362, 291, 292, 293, 2, 294, 13, 295, 51, 52, 12, 53, 32, 54, 55, 56, 57, 58, 59, 296, 297, 298, 299, 36, 38, 37, 167, 168, 169, 170, 287, 288, 289, 290, 199, 200, 201, 202, 203, 204, 205, 206, 207, 208, 209, 210, 39, 34, 195, 196, 197, 198, 35, 29, 211, 212, 213, 214, 175, 176, 177, 178, 40, 179, 180, 181, 182, 183, 184, 185, 186, 243, 244, 245, 246, 19, 23, 82, 83, 84, 18, 85, 67, 247, 248, 249, 22, 250, 73, 251, 252, 253, 254, 41, 42, 43, 44, 45, 255, 256, 257, 258, 259, 260, 261, 262, 31, 263, 264, 265, 266, 267, 268, 269, 270, 271, 272, 273, 274, 275, 276, 277, 278, 279, 280, 281, 282, 231, 232, 233, 234, 283, 284, 285, 286, 50, 363, 364, 365, 366, 367, 368, 369, 370, 371, 372, 373, 374, 14, 147, 148, 149, 150, 102, 91, 92, 93, 94, 95, 96, 97, 163, 164, 165, 166, 171, 172, 173, 174, 187, 188, 189, 190, 191, 192, 193, 194, 215, 216, 217, 218, 219, 220, 221, 222, 223, 224, 225, 226, 227, 228, 229, 230, 235, 236, 237, 238, 107, 108, 109, 110, 111, 112, 113, 114, 66, 65, 90, 348, 349, 350, 351, 352, 353, 354, 355, 356, 375, 376, 377, 378, 379, 380, 381, 239, 240, 241, 242, 316, 317, 318, 319, 320, 321, 322, 323, 382, 383, 384, 385, 386, 387, 388, 389, 390, 391, 392, 393, 394, 395, 396, 397, 398, 399, 400, 401, 402, 403, 404, 405, 406, 407, 408, 409, 410, 411, 412, 413, 414, 415, 416, 417, 418, 419, 420, 421, 422, 423, 424, 425, 426, 427, 428, 333, 334, 335, 336, 337, 338, 339, 340, 429, 430, 431, 432, 433, 434, 435, 436, 437, 457, 458, 459, 460, 461, 462, 463, 464, 465, 466, 467, 468, 469, 470, 471, 472, 473, 474, 475, 476, 477, 478, 479, 480, 481, 482, 483, 484, 485, 486] rfl (by decide +kernel)
set_option maxRecDepth 20000 in
theorem gL_law_L_does : GoodIn wsL_law (va_wsS RL 115 yL_does wsL_does) := goodIn_app (goodIn_of _ (by decide +kernel)) ggL_law_L_does
set_option maxRecDepth 20000 in
theorem ggL_law_L_sectors : GoodIn wsL_law wsL_sectors := goodIn_r _ [440, 243, 244, 245, 2, 246, 19, 23, 13, 82, 83, 84, 18, 85, 67, 247, 248, 249, 22, 250, 73, 251, 252, 253, 12, 254, 29, 40, 41, 42, 43, 44, 45, 255, 256, 257, 258, 259, 260, 261, 262, 31, 32, 34, 39, 38, 211, 212, 213, 214, 207, 208, 209, 210, 58, 59, 56, 57, 195, 196, 197, 198, 35, 263, 264, 265, 266, 267, 268, 269, 270, 167, 168, 169, 170, 271, 272, 273, 274, 275, 276, 277, 278, 279, 280, 281, 282, 231, 232, 233, 234, 283, 284, 285, 286, 50, 51, 52, 53, 54, 55, 287, 288, 289, 290, 348, 349, 350, 351, 352, 353, 354, 355, 356, 316, 317, 318, 319, 320, 321, 322, 323, 291, 292, 293, 294, 295, 296, 297, 298, 299, 36, 37, 199, 200, 201, 202, 203, 204, 205, 206, 175, 176, 177, 178, 179, 180, 181, 182, 183, 184, 185, 186, 457, 458, 459, 460, 461, 462, 478, 479, 480, 481, 482, 483, 484, 485, 486, 463, 464, 465, 466, 467, 468, 469, 470, 471, 472, 473, 474, 475, 476, 477] rfl (by decide +kernel)
set_option maxRecDepth 20000 in
theorem gL_law_L_sectors : GoodIn wsL_law (va_wsS RL 119 yL_sectors wsL_sectors) := goodIn_app (goodIn_of _ (by decide +kernel)) ggL_law_L_sectors
set_option maxRecDepth 20000 in
theorem ggL_law_L_addresses : GoodIn wsL_law wsL_addresses := goodIn_r _ [443, 444, 445, 326, 446, 316, 317, 318, 2, 319, 13, 320, 321, 322, 323, 260, 261, 12, 262, 31, 32, 34, 39, 38, 211, 212, 213, 214, 207, 208, 209, 210, 58, 59, 56, 57, 195, 196, 197, 198, 35, 29, 263, 264, 265, 266, 267, 268, 269, 270, 167, 168, 169, 170, 271, 272, 273, 274, 275, 276, 277, 278, 279, 280, 281, 282, 231, 232, 233, 234, 348, 349, 350, 351, 352, 54, 55, 353, 354, 355, 356, 50, 51, 52, 53, 291, 292, 293, 294, 295, 296, 297, 298, 299, 36, 37, 287, 288, 289, 290, 199, 200, 201, 202, 203, 204, 205, 206, 175, 176, 177, 178, 40, 179, 180, 181, 182, 183, 184, 185, 186, 447, 448, 449, 243, 244, 245, 246, 19, 23, 82, 83, 84, 18, 85, 67, 247, 248, 249, 22, 250, 73, 251, 252, 253, 254, 41, 42, 43, 44, 45, 255, 256, 257, 258, 259, 283, 284, 285, 286, 450, 451, 452, 457, 458, 459, 460, 461, 462, 463, 464, 465, 466, 467, 468, 469, 470, 471, 472, 473, 474, 475, 476, 477, 478, 479, 480, 481, 482, 483, 484, 485, 486] rfl (by decide +kernel)
set_option maxRecDepth 20000 in
theorem gL_law_L_addresses : GoodIn wsL_law (va_wsS RL 123 yL_addresses wsL_addresses) := goodIn_app (goodIn_of _ (by decide +kernel)) ggL_law_L_addresses
set_option maxRecDepth 20000 in
theorem ggL_law_L_worst : GoodIn wsL_law wsL_worst := goodIn_r _ [455, 456, 300, 301, 302, 2, 303, 13, 304, 305, 306, 12, 307, 308, 309, 310, 311, 50, 51, 52, 53, 32, 54, 55, 56, 57, 58, 59, 167, 168, 169, 170, 38, 312, 313, 314, 315, 35, 243, 244, 245, 246, 19, 23, 82, 83, 84, 18, 85, 67, 247, 248, 249, 22, 250, 73, 251, 252, 253, 254, 29, 40, 41, 42, 43, 44, 45, 255, 256, 257, 258, 259, 260, 261, 262, 31, 34, 39, 211, 212, 213, 214, 207, 208, 209, 210, 195, 196, 197, 198, 263, 264, 265, 266, 267, 268, 269, 270, 271, 272, 273, 274, 275, 276, 277, 278, 279, 280, 281, 282, 231, 232, 233, 234, 283, 284, 285, 286, 287, 288, 289, 290, 291, 292, 293, 294, 295, 296, 297, 298, 299, 36, 37, 199, 200, 201, 202, 203, 204, 205, 206, 175, 176, 177, 178, 179, 180, 181, 182, 183, 184, 185, 186, 348, 349, 350, 351, 352, 353, 354, 355, 356, 457, 458, 459, 460, 461, 462, 463, 464, 465, 466, 467, 468, 469, 470, 471, 472, 473, 474, 475, 476, 477, 478, 479, 480, 481, 482, 483, 484, 485, 486] rfl (by decide +kernel)
set_option maxRecDepth 20000 in
theorem gL_law_L_worst : GoodIn wsL_law (va_wsS RL 126 yL_worst wsL_worst) := goodIn_app (goodIn_of _ (by decide +kernel)) ggL_law_L_worst
