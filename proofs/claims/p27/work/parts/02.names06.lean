theorem dL_value_11 : decode cL_value 11 = .ok (.if_icmp .ne 13, 3) := by decide +kernel
theorem dL_value_14 : decode cL_value 14 = .ok (.aload_n 0, 1) := by decide +kernel
theorem dL_value_15 : decode cL_value 15 = .ok (.iload_n 1, 1) := by decide +kernel
theorem dL_value_16 : decode cL_value 16 = .ok (.iload_n 2, 1) := by decide +kernel
theorem dL_value_17 : decode cL_value 17 = .ok (.iconst 2, 1) := by decide +kernel
theorem dL_value_18 : decode cL_value 18 = .ok (.invokevirtual 44, 3) := by decide +kernel
theorem dL_value_21 : decode cL_value 21 = .ok (.goto 4, 3) := by decide +kernel
theorem dL_value_24 : decode cL_value 24 = .ok (.iload_n 3, 1) := by decide +kernel
theorem dL_value_25 : decode cL_value 25 = .ok (.ireturn, 1) := by decide +kernel
set_option maxRecDepth 20000 in
theorem ggL_areHighsSo_X4_count : GoodIn wsL_areHighsSo wsX4_count := goodIn_r _ [5, 6, 7, 8, 9, 10, 11, 12, 13, 14, 15, 16, 17, 18, 19, 20, 21, 22, 23, 24, 25, 26, 27, 83, 84, 85, 86, 87, 88, 89, 90, 91, 92, 93, 94, 95, 96, 97, 98, 99, 100, 101, 102, 103, 104, 105, 106, 107, 108] (by decide +kernel) (by decide +kernel)
set_option maxRecDepth 20000 in
theorem gL_areHighsSo_X4_count : GoodIn wsL_areHighsSo (wsV RL 41 RX4 yX4_count wsX4_count) := goodIn_app (goodIn_of _ (by decide +kernel)) ggL_areHighsSo_X4_count
set_option maxRecDepth 20000 in
theorem ggL_areHighsSo_L_value : GoodIn wsL_areHighsSo wsL_value := goodIn_r _ [31, 32, 33, 34, 4, 35, 6, 7, 36, 37, 38, 39, 40, 41, 42, 43, 44, 45, 46, 25, 47, 27, 48, 49, 50, 51, 52, 53, 54, 55, 56, 57, 58, 59, 60, 61, 62, 63, 64, 65, 66, 67, 68, 69, 83, 84, 85, 86, 87, 88, 89, 90, 91, 94, 95, 96, 97, 98, 99, 100, 101, 102, 103, 104, 105, 106, 107, 108] (by decide +kernel) (by decide +kernel)
set_option maxRecDepth 20000 in
theorem gL_areHighsSo_L_value : GoodIn wsL_areHighsSo (va_wsS RL 66 yL_value wsL_value) := goodIn_app (goodIn_of _ (by decide +kernel)) ggL_areHighsSo_L_value
set_option maxRecDepth 20000 in
theorem ggL_areHighsSo_X4_high : GoodIn wsL_areHighsSo wsX4_high := goodIn_r _ [73, 6, 36, 38, 39, 4, 40, 74, 75, 76, 25, 77, 78, 79, 80, 81, 67, 45, 46, 47, 27, 82, 64, 65, 66, 57, 49, 50, 51, 52, 68, 54, 55, 56, 58, 59, 60, 61, 62, 83, 84, 85, 86, 87, 88, 89, 90, 91, 94, 95, 96, 97, 98, 99, 100, 101, 102, 103, 104, 105, 106, 107, 108] (by decide +kernel) (by decide +kernel)
set_option maxRecDepth 20000 in
theorem gL_areHighsSo_X4_high : GoodIn wsL_areHighsSo (wsV RL 70 RX4 yX4_high wsX4_high) := goodIn_app (goodIn_of _ (by decide +kernel)) ggL_areHighsSo_X4_high
theorem dL_areHighsSo_0 : decode cL_areHighsSo 0 = .ok (.iconst 0, 1) := by decide +kernel
theorem dL_areHighsSo_1 : decode cL_areHighsSo 1 = .ok (.istore_n 2, 1) := by decide +kernel
theorem dL_areHighsSo_2 : decode cL_areHighsSo 2 = .ok (.iconst 1, 1) := by decide +kernel
theorem dL_areHighsSo_3 : decode cL_areHighsSo 3 = .ok (.istore_n 3, 1) := by decide +kernel
theorem dL_areHighsSo_4 : decode cL_areHighsSo 4 = .ok (.iload_n 3, 1) := by decide +kernel
theorem dL_areHighsSo_5 : decode cL_areHighsSo 5 = .ok (.aload_n 0, 1) := by decide +kernel
theorem dL_areHighsSo_6 : decode cL_areHighsSo 6 = .ok (.iconst 0, 1) := by decide +kernel
theorem dL_areHighsSo_7 : decode cL_areHighsSo 7 = .ok (.invokevirtual 41, 3) := by decide +kernel
theorem dL_areHighsSo_10 : decode cL_areHighsSo 10 = .ok (.iconst 1, 1) := by decide +kernel
theorem dL_areHighsSo_11 : decode cL_areHighsSo 11 = .ok (.isub, 1) := by decide +kernel
theorem dL_areHighsSo_12 : decode cL_areHighsSo 12 = .ok (.if_icmp .ge 80, 3) := by decide +kernel
theorem dL_areHighsSo_15 : decode cL_areHighsSo 15 = .ok (.aload_n 0, 1) := by decide +kernel
theorem dL_areHighsSo_16 : decode cL_areHighsSo 16 = .ok (.iload_n 1, 1) := by decide +kernel
theorem dL_areHighsSo_17 : decode cL_areHighsSo 17 = .ok (.iload_n 3, 1) := by decide +kernel
theorem dL_areHighsSo_18 : decode cL_areHighsSo 18 = .ok (.iconst 1, 1) := by decide +kernel
theorem dL_areHighsSo_19 : decode cL_areHighsSo 19 = .ok (.isub, 1) := by decide +kernel
theorem dL_areHighsSo_20 : decode cL_areHighsSo 20 = .ok (.invokestatic 66, 3) := by decide +kernel
theorem dL_areHighsSo_23 : decode cL_areHighsSo 23 = .ok (.istore 4, 2) := by decide +kernel
theorem dL_areHighsSo_25 : decode cL_areHighsSo 25 = .ok (.aload_n 0, 1) := by decide +kernel
theorem dL_areHighsSo_26 : decode cL_areHighsSo 26 = .ok (.iload_n 1, 1) := by decide +kernel
theorem dL_areHighsSo_27 : decode cL_areHighsSo 27 = .ok (.iload_n 3, 1) := by decide +kernel
theorem dL_areHighsSo_28 : decode cL_areHighsSo 28 = .ok (.invokestatic 66, 3) := by decide +kernel
theorem dL_areHighsSo_31 : decode cL_areHighsSo 31 = .ok (.istore 5, 2) := by decide +kernel
theorem dL_areHighsSo_33 : decode cL_areHighsSo 33 = .ok (.aload_n 0, 1) := by decide +kernel
theorem dL_areHighsSo_34 : decode cL_areHighsSo 34 = .ok (.iload_n 1, 1) := by decide +kernel
theorem dL_areHighsSo_35 : decode cL_areHighsSo 35 = .ok (.iload_n 3, 1) := by decide +kernel
theorem dL_areHighsSo_36 : decode cL_areHighsSo 36 = .ok (.iconst 1, 1) := by decide +kernel
theorem dL_areHighsSo_37 : decode cL_areHighsSo 37 = .ok (.iadd, 1) := by decide +kernel
theorem dL_areHighsSo_38 : decode cL_areHighsSo 38 = .ok (.invokestatic 66, 3) := by decide +kernel
theorem dL_areHighsSo_41 : decode cL_areHighsSo 41 = .ok (.istore 6, 2) := by decide +kernel
theorem dL_areHighsSo_43 : decode cL_areHighsSo 43 = .ok (.iload 4, 2) := by decide +kernel
theorem dL_areHighsSo_45 : decode cL_areHighsSo 45 = .ok (.bipush (-5), 2) := by decide +kernel
theorem dL_areHighsSo_47 : decode cL_areHighsSo 47 = .ok (.if_icmp .eq 39, 3) := by decide +kernel
theorem dL_areHighsSo_50 : decode cL_areHighsSo 50 = .ok (.iload 6, 2) := by decide +kernel
theorem dL_areHighsSo_52 : decode cL_areHighsSo 52 = .ok (.bipush (-5), 2) := by decide +kernel
theorem dL_areHighsSo_54 : decode cL_areHighsSo 54 = .ok (.if_icmp .eq 32, 3) := by decide +kernel
theorem dL_areHighsSo_57 : decode cL_areHighsSo 57 = .ok (.iload 5, 2) := by decide +kernel
theorem dL_areHighsSo_59 : decode cL_areHighsSo 59 = .ok (.iload 4, 2) := by decide +kernel
theorem dL_areHighsSo_61 : decode cL_areHighsSo 61 = .ok (.if_icmp .le 25, 3) := by decide +kernel
theorem dL_areHighsSo_64 : decode cL_areHighsSo 64 = .ok (.iload 5, 2) := by decide +kernel
theorem dL_areHighsSo_66 : decode cL_areHighsSo 66 = .ok (.iload 6, 2) := by decide +kernel
theorem dL_areHighsSo_68 : decode cL_areHighsSo 68 = .ok (.if_icmp .le 18, 3) := by decide +kernel
theorem dL_areHighsSo_71 : decode cL_areHighsSo 71 = .ok (.aload_n 0, 1) := by decide +kernel
theorem dL_areHighsSo_72 : decode cL_areHighsSo 72 = .ok (.iload_n 1, 1) := by decide +kernel
theorem dL_areHighsSo_73 : decode cL_areHighsSo 73 = .ok (.iload_n 2, 1) := by decide +kernel
theorem dL_areHighsSo_74 : decode cL_areHighsSo 74 = .ok (.invokevirtual 70, 3) := by decide +kernel
theorem dL_areHighsSo_77 : decode cL_areHighsSo 77 = .ok (.iload_n 3, 1) := by decide +kernel
theorem dL_areHighsSo_78 : decode cL_areHighsSo 78 = .ok (.if_icmp .eq 5, 3) := by decide +kernel
theorem dL_areHighsSo_81 : decode cL_areHighsSo 81 = .ok (.iconst 0, 1) := by decide +kernel
theorem dL_areHighsSo_82 : decode cL_areHighsSo 82 = .ok (.ireturn, 1) := by decide +kernel
theorem dL_areHighsSo_83 : decode cL_areHighsSo 83 = .ok (.iinc 2 1, 3) := by decide +kernel
theorem dL_areHighsSo_86 : decode cL_areHighsSo 86 = .ok (.iinc 3 1, 3) := by decide +kernel
theorem dL_areHighsSo_89 : decode cL_areHighsSo 89 = .ok (.goto (-85), 3) := by decide +kernel
theorem dL_areHighsSo_92 : decode cL_areHighsSo 92 = .ok (.aload_n 0, 1) := by decide +kernel
theorem dL_areHighsSo_93 : decode cL_areHighsSo 93 = .ok (.iload_n 1, 1) := by decide +kernel
theorem dL_areHighsSo_94 : decode cL_areHighsSo 94 = .ok (.iload_n 2, 1) := by decide +kernel
theorem dL_areHighsSo_95 : decode cL_areHighsSo 95 = .ok (.invokevirtual 70, 3) := by decide +kernel
theorem dL_areHighsSo_98 : decode cL_areHighsSo 98 = .ok (.bipush (-5), 2) := by decide +kernel
theorem dL_areHighsSo_100 : decode cL_areHighsSo 100 = .ok (.if_icmp .ne 7, 3) := by decide +kernel
theorem dL_areHighsSo_103 : decode cL_areHighsSo 103 = .ok (.iconst 1, 1) := by decide +kernel
theorem dL_areHighsSo_104 : decode cL_areHighsSo 104 = .ok (.goto 4, 3) := by decide +kernel
theorem dL_areHighsSo_107 : decode cL_areHighsSo 107 = .ok (.iconst 0, 1) := by decide +kernel
theorem dL_areHighsSo_108 : decode cL_areHighsSo 108 = .ok (.ireturn, 1) := by decide +kernel
set_option maxRecDepth 20000 in
theorem ggL_law_X4_init : GoodIn wsL_law wsX4_init := goodIn_r _ [5, 6, 7, 8, 9, 10, 11, 12, 13, 14, 15, 16, 17, 18, 19, 20, 21, 22, 23, 24, 25, 26, 27, 28, 29, 30, 31, 32, 33, 34, 35, 36, 37, 38, 39, 40, 41, 42, 43, 44, 45, 46, 47, 48, 49, 50, 51, 52, 53, 54, 55, 56, 57, 58, 59, 60, 61, 62, 63, 64, 65, 66, 67, 68, 69, 70, 71, 72, 73, 74, 75, 76, 77, 78, 79, 80, 81, 82, 83, 84, 85, 86, 87, 88, 89, 90, 91, 92, 93, 94, 95, 96, 406, 407, 408, 400, 401, 402, 403, 404, 405, 409, 410, 411, 412, 413, 414, 415, 416, 417, 418, 419, 420, 421, 422, 423, 424, 425, 426, 427, 428] (by decide +kernel) (by decide +kernel)
set_option maxRecDepth 20000 in
theorem gL_law_X4_init : GoodIn wsL_law (wsX4_init) := ggL_law_X4_init
set_option maxRecDepth 20000 in
theorem ggL_law_L_cell : GoodIn wsL_law wsL_cell := goodIn_r _ [100] (by decide +kernel) (by decide +kernel)
set_option maxRecDepth 20000 in
theorem gL_law_L_cell : GoodIn wsL_law (va_wsS RL 74 yL_cell wsL_cell) := goodIn_app (goodIn_of _ (by decide +kernel)) ggL_law_L_cell
set_option maxRecDepth 20000 in
theorem ggL_law_L_begin : GoodIn wsL_law wsL_begin := goodIn_r _ [103, 104, 105, 99, 106, 107, 108, 109, 110, 2, 111, 12, 112, 113, 114, 115, 116, 117, 118, 119, 120, 26, 121, 39, 40, 41, 122, 123, 124, 125, 126, 14, 127, 128, 129, 130, 131, 132, 133, 11, 134, 135, 24, 136, 137, 138, 28, 139, 36, 37, 38, 140, 141, 142, 30, 143, 56, 57, 58, 144, 145, 146, 147, 148, 46, 47, 149, 150, 49, 151, 152, 153, 154, 50, 51, 52, 53, 54, 55, 155, 156, 157, 158, 159, 63, 64, 65, 66, 67, 68, 69, 70, 71, 72, 73, 74, 75, 76, 77, 78, 79, 80, 81, 82, 83, 84, 85, 86, 87, 88, 89, 90, 160, 161, 162, 163, 164, 165, 166, 167, 168, 169, 170, 171, 172, 173, 174, 175, 400, 401, 402, 403, 404, 405, 406, 407, 408, 411, 412, 413, 414, 415, 416, 417, 418, 419, 420, 421, 422, 423, 424, 425, 426, 427, 428] (by decide +kernel) (by decide +kernel)
set_option maxRecDepth 20000 in
theorem gL_law_L_begin : GoodIn wsL_law (va_wsS RL 78 yL_begin wsL_begin) := goodIn_app (goodIn_of _ (by decide +kernel)) ggL_law_L_begin
set_option maxRecDepth 20000 in
theorem ggL_law_L_does : GoodIn wsL_law wsL_does := goodIn_r _ [178, 104, 105, 99, 106, 107, 179, 180, 181, 2, 182, 12, 165, 183, 167, 168, 169, 122, 123, 124, 125, 126, 14, 127, 128, 129, 130, 131, 132, 133, 11, 134, 135, 24, 136, 137, 138, 28, 139, 36, 37, 26, 38, 39, 40, 41, 140, 141, 142, 30, 143, 56, 57, 58, 144, 145, 146, 147, 148, 46, 47, 149, 150, 49, 151, 152, 153, 154, 50, 51, 52, 53, 54, 55, 184, 185, 186, 187, 188, 189, 190, 191, 192, 193, 194, 195, 196, 197, 112, 198, 199, 200, 201, 202, 203, 204, 205, 206, 207, 208, 209, 210, 211, 212, 213, 214, 88, 85, 89, 215, 216, 217, 218, 219, 220, 115, 116, 117, 221, 222, 223, 224, 225, 226, 227, 228, 68, 69, 70, 71, 72, 73, 74, 75, 76, 77, 78, 79, 80, 81, 82, 83, 84, 86, 87, 90, 229, 230, 231, 232, 233, 234, 235, 236, 400, 401, 402, 403, 404, 405, 406, 407, 408, 414, 415, 416, 417, 418, 419, 420, 421, 422, 423, 424, 425, 426, 427, 428, 411, 412, 413] (by decide +kernel) (by decide +kernel)
set_option maxRecDepth 20000 in
theorem gL_law_L_does : GoodIn wsL_law (va_wsS RL 82 yL_does wsL_does) := goodIn_app (goodIn_of _ (by decide +kernel)) ggL_law_L_does
set_option maxRecDepth 20000 in
theorem ggL_law_L_low : GoodIn wsL_law wsL_low := goodIn_r _ [106, 107] (by decide +kernel) (by decide +kernel)
set_option maxRecDepth 20000 in
theorem gL_law_L_low : GoodIn wsL_law (va_wsS RL 8 yL_low wsL_low) := goodIn_app (goodIn_of _ (by decide +kernel)) ggL_law_L_low
set_option maxRecDepth 20000 in
theorem ggL_law_X4_count : GoodIn wsL_law wsX4_count := goodIn_r _ [240, 12, 112, 126, 18, 241, 184, 185, 186, 11, 187, 28, 188, 242, 243, 244, 245, 246, 247, 248, 30, 249, 49, 400, 401, 402, 403, 404, 405, 406, 407, 408, 409, 410, 414, 415, 416, 417, 418, 419, 420, 421, 422, 423, 424, 425, 426, 427, 428] (by decide +kernel) (by decide +kernel)
set_option maxRecDepth 20000 in
theorem gL_law_X4_count : GoodIn wsL_law (wsV RL 41 RX4 yX4_count wsX4_count) := goodIn_app (goodIn_of _ (by decide +kernel)) ggL_law_X4_count
set_option maxRecDepth 20000 in
theorem ggL_law_L_isStationSo : GoodIn wsL_law wsL_isStationSo := goodIn_r _ [252, 237, 238, 239, 2, 240, 12, 112, 126, 18, 241, 184, 185, 186, 11, 187, 28, 188, 242, 243, 244, 245, 246, 247, 248, 30, 249, 49, 253, 254, 255, 256, 165, 114, 167, 168, 169, 115, 116, 117, 257, 258, 259, 260, 261, 262, 263, 264, 50, 265, 266, 267, 268, 269, 270, 271, 272, 273, 51, 274, 275, 276, 277, 278, 279, 280, 281, 282, 283, 284, 285, 286, 287, 166, 193, 220, 219, 198, 183, 288, 289, 290, 291, 292, 293, 294, 295, 296, 297, 298, 299, 300, 301, 302, 303, 304, 305, 306, 307, 308, 309, 310, 311, 312, 313, 314, 315, 316, 317, 318, 319, 320, 321, 322, 323, 324, 325, 326, 327, 328, 329, 330, 331, 400, 401, 402, 403, 404, 405, 406, 407, 408, 409, 410, 414, 415, 416, 417, 418, 419, 420, 421, 422, 423, 424, 425, 426, 427, 428] (by decide +kernel) (by decide +kernel)
set_option maxRecDepth 20000 in
theorem gL_law_L_isStationSo : GoodIn wsL_law (va_wsS RL 86 yL_isStationSo wsL_isStationSo) := goodIn_app (goodIn_of _ (by decide +kernel)) ggL_law_L_isStationSo
set_option maxRecDepth 20000 in
theorem ggL_law_L_areHighsSo : GoodIn wsL_law wsL_areHighsSo := goodIn_r _ [334, 237, 238, 239, 2, 240, 12, 112, 126, 18, 241, 184, 185, 186, 11, 187, 28, 188, 242, 243, 244, 245, 246, 247, 248, 30, 249, 49, 335, 336, 99, 337, 253, 254, 255, 256, 165, 114, 167, 168, 169, 115, 116, 117, 257, 258, 259, 260, 261, 262, 263, 264, 50, 265, 266, 267, 268, 269, 270, 271, 272, 273, 51, 274, 275, 276, 277, 278, 279, 280, 338, 339, 340, 341, 342, 343, 344, 345, 346, 347, 348, 349, 350, 400, 401, 402, 403, 404, 405, 406, 407, 408, 409, 410, 414, 415, 416, 417, 418, 419, 420, 421, 422, 423, 424, 425, 426, 427, 428] (by decide +kernel) (by decide +kernel)
set_option maxRecDepth 20000 in
theorem gL_law_L_areHighsSo : GoodIn wsL_law (va_wsS RL 90 yL_areHighsSo wsL_areHighsSo) := goodIn_app (goodIn_of _ (by decide +kernel)) ggL_law_L_areHighsSo
set_option maxRecDepth 20000 in
theorem ggL_law_X4_station : GoodIn wsL_law wsX4_station := goodIn_r _ [284, 12, 165, 285, 286, 287, 114, 166, 193, 220, 219, 198, 183, 288, 167, 168, 2, 169, 289, 247, 248, 30, 249, 49, 290, 291, 292, 293, 294, 295, 296, 297, 298, 299, 300, 301, 278, 258, 259, 260, 400, 401, 402, 403, 404, 405, 406, 407, 408, 414, 415, 416, 417, 418, 419, 420, 421, 422, 423, 424, 425, 426, 427, 428] (by decide +kernel) (by decide +kernel)
set_option maxRecDepth 20000 in
theorem gL_law_X4_station : GoodIn wsL_law (wsV RL 48 RX4 yX4_station wsX4_station) := goodIn_app (goodIn_of _ (by decide +kernel)) ggL_law_X4_station
set_option maxRecDepth 20000 in
theorem ggL_law_L_isMendSo : GoodIn wsL_law wsL_isMendSo := goodIn_r _ [353, 354, 355, 356, 2, 357, 12, 165, 358, 359, 360, 361, 167, 168, 169, 306, 307, 308, 30, 309, 310, 311, 312, 313, 294, 295, 296, 297, 298, 299, 300, 301, 278, 258, 259, 260, 49, 115, 116, 117, 319, 320, 321, 322, 323, 324, 325, 326, 327, 316, 317, 318, 314, 315, 362, 363, 364, 365, 366, 367, 368, 369, 370, 371, 372, 373, 374, 375, 376, 377, 378, 209, 379, 380, 381, 382, 383, 384, 279, 266, 267, 268, 269, 262, 263, 264, 50, 270, 271, 272, 273, 51, 302, 303, 304, 305, 328, 329, 330, 331, 385, 386, 387, 388, 122, 123, 124, 125, 126, 14, 127, 128, 129, 130, 131, 132, 133, 11, 134, 135, 24, 136, 137, 138, 28, 139, 36, 37, 26, 38, 39, 40, 41, 140, 141, 142, 143, 56, 57, 58, 144, 145, 146, 147, 148, 46, 47, 149, 150, 151, 152, 153, 154, 52, 53, 54, 55, 389, 390, 391, 392, 207, 208, 210, 212, 213, 214, 88, 85, 89, 393, 394, 395, 396, 253, 254, 255, 256, 112, 114, 257, 261, 265, 274, 275, 276, 277, 280, 397, 398, 99, 399, 400, 401, 402, 403, 404, 405, 406, 407, 408, 414, 415, 416, 417, 418, 419, 420, 421, 422, 423, 424, 425, 426, 427, 428, 411, 412, 413] (by decide +kernel) (by decide +kernel)
set_option maxRecDepth 20000 in
theorem gL_law_L_isMendSo : GoodIn wsL_law (va_wsS RL 93 yL_isMendSo wsL_isMendSo) := goodIn_app (goodIn_of _ (by decide +kernel)) ggL_law_L_isMendSo
theorem dL_law_0 : decode cL_law 0 = .ok (.new 15, 3) := by decide +kernel
theorem dL_law_3 : decode cL_law 3 = .ok (.dup, 1) := by decide +kernel
theorem dL_law_4 : decode cL_law 4 = .ok (.invokespecial 73, 3) := by decide +kernel
theorem dL_law_7 : decode cL_law 7 = .ok (.astore_n 1, 1) := by decide +kernel
theorem dL_law_8 : decode cL_law 8 = .ok (.aload_n 1, 1) := by decide +kernel
theorem dL_law_9 : decode cL_law 9 = .ok (.aload_n 0, 1) := by decide +kernel
theorem dL_law_10 : decode cL_law 10 = .ok (.iconst 0, 1) := by decide +kernel
theorem dL_law_11 : decode cL_law 11 = .ok (.invokestatic 74, 3) := by decide +kernel
theorem dL_law_14 : decode cL_law 14 = .ok (.aload_n 0, 1) := by decide +kernel
theorem dL_law_15 : decode cL_law 15 = .ok (.iconst 1, 1) := by decide +kernel
theorem dL_law_16 : decode cL_law 16 = .ok (.invokestatic 74, 3) := by decide +kernel
theorem dL_law_19 : decode cL_law 19 = .ok (.invokestatic 78, 3) := by decide +kernel
theorem dL_law_22 : decode cL_law 22 = .ok (.iconst 2, 1) := by decide +kernel
theorem dL_law_23 : decode cL_law 23 = .ok (.istore_n 2, 1) := by decide +kernel
theorem dL_law_24 : decode cL_law 24 = .ok (.iload_n 2, 1) := by decide +kernel
theorem dL_law_25 : decode cL_law 25 = .ok (.bipush 42, 2) := by decide +kernel
theorem dL_law_27 : decode cL_law 27 = .ok (.if_icmp .ge 165, 3) := by decide +kernel
theorem dL_law_30 : decode cL_law 30 = .ok (.aload_n 0, 1) := by decide +kernel
theorem dL_law_31 : decode cL_law 31 = .ok (.iload_n 2, 1) := by decide +kernel
theorem dL_law_32 : decode cL_law 32 = .ok (.invokestatic 74, 3) := by decide +kernel
theorem dL_law_35 : decode cL_law 35 = .ok (.istore_n 3, 1) := by decide +kernel
theorem dL_law_36 : decode cL_law 36 = .ok (.aload_n 1, 1) := by decide +kernel
theorem dL_law_37 : decode cL_law 37 = .ok (.iload_n 3, 1) := by decide +kernel
theorem dL_law_38 : decode cL_law 38 = .ok (.invokestatic 82, 3) := by decide +kernel
theorem dL_law_41 : decode cL_law 41 = .ok (.istore 4, 2) := by decide +kernel
theorem dL_law_43 : decode cL_law 43 = .ok (.iload_n 3, 1) := by decide +kernel
theorem dL_law_44 : decode cL_law 44 = .ok (.iconst 5, 1) := by decide +kernel
theorem dL_law_45 : decode cL_law 45 = .ok (.ishr, 1) := by decide +kernel
theorem dL_law_46 : decode cL_law 46 = .ok (.iconst 3, 1) := by decide +kernel
theorem dL_law_47 : decode cL_law 47 = .ok (.invokestatic 8, 3) := by decide +kernel
theorem dL_law_50 : decode cL_law 50 = .ok (.istore 5, 2) := by decide +kernel
theorem dL_law_52 : decode cL_law 52 = .ok (.iload 4, 2) := by decide +kernel
theorem dL_law_54 : decode cL_law 54 = .ok (.bipush (-5), 2) := by decide +kernel
theorem dL_law_56 : decode cL_law 56 = .ok (.if_icmp .lt 48, 3) := by decide +kernel
theorem dL_law_59 : decode cL_law 59 = .ok (.aload_n 1, 1) := by decide +kernel
theorem dL_law_60 : decode cL_law 60 = .ok (.iconst 2, 1) := by decide +kernel
theorem dL_law_61 : decode cL_law 61 = .ok (.invokevirtual 41, 3) := by decide +kernel
theorem dL_law_64 : decode cL_law 64 = .ok (.aload_n 1, 1) := by decide +kernel
theorem dL_law_65 : decode cL_law 65 = .ok (.iconst 3, 1) := by decide +kernel
theorem dL_law_66 : decode cL_law 66 = .ok (.invokevirtual 41, 3) := by decide +kernel
theorem dL_law_69 : decode cL_law 69 = .ok (.iadd, 1) := by decide +kernel
theorem dL_law_70 : decode cL_law 70 = .ok (.iconst 3, 1) := by decide +kernel
theorem dL_law_71 : decode cL_law 71 = .ok (.aload_n 1, 1) := by decide +kernel
theorem dL_law_72 : decode cL_law 72 = .ok (.iconst 0, 1) := by decide +kernel
theorem dL_law_73 : decode cL_law 73 = .ok (.invokevirtual 41, 3) := by decide +kernel
theorem dL_law_76 : decode cL_law 76 = .ok (.imul, 1) := by decide +kernel
theorem dL_law_77 : decode cL_law 77 = .ok (.if_icmp .ne 27, 3) := by decide +kernel
theorem dL_law_80 : decode cL_law 80 = .ok (.iload_n 2, 1) := by decide +kernel
theorem dL_law_81 : decode cL_law 81 = .ok (.iconst 5, 1) := by decide +kernel
theorem dL_law_82 : decode cL_law 82 = .ok (.irem, 1) := by decide +kernel
theorem dL_law_83 : decode cL_law 83 = .ok (.ifCond .ne 23, 3) := by decide +kernel
theorem dL_law_86 : decode cL_law 86 = .ok (.aload_n 1, 1) := by decide +kernel
theorem dL_law_87 : decode cL_law 87 = .ok (.iload 5, 2) := by decide +kernel
theorem dL_law_89 : decode cL_law 89 = .ok (.invokestatic 86, 3) := by decide +kernel
theorem dL_law_92 : decode cL_law 92 = .ok (.ifCond .eq 12, 3) := by decide +kernel
theorem dL_law_95 : decode cL_law 95 = .ok (.aload_n 1, 1) := by decide +kernel
theorem dL_law_96 : decode cL_law 96 = .ok (.iload 5, 2) := by decide +kernel
theorem dL_law_98 : decode cL_law 98 = .ok (.invokestatic 90, 3) := by decide +kernel
theorem dL_law_101 : decode cL_law 101 = .ok (.ifCond .ne 5, 3) := by decide +kernel
theorem dL_law_104 : decode cL_law 104 = .ok (.iconst 0, 1) := by decide +kernel
theorem dL_law_105 : decode cL_law 105 = .ok (.ireturn, 1) := by decide +kernel
theorem dL_law_106 : decode cL_law 106 = .ok (.aload_n 1, 1) := by decide +kernel
theorem dL_law_107 : decode cL_law 107 = .ok (.iload 5, 2) := by decide +kernel
theorem dL_law_109 : decode cL_law 109 = .ok (.bipush 10, 2) := by decide +kernel
theorem dL_law_111 : decode cL_law 111 = .ok (.invokevirtual 48, 3) := by decide +kernel
theorem dL_law_114 : decode cL_law 114 = .ok (.istore 6, 2) := by decide +kernel
theorem dL_law_116 : decode cL_law 116 = .ok (.iload_n 2, 1) := by decide +kernel
theorem dL_law_117 : decode cL_law 117 = .ok (.bipush 10, 2) := by decide +kernel
theorem dL_law_119 : decode cL_law 119 = .ok (.irem, 1) := by decide +kernel
theorem dL_law_120 : decode cL_law 120 = .ok (.bipush 9, 2) := by decide +kernel
theorem dL_law_122 : decode cL_law 122 = .ok (.if_icmp .ne 64, 3) := by decide +kernel
theorem dL_law_125 : decode cL_law 125 = .ok (.iload 6, 2) := by decide +kernel
theorem dL_law_127 : decode cL_law 127 = .ok (.ifCond .le 59, 3) := by decide +kernel
theorem dL_law_130 : decode cL_law 130 = .ok (.aload_n 1, 1) := by decide +kernel
theorem dL_law_131 : decode cL_law 131 = .ok (.iload 5, 2) := by decide +kernel
theorem dL_law_133 : decode cL_law 133 = .ok (.bipush 11, 2) := by decide +kernel
theorem dL_law_135 : decode cL_law 135 = .ok (.invokevirtual 48, 3) := by decide +kernel
theorem dL_law_138 : decode cL_law 138 = .ok (.istore 7, 2) := by decide +kernel
theorem dL_law_140 : decode cL_law 140 = .ok (.aload_n 1, 1) := by decide +kernel
theorem dL_law_141 : decode cL_law 141 = .ok (.iload 5, 2) := by decide +kernel
theorem dL_law_143 : decode cL_law 143 = .ok (.iload_n 3, 1) := by decide +kernel
theorem dL_law_144 : decode cL_law 144 = .ok (.bipush 8, 2) := by decide +kernel
theorem dL_law_146 : decode cL_law 146 = .ok (.ishr, 1) := by decide +kernel
theorem dL_law_147 : decode cL_law 147 = .ok (.iload 6, 2) := by decide +kernel
theorem dL_law_149 : decode cL_law 149 = .ok (.invokestatic 8, 3) := by decide +kernel
theorem dL_law_152 : decode cL_law 152 = .ok (.iload 5, 2) := by decide +kernel
theorem dL_law_154 : decode cL_law 154 = .ok (.iconst 1, 1) := by decide +kernel
theorem dL_law_155 : decode cL_law 155 = .ok (.iadd, 1) := by decide +kernel
theorem dL_law_156 : decode cL_law 156 = .ok (.iload_n 3, 1) := by decide +kernel
theorem dL_law_157 : decode cL_law 157 = .ok (.bipush 7, 2) := by decide +kernel
theorem dL_law_159 : decode cL_law 159 = .ok (.ishr, 1) := by decide +kernel
theorem dL_law_160 : decode cL_law 160 = .ok (.iconst 1, 1) := by decide +kernel
theorem dL_law_161 : decode cL_law 161 = .ok (.iand, 1) := by decide +kernel
theorem dL_law_162 : decode cL_law 162 = .ok (.iadd, 1) := by decide +kernel
theorem dL_law_163 : decode cL_law 163 = .ok (.iconst 3, 1) := by decide +kernel
theorem dL_law_164 : decode cL_law 164 = .ok (.irem, 1) := by decide +kernel
theorem dL_law_165 : decode cL_law 165 = .ok (.invokestatic 93, 3) := by decide +kernel
theorem dL_law_168 : decode cL_law 168 = .ok (.ifCond .eq 16, 3) := by decide +kernel
theorem dL_law_171 : decode cL_law 171 = .ok (.aload_n 1, 1) := by decide +kernel
theorem dL_law_172 : decode cL_law 172 = .ok (.iload 5, 2) := by decide +kernel
theorem dL_law_174 : decode cL_law 174 = .ok (.bipush 11, 2) := by decide +kernel
theorem dL_law_176 : decode cL_law 176 = .ok (.invokevirtual 48, 3) := by decide +kernel
theorem dL_law_179 : decode cL_law 179 = .ok (.iload 7, 2) := by decide +kernel
theorem dL_law_181 : decode cL_law 181 = .ok (.if_icmp .ge 5, 3) := by decide +kernel
theorem dL_law_184 : decode cL_law 184 = .ok (.iconst 0, 1) := by decide +kernel
theorem dL_law_185 : decode cL_law 185 = .ok (.ireturn, 1) := by decide +kernel
theorem dL_law_186 : decode cL_law 186 = .ok (.iinc 2 1, 3) := by decide +kernel
theorem dL_law_189 : decode cL_law 189 = .ok (.goto (-165), 3) := by decide +kernel
theorem dL_law_192 : decode cL_law 192 = .ok (.iconst 1, 1) := by decide +kernel
theorem dL_law_193 : decode cL_law 193 = .ok (.ireturn, 1) := by decide +kernel
abbrev vwCl : List vw_C := [(RX0, TX0, 15), (RX1, TX1, 2), (RX2, TX2, 3), (RX3, TX3, 3), (RX4, TX4, 6)]
