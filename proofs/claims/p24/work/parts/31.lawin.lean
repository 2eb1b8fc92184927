set_option maxRecDepth 20000 in
theorem wsL_law0_r1_in : ∀ w ∈ wsL_law0_r1, w ∈ lw_tbl := fun w h => (goodIn_r (big := lw_tbl) wsL_law0_r1 [369, 355, 356, 27, 357, 358, 351, 352, 353, 354, 347, 348, 349, 350, 360, 361, 362, 363, 364, 365, 366, 367, 368, 370] (by decide +kernel) (by decide +kernel) w h).1
set_option maxRecDepth 20000 in
theorem wsL_law0_r2_in : ∀ w ∈ wsL_law0_r2, w ∈ lw_tbl := fun w h => (goodIn_r (big := lw_tbl) wsL_law0_r2 [371, 372, 373, 43, 28, 374, 375, 376, 377, 71, 72, 378, 379, 380, 381, 382, 383, 397, 398, 399, 400, 401, 402, 403] (by decide +kernel) (by decide +kernel) w h).1
set_option maxRecDepth 20000 in
theorem wsL_law0_r3_in : ∀ w ∈ wsL_law0_r3, w ∈ lw_tbl := fun w h => (goodIn_r (big := lw_tbl) wsL_law0_r3 [404, 405, 406, 407, 408, 409, 410, 45, 32, 122, 33, 296, 297, 298, 413, 414, 415, 416, 262, 34, 115, 116, 117, 118] (by decide +kernel) (by decide +kernel) w h).1
set_option maxRecDepth 20000 in
theorem wsL_law0_r4_in : ∀ w ∈ wsL_law0_r4, w ∈ lw_tbl := fun w h => (goodIn_r (big := lw_tbl) wsL_law0_r4 [120, 146, 147, 148, 149, 199, 201, 10, 202, 152, 153, 154, 155, 40, 42, 0, 44, 156, 157, 158, 138, 140, 2, 141] (by decide +kernel) (by decide +kernel) w h).1
set_option maxRecDepth 20000 in
theorem wsL_law0_r5_in : ∀ w ∈ wsL_law0_r5, w ∈ lw_tbl := fun w h => (goodIn_r (big := lw_tbl) wsL_law0_r5 [341, 342, 343, 344, 345, 346, 305, 307, 25, 308, 207, 209, 12, 210, 169, 171, 4, 172, 211, 213, 13, 214, 191, 193] (by decide +kernel) (by decide +kernel) w h).1
set_option maxRecDepth 20000 in
theorem wsL_law0_r6_in : ∀ w ∈ wsL_law0_r6, w ∈ lw_tbl := fun w h => (goodIn_r (big := lw_tbl) wsL_law0_r6 [8, 194, 181, 182, 183, 215, 217, 14, 218, 223, 224, 35, 225, 219, 221, 15, 222, 309, 311, 26, 312, 226, 228, 16] (by decide +kernel) (by decide +kernel) w h).1
set_option maxRecDepth 20000 in
theorem wsL_law0_r7_in : ∀ w ∈ wsL_law0_r7, w ∈ lw_tbl := fun w h => (goodIn_r (big := lw_tbl) wsL_law0_r7 [229, 230, 232, 17, 233, 234, 236, 18, 237, 238, 240, 19, 241, 242, 244, 20, 245, 246, 248, 250, 252, 21, 253, 254] (by decide +kernel) (by decide +kernel) w h).1
set_option maxRecDepth 20000 in
theorem wsL_law0_r8_in : ∀ w ∈ wsL_law0_r8, w ∈ lw_tbl := fun w h => (goodIn_r (big := lw_tbl) wsL_law0_r8 [256, 22, 257, 258, 260, 23, 261, 203, 205, 11, 206, 288, 290, 24, 291, 173, 175, 5, 176, 184, 185, 186, 177, 179] (by decide +kernel) (by decide +kernel) w h).1
set_option maxRecDepth 20000 in
theorem wsL_law0_r9_in : ∀ w ∈ wsL_law0_r9, w ∈ lw_tbl := fun w h => (goodIn_r (big := lw_tbl) wsL_law0_r9 [6, 180, 187, 189, 7, 190, 325, 326, 327, 328, 329, 330, 331, 332, 165, 167, 3, 168, 195, 197, 9, 198, 321, 322] (by decide +kernel) (by decide +kernel) w h).1
set_option maxRecDepth 20000 in
theorem wsL_law0_r10_in : ∀ w ∈ wsL_law0_r10, w ∈ lw_tbl := fun w h => (goodIn_r (big := lw_tbl) wsL_law0_r10 [323, 324, 333, 334, 335, 336, 283, 284, 285, 286, 300, 301, 302, 303, 278, 279, 280, 281, 36, 37, 38, 39, 142, 143] (by decide +kernel) (by decide +kernel) w h).1
set_option maxRecDepth 20000 in
theorem wsL_law0_r11_in : ∀ w ∈ wsL_law0_r11, w ∈ lw_tbl := fun w h => (goodIn_r (big := lw_tbl) wsL_law0_r11 [144, 145, 161, 162, 163, 164, 292, 293, 294, 295, 313, 314, 315, 316, 317, 318, 319, 337, 338, 339, 340] (by decide +kernel) (by decide +kernel) w h).1
theorem wsX00_in : ∀ w ∈ wsX00, w ∈ lw_tbl := by decide +kernel
theorem wsL_law_in0 : ∀ w ∈ wsL_law0, w ∈ lw_tbl := fun w h => (List.mem_append.mp h).elim (fun h => (List.mem_append.mp h).elim (fun h => (List.mem_append.mp h).elim (fun h => wsL_law0_r1_in w h) (fun h => (List.mem_append.mp h).elim (fun h => wsL_law0_r2_in w h) (fun h => (List.mem_append.mp h).elim (fun h => wsL_law0_r3_in w h) (fun h => (List.mem_append.mp h).elim (fun h => wsL_law0_r4_in w h) (fun h => (List.mem_append.mp h).elim (fun h => wsL_law0_r5_in w h) (fun h => (List.mem_append.mp h).elim (fun h => wsL_law0_r6_in w h) (fun h => (List.mem_append.mp h).elim (fun h => wsL_law0_r7_in w h) (fun h => (List.mem_append.mp h).elim (fun h => wsL_law0_r8_in w h) (fun h => (List.mem_append.mp h).elim (fun h => wsL_law0_r9_in w h) (fun h => (List.mem_append.mp h).elim (fun h => wsL_law0_r10_in w h) (fun h => wsL_law0_r11_in w h))))))))))) (fun h => wsX00_in w h)) (fun h => nomatch h)
theorem wsL_law_x0 : ∀ w ∈ (vx_atS RX0 63 "java/lang/IndexOutOfBoundsException" ["java/lang/RuntimeException", "java/lang/Exception"]).filter goodWord, w ∈ lw_tbl := by decide +kernel
theorem wsL_law_x1 : ∀ w ∈ (vx_atS RX0 38 "java/lang/IllegalArgumentException" ["java/lang/RuntimeException", "java/lang/Exception"]).filter goodWord, w ∈ lw_tbl := by decide +kernel
theorem wsL_law_x2 : ∀ w ∈ (vx_atS RX0 51 "java/lang/IllegalStateException" ["java/lang/RuntimeException", "java/lang/Exception"]).filter goodWord, w ∈ lw_tbl := by decide +kernel
theorem wsL_law_in : ∀ w ∈ wsL_law, w ∈ lw_tbl := fun w h => (List.mem_append.mp h).elim (fun h => (List.mem_append.mp h).elim (fun h => (List.mem_append.mp h).elim (fun h => wsL_law_in0 w h) (fun h => wsL_law_x0 w h)) (fun h => wsL_law_x1 w h)) (fun h => wsL_law_x2 w h)
theorem inlX0 : ∀ w ∈ wsX00, w ∈ wsL_law := fun _ h => List.mem_append_left _ (List.mem_append_left _ (List.mem_append_left _ (List.mem_append_left _ (List.mem_append_right _ h))))
theorem inX0 : ∀ w ∈ wsX00, w ∈ lw_tbl := fun w h => wsL_law_in w (inlX0 w h)
theorem inX1 : ∀ w ∈ wsX10, w ∈ lw_tbl := by decide +kernel
theorem inJ9 : ∀ w ∈ wsJ90, w ∈ lw_tbl := by decide +kernel
theorem inJ0 : ∀ w ∈ wsJ00, w ∈ lw_tbl := by decide +kernel
