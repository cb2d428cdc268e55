-- ===== 24 the law's words are the tables' words =====
theorem mem_places {big : List Cond} (ws : List Cond) (ps : List Nat) (hp : ws = ps.filterMap (fun i => big[i]?)) : ∀ w ∈ ws, w ∈ big := by
  intro w hw
  rw [hp] at hw
  obtain ⟨i, -, hi⟩ := List.mem_filterMap.mp hw
  exact List.mem_of_getElem? hi
theorem mem_both {a b big : List Cond} (h1 : ∀ w ∈ a, w ∈ big) (h2 : ∀ w ∈ b, w ∈ big) : ∀ w ∈ a ++ b, w ∈ big := fun w h => (List.mem_append.mp h).elim (h1 w) (h2 w)
set_option maxRecDepth 100000 in
theorem wtl_1 : ∀ w ∈ wsL_law_r1, w ∈ lw_tbl := mem_places _ [36, 37, 28, 420, 421, 34, 38, 39, 40, 41, 42, 43, 44, 45, 29, 159, 81, 82, 30, 160, 161, 162, 98, 99] (by decide +kernel)
set_option maxRecDepth 100000 in
theorem wtl_2 : ∀ w ∈ wsL_law_r2, w ∈ lw_tbl := mem_places _ [31, 163, 118, 119, 32, 164, 131, 132, 33, 165, 46, 47, 48, 49, 80, 61, 65, 68, 50, 51, 52, 53, 54, 58] (by decide +kernel)
set_option maxRecDepth 100000 in
theorem wtl_3 : ∀ w ∈ wsL_law_r3, w ∈ lw_tbl := mem_places _ [83, 84, 85, 86, 91, 87, 88, 89, 90, 100, 101, 102, 103, 107, 104, 109, 110, 106, 120, 121, 122, 123, 124, 125] (by decide +kernel)
set_option maxRecDepth 100000 in
theorem wtl_4 : ∀ w ∈ wsL_law_r4, w ∈ lw_tbl := mem_places _ [134, 135, 136, 137, 138, 139, 140, 141, 142, 143, 422, 423, 424, 425, 434, 435, 436, 437, 438, 439, 440, 442, 443, 426] (by decide +kernel)
set_option maxRecDepth 100000 in
theorem wtl_5 : ∀ w ∈ wsL_law_r5, w ∈ lw_tbl := mem_places _ [428, 10, 429, 430, 432, 11, 433, 441, 181, 182, 183, 184, 56, 185, 186, 188, 0, 189, 190, 191, 192, 193, 194, 465] (by decide +kernel)
set_option maxRecDepth 100000 in
theorem wtl_6 : ∀ w ∈ wsL_law_r6, w ∈ lw_tbl := mem_places _ [466, 467, 468, 469, 470, 471, 195, 196, 197, 198, 62, 199, 200, 201, 202, 472, 473, 474, 475, 476, 478, 12, 479, 203] (by decide +kernel)
set_option maxRecDepth 100000 in
theorem wtl_7 : ∀ w ∈ wsL_law_r7, w ∈ lw_tbl := mem_places _ [204, 205, 206, 207, 208, 209, 210, 211, 212, 213, 214, 215, 216, 217, 218, 219, 220, 221, 222, 223, 224, 225, 226, 480] (by decide +kernel)
set_option maxRecDepth 100000 in
theorem wtl_8 : ∀ w ∈ wsL_law_r8, w ∈ lw_tbl := mem_places _ [481, 482, 483, 484, 486, 13, 487, 488, 490, 14, 491, 227, 228, 229, 230, 66, 492, 493, 494, 495, 231, 232, 233, 234] (by decide +kernel)
set_option maxRecDepth 100000 in
theorem wtl_9 : ∀ w ∈ wsL_law_r9, w ∈ lw_tbl := mem_places _ [235, 496, 497, 498, 499, 236, 237, 238, 239, 240, 241, 242, 243, 500, 501, 502, 503, 504, 506, 15, 507, 244, 245, 246] (by decide +kernel)
set_option maxRecDepth 100000 in
theorem wtl_10 : ∀ w ∈ wsL_law_r10, w ∈ lw_tbl := mem_places _ [247, 248, 249, 250, 251, 252, 253, 254, 255, 256, 508, 509, 510, 511, 512, 514, 16, 515, 516, 518, 17, 519, 257, 258] (by decide +kernel)
set_option maxRecDepth 100000 in
theorem wtl_11 : ∀ w ∈ wsL_law_r11, w ∈ lw_tbl := mem_places _ [259, 260, 94, 261, 262, 263, 264, 265, 266, 267, 268, 269, 271, 1, 272, 273, 274, 275, 276, 524, 525, 526, 527, 528] (by decide +kernel)
set_option maxRecDepth 100000 in
theorem wtl_12 : ∀ w ∈ wsL_law_r12, w ∈ lw_tbl := mem_places _ [530, 18, 531, 277, 278, 279, 280, 532, 533, 534, 535, 281, 282, 283, 284, 285, 286, 287, 288, 536, 537, 538, 539, 289] (by decide +kernel)
set_option maxRecDepth 100000 in
theorem wtl_13 : ∀ w ∈ wsL_law_r13, w ∈ lw_tbl := mem_places _ [290, 291, 292, 293, 294, 295, 296, 297, 60, 299, 300, 57, 93, 67, 317, 318, 35, 319, 301, 302, 304, 2, 305, 64] (by decide +kernel)
set_option maxRecDepth 100000 in
theorem wtl_14 : ∀ w ∈ wsL_law_r14, w ∈ lw_tbl := mem_places _ [306, 307, 308, 309, 310, 311, 312, 314, 3, 315, 316, 320, 321, 322, 540, 541, 542, 543, 544, 546, 19, 547, 548, 550] (by decide +kernel)
set_option maxRecDepth 100000 in
theorem wtl_15 : ∀ w ∈ wsL_law_r15, w ∈ lw_tbl := mem_places _ [20, 551, 552, 554, 21, 555, 556, 557, 558, 559, 560, 561, 323, 324, 325, 326, 327, 562, 563, 564, 565, 566, 328, 329] (by decide +kernel)
set_option maxRecDepth 100000 in
theorem wtl_16 : ∀ w ∈ wsL_law_r16, w ∈ lw_tbl := mem_places _ [330, 331, 567, 568, 569, 570, 332, 333, 334, 335, 336, 337, 571, 572, 573, 574, 338, 339, 340, 341, 575, 576, 577, 578] (by decide +kernel)
set_option maxRecDepth 100000 in
theorem wtl_17 : ∀ w ∈ wsL_law_r17, w ∈ lw_tbl := mem_places _ [342, 343, 344, 345, 346, 347, 348, 579, 580, 581, 582, 583, 585, 22, 586, 349, 350, 351, 352, 353, 355, 4, 356, 587] (by decide +kernel)
set_option maxRecDepth 100000 in
theorem wtl_18 : ∀ w ∈ wsL_law_r18, w ∈ lw_tbl := mem_places _ [588, 589, 590, 591, 593, 23, 594, 357, 358, 359, 360, 361, 362, 363, 364, 55, 365, 367, 5, 368, 59, 63, 372, 373] (by decide +kernel)
set_option maxRecDepth 100000 in
theorem wtl_19 : ∀ w ∈ wsL_law_r19, w ∈ lw_tbl := mem_places _ [374, 369, 370, 371, 375, 377, 6, 378, 379, 380, 381, 382, 384, 7, 385, 386, 388, 8, 389, 595, 596, 597, 598, 599] (by decide +kernel)
set_option maxRecDepth 100000 in
theorem wtl_20 : ∀ w ∈ wsL_law_r20, w ∈ lw_tbl := mem_places _ [601, 24, 602, 390, 391, 392, 393, 399, 394, 395, 396, 397, 92, 398, 603, 604, 605, 606, 607, 609, 25, 610, 400, 401] (by decide +kernel)
set_option maxRecDepth 100000 in
theorem wtl_21 : ∀ w ∈ wsL_law_r21, w ∈ lw_tbl := mem_places _ [402, 403, 611, 612, 613, 614, 616, 615, 617, 619, 26, 620, 404, 405, 406, 407, 408, 410, 9, 411, 621, 622, 623, 624] (by decide +kernel)
set_option maxRecDepth 100000 in
theorem wtl_22 : ∀ w ∈ wsL_law_r22, w ∈ lw_tbl := mem_places _ [412, 413, 414, 415, 108, 416, 417, 418, 419, 520, 521, 522, 523] (by decide +kernel)
set_option maxRecDepth 100000 in
theorem wtx_0 : ∀ w ∈ wsX00, w ∈ lw_tbl := by decide +kernel
set_option maxRecDepth 100000 in
theorem wtx_1 : ∀ w ∈ wsX10, w ∈ lw_tbl := by decide +kernel
set_option maxRecDepth 100000 in
theorem wtx_2 : ∀ w ∈ wsX20, w ∈ lw_tbl := by decide +kernel
set_option maxRecDepth 100000 in
theorem wtx_3 : ∀ w ∈ wsX30, w ∈ lw_tbl := by decide +kernel
set_option maxRecDepth 100000 in
theorem wtx_4 : ∀ w ∈ wsX40, w ∈ lw_tbl := by decide +kernel
set_option maxRecDepth 100000 in
theorem wtx_5 : ∀ w ∈ wsX50, w ∈ lw_tbl := by decide +kernel
set_option maxRecDepth 100000 in
theorem wtx_6 : ∀ w ∈ wsX60, w ∈ lw_tbl := by decide +kernel
theorem wsL_law_in : ∀ w ∈ wsL_law, w ∈ lw_tbl := mem_both (mem_both (mem_both (mem_both (mem_both (mem_both (mem_both (mem_both (mem_both wtl_1 (mem_both wtl_2 (mem_both wtl_3 (mem_both wtl_4 (mem_both wtl_5 (mem_both wtl_6 (mem_both wtl_7 (mem_both wtl_8 (mem_both wtl_9 (mem_both wtl_10 (mem_both wtl_11 (mem_both wtl_12 (mem_both wtl_13 (mem_both wtl_14 (mem_both wtl_15 (mem_both wtl_16 (mem_both wtl_17 (mem_both wtl_18 (mem_both wtl_19 (mem_both wtl_20 (mem_both wtl_21 (wtl_22)))))))))))))))))))))) wtx_5) wtx_6) wtx_2) wtx_3) wtx_1) wtx_0) wtx_4) (fun _ h => absurd h List.not_mem_nil)
