/-! the law's words are among the tables' -/
set_option maxRecDepth 100000 in
theorem li_wsL_law_r1 : GoodIn lw_tbl wsL_law_r1 := goodIn_r _ [38, 39, 30, 408, 409, 34, 40, 41, 42, 43, 44, 45, 46, 47, 31, 120, 121, 63, 122, 123, 65, 66, 32, 124] (by rfl) (by decide +kernel)
set_option maxRecDepth 100000 in
theorem li_wsL_law_r2 : GoodIn lw_tbl wsL_law_r2 := goodIn_r _ [83, 33, 125, 126, 127, 48, 49, 50, 51, 62, 55, 56, 52, 53, 54, 68, 69, 70, 71, 85, 86, 87, 111, 112] (by rfl) (by decide +kernel)
set_option maxRecDepth 100000 in
theorem li_wsL_law_r3 : GoodIn lw_tbl wsL_law_r3 := goodIn_r _ [113, 114, 88, 119, 90, 115, 116, 117, 118, 92, 93, 97, 410, 411, 412, 413, 424, 425, 426, 427, 428, 429, 430, 431] (by rfl) (by decide +kernel)
set_option maxRecDepth 100000 in
theorem li_wsL_law_r4 : GoodIn lw_tbl wsL_law_r4 := goodIn_r _ [432, 433, 434, 435, 485, 436, 439, 440, 442, 443, 414, 415, 416, 417, 418, 419, 420, 421, 422, 423, 437, 438, 145, 146] (by rfl) (by decide +kernel)
set_option maxRecDepth 100000 in
theorem li_wsL_law_r5 : GoodIn lw_tbl wsL_law_r5 := goodIn_r _ [147, 148, 588, 149, 150, 151, 152, 153, 589, 590, 591, 592, 154, 155, 156, 157, 161, 158, 159, 160, 162, 164, 0, 165] (by rfl) (by decide +kernel)
set_option maxRecDepth 100000 in
theorem li_wsL_law_r6 : GoodIn lw_tbl wsL_law_r6 := goodIn_r _ [98, 166, 167, 168, 169, 170, 171, 172, 173, 593, 594, 595, 596, 174, 175, 176, 177, 96, 597, 598, 599, 600, 178, 179] (by rfl) (by decide +kernel)
set_option maxRecDepth 100000 in
theorem li_wsL_law_r7 : GoodIn lw_tbl wsL_law_r7 := goodIn_r _ [180, 181, 182, 183, 184, 185, 601, 602, 603, 604, 186, 187, 188, 189, 605, 606, 607, 608, 190, 191, 192, 193, 77, 194] (by rfl) (by decide +kernel)
set_option maxRecDepth 100000 in
theorem li_wsL_law_r8 : GoodIn lw_tbl wsL_law_r8 := goodIn_r _ [195, 196, 197, 74, 198, 199, 200, 201, 202, 204, 1, 205, 89, 91, 206, 207, 208, 209, 210, 211, 212, 94, 213, 214] (by rfl) (by decide +kernel)
set_option maxRecDepth 100000 in
theorem li_wsL_law_r9 : GoodIn lw_tbl wsL_law_r9 := goodIn_r _ [215, 216, 217, 218, 219, 220, 221, 222, 223, 75, 224, 226, 2, 227, 609, 610, 611, 612, 542, 544, 22, 545, 494, 495] (by rfl) (by decide +kernel)
set_option maxRecDepth 100000 in
theorem li_wsL_law_r10 : GoodIn lw_tbl wsL_law_r10 := goodIn_r _ [496, 546, 548, 23, 549, 550, 552, 24, 553, 554, 555, 556, 557, 497, 498, 499, 558, 560, 25, 561, 511, 512, 513, 562] (by rfl) (by decide +kernel)
set_option maxRecDepth 100000 in
theorem li_wsL_law_r11 : GoodIn lw_tbl wsL_law_r11 := goodIn_r _ [564, 26, 565, 228, 229, 230, 231, 73, 232, 233, 234, 235, 236, 237, 238, 239, 240, 241, 242, 613, 614, 615, 616, 617] (by rfl) (by decide +kernel)
set_option maxRecDepth 100000 in
theorem li_wsL_law_r12 : GoodIn lw_tbl wsL_law_r12 := goodIn_r _ [574, 575, 576, 577, 578, 579, 243, 244, 245, 246, 247, 248, 249, 250, 251, 252, 253, 254, 255, 257, 3, 258, 259, 260] (by rfl) (by decide +kernel)
set_option maxRecDepth 100000 in
theorem li_wsL_law_r13 : GoodIn lw_tbl wsL_law_r13 := goodIn_r _ [261, 262, 266, 263, 264, 265, 267, 268, 35, 269, 270, 271, 272, 622, 623, 624, 625, 626, 619, 620, 621, 570, 572, 28] (by rfl) (by decide +kernel)
set_option maxRecDepth 100000 in
theorem li_wsL_law_r14 : GoodIn lw_tbl wsL_law_r14 := goodIn_r _ [573, 273, 274, 275, 276, 627, 628, 629, 630, 277, 278, 279, 280, 631, 632, 633, 634, 281, 618, 282, 283, 284, 285, 635] (by rfl) (by decide +kernel)
set_option maxRecDepth 100000 in
theorem li_wsL_law_r15 : GoodIn lw_tbl wsL_law_r15 := goodIn_r _ [636, 637, 638, 286, 287, 288, 289, 290, 291, 292, 293, 295, 4, 296, 584, 585, 586, 587, 297, 298, 299, 300, 301, 302] (by rfl) (by decide +kernel)
set_option maxRecDepth 100000 in
theorem li_wsL_law_r16 : GoodIn lw_tbl wsL_law_r16 := goodIn_r _ [303, 304, 305, 306, 308, 5, 309, 310, 311, 36, 312, 313, 314, 315, 378, 368, 369, 379, 370, 316, 318, 320, 321, 322] (by rfl) (by decide +kernel)
set_option maxRecDepth 100000 in
theorem li_wsL_law_r17 : GoodIn lw_tbl wsL_law_r17 := goodIn_r _ [323, 324, 325, 326, 327, 329, 6, 330, 76, 331, 332, 37, 333, 72, 334, 335, 336, 337, 338, 339, 340, 341, 95, 342] (by rfl) (by decide +kernel)
set_option maxRecDepth 100000 in
theorem li_wsL_law_r18 : GoodIn lw_tbl wsL_law_r18 := goodIn_r _ [343, 344, 345, 346, 347, 348, 350, 7, 351, 352, 354, 8, 355, 356, 358, 9, 359, 360, 362, 10, 363, 364, 366, 11] (by rfl) (by decide +kernel)
set_option maxRecDepth 100000 in
theorem li_wsL_law_r19 : GoodIn lw_tbl wsL_law_r19 := goodIn_r _ [367, 380, 381, 382, 383, 486, 487, 488, 489, 490, 492, 13, 493, 500, 501, 502, 503, 505, 14, 506, 441, 507, 509, 15] (by rfl) (by decide +kernel)
set_option maxRecDepth 100000 in
theorem li_wsL_law_r20 : GoodIn lw_tbl wsL_law_r20 := goodIn_r _ [510, 514, 516, 16, 517, 518, 520, 17, 521, 522, 524, 18, 525, 384, 385, 386, 387, 388, 390, 12, 391, 401, 402, 403] (by rfl) (by decide +kernel)
set_option maxRecDepth 100000 in
theorem li_wsL_law_r21 : GoodIn lw_tbl wsL_law_r21 := goodIn_r _ [392, 393, 394, 395, 396, 397, 398, 399, 400, 526, 527, 528, 529, 530, 532, 19, 533, 534, 536, 20, 537, 538, 540, 21] (by rfl) (by decide +kernel)
set_option maxRecDepth 100000 in
theorem li_wsL_law_r22 : GoodIn lw_tbl wsL_law_r22 := goodIn_r _ [541, 566, 568, 27, 569, 404, 405, 406, 407, 580, 581, 582, 583] (by rfl) (by decide +kernel)
set_option maxRecDepth 100000 in
theorem li_wsX40 : GoodIn lw_tbl wsX40 := goodIn_r _ [128, 130, 132, 134, 136, 138, 140, 142] (by rfl) (by decide +kernel)
set_option maxRecDepth 100000 in
theorem li_wsX50 : GoodIn lw_tbl wsX50 := goodIn_r _ [444, 446, 448, 450, 452, 454, 456, 458, 460, 462, 464, 466, 468, 470, 472, 474, 476, 478, 480, 482] (by rfl) (by decide +kernel)
set_option maxRecDepth 100000 in
theorem li_wsX30 : GoodIn lw_tbl wsX30 := goodIn_r _ [57, 59] (by rfl) (by decide +kernel)
set_option maxRecDepth 100000 in
theorem li_wsX10 : GoodIn lw_tbl wsX10 := goodIn_r _ [78, 80] (by rfl) (by decide +kernel)
set_option maxRecDepth 100000 in
theorem li_wsX20 : GoodIn lw_tbl wsX20 := goodIn_r _ [99, 101, 103, 105, 107] (by rfl) (by decide +kernel)
set_option maxRecDepth 100000 in
theorem li_wsX00 : GoodIn lw_tbl wsX00 := goodIn_r _ [371, 373, 375] (by rfl) (by decide +kernel)
set_option maxRecDepth 100000 in
theorem li_law : GoodIn lw_tbl wsL_law := goodIn_app (goodIn_app (goodIn_app (goodIn_app (goodIn_app (goodIn_app (goodIn_app (goodIn_app li_wsL_law_r1 (goodIn_app li_wsL_law_r2 (goodIn_app li_wsL_law_r3 (goodIn_app li_wsL_law_r4 (goodIn_app li_wsL_law_r5 (goodIn_app li_wsL_law_r6 (goodIn_app li_wsL_law_r7 (goodIn_app li_wsL_law_r8 (goodIn_app li_wsL_law_r9 (goodIn_app li_wsL_law_r10 (goodIn_app li_wsL_law_r11 (goodIn_app li_wsL_law_r12 (goodIn_app li_wsL_law_r13 (goodIn_app li_wsL_law_r14 (goodIn_app li_wsL_law_r15 (goodIn_app li_wsL_law_r16 (goodIn_app li_wsL_law_r17 (goodIn_app li_wsL_law_r18 (goodIn_app li_wsL_law_r19 (goodIn_app li_wsL_law_r20 (goodIn_app li_wsL_law_r21 li_wsL_law_r22))))))))))))))))))))) li_wsX40) li_wsX50) li_wsX30) li_wsX10) li_wsX20) li_wsX00) (fun _ h => absurd h List.not_mem_nil)
theorem wsL_law_in : ∀ w ∈ wsL_law, w ∈ lw_tbl := fun w h => (li_law w h).1
