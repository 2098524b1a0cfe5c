/-! the law's words stand in the tables -/
set_option maxRecDepth 20000 in
theorem wl_1 : wsL_law_r1 = [38, 39, 30, 459, 460, 34, 40, 41, 42, 43, 44, 45, 46, 47, 31, 110, 66, 67, 32, 111, 85, 86, 33, 112].filterMap (fun i => lw_tbl[i]?) := by decide +kernel
set_option maxRecDepth 20000 in
theorem wl_2 : wsL_law_r2 = [113, 114, 115, 116, 117, 118, 119, 120, 121, 122, 49, 50, 51, 65, 52, 53, 54, 55, 69, 70, 71, 72, 73, 74].filterMap (fun i => lw_tbl[i]?) := by decide +kernel
set_option maxRecDepth 20000 in
theorem wl_3 : wsL_law_r3 = [75, 88, 89, 90, 91, 92, 93, 94, 95, 96, 461, 462, 463, 464, 465, 466, 467, 468, 469, 470, 471, 475, 476, 477].filterMap (fun i => lw_tbl[i]?) := by decide +kernel
set_option maxRecDepth 20000 in
theorem wl_4 : wsL_law_r4 = [478, 480, 481, 482, 483, 484, 486, 487, 488, 492, 150, 151, 152, 153, 154, 155, 156, 157, 158, 159, 160, 161, 162, 163].filterMap (fun i => lw_tbl[i]?) := by decide +kernel
set_option maxRecDepth 20000 in
theorem wl_5 : wsL_law_r5 = [165, 0, 166, 167, 169, 1, 170, 550, 551, 552, 553, 489, 485, 554, 556, 13, 557, 171, 172, 173, 174, 175, 177, 2].filterMap (fun i => lw_tbl[i]?) := by decide +kernel
set_option maxRecDepth 20000 in
theorem wl_6 : wsL_law_r6 = [178, 179, 180, 181, 182, 183, 184, 185, 186, 187, 188, 189, 190, 191, 192, 193, 194, 195, 196, 197, 198, 199, 200, 201].filterMap (fun i => lw_tbl[i]?) := by decide +kernel
set_option maxRecDepth 20000 in
theorem wl_7 : wsL_law_r7 = [202, 203, 35, 204, 205, 206, 207, 208, 209, 211, 212, 213, 36, 214, 215, 217, 216, 37, 218, 220, 3, 221, 222, 223].filterMap (fun i => lw_tbl[i]?) := by decide +kernel
set_option maxRecDepth 20000 in
theorem wl_8 : wsL_law_r8 = [224, 225, 226, 227, 228, 229, 230, 231, 232, 233, 234, 235, 236, 237, 238, 239, 240, 241, 242, 243, 244, 245, 246, 247].filterMap (fun i => lw_tbl[i]?) := by decide +kernel
set_option maxRecDepth 20000 in
theorem wl_9 : wsL_law_r9 = [248, 249, 250, 251, 252, 253, 255, 4, 256, 257, 258, 259, 260, 261, 558, 559, 560, 561, 474, 562, 564, 14, 565, 566].filterMap (fun i => lw_tbl[i]?) := by decide +kernel
set_option maxRecDepth 20000 in
theorem wl_10 : wsL_law_r10 = [567, 568, 569, 571, 15, 572, 472, 573, 575, 16, 576, 577, 579, 17, 580, 262, 263, 264, 265, 266, 268, 5, 269, 270].filterMap (fun i => lw_tbl[i]?) := by decide +kernel
set_option maxRecDepth 20000 in
theorem wl_11 : wsL_law_r11 = [271, 272, 273, 274, 275, 276, 277, 278, 280, 6, 281, 282, 283, 284, 285, 286, 581, 582, 583, 584, 585, 587, 18, 588].filterMap (fun i => lw_tbl[i]?) := by decide +kernel
set_option maxRecDepth 20000 in
theorem wl_12 : wsL_law_r12 = [589, 591, 19, 592, 593, 595, 20, 596, 287, 288, 289, 290, 291, 293, 7, 294, 295, 296, 297, 298, 299, 300, 301, 302].filterMap (fun i => lw_tbl[i]?) := by decide +kernel
set_option maxRecDepth 20000 in
theorem wl_13 : wsL_law_r13 = [597, 598, 599, 600, 601, 603, 21, 604, 473, 303, 304, 305, 306, 605, 606, 607, 608, 609, 611, 22, 612, 307, 308, 309].filterMap (fun i => lw_tbl[i]?) := by decide +kernel
set_option maxRecDepth 20000 in
theorem wl_14 : wsL_law_r14 = [310, 613, 614, 615, 616, 311, 312, 313, 314, 315, 316, 317, 318, 319, 320, 321, 322, 323, 324, 325, 326, 327, 328, 329].filterMap (fun i => lw_tbl[i]?) := by decide +kernel
set_option maxRecDepth 20000 in
theorem wl_15 : wsL_law_r15 = [330, 331, 332, 333, 617, 618, 619, 620, 334, 335, 336, 337, 338, 339, 340, 341, 621, 622, 623, 624, 342, 343, 344, 345].filterMap (fun i => lw_tbl[i]?) := by decide +kernel
set_option maxRecDepth 20000 in
theorem wl_16 : wsL_law_r16 = [346, 347, 348, 349, 350, 351, 352, 353, 354, 355, 356, 357, 358, 359, 360, 361, 362, 363, 364, 365, 366, 625, 626, 627].filterMap (fun i => lw_tbl[i]?) := by decide +kernel
set_option maxRecDepth 20000 in
theorem wl_17 : wsL_law_r17 = [628, 479, 367, 368, 369, 370, 380, 371, 372, 373, 374, 375, 376, 377, 378, 379, 381, 383, 8, 384, 385, 386, 387, 388].filterMap (fun i => lw_tbl[i]?) := by decide +kernel
set_option maxRecDepth 20000 in
theorem wl_18 : wsL_law_r18 = [389, 390, 391, 392, 393, 394, 395, 396, 629, 630, 631, 632, 491, 490, 633, 635, 23, 636, 637, 639, 24, 640, 641, 643].filterMap (fun i => lw_tbl[i]?) := by decide +kernel
set_option maxRecDepth 20000 in
theorem wl_19 : wsL_law_r19 = [25, 644, 397, 398, 399, 400, 401, 403, 9, 404, 405, 407, 10, 408, 409, 410, 412, 11, 413, 414, 415, 416, 417, 418].filterMap (fun i => lw_tbl[i]?) := by decide +kernel
set_option maxRecDepth 20000 in
theorem wl_20 : wsL_law_r20 = [420, 12, 421, 645, 646, 647, 648, 649, 651, 26, 652, 653, 655, 27, 656, 657, 659, 28, 660, 422, 423, 424, 425, 661].filterMap (fun i => lw_tbl[i]?) := by decide +kernel
set_option maxRecDepth 20000 in
theorem wl_21 : wsL_law_r21 = [662, 663, 664, 426, 427, 428, 429, 430, 431, 432, 433, 665, 666, 667, 668, 434, 435, 436, 437, 438, 439, 440, 441, 669].filterMap (fun i => lw_tbl[i]?) := by decide +kernel
set_option maxRecDepth 20000 in
theorem wl_22 : wsL_law_r22 = [670, 671, 672, 442, 443, 444, 445, 446, 447, 448, 449, 673, 674, 675, 676, 450, 451, 452, 453, 454, 677, 678, 679, 680].filterMap (fun i => lw_tbl[i]?) := by decide +kernel
set_option maxRecDepth 20000 in
theorem wl_23 : wsL_law_r23 = [455, 456, 457, 458, 681, 682, 683, 684].filterMap (fun i => lw_tbl[i]?) := by decide +kernel
set_option maxRecDepth 20000 in
theorem wl_X3 : wsX30 = [123, 125, 127, 129, 131, 133, 135, 137, 139, 141, 143, 145, 147].filterMap (fun i => lw_tbl[i]?) := by decide +kernel
set_option maxRecDepth 20000 in
theorem wl_X4 : wsX40 = [493, 495, 497, 499, 501, 503, 505, 507, 509, 511, 513, 515, 517, 519, 521, 523, 525, 527, 529, 531, 533, 535, 537, 539, 541, 543, 545, 547].filterMap (fun i => lw_tbl[i]?) := by decide +kernel
set_option maxRecDepth 20000 in
theorem wl_X0 : wsX00 = [56, 58, 60, 62].filterMap (fun i => lw_tbl[i]?) := by decide +kernel
set_option maxRecDepth 20000 in
theorem wl_X1 : wsX10 = [76, 78, 80, 82].filterMap (fun i => lw_tbl[i]?) := by decide +kernel
set_option maxRecDepth 20000 in
theorem wl_X2 : wsX20 = [97, 99, 101, 103, 105, 107].filterMap (fun i => lw_tbl[i]?) := by decide +kernel
theorem wl_in {ws : List Cond} {ps : List Nat} (h : ws = ps.filterMap (fun i => lw_tbl[i]?)) : ∀ w ∈ ws, w ∈ lw_tbl := by
  intro w hw
  rw [h] at hw
  obtain ⟨i, -, hi⟩ := List.mem_filterMap.mp hw
  exact List.mem_of_getElem? hi
theorem wsL_law_in : ∀ w ∈ wsL_law, w ∈ lw_tbl := List.forall_mem_append.mpr ⟨List.forall_mem_append.mpr ⟨List.forall_mem_append.mpr ⟨List.forall_mem_append.mpr ⟨List.forall_mem_append.mpr ⟨List.forall_mem_append.mpr ⟨List.forall_mem_append.mpr ⟨wl_in wl_1, List.forall_mem_append.mpr ⟨wl_in wl_2, List.forall_mem_append.mpr ⟨wl_in wl_3, List.forall_mem_append.mpr ⟨wl_in wl_4, List.forall_mem_append.mpr ⟨wl_in wl_5, List.forall_mem_append.mpr ⟨wl_in wl_6, List.forall_mem_append.mpr ⟨wl_in wl_7, List.forall_mem_append.mpr ⟨wl_in wl_8, List.forall_mem_append.mpr ⟨wl_in wl_9, List.forall_mem_append.mpr ⟨wl_in wl_10, List.forall_mem_append.mpr ⟨wl_in wl_11, List.forall_mem_append.mpr ⟨wl_in wl_12, List.forall_mem_append.mpr ⟨wl_in wl_13, List.forall_mem_append.mpr ⟨wl_in wl_14, List.forall_mem_append.mpr ⟨wl_in wl_15, List.forall_mem_append.mpr ⟨wl_in wl_16, List.forall_mem_append.mpr ⟨wl_in wl_17, List.forall_mem_append.mpr ⟨wl_in wl_18, List.forall_mem_append.mpr ⟨wl_in wl_19, List.forall_mem_append.mpr ⟨wl_in wl_20, List.forall_mem_append.mpr ⟨wl_in wl_21, List.forall_mem_append.mpr ⟨wl_in wl_22, wl_in wl_23⟩⟩⟩⟩⟩⟩⟩⟩⟩⟩⟩⟩⟩⟩⟩⟩⟩⟩⟩⟩⟩⟩, wl_in wl_X3⟩, wl_in wl_X4⟩, wl_in wl_X0⟩, wl_in wl_X1⟩, wl_in wl_X2⟩, fun _ h => absurd h List.not_mem_nil⟩
theorem nw_X0 : Cond.methodLinkNest RX3 9 yX0_init "RestartBook" ∈ lw_tbl := List.mem_of_getElem? (i := 48) (by decide +kernel)
theorem nw_X1 : Cond.methodLinkNest RX3 18 yX1_init "RestartBook" ∈ lw_tbl := List.mem_of_getElem? (i := 68) (by decide +kernel)
theorem nw_X2 : Cond.methodLinkNest RX3 25 yX2_init "RestartBook" ∈ lw_tbl := List.mem_of_getElem? (i := 87) (by decide +kernel)
