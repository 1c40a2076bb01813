theorem wq_pos {big ws : List Cond} (ps : List Nat) (hp : ws = ps.filterMap (fun i => big[i]?)) : ∀ w ∈ ws, w ∈ big := by
  intro w hw
  rw [hp] at hw
  obtain ⟨i, -, hi⟩ := List.mem_filterMap.mp hw
  first | exact List.mem_of_getElem? hi | exact List.getElem?_mem hi
theorem wq_app {big a b : List Cond} (ha : ∀ w ∈ a, w ∈ big) (hb : ∀ w ∈ b, w ∈ big) : ∀ w ∈ a ++ b, w ∈ big := fun w h => (List.mem_append.mp h).elim (ha w) (hb w)
set_option maxRecDepth 100000 in
theorem wq_wsL_law_r1 : ∀ w ∈ wsL_law_r1, w ∈ lw_tbl := wq_pos [48, 49, 37, 554, 555, 43, 50, 51, 52, 53, 54, 55, 81, 191, 56, 57, 38, 192, 126, 127, 40, 193, 151, 152] rfl
set_option maxRecDepth 100000 in
theorem wq_wsL_law_r2 : ∀ w ∈ wsL_law_r2, w ∈ lw_tbl := wq_pos [41, 194, 169, 170, 42, 195, 59, 60, 61, 83, 82, 84, 85, 86, 87, 62, 63, 39, 88, 64, 65, 66, 67, 68] rfl
set_option maxRecDepth 100000 in
theorem wq_wsL_law_r3 : ∀ w ∈ wsL_law_r3, w ∈ lw_tbl := wq_pos [72, 128, 129, 130, 131, 134, 150, 135, 136, 132, 137, 133, 154, 155, 156, 159, 157, 160, 158, 172, 173, 174, 175, 176] rfl
set_option maxRecDepth 100000 in
theorem wq_wsL_law_r4 : ∀ w ∈ wsL_law_r4, w ∈ lw_tbl := wq_pos [556, 557, 558, 559, 560, 562, 567, 568, 569, 570, 571, 572, 573, 213, 214, 215, 216, 217, 218, 219, 220, 221, 222, 630] rfl
set_option maxRecDepth 100000 in
theorem wq_wsL_law_r5 : ∀ w ∈ wsL_law_r5, w ∈ lw_tbl := wq_pos [631, 632, 633, 634, 635, 636, 223, 224, 225, 226, 227, 228, 229, 230, 231, 44, 232, 233, 234, 235, 236, 237, 238, 239] rfl
set_option maxRecDepth 100000 in
theorem wq_wsL_law_r6 : ∀ w ∈ wsL_law_r6, w ∈ lw_tbl := wq_pos [240, 241, 637, 638, 639, 640, 641, 643, 20, 644, 645, 646, 647, 648, 649, 650, 651, 652, 653, 242, 243, 244, 245, 246] rfl
set_option maxRecDepth 100000 in
theorem wq_wsL_law_r7 : ∀ w ∈ wsL_law_r7, w ∈ lw_tbl := wq_pos [248, 0, 249, 196, 250, 251, 252, 253, 255, 1, 256, 257, 258, 259, 260, 90, 261, 262, 263, 264, 265, 266, 267, 268] rfl
set_option maxRecDepth 100000 in
theorem wq_wsL_law_r8 : ∀ w ∈ wsL_law_r8, w ∈ lw_tbl := wq_pos [269, 271, 2, 272, 273, 73, 275, 277, 3, 278, 89, 279, 280, 281, 282, 96, 283, 285, 4, 286, 94, 91, 93, 95] rfl
set_option maxRecDepth 100000 in
theorem wq_wsL_law_r9 : ∀ w ∈ wsL_law_r9, w ∈ lw_tbl := wq_pos [92, 70, 287, 289, 5, 290, 291, 293, 6, 294, 295, 297, 296, 45, 298, 300, 7, 301, 306, 307, 46, 308, 302, 304] rfl
set_option maxRecDepth 100000 in
theorem wq_wsL_law_r10 : ∀ w ∈ wsL_law_r10, w ∈ lw_tbl := wq_pos [8, 305, 309, 311, 9, 312, 654, 655, 656, 657, 563, 575, 658, 660, 21, 661, 662, 663, 664, 665, 667, 22, 668, 574] rfl
set_option maxRecDepth 100000 in
theorem wq_wsL_law_r11 : ∀ w ∈ wsL_law_r11, w ∈ lw_tbl := wq_pos [669, 670, 671, 672, 674, 23, 675, 676, 678, 24, 679, 313, 314, 315, 316, 317, 318, 319, 320, 680, 681, 682, 683, 321] rfl
set_option maxRecDepth 100000 in
theorem wq_wsL_law_r12 : ∀ w ∈ wsL_law_r12, w ∈ lw_tbl := wq_pos [322, 323, 324, 325, 327, 10, 328, 329, 330, 331, 332, 161, 333, 334, 335, 336, 337, 338, 339, 340, 341, 342, 343, 344] rfl
set_option maxRecDepth 100000 in
theorem wq_wsL_law_r13 : ∀ w ∈ wsL_law_r13, w ∈ lw_tbl := wq_pos [684, 685, 686, 687, 688, 690, 25, 691, 561, 345, 346, 347, 348, 349, 350, 351, 352, 353, 354, 355, 356, 692, 693, 694] rfl
set_option maxRecDepth 100000 in
theorem wq_wsL_law_r14 : ∀ w ∈ wsL_law_r14, w ∈ lw_tbl := wq_pos [695, 357, 358, 359, 360, 361, 362, 363, 364, 138, 370, 69, 375, 376, 377, 378, 379, 365, 366, 368, 11, 369, 74, 371] rfl
set_option maxRecDepth 100000 in
theorem wq_wsL_law_r15 : ∀ w ∈ wsL_law_r15, w ∈ lw_tbl := wq_pos [372, 373, 374, 380, 381, 382, 383, 384, 385, 386, 387, 696, 697, 698, 699, 565, 566, 700, 701, 706, 702, 704, 26, 705] rfl
set_option maxRecDepth 100000 in
theorem wq_wsL_law_r16 : ∀ w ∈ wsL_law_r16, w ∈ lw_tbl := wq_pos [388, 389, 390, 391, 392, 393, 394, 395, 707, 708, 709, 710, 396, 397, 398, 399, 400, 401, 402, 403, 404, 405, 406, 407] rfl
set_option maxRecDepth 100000 in
theorem wq_wsL_law_r17 : ∀ w ∈ wsL_law_r17, w ∈ lw_tbl := wq_pos [408, 409, 711, 712, 713, 714, 715, 716, 410, 411, 412, 413, 414, 415, 416, 417, 717, 718, 719, 720, 418, 419, 420, 421] rfl
set_option maxRecDepth 100000 in
theorem wq_wsL_law_r18 : ∀ w ∈ wsL_law_r18, w ∈ lw_tbl := wq_pos [422, 423, 424, 425, 426, 428, 12, 429, 430, 431, 432, 433, 434, 721, 722, 723, 724, 725, 727, 27, 728, 729, 731, 28] rfl
set_option maxRecDepth 100000 in
theorem wq_wsL_law_r19 : ∀ w ∈ wsL_law_r19, w ∈ lw_tbl := wq_pos [732, 435, 436, 437, 438, 439, 440, 441, 442, 733, 734, 735, 736, 737, 739, 29, 740, 443, 444, 445, 446, 741, 742, 743] rfl
set_option maxRecDepth 100000 in
theorem wq_wsL_law_r20 : ∀ w ∈ wsL_law_r20, w ∈ lw_tbl := wq_pos [744, 447, 448, 449, 450, 745, 746, 747, 748, 451, 452, 453, 454, 71, 75, 455, 456, 457, 458, 460, 459, 461, 749, 750] rfl
set_option maxRecDepth 100000 in
theorem wq_wsL_law_r21 : ∀ w ∈ wsL_law_r21, w ∈ lw_tbl := wq_pos [751, 752, 576, 577, 753, 755, 30, 756, 462, 463, 464, 465, 757, 758, 759, 760, 466, 467, 468, 469, 761, 762, 763, 764] rfl
set_option maxRecDepth 100000 in
theorem wq_wsL_law_r22 : ∀ w ∈ wsL_law_r22, w ∈ lw_tbl := wq_pos [470, 471, 472, 473, 474, 475, 47, 476, 765, 766, 767, 768, 477, 478, 479, 480, 481, 482, 483, 484, 178, 485, 487, 13] rfl
set_option maxRecDepth 100000 in
theorem wq_wsL_law_r23 : ∀ w ∈ wsL_law_r23, w ∈ lw_tbl := wq_pos [488, 177, 179, 489, 491, 14, 492, 493, 494, 495, 497, 15, 498, 499, 769, 770, 771, 772, 578, 773, 775, 31, 776, 579] rfl
set_option maxRecDepth 100000 in
theorem wq_wsL_law_r24 : ∀ w ∈ wsL_law_r24, w ∈ lw_tbl := wq_pos [580, 777, 779, 32, 780, 781, 783, 33, 784, 581, 500, 501, 502, 503, 504, 505, 506, 507, 508, 510, 16, 511, 785, 786] rfl
set_option maxRecDepth 100000 in
theorem wq_wsL_law_r25 : ∀ w ∈ wsL_law_r25, w ∈ lw_tbl := wq_pos [787, 788, 512, 513, 514, 515, 197, 516, 518, 17, 519, 520, 521, 522, 523, 524, 526, 18, 527, 528, 789, 790, 791, 792] rfl
set_option maxRecDepth 100000 in
theorem wq_wsL_law_r26 : ∀ w ∈ wsL_law_r26, w ∈ lw_tbl := wq_pos [564, 793, 795, 34, 796, 529, 530, 531, 532, 533, 534, 535, 536, 797, 798, 799, 800, 537, 538, 539, 540, 541, 543, 19] rfl
set_option maxRecDepth 100000 in
theorem wq_wsL_law_r27 : ∀ w ∈ wsL_law_r27, w ∈ lw_tbl := wq_pos [544, 801, 802, 803, 804, 545, 546, 547, 548, 549, 550, 551, 552, 553, 805, 806, 807, 808, 809, 582, 810, 812, 35, 813] rfl
set_option maxRecDepth 100000 in
theorem wq_wsL_law_r28 : ∀ w ∈ wsL_law_r28, w ∈ lw_tbl := wq_pos [814, 815] rfl
set_option maxRecDepth 100000 in
theorem wq_wsX60 : ∀ w ∈ wsX60, w ∈ lw_tbl := by decide +kernel
set_option maxRecDepth 100000 in
theorem wq_wsX70 : ∀ w ∈ wsX70, w ∈ lw_tbl := by decide +kernel
set_option maxRecDepth 100000 in
theorem wq_wsX40 : ∀ w ∈ wsX40, w ∈ lw_tbl := by decide +kernel
set_option maxRecDepth 100000 in
theorem wq_wsX20 : ∀ w ∈ wsX20, w ∈ lw_tbl := by decide +kernel
set_option maxRecDepth 100000 in
theorem wq_wsX30 : ∀ w ∈ wsX30, w ∈ lw_tbl := by decide +kernel
set_option maxRecDepth 100000 in
theorem wq_wsX00 : ∀ w ∈ wsX00, w ∈ lw_tbl := by decide +kernel
set_option maxRecDepth 100000 in
theorem wq_wsX10 : ∀ w ∈ wsX10, w ∈ lw_tbl := by decide +kernel
theorem wsL_law_in : ∀ w ∈ wsL_law, w ∈ lw_tbl := wq_app (wq_app (wq_app (wq_app (wq_app (wq_app (wq_app (wq_app (wq_app (wq_wsL_law_r1) (wq_app (wq_wsL_law_r2) (wq_app (wq_wsL_law_r3) (wq_app (wq_wsL_law_r4) (wq_app (wq_wsL_law_r5) (wq_app (wq_wsL_law_r6) (wq_app (wq_wsL_law_r7) (wq_app (wq_wsL_law_r8) (wq_app (wq_wsL_law_r9) (wq_app (wq_wsL_law_r10) (wq_app (wq_wsL_law_r11) (wq_app (wq_wsL_law_r12) (wq_app (wq_wsL_law_r13) (wq_app (wq_wsL_law_r14) (wq_app (wq_wsL_law_r15) (wq_app (wq_wsL_law_r16) (wq_app (wq_wsL_law_r17) (wq_app (wq_wsL_law_r18) (wq_app (wq_wsL_law_r19) (wq_app (wq_wsL_law_r20) (wq_app (wq_wsL_law_r21) (wq_app (wq_wsL_law_r22) (wq_app (wq_wsL_law_r23) (wq_app (wq_wsL_law_r24) (wq_app (wq_wsL_law_r25) (wq_app (wq_wsL_law_r26) (wq_app (wq_wsL_law_r27) (wq_wsL_law_r28)))))))))))))))))))))))))))) (wq_wsX60)) (wq_wsX70)) (wq_wsX40)) (wq_wsX20)) (wq_wsX30)) (wq_wsX00)) (wq_wsX10)) (fun _ h => absurd h List.not_mem_nil)
theorem inlX0 : ∀ w ∈ wsX00, w ∈ wsL_law := fun _ h => List.mem_append_left _ (List.mem_append_left _ (List.mem_append_right _ h))
theorem inX0 : ∀ w ∈ wsX00, w ∈ lw_tbl := fun w h => wsL_law_in w (inlX0 w h)
theorem inlX1 : ∀ w ∈ wsX10, w ∈ wsL_law := fun _ h => List.mem_append_left _ (List.mem_append_right _ h)
theorem inX1 : ∀ w ∈ wsX10, w ∈ lw_tbl := fun w h => wsL_law_in w (inlX1 w h)
theorem inlX2 : ∀ w ∈ wsX20, w ∈ wsL_law := fun _ h => List.mem_append_left _ (List.mem_append_left _ (List.mem_append_left _ (List.mem_append_left _ (List.mem_append_right _ h))))
theorem inX2 : ∀ w ∈ wsX20, w ∈ lw_tbl := fun w h => wsL_law_in w (inlX2 w h)
theorem inlX3 : ∀ w ∈ wsX30, w ∈ wsL_law := fun _ h => List.mem_append_left _ (List.mem_append_left _ (List.mem_append_left _ (List.mem_append_right _ h)))
theorem inX3 : ∀ w ∈ wsX30, w ∈ lw_tbl := fun w h => wsL_law_in w (inlX3 w h)
theorem inlX4 : ∀ w ∈ wsX40, w ∈ wsL_law := fun _ h => List.mem_append_left _ (List.mem_append_left _ (List.mem_append_left _ (List.mem_append_left _ (List.mem_append_left _ (List.mem_append_right _ h)))))
theorem inX4 : ∀ w ∈ wsX40, w ∈ lw_tbl := fun w h => wsL_law_in w (inlX4 w h)
theorem inX5 : ∀ w ∈ wsX50, w ∈ lw_tbl := by decide +kernel
theorem inlX6 : ∀ w ∈ wsX60, w ∈ wsL_law := fun _ h => List.mem_append_left _ (List.mem_append_left _ (List.mem_append_left _ (List.mem_append_left _ (List.mem_append_left _ (List.mem_append_left _ (List.mem_append_left _ (List.mem_append_right _ h)))))))
theorem inX6 : ∀ w ∈ wsX60, w ∈ lw_tbl := fun w h => wsL_law_in w (inlX6 w h)
theorem inlX7 : ∀ w ∈ wsX70, w ∈ wsL_law := fun _ h => List.mem_append_left _ (List.mem_append_left _ (List.mem_append_left _ (List.mem_append_left _ (List.mem_append_left _ (List.mem_append_left _ (List.mem_append_right _ h))))))
theorem inX7 : ∀ w ∈ wsX70, w ∈ lw_tbl := fun w h => wsL_law_in w (inlX7 w h)
theorem inJ13 : ∀ w ∈ wsJ130, w ∈ lw_tbl := by decide +kernel
theorem inJ9 : ∀ w ∈ wsJ90, w ∈ lw_tbl := by decide +kernel
theorem inJ10 : ∀ w ∈ wsJ100, w ∈ lw_tbl := by decide +kernel
