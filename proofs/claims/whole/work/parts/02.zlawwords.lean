theorem mem_r {big : List Cond} (ws : List Cond) (ps : List Nat) (hp : ws = ps.filterMap (fun i => big[i]?)) : ∀ w ∈ ws, w ∈ big := by
  intro w hw
  rw [hp] at hw
  obtain ⟨i, -, hi⟩ := List.mem_filterMap.mp hw
  exact List.mem_of_getElem? hi
set_option maxRecDepth 20000 in
theorem wsL_law_r1_in : ∀ w ∈ wsL_law_r1, w ∈ lw_tbl := mem_r _ [51, 52, 39, 583, 584, 46, 53, 54, 55, 56, 57, 58, 59, 60, 40, 173, 73, 74, 41, 174, 86, 87, 42, 175] (by decide +kernel)
set_option maxRecDepth 20000 in
theorem wsL_law_r2_in : ∀ w ∈ wsL_law_r2, w ∈ lw_tbl := mem_r _ [176, 110, 111, 43, 177, 133, 134, 44, 178, 149, 179, 151, 45, 62, 63, 64, 72, 65, 66, 76, 77, 78, 79, 89] (by decide +kernel)
set_option maxRecDepth 20000 in
theorem wsL_law_r3_in : ∀ w ∈ wsL_law_r3, w ∈ lw_tbl := mem_r _ [90, 91, 92, 93, 94, 113, 114, 115, 116, 136, 137, 138, 139, 141, 148, 142, 153, 154, 155, 156, 158, 585, 586, 587] (by decide +kernel)
set_option maxRecDepth 20000 in
theorem wsL_law_r4_in : ∀ w ∈ wsL_law_r4, w ∈ lw_tbl := mem_r _ [588, 656, 589, 590, 592, 593, 595, 596, 598, 599, 600, 601, 602, 603, 604, 605, 606, 607, 608, 609, 201, 202, 203, 204] (by decide +kernel)
set_option maxRecDepth 20000 in
theorem wsL_law_r5_in : ∀ w ∈ wsL_law_r5, w ∈ lw_tbl := mem_r _ [205, 206, 207, 208, 209, 210, 211, 213, 214, 215, 216, 657, 658, 659, 660, 661, 662, 663, 217, 218, 219, 220, 664, 665] (by decide +kernel)
set_option maxRecDepth 20000 in
theorem wsL_law_r6_in : ∀ w ∈ wsL_law_r6, w ∈ lw_tbl := mem_r _ [666, 667, 221, 222, 223, 224, 225, 226, 227, 228, 229, 230, 231, 232, 668, 669, 670, 671, 672, 674, 23, 675, 233, 234] (by decide +kernel)
set_option maxRecDepth 20000 in
theorem wsL_law_r7_in : ∀ w ∈ wsL_law_r7, w ∈ lw_tbl := mem_r _ [235, 236, 237, 238, 239, 240, 242, 0, 243, 180, 244, 245, 246, 247, 248, 250, 251, 252, 253, 254, 255, 256, 257, 258] (by decide +kernel)
set_option maxRecDepth 20000 in
theorem wsL_law_r8_in : ∀ w ∈ wsL_law_r8, w ∈ lw_tbl := mem_r _ [259, 676, 677, 678, 679, 680, 682, 24, 683, 684, 686, 25, 687, 591, 260, 261, 262, 263, 688, 689, 690, 691, 264, 265] (by decide +kernel)
set_option maxRecDepth 20000 in
theorem wsL_law_r9_in : ∀ w ∈ wsL_law_r9, w ∈ lw_tbl := mem_r _ [266, 267, 268, 269, 270, 271, 692, 693, 694, 695, 272, 273, 274, 275, 276, 277, 278, 279, 280, 281, 282, 283, 284, 285] (by decide +kernel)
set_option maxRecDepth 20000 in
theorem wsL_law_r10_in : ∀ w ∈ wsL_law_r10, w ∈ lw_tbl := mem_r _ [286, 287, 288, 290, 1, 291, 80, 292, 293, 295, 2, 296, 696, 697, 698, 699, 700, 702, 26, 703, 297, 298, 299, 300] (by decide +kernel)
set_option maxRecDepth 20000 in
theorem wsL_law_r11_in : ∀ w ∈ wsL_law_r11, w ∈ lw_tbl := mem_r _ [301, 302, 303, 304, 704, 705, 706, 707, 305, 306, 307, 308, 309, 310, 311, 312, 97, 313, 315, 3, 316, 95, 317, 318] (by decide +kernel)
set_option maxRecDepth 20000 in
theorem wsL_law_r12_in : ∀ w ∈ wsL_law_r12, w ∈ lw_tbl := mem_r _ [320, 4, 321, 322, 324, 5, 325, 326, 328, 6, 329, 330, 331, 332, 333, 334, 335, 336, 337, 338, 339, 340, 341, 342] (by decide +kernel)
set_option maxRecDepth 20000 in
theorem wsL_law_r13_in : ∀ w ∈ wsL_law_r13, w ∈ lw_tbl := mem_r _ [343, 344, 345, 346, 348, 7, 349, 350, 352, 8, 353, 354, 355, 47, 356, 357, 358, 359, 360, 361, 363, 9, 364, 365] (by decide +kernel)
set_option maxRecDepth 20000 in
theorem wsL_law_r14_in : ∀ w ∈ wsL_law_r14, w ∈ lw_tbl := mem_r _ [367, 10, 368, 708, 709, 710, 711, 594, 597, 712, 714, 27, 715, 716, 718, 28, 719, 720, 722, 29, 723, 369, 370, 371] (by decide +kernel)
set_option maxRecDepth 20000 in
theorem wsL_law_r15_in : ∀ w ∈ wsL_law_r15, w ∈ lw_tbl := mem_r _ [372, 373, 374, 375, 376, 724, 725, 726, 727, 377, 378, 379, 380, 381, 382, 383, 384, 385, 386, 387, 388, 389, 390, 391] (by decide +kernel)
set_option maxRecDepth 20000 in
theorem wsL_law_r16_in : ∀ w ∈ wsL_law_r16, w ∈ lw_tbl := mem_r _ [392, 393, 394, 395, 396, 398, 11, 399, 400, 402, 12, 403, 404, 406, 13, 407, 408, 728, 729, 730, 731, 732, 734, 30] (by decide +kernel)
set_option maxRecDepth 20000 in
theorem wsL_law_r17_in : ∀ w ∈ wsL_law_r17, w ∈ lw_tbl := mem_r _ [735, 736, 738, 31, 739, 409, 410, 411, 412, 413, 414, 415, 416, 417, 418, 48, 419, 420, 421, 422, 423, 424, 425, 426] (by decide +kernel)
set_option maxRecDepth 20000 in
theorem wsL_law_r18_in : ∀ w ∈ wsL_law_r18, w ∈ lw_tbl := mem_r _ [427, 428, 429, 119, 740, 741, 742, 743, 430, 431, 432, 433, 434, 435, 436, 437, 438, 439, 440, 441, 744, 745, 746, 747] (by decide +kernel)
set_option maxRecDepth 20000 in
theorem wsL_law_r19_in : ∀ w ∈ wsL_law_r19, w ∈ lw_tbl := mem_r _ [442, 443, 444, 445, 446, 447, 448, 449, 123, 122, 450, 452, 14, 453, 454, 748, 749, 750, 751, 752, 754, 32, 755, 456] (by decide +kernel)
set_option maxRecDepth 20000 in
theorem wsL_law_r20_in : ∀ w ∈ wsL_law_r20, w ∈ lw_tbl := mem_r _ [457, 458, 459, 460, 461, 462, 463, 464, 465, 756, 757, 758, 759, 760, 762, 33, 763, 764, 766, 34, 767, 466, 467, 468] (by decide +kernel)
set_option maxRecDepth 20000 in
theorem wsL_law_r21_in : ∀ w ∈ wsL_law_r21, w ∈ lw_tbl := mem_r _ [469, 470, 471, 472, 473, 474, 475, 49, 476, 477, 478, 479, 480, 481, 482, 483, 484, 486, 15, 487, 488, 490, 16, 491] (by decide +kernel)
set_option maxRecDepth 20000 in
theorem wsL_law_r22_in : ∀ w ∈ wsL_law_r22, w ∈ lw_tbl := mem_r _ [492, 494, 17, 495, 496, 498, 18, 499, 768, 769, 770, 771, 772, 500, 501, 502, 503, 504, 506, 19, 507, 508, 509, 510] (by decide +kernel)
set_option maxRecDepth 20000 in
theorem wsL_law_r23_in : ∀ w ∈ wsL_law_r23, w ∈ lw_tbl := mem_r _ [511, 513, 20, 514, 181, 515, 516, 517, 518, 160, 162, 773, 774, 775, 776, 777, 778, 779, 780, 782, 35, 783, 610, 519] (by decide +kernel)
set_option maxRecDepth 20000 in
theorem wsL_law_r24_in : ∀ w ∈ wsL_law_r24, w ∈ lw_tbl := mem_r _ [520, 521, 522, 784, 785, 786, 787, 523, 524, 525, 526, 527, 528, 529, 530, 531, 533, 21, 534, 535, 536, 537, 538, 539] (by decide +kernel)
set_option maxRecDepth 20000 in
theorem wsL_law_r25_in : ∀ w ∈ wsL_law_r25, w ∈ lw_tbl := mem_r _ [541, 22, 542, 788, 789, 790, 791, 792, 794, 36, 795, 543, 544, 545, 546, 547, 548, 549, 550, 551, 796, 797, 798, 799] (by decide +kernel)
set_option maxRecDepth 20000 in
theorem wsL_law_r26_in : ∀ w ∈ wsL_law_r26, w ∈ lw_tbl := mem_r _ [800, 552, 553, 554, 555, 560, 562, 561, 50, 556, 557, 558, 559, 801, 802, 803, 804, 563, 564, 565, 566, 805, 806, 807] (by decide +kernel)
set_option maxRecDepth 20000 in
theorem wsL_law_r27_in : ∀ w ∈ wsL_law_r27, w ∈ lw_tbl := mem_r _ [808, 567, 568, 569, 570, 571, 809, 810, 811, 812, 572, 573, 574, 575, 813, 814, 815, 816, 817, 819, 37, 820, 576, 577] (by decide +kernel)
set_option maxRecDepth 20000 in
theorem wsL_law_r28_in : ∀ w ∈ wsL_law_r28, w ∈ lw_tbl := mem_r _ [578, 579, 580, 581, 582, 821, 822, 823, 824, 825, 826, 827] (by decide +kernel)
set_option maxRecDepth 20000 in
theorem wsX60_in : ∀ w ∈ wsX60, w ∈ lw_tbl := by decide +kernel
set_option maxRecDepth 20000 in
theorem wsX70_in : ∀ w ∈ wsX70, w ∈ lw_tbl := by decide +kernel
set_option maxRecDepth 20000 in
theorem wsX30_in : ∀ w ∈ wsX30, w ∈ lw_tbl := by decide +kernel
set_option maxRecDepth 20000 in
theorem wsX00_in : ∀ w ∈ wsX00, w ∈ lw_tbl := by decide +kernel
set_option maxRecDepth 20000 in
theorem wsX50_in : ∀ w ∈ wsX50, w ∈ lw_tbl := by decide +kernel
set_option maxRecDepth 20000 in
theorem wsX10_in : ∀ w ∈ wsX10, w ∈ lw_tbl := by decide +kernel
set_option maxRecDepth 20000 in
theorem wsX20_in : ∀ w ∈ wsX20, w ∈ lw_tbl := by decide +kernel
set_option maxRecDepth 20000 in
theorem wsX40_in : ∀ w ∈ wsX40, w ∈ lw_tbl := by decide +kernel
theorem app_in {big a b : List Cond} (ha : ∀ w ∈ a, w ∈ big) (hb : ∀ w ∈ b, w ∈ big) : ∀ w ∈ a ++ b, w ∈ big := fun w h => (List.mem_append.mp h).elim (ha w) (hb w)
theorem wsL_law_inn : ∀ w ∈ wsL_law, w ∈ lw_tbl := (app_in (app_in (app_in (app_in (app_in (app_in (app_in (app_in (app_in (app_in wsL_law_r1_in (app_in wsL_law_r2_in (app_in wsL_law_r3_in (app_in wsL_law_r4_in (app_in wsL_law_r5_in (app_in wsL_law_r6_in (app_in wsL_law_r7_in (app_in wsL_law_r8_in (app_in wsL_law_r9_in (app_in wsL_law_r10_in (app_in wsL_law_r11_in (app_in wsL_law_r12_in (app_in wsL_law_r13_in (app_in wsL_law_r14_in (app_in wsL_law_r15_in (app_in wsL_law_r16_in (app_in wsL_law_r17_in (app_in wsL_law_r18_in (app_in wsL_law_r19_in (app_in wsL_law_r20_in (app_in wsL_law_r21_in (app_in wsL_law_r22_in (app_in wsL_law_r23_in (app_in wsL_law_r24_in (app_in wsL_law_r25_in (app_in wsL_law_r26_in (app_in wsL_law_r27_in wsL_law_r28_in))))))))))))))))))))))))))) wsX60_in) wsX70_in) wsX30_in) wsX00_in) wsX50_in) wsX10_in) wsX20_in) wsX40_in) (fun _ h => absurd h List.not_mem_nil))
