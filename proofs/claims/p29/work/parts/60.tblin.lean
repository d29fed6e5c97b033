-- every word of wsL_law stands in lw_tbl
theorem inT {ws : List Cond} (ps : List Nat) (h : ws = ps.filterMap (fun i => lw_tbl[i]?)) : ∀ w ∈ ws, w ∈ lw_tbl := by
  intro w hw
  rw [h] at hw
  obtain ⟨i, -, hi⟩ := List.mem_filterMap.mp hw
  exact List.mem_of_getElem? hi
theorem in_app {a b T : List Cond} (ha : ∀ w ∈ a, w ∈ T) (hb : ∀ w ∈ b, w ∈ T) : ∀ w ∈ a ++ b, w ∈ T := fun w h => (List.mem_append.mp h).elim (ha w) (hb w)
set_option maxRecDepth 100000 in
theorem twsL_law_r1 : ∀ w ∈ wsL_law_r1, w ∈ lw_tbl := inT [49, 50, 40, 637, 638, 47, 51, 52, 53, 54, 55, 56, 57, 58, 41, 206, 94, 95, 43, 207, 113, 64, 42, 208] (by decide +kernel)
set_option maxRecDepth 100000 in
theorem twsL_law_r2 : ∀ w ∈ wsL_law_r2, w ∈ lw_tbl := inT [209, 115, 116, 44, 210, 149, 150, 46, 211, 212, 213, 59, 60, 61, 62, 63, 78, 79, 80, 81, 82, 65, 66, 67] (by decide +kernel)
set_option maxRecDepth 100000 in
theorem twsL_law_r3 : ∀ w ∈ wsL_law_r3, w ∈ lw_tbl := inT [68, 73, 69, 74, 75, 76, 77, 97, 98, 99, 100, 103, 104, 105, 102, 114, 117, 118, 119, 120, 121, 134, 135, 136] (by decide +kernel)
set_option maxRecDepth 100000 in
theorem twsL_law_r4 : ∀ w ∈ wsL_law_r4, w ∈ lw_tbl := inT [123, 124, 45, 137, 133, 122, 126, 127, 128, 129, 151, 152, 153, 154, 155, 159, 160, 161, 162, 163, 164, 165, 166, 167] (by decide +kernel)
set_option maxRecDepth 100000 in
theorem twsL_law_r5 : ∀ w ∈ wsL_law_r5, w ∈ lw_tbl := inT [168, 169, 170, 171, 172, 157, 158, 156, 639, 640, 641, 642, 643, 644, 646, 648, 649, 650, 651, 652, 653, 654, 231, 232] (by decide +kernel)
set_option maxRecDepth 100000 in
theorem twsL_law_r6 : ∀ w ∈ wsL_law_r6, w ∈ lw_tbl := inT [233, 234, 235, 236, 237, 238, 239, 240, 241, 242, 244, 0, 245, 246, 247, 248, 249, 250, 251, 252, 253, 254, 256, 1] (by decide +kernel)
set_option maxRecDepth 100000 in
theorem twsL_law_r7 : ∀ w ∈ wsL_law_r7, w ∈ lw_tbl := inT [257, 258, 259, 260, 261, 277, 275, 48, 276, 262, 264, 2, 265, 266, 267, 268, 269, 270, 271, 272, 273, 274, 278, 279] (by decide +kernel)
set_option maxRecDepth 100000 in
theorem twsL_law_r8 : ∀ w ∈ wsL_law_r8, w ∈ lw_tbl := inT [280, 281, 282, 283, 695, 696, 697, 698, 699, 700, 701, 702, 703, 704, 705, 707, 15, 708, 709, 711, 16, 712, 645, 284] (by decide +kernel)
set_option maxRecDepth 100000 in
theorem twsL_law_r9 : ∀ w ∈ wsL_law_r9, w ∈ lw_tbl := inT [285, 286, 287, 288, 290, 3, 291, 292, 293, 294, 295, 296, 297, 298, 299, 713, 714, 715, 716, 717, 719, 17, 720, 300] (by decide +kernel)
set_option maxRecDepth 100000 in
theorem twsL_law_r10 : ∀ w ∈ wsL_law_r10, w ∈ lw_tbl := inT [301, 302, 303, 304, 305, 306, 307, 721, 722, 723, 724, 308, 309, 310, 311, 725, 726, 727, 728, 312, 313, 314, 315, 729] (by decide +kernel)
set_option maxRecDepth 100000 in
theorem twsL_law_r11 : ∀ w ∈ wsL_law_r11, w ∈ lw_tbl := inT [730, 731, 732, 316, 317, 318, 319, 733, 734, 735, 736, 647, 320, 321, 322, 323, 737, 738, 739, 740, 324, 325, 326, 327] (by decide +kernel)
set_option maxRecDepth 100000 in
theorem twsL_law_r12 : ∀ w ∈ wsL_law_r12, w ∈ lw_tbl := inT [328, 329, 330, 331, 332, 333, 334, 335, 336, 337, 338, 339, 340, 741, 742, 743, 744, 745, 746, 747, 748, 749, 750, 341] (by decide +kernel)
set_option maxRecDepth 100000 in
theorem twsL_law_r13 : ∀ w ∈ wsL_law_r13, w ∈ lw_tbl := inT [342, 343, 344, 345, 346, 347, 348, 751, 752, 753, 754, 349, 350, 351, 352, 353, 354, 355, 356, 357, 358, 359, 360, 755] (by decide +kernel)
set_option maxRecDepth 100000 in
theorem twsL_law_r14 : ∀ w ∈ wsL_law_r14, w ∈ lw_tbl := inT [756, 757, 758, 361, 362, 363, 364, 365, 366, 367, 368, 759, 760, 761, 762, 763, 765, 18, 766, 369, 370, 371, 372, 373] (by decide +kernel)
set_option maxRecDepth 100000 in
theorem twsL_law_r15 : ∀ w ∈ wsL_law_r15, w ∈ lw_tbl := inT [375, 4, 376, 377, 378, 379, 380, 381, 382, 384, 5, 385, 386, 388, 389, 390, 391, 392, 393, 394, 396, 397, 398, 400] (by decide +kernel)
set_option maxRecDepth 100000 in
theorem twsL_law_r16 : ∀ w ∈ wsL_law_r16, w ∈ lw_tbl := inT [6, 401, 402, 403, 404, 405, 406, 407, 409, 410, 411, 412, 413, 414, 415, 416, 417, 419, 7, 420, 421, 423, 8, 424] (by decide +kernel)
set_option maxRecDepth 100000 in
theorem twsL_law_r17 : ∀ w ∈ wsL_law_r17, w ∈ lw_tbl := inT [425, 426, 427, 428, 429, 430, 432, 9, 433, 434, 435, 436, 438, 10, 439, 444, 445, 446, 440, 441, 442, 443, 447, 449] (by decide +kernel)
set_option maxRecDepth 100000 in
theorem twsL_law_r18 : ∀ w ∈ wsL_law_r18, w ∈ lw_tbl := inT [11, 450, 451, 452, 453, 454, 455, 456, 457, 459, 12, 460, 461, 463, 13, 464, 465, 466, 467, 469, 14, 470, 471, 472] (by decide +kernel)
set_option maxRecDepth 100000 in
theorem twsL_law_r19 : ∀ w ∈ wsL_law_r19, w ∈ lw_tbl := inT [473, 474, 475, 477, 478, 479, 480, 482, 481, 483, 767, 768, 769, 770, 771, 773, 19, 774, 775, 776, 777, 778, 780, 20] (by decide +kernel)
set_option maxRecDepth 100000 in
theorem twsL_law_r20 : ∀ w ∈ wsL_law_r20, w ∈ lw_tbl := inT [781, 782, 784, 21, 785, 786, 788, 22, 789, 790, 792, 23, 793, 794, 796, 24, 797, 798, 800, 25, 801, 484, 485, 486] (by decide +kernel)
set_option maxRecDepth 100000 in
theorem twsL_law_r21 : ∀ w ∈ wsL_law_r21, w ∈ lw_tbl := inT [487, 488, 489, 490, 491, 802, 803, 804, 805, 655, 806, 808, 26, 809, 657, 658, 656, 810, 812, 27, 813, 814, 816, 28] (by decide +kernel)
set_option maxRecDepth 100000 in
theorem twsL_law_r22 : ∀ w ∈ wsL_law_r22, w ∈ lw_tbl := inT [817, 818, 820, 29, 821, 822, 824, 30, 825, 826, 492, 493, 494, 495, 496, 497, 498, 499, 827, 828, 829, 830, 500, 501] (by decide +kernel)
set_option maxRecDepth 100000 in
theorem twsL_law_r23 : ∀ w ∈ wsL_law_r23, w ∈ lw_tbl := inT [502, 503, 504, 505, 506, 507, 508, 509, 510, 511, 831, 832, 833, 834, 835, 837, 31, 838, 839, 841, 32, 842, 843, 845] (by decide +kernel)
set_option maxRecDepth 100000 in
theorem twsL_law_r24 : ∀ w ∈ wsL_law_r24, w ∈ lw_tbl := inT [33, 846, 847, 849, 34, 850, 851, 853, 35, 854, 855, 857, 36, 858, 512, 513, 514, 515, 516, 517, 518, 519, 859, 860] (by decide +kernel)
set_option maxRecDepth 100000 in
theorem twsL_law_r25 : ∀ w ∈ wsL_law_r25, w ∈ lw_tbl := inT [861, 862, 520, 521, 522, 523, 524, 525, 526, 527, 863, 864, 865, 866, 528, 529, 530, 531, 532, 533, 534, 535, 867, 868] (by decide +kernel)
set_option maxRecDepth 100000 in
theorem twsL_law_r26 : ∀ w ∈ wsL_law_r26, w ∈ lw_tbl := inT [869, 870, 536, 537, 538, 539, 540, 541, 542, 543, 871, 872, 873, 874, 544, 545, 546, 547, 548, 549, 550, 551, 875, 876] (by decide +kernel)
set_option maxRecDepth 100000 in
theorem twsL_law_r27 : ∀ w ∈ wsL_law_r27, w ∈ lw_tbl := inT [877, 878, 552, 553, 554, 555, 556, 557, 558, 559, 879, 880, 881, 882, 560, 561, 562, 563, 564, 565, 566, 567, 883, 884] (by decide +kernel)
set_option maxRecDepth 100000 in
theorem twsL_law_r28 : ∀ w ∈ wsL_law_r28, w ∈ lw_tbl := inT [885, 886, 568, 569, 570, 571, 572, 573, 574, 575, 887, 888, 889, 890, 576, 577, 578, 579, 580, 581, 582, 583, 891, 892] (by decide +kernel)
set_option maxRecDepth 100000 in
theorem twsL_law_r29 : ∀ w ∈ wsL_law_r29, w ∈ lw_tbl := inT [893, 894, 584, 585, 586, 587, 588, 589, 590, 591, 895, 896, 897, 898, 592, 593, 594, 595, 596, 597, 598, 599, 600, 601] (by decide +kernel)
set_option maxRecDepth 100000 in
theorem twsL_law_r30 : ∀ w ∈ wsL_law_r30, w ∈ lw_tbl := inT [602, 603, 604, 899, 900, 901, 902, 605, 606, 607, 608, 903, 904, 905, 906, 609, 610, 611, 612, 613, 614, 615, 616, 617] (by decide +kernel)
set_option maxRecDepth 100000 in
theorem twsL_law_r31 : ∀ w ∈ wsL_law_r31, w ∈ lw_tbl := inT [618, 620, 621, 622, 623, 624, 625, 626, 627, 629, 630, 631, 632, 633, 634, 635, 907, 908, 909, 910, 911, 659, 912, 914] (by decide +kernel)
set_option maxRecDepth 100000 in
theorem twsL_law_r32 : ∀ w ∈ wsL_law_r32, w ∈ lw_tbl := inT [37, 915, 916, 917, 919, 38, 920] (by decide +kernel)
set_option maxRecDepth 100000 in
theorem twsX60 : ∀ w ∈ wsX60, w ∈ lw_tbl := by decide +kernel
set_option maxRecDepth 100000 in
theorem twsX70 : ∀ w ∈ wsX70, w ∈ lw_tbl := by decide +kernel
set_option maxRecDepth 100000 in
theorem twsX50 : ∀ w ∈ wsX50, w ∈ lw_tbl := by decide +kernel
set_option maxRecDepth 100000 in
theorem twsX10 : ∀ w ∈ wsX10, w ∈ lw_tbl := by decide +kernel
set_option maxRecDepth 100000 in
theorem twsX40 : ∀ w ∈ wsX40, w ∈ lw_tbl := by decide +kernel
set_option maxRecDepth 100000 in
theorem twsX20 : ∀ w ∈ wsX20, w ∈ lw_tbl := by decide +kernel
set_option maxRecDepth 100000 in
theorem twsX30 : ∀ w ∈ wsX30, w ∈ lw_tbl := by decide +kernel
set_option maxRecDepth 100000 in
theorem twsX00 : ∀ w ∈ wsX00, w ∈ lw_tbl := by decide +kernel
theorem wsL_in : ∀ w ∈ wsL_law, w ∈ lw_tbl := in_app (in_app (in_app (in_app (in_app (in_app (in_app (in_app (in_app (in_app twsL_law_r1 (in_app twsL_law_r2 (in_app twsL_law_r3 (in_app twsL_law_r4 (in_app twsL_law_r5 (in_app twsL_law_r6 (in_app twsL_law_r7 (in_app twsL_law_r8 (in_app twsL_law_r9 (in_app twsL_law_r10 (in_app twsL_law_r11 (in_app twsL_law_r12 (in_app twsL_law_r13 (in_app twsL_law_r14 (in_app twsL_law_r15 (in_app twsL_law_r16 (in_app twsL_law_r17 (in_app twsL_law_r18 (in_app twsL_law_r19 (in_app twsL_law_r20 (in_app twsL_law_r21 (in_app twsL_law_r22 (in_app twsL_law_r23 (in_app twsL_law_r24 (in_app twsL_law_r25 (in_app twsL_law_r26 (in_app twsL_law_r27 (in_app twsL_law_r28 (in_app twsL_law_r29 (in_app twsL_law_r30 (in_app twsL_law_r31 (twsL_law_r32)))))))))))))))))))))))))))))))) twsX60) twsX70) twsX50) twsX10) twsX40) twsX20) twsX30) twsX00) (fun _ h => absurd h List.not_mem_nil)
set_option maxRecDepth 100000 in
theorem tnl_0 : Cond.methodLinkNest "IslandGrammar" 18 yX1_init "IslandGrammar" ∈ lw_tbl := List.mem_of_getElem? (i := 96) (by decide +kernel)
set_option maxRecDepth 100000 in
theorem tnl_1 : Cond.methodLinkNest "IslandGrammar$Matcher" 28 yX0_init "IslandGrammar" ∈ lw_tbl := List.mem_of_getElem? (i := 125) (by decide +kernel)
set_option maxRecDepth 100000 in
theorem tnl_2 : Cond.methodLinkNest "IslandGrammar$Matcher" 67 yX6_isDigit "IslandGrammar" ∈ lw_tbl := List.mem_of_getElem? (i := 387) (by decide +kernel)
set_option maxRecDepth 100000 in
theorem tnl_3 : Cond.methodLinkNest "IslandGrammar$Matcher" 77 yX6_isLetter "IslandGrammar" ∈ lw_tbl := List.mem_of_getElem? (i := 395) (by decide +kernel)
set_option maxRecDepth 100000 in
theorem tnl_4 : Cond.methodLinkNest "IslandGrammar$Matcher" 60 yX6_isReference "IslandGrammar" ∈ lw_tbl := List.mem_of_getElem? (i := 408) (by decide +kernel)
set_option maxRecDepth 100000 in
theorem tnl_5 : Cond.methodLinkNest "IslandGrammar$Nodes" 132 yX6_isReference "IslandGrammar" ∈ lw_tbl := List.mem_of_getElem? (i := 476) (by decide +kernel)
set_option maxRecDepth 100000 in
theorem tnl_6 : Cond.methodLinkNest "IslandGrammar$Row" 25 yX6_mix "IslandGrammar" ∈ lw_tbl := List.mem_of_getElem? (i := 619) (by decide +kernel)
set_option maxRecDepth 100000 in
theorem tnl_7 : Cond.methodLinkNest "IslandGrammar$State" 52 yX6_mix "IslandGrammar" ∈ lw_tbl := List.mem_of_getElem? (i := 628) (by decide +kernel)
set_option maxRecDepth 100000 in
theorem tnl_8 : Cond.methodLinkNest "IslandGrammar$Nodes" 90 yX6_mix "IslandGrammar" ∈ lw_tbl := List.mem_of_getElem? (i := 636) (by decide +kernel)
set_option maxRecDepth 100000 in
theorem t_ao : Cond.arrayOver (.object "IslandGrammar$State") ∈ lw_tbl := List.mem_of_getElem? (i := 101) (by decide +kernel)
theorem gNw_of {s : State} {A : Array Value} (hts : ∀ w ∈ lw_tbl, w.before A s = true) : gNw s := List.forall_mem_cons.mpr ⟨va_Nw.of rfl (hts _ tnl_0), List.forall_mem_cons.mpr ⟨va_Nw.of rfl (hts _ tnl_1), List.forall_mem_cons.mpr ⟨va_Nw.of rfl (hts _ tnl_2), List.forall_mem_cons.mpr ⟨va_Nw.of rfl (hts _ tnl_3), List.forall_mem_cons.mpr ⟨va_Nw.of rfl (hts _ tnl_4), List.forall_mem_cons.mpr ⟨va_Nw.of rfl (hts _ tnl_5), List.forall_mem_cons.mpr ⟨va_Nw.of rfl (hts _ tnl_6), List.forall_mem_cons.mpr ⟨va_Nw.of rfl (hts _ tnl_7), List.forall_mem_cons.mpr ⟨va_Nw.of rfl (hts _ tnl_8), fun _ h => absurd h List.not_mem_nil⟩⟩⟩⟩⟩⟩⟩⟩⟩
