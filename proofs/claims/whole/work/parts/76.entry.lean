/-! What stands at the law's entry. -/
theorem lw_sub {g T : List Cond} (idx : List Nat) (h : idx.map (fun i => T[i]?) = g.map some) : ∀ w ∈ g, w ∈ T := by
  intro w hw
  have h2 : some w ∈ g.map some := List.mem_map_of_mem hw
  rw [← h] at h2
  obtain ⟨i, -, hi⟩ := List.mem_map.mp h2
  exact List.mem_of_getElem? hi
theorem lw_s0 : ∀ w ∈ bc_g0, w ∈ lw_tbl := lw_sub [36, 37, 38, 39, 40, 41, 42, 43, 44, 45, 46, 47, 48, 49, 50, 51, 52, 53, 54, 55, 56, 57, 58, 59, 61, 62, 63, 64, 65, 66, 68, 70, 71, 72, 73, 75, 76, 77, 78, 80] (by decide +kernel)
theorem lw_s1 : ∀ w ∈ bc_g1, w ∈ lw_tbl := lw_sub [82, 84, 86, 87, 88, 90, 91, 92, 93, 94, 96, 97, 98, 100, 101, 102, 103, 104, 105, 106, 107, 109, 111, 113, 115, 116, 117, 118, 119, 120, 121, 122, 123, 124, 126, 128, 130, 132, 134, 136] (by decide +kernel)
theorem lw_s2 : ∀ w ∈ bc_g2, w ∈ lw_tbl := lw_sub [138, 140, 141, 142, 143, 144, 145, 146, 147, 148, 149, 151, 152, 153, 155, 156, 157, 158, 159, 160, 161, 162, 163, 164, 165, 166, 167, 169, 170, 171, 172, 173, 175, 176, 177, 178, 179, 180, 181, 182] (by decide +kernel)
theorem lw_s3 : ∀ w ∈ bc_g3, w ∈ lw_tbl := lw_sub [190, 191, 192, 193, 194, 195, 196, 197, 198, 199, 200, 201, 202, 203, 204, 205, 206, 207, 209, 211, 212, 214, 215, 216, 217, 219, 220, 221, 223, 224, 225, 226, 227, 228, 229, 230, 231, 232, 233, 234] (by decide +kernel)
theorem lw_s4 : ∀ w ∈ bc_g4, w ∈ lw_tbl := lw_sub [236, 237, 238, 239, 244, 247, 248, 249, 250, 251, 252, 253, 254, 256, 257, 258, 259, 260, 261, 263, 264, 265, 266, 267, 268, 269, 270, 271, 272, 273, 274, 276, 277, 278, 279, 280, 281, 282, 283, 285] (by decide +kernel)
theorem lw_s5 : ∀ w ∈ bc_g5, w ∈ lw_tbl := lw_sub [286, 287, 288, 289, 290, 291, 292, 293, 294, 295, 296, 297, 298, 299, 300, 301, 302, 303, 304, 305, 306, 307, 308, 309, 310, 311, 312, 313, 314, 315, 316, 318, 319, 320, 321, 323, 325, 326, 327, 328] (by decide +kernel)
theorem lw_s6 : ∀ w ∈ bc_g6, w ∈ lw_tbl := lw_sub [329, 330, 332, 333, 334, 336, 337, 338, 339, 340, 341, 342, 343, 344, 345, 346, 347, 349, 350, 351, 352, 353, 354, 355, 357, 358, 359, 360, 361, 362, 363, 364, 365, 366, 367, 368, 369, 370, 371, 372] (by decide +kernel)
theorem lw_s7 : ∀ w ∈ bc_g7, w ∈ lw_tbl := lw_sub [373, 374, 375, 376, 377, 379, 380, 382, 383, 384, 385, 387, 388, 389, 390, 391, 392, 394, 395, 396, 397, 398, 400, 401, 402, 403, 404, 405, 406, 407, 408, 410, 411, 412, 413, 414, 415, 416, 417, 418] (by decide +kernel)
theorem lw_s8 : ∀ w ∈ bc_g8, w ∈ lw_tbl := lw_sub [419, 420, 421, 423, 424, 425, 426, 427, 428, 429, 430, 431, 432, 433, 434, 435, 436, 437, 439, 440, 441, 442, 444, 445, 446, 447, 448, 449, 450, 451, 452, 453, 454, 456, 457, 458, 459, 460, 461, 463] (by decide +kernel)
theorem lw_s9 : ∀ w ∈ bc_g9, w ∈ lw_tbl := lw_sub [464, 466, 468, 469, 470, 471, 472, 473, 474, 476, 477, 478, 479, 480, 481, 482, 483, 484, 485, 486, 487, 488, 490, 491, 492, 493, 494, 495, 497, 498, 499, 500, 502, 503, 505, 506, 507, 508, 509, 510] (by decide +kernel)
theorem lw_s10 : ∀ w ∈ bc_g10, w ∈ lw_tbl := lw_sub [511, 513, 514, 515, 516, 517, 518, 520, 521, 522, 523, 524, 525, 527, 528, 529, 530, 531, 532, 534, 535, 536, 537, 538, 539, 540, 542, 543, 545, 546, 547, 548, 550, 551, 552, 553, 555, 556, 557, 558] (by decide +kernel)
theorem lw_s11 : ∀ w ∈ bc_g11, w ∈ lw_tbl := lw_sub [560, 561, 562, 563, 564, 565, 566, 567, 568, 569, 570, 571, 572, 573, 574, 575, 576, 577, 578, 579, 580, 581, 582, 583, 584, 585, 586, 587, 588, 589, 590, 591, 592, 593, 594, 595, 596, 597, 598, 599] (by decide +kernel)
theorem lw_s12 : ∀ w ∈ bc_g12, w ∈ lw_tbl := lw_sub [600, 601, 602, 603, 604, 605, 606, 607, 608, 609, 610, 611, 612, 613, 614, 615, 616, 617, 618, 619, 620, 621, 622, 623, 624, 625, 626, 627, 628, 629, 630, 631, 632, 633, 634, 635, 636, 637, 638, 639] (by decide +kernel)
theorem lw_s13 : ∀ w ∈ bc_g13, w ∈ lw_tbl := lw_sub [640, 641, 642, 643, 644, 645, 646, 647, 648, 649, 650, 651, 652, 653, 654, 655, 657, 659, 661, 663, 665, 667, 669, 671, 673, 675, 677, 679, 681, 683, 685, 687, 689, 690, 691, 692, 693, 694, 695, 696] (by decide +kernel)
theorem lw_s14 : ∀ w ∈ bc_g14, w ∈ lw_tbl := lw_sub [697, 698, 699, 700, 701, 702, 703, 704, 705, 706, 707, 709, 710, 711, 713, 714, 715, 717, 718, 719, 720, 721, 722, 723, 725, 726, 727, 729, 730, 731, 733, 734, 735, 737, 738, 739, 740, 742, 743, 744] (by decide +kernel)
theorem lw_s15 : ∀ w ∈ bc_g15, w ∈ lw_tbl := lw_sub [746, 747, 748, 749, 750, 752, 753, 754, 755, 756, 757, 758, 759, 760, 762, 763, 764, 766, 767, 768, 769, 770, 771, 772, 773, 774, 775, 776, 778, 779, 780, 782, 783, 784, 785, 787, 788, 789, 791, 792] (by decide +kernel)
theorem lw_s16 : ∀ w ∈ bc_g16, w ∈ lw_tbl := lw_sub [793, 795, 796, 797, 799, 800, 801, 802, 803, 804, 805, 807, 808, 809, 810, 811, 812, 813, 814, 815, 816, 817, 818, 819, 820, 821, 822, 823, 824, 825, 826, 827, 828, 829, 830, 831, 832, 833, 834, 835] (by decide +kernel)
theorem lw_s17 : ∀ w ∈ bc_g17, w ∈ lw_tbl := lw_sub [836, 837, 838, 839, 840, 841, 842, 843, 844, 0, 1, 2, 3, 4, 5, 6, 7, 8, 9, 10, 11, 12, 13, 14, 15, 16, 17, 18, 19, 20, 21, 22, 23, 24, 25, 26, 27, 28, 29, 30] (by decide +kernel)
theorem lw_s18 : ∀ w ∈ bc_g18, w ∈ lw_tbl := lw_sub [31, 32, 33, 34, 35] (by decide +kernel)
theorem lw_G : ∀ w ∈ bc_G, w ∈ lw_tbl := by
  intro w h
  simp only [bc_G, List.mem_append] at h
  rcases h with h | h | h | h | h | h | h | h | h | h | h | h | h | h | h | h | h | h | h
  · exact lw_s0 w h
  · exact lw_s1 w h
  · exact lw_s2 w h
  · exact lw_s3 w h
  · exact lw_s4 w h
  · exact lw_s5 w h
  · exact lw_s6 w h
  · exact lw_s7 w h
  · exact lw_s8 w h
  · exact lw_s9 w h
  · exact lw_s10 w h
  · exact lw_s11 w h
  · exact lw_s12 w h
  · exact lw_s13 w h
  · exact lw_s14 w h
  · exact lw_s15 w h
  · exact lw_s16 w h
  · exact lw_s17 w h
  · exact lw_s18 w h
theorem lw_nest : ∀ w ∈ bc_nest, w ∈ lw_tbl := lw_sub [60, 74, 79, 81, 89, 99] (by decide +kernel)
theorem lw_face : ∀ w ∈ bc_face, w ∈ lw_tbl := lw_sub [183, 184, 185, 186, 187, 188, 189, 255, 475] (by decide +kernel)
theorem lw_cwin : ∀ w ∈ lw_cw, w ∈ lw_tbl := lw_sub [174, 275, 381, 393, 455, 496, 504, 519, 526, 533, 544, 554] (by decide +kernel)
theorem lw_strs : ∀ q ∈ bc_strs, Cond.stringRef "BootChain" q.1 q.2 ∈ lw_tbl := by
  intro q hq
  have h : ∀ w ∈ bc_strs.map (fun q => Cond.stringRef "BootChain" q.1 q.2), w ∈ lw_tbl := lw_sub [222, 262, 348, 378, 386, 465, 501, 512, 541, 549, 559] (by decide +kernel)
  exact h _ (List.mem_map_of_mem (f := fun q => Cond.stringRef "BootChain" q.1 q.2) hq)
theorem lw_t0 : Cond.laysStatic "java/lang/Throwable" "UNASSIGNED_STACK" "[Ljava/lang/StackTraceElement;" ∈ lw_tbl := (List.mem_of_getElem? (i := 208) (by decide +kernel))
theorem lw_t1 : Cond.laysStatic "java/lang/Throwable" "SUPPRESSED_SENTINEL" "Ljava/util/List;" ∈ lw_tbl := (List.mem_of_getElem? (i := 210) (by decide +kernel))
theorem lw_t2 : Cond.laysStatic "BootChain$Sha256" "START" "[I" ∈ lw_tbl := (List.mem_of_getElem? (i := 322) (by decide +kernel))
theorem lw_t3 : Cond.laysStatic "BootChain$Sha256" "ROUND_WORDS" "[I" ∈ lw_tbl := (List.mem_of_getElem? (i := 335) (by decide +kernel))
def lw_flat : List Cond := flatC (Jvm.Cond.and given_1 narrow_1)
theorem lw_n0 : Cond.not (Cond.castable "java/lang/IllegalArgumentException" "java/lang/IllegalStateException") ∈ lw_flat := (List.mem_of_getElem? (i := 98) (by decide +kernel))
theorem lw_n1 : Cond.not (Cond.castable "java/lang/IllegalArgumentException" "java/lang/UnsupportedOperationException") ∈ lw_flat := (List.mem_of_getElem? (i := 106) (by decide +kernel))
theorem lw_n2 : Cond.not (Cond.castable "java/lang/IllegalStateException" "java/lang/IllegalArgumentException") ∈ lw_flat := (List.mem_of_getElem? (i := 90) (by decide +kernel))
theorem lw_n3 : Cond.not (Cond.castable "java/lang/IllegalStateException" "java/lang/UnsupportedOperationException") ∈ lw_flat := (List.mem_of_getElem? (i := 107) (by decide +kernel))
theorem lw_n4 : Cond.not (Cond.castable "java/lang/UnsupportedOperationException" "java/lang/IllegalArgumentException") ∈ lw_flat := (List.mem_of_getElem? (i := 91) (by decide +kernel))
theorem lw_n5 : Cond.not (Cond.castable "java/lang/UnsupportedOperationException" "java/lang/IllegalStateException") ∈ lw_flat := (List.mem_of_getElem? (i := 99) (by decide +kernel))
theorem lw_f0 : Cond.isRef (.static "java/lang/Throwable" "UNASSIGNED_STACK" "[Ljava/lang/StackTraceElement;") ∈ lw_flat := (List.mem_of_getElem? (i := 4) (by decide +kernel))
theorem lw_f1 : Cond.isRef (.static "java/lang/Throwable" "SUPPRESSED_SENTINEL" "Ljava/util/List;") ∈ lw_flat := (List.mem_of_getElem? (i := 5) (by decide +kernel))
theorem lw_a_START : Cond.arrayOf (.static "BootChain$Sha256" "START" "[I") .int ∈ lw_flat := (List.mem_of_getElem? (i := 7) (by decide +kernel))
theorem lw_l_START : Cond.eq (.length (.static "BootChain$Sha256" "START" "[I")) (.int 8) ∈ lw_flat := (List.mem_of_getElem? (i := 8) (by decide +kernel))
theorem lw_e_START : ∀ w ∈ (List.range 8).map (fun j => Cond.eq (.elem (.static "BootChain$Sha256" "START" "[I") (.int (Int32.ofNat j))) (.int (sha_h j))), w ∈ lw_flat := lw_sub [9, 10, 11, 12, 13, 14, 15, 16] (by decide +kernel)
theorem lw_a_ROUND_WORDS : Cond.arrayOf (.static "BootChain$Sha256" "ROUND_WORDS" "[I") .int ∈ lw_flat := (List.mem_of_getElem? (i := 18) (by decide +kernel))
theorem lw_l_ROUND_WORDS : Cond.eq (.length (.static "BootChain$Sha256" "ROUND_WORDS" "[I")) (.int 64) ∈ lw_flat := (List.mem_of_getElem? (i := 19) (by decide +kernel))
theorem lw_e_ROUND_WORDS : ∀ w ∈ (List.range 64).map (fun j => Cond.eq (.elem (.static "BootChain$Sha256" "ROUND_WORDS" "[I") (.int (Int32.ofNat j))) (.int (sha_k j))), w ∈ lw_flat := lw_sub [20, 21, 22, 23, 24, 25, 26, 27, 28, 29, 30, 31, 32, 33, 34, 35, 36, 37, 38, 39, 40, 41, 42, 43, 44, 45, 46, 47, 48, 49, 50, 51, 52, 53, 54, 55, 56, 57, 58, 59, 60, 61, 62, 63, 64, 65, 66, 67, 68, 69, 70, 71, 72, 73, 74, 75, 76, 77, 78, 79, 80, 81, 82, 83] (by decide +kernel)
