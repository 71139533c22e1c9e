/-! the words that the pure machine rests on are among those of the start -/
theorem rb_posin {L big : List Jvm.Cond} (ps : List Nat) (h : L = ps.filterMap (fun i => big[i]?)) {w : Jvm.Cond} (hw : w ∈ L) : w ∈ big := by
  rw [h] at hw
  obtain ⟨i, -, hi⟩ := List.mem_filterMap.mp hw
  exact List.mem_of_getElem? hi
set_option maxRecDepth 1000000 in
theorem rb_wF_p0 : rb_wF.getD 0 [] = ([337, 338, 339, 340, 204, 163, 179, 201, 89, 273, 269, 271, 256, 299, 280, 208, 211, 126, 131, 134, 213, 215, 217, 286, 288, 294, 292, 296, 290, 278, 206, 173, 177, 182, 161, 77, 85, 83, 87, 81, 91, 276, 93, 95, 97, 284, 282] : List Nat).filterMap (fun i => lw_tbl[i]?) := by decide +kernel
set_option maxRecDepth 1000000 in
theorem rb_wF_p1 : rb_wF.getD 1 [] = ([200, 202, 203, 205, 125, 207, 210, 164, 172, 209, 212, 167, 176, 133, 130, 160, 214, 181, 216, 170] : List Nat).filterMap (fun i => lw_tbl[i]?) := by decide +kernel
set_option maxRecDepth 1000000 in
theorem rb_wF_p2 : rb_wF.getD 2 [] = ([121, 122, 123, 124, 127, 128, 132, 79, 169, 166, 175] : List Nat).filterMap (fun i => lw_tbl[i]?) := by decide +kernel
set_option maxRecDepth 1000000 in
theorem rb_wF_p3 : rb_wF.getD 3 [] = ([76, 78, 80, 82, 84, 86, 267, 90, 275, 92, 94, 88, 96] : List Nat).filterMap (fun i => lw_tbl[i]?) := by decide +kernel
set_option maxRecDepth 1000000 in
theorem rb_wF_p4 : rb_wF.getD 4 [] = ([159, 162, 165, 168, 171, 174, 178, 180, 129] : List Nat).filterMap (fun i => lw_tbl[i]?) := by decide +kernel
set_option maxRecDepth 1000000 in
theorem rb_wF_p5 : rb_wF.getD 5 [] = ([266, 268, 270, 272, 274, 277, 279, 281, 283, 285, 287, 289, 291, 293, 295, 297, 298] : List Nat).filterMap (fun i => lw_tbl[i]?) := by decide +kernel
set_option maxRecDepth 1000000 in
theorem rb_wF_p6 : rb_wF.getD 6 [] = ([252, 253, 254, 255] : List Nat).filterMap (fun i => lw_tbl[i]?) := by decide +kernel
set_option maxRecDepth 1000000 in
theorem rb_wF_p7 : rb_wF.getD 7 [] = ([686, 687, 688, 689, 690, 691, 692, 693, 694, 695, 696, 697, 698, 699, 700, 701, 702, 703, 704, 705, 706, 707, 708, 709, 710, 711, 712, 713, 714, 715, 716, 717, 718, 719, 720, 721, 722, 723, 724, 725, 726, 727, 728, 729, 730, 731, 732, 733, 734, 735, 736, 737, 738, 739, 740] : List Nat).filterMap (fun i => lw_tbl[i]?) := by decide +kernel
theorem rb_wF_in {w : Jvm.Cond} (h : w ∈ rb_wF.flatten) : w ∈ lw_tbl := by
  obtain ⟨l, hl, hw⟩ := List.mem_flatten.mp h
  obtain ⟨c, hc⟩ := List.getElem?_of_mem hl
  have e9 : rb_wF.getD c [] = l := by rw [List.getD_eq_getElem?_getD, hc]; rfl
  rw [← e9] at hw
  match c, hc, hw with
  | 0, hc, hw => exact rb_posin _ rb_wF_p0 hw
  | 1, hc, hw => exact rb_posin _ rb_wF_p1 hw
  | 2, hc, hw => exact rb_posin _ rb_wF_p2 hw
  | 3, hc, hw => exact rb_posin _ rb_wF_p3 hw
  | 4, hc, hw => exact rb_posin _ rb_wF_p4 hw
  | 5, hc, hw => exact rb_posin _ rb_wF_p5 hw
  | 6, hc, hw => exact rb_posin _ rb_wF_p6 hw
  | 7, hc, hw => exact rb_posin _ rb_wF_p7 hw
  | n + 8, hc, hw => cases hc
set_option maxRecDepth 1000000 in
theorem rb_wM_p0 : rb_wM.getD 0 [] = ([52, 58, 242, 354, 358, 361, 365, 373, 369, 390, 402, 414, 419, 428, 436, 406, 448, 460, 468, 472, 481, 485, 489, 494, 498, 513, 644, 648, 656, 493, 517, 529, 530, 567, 636, 640, 571, 583, 584, 635, 588, 603, 613, 616, 620, 607, 592, 599, 610, 596, 600, 501, 502, 624, 630, 505] : List Nat).filterMap (fun i => lw_tbl[i]?) := by decide +kernel
set_option maxRecDepth 1000000 in
theorem rb_wM_p1 : rb_wM.getD 1 [] = ([61, 65, 153, 423, 394, 424, 377, 378, 398, 521, 525, 534, 538, 542, 546, 554, 562, 575, 579] : List Nat).filterMap (fun i => lw_tbl[i]?) := by decide +kernel
set_option maxRecDepth 1000000 in
theorem rb_wM_p2 : rb_wM.getD 2 [] = ([68, 550] : List Nat).filterMap (fun i => lw_tbl[i]?) := by decide +kernel
set_option maxRecDepth 1000000 in
theorem rb_wM_p3 : rb_wM.getD 3 [] = ([75] : List Nat).filterMap (fun i => lw_tbl[i]?) := by decide +kernel
set_option maxRecDepth 1000000 in
theorem rb_wM_p4 : rb_wM.getD 4 [] = ([156, 558, 566] : List Nat).filterMap (fun i => lw_tbl[i]?) := by decide +kernel
set_option maxRecDepth 1000000 in
theorem rb_wM_p5 : rb_wM.getD 5 [] = ([245, 248, 452, 628, 629, 634] : List Nat).filterMap (fun i => lw_tbl[i]?) := by decide +kernel
set_option maxRecDepth 1000000 in
theorem rb_wM_p6 : rb_wM.getD 6 [] = ([251, 476] : List Nat).filterMap (fun i => lw_tbl[i]?) := by decide +kernel
set_option maxRecDepth 1000000 in
theorem rb_wM_p7 : rb_wM.getD 7 [] = ([685, 942, 873, 892, 869, 876, 865, 884, 888, 900, 904, 861, 880, 896, 908, 911, 915, 919, 927, 923, 857, 931, 939, 945, 949, 961, 989] : List Nat).filterMap (fun i => lw_tbl[i]?) := by decide +kernel
theorem rb_wM_in {w : Jvm.Cond} (h : w ∈ rb_wM.flatten) : w ∈ lw_tbl := by
  obtain ⟨l, hl, hw⟩ := List.mem_flatten.mp h
  obtain ⟨c, hc⟩ := List.getElem?_of_mem hl
  have e9 : rb_wM.getD c [] = l := by rw [List.getD_eq_getElem?_getD, hc]; rfl
  rw [← e9] at hw
  match c, hc, hw with
  | 0, hc, hw => exact rb_posin _ rb_wM_p0 hw
  | 1, hc, hw => exact rb_posin _ rb_wM_p1 hw
  | 2, hc, hw => exact rb_posin _ rb_wM_p2 hw
  | 3, hc, hw => exact rb_posin _ rb_wM_p3 hw
  | 4, hc, hw => exact rb_posin _ rb_wM_p4 hw
  | 5, hc, hw => exact rb_posin _ rb_wM_p5 hw
  | 6, hc, hw => exact rb_posin _ rb_wM_p6 hw
  | 7, hc, hw => exact rb_posin _ rb_wM_p7 hw
  | n + 8, hc, hw => cases hc
set_option maxRecDepth 1000000 in
theorem rb_wV_p0 : rb_wV.getD 0 [] = ([356, 0, 359, 367, 1, 404, 2, 438, 4, 408, 3, 462, 5, 491, 6, 499, 515, 7, 650, 16, 569, 9, 586, 10, 590, 11, 605, 13, 614, 618, 14, 622, 15, 608, 594, 12, 611, 597, 601, 503] : List Nat).filterMap (fun i => lw_tbl[i]?) := by decide +kernel
set_option maxRecDepth 1000000 in
theorem rb_wV_p1 : rb_wV.getD 1 [] = ([59, 362, 363, 374, 375, 370, 371, 391, 392, 399, 400, 420, 421, 395, 396, 518, 519, 522, 523, 531, 532, 637, 638, 641, 642, 572, 573, 526, 527] : List Nat).filterMap (fun i => lw_tbl[i]?) := by decide +kernel
set_option maxRecDepth 1000000 in
theorem rb_wV_p2 : rb_wV.getD 2 [] = ([495, 496, 425, 426, 66, 379, 380, 535, 536, 539, 540, 543, 544, 547, 548, 576, 577] : List Nat).filterMap (fun i => lw_tbl[i]?) := by decide +kernel
set_option maxRecDepth 1000000 in
theorem rb_wV_p3 : rb_wV.getD 3 [] = ([429, 430, 551, 552, 506, 507, 73] : List Nat).filterMap (fun i => lw_tbl[i]?) := by decide +kernel
set_option maxRecDepth 1000000 in
theorem rb_wV_p4 : rb_wV.getD 4 [] = ([657, 658, 563, 564, 154, 555, 556, 580, 581, 560, 8] : List Nat).filterMap (fun i => lw_tbl[i]?) := by decide +kernel
set_option maxRecDepth 1000000 in
theorem rb_wV_p5 : rb_wV.getD 5 [] = ([243, 449, 450, 645, 646, 625, 626, 631, 632] : List Nat).filterMap (fun i => lw_tbl[i]?) := by decide +kernel
set_option maxRecDepth 1000000 in
theorem rb_wV_p6 : rb_wV.getD 6 [] = ([469, 470, 473, 474, 482, 483, 486, 487, 249, 453, 454] : List Nat).filterMap (fun i => lw_tbl[i]?) := by decide +kernel
set_option maxRecDepth 1000000 in
theorem rb_wV_p7 : rb_wV.getD 7 [] = ([943, 874, 894, 25, 871, 20, 878, 21, 867, 19, 886, 23, 890, 24, 902, 27, 906, 28, 863, 18, 882, 22, 898, 26, 909, 913, 29, 917, 30, 921, 31, 929, 33, 925, 32, 859, 17, 933, 34, 940, 947, 35, 951, 36, 963, 37, 990] : List Nat).filterMap (fun i => lw_tbl[i]?) := by decide +kernel
theorem rb_wV_in {w : Jvm.Cond} (h : w ∈ rb_wV.flatten) : w ∈ lw_tbl := by
  obtain ⟨l, hl, hw⟩ := List.mem_flatten.mp h
  obtain ⟨c, hc⟩ := List.getElem?_of_mem hl
  have e9 : rb_wV.getD c [] = l := by rw [List.getD_eq_getElem?_getD, hc]; rfl
  rw [← e9] at hw
  match c, hc, hw with
  | 0, hc, hw => exact rb_posin _ rb_wV_p0 hw
  | 1, hc, hw => exact rb_posin _ rb_wV_p1 hw
  | 2, hc, hw => exact rb_posin _ rb_wV_p2 hw
  | 3, hc, hw => exact rb_posin _ rb_wV_p3 hw
  | 4, hc, hw => exact rb_posin _ rb_wV_p4 hw
  | 5, hc, hw => exact rb_posin _ rb_wV_p5 hw
  | 6, hc, hw => exact rb_posin _ rb_wV_p6 hw
  | 7, hc, hw => exact rb_posin _ rb_wV_p7 hw
  | n + 8, hc, hw => cases hc
set_option maxRecDepth 1000000 in
theorem rb_wO_p : rb_wO = ([39, 40, 41, 42, 43, 44, 45, 46, 55, 57, 239, 241, 335, 150, 852, 246, 247, 69, 71, 62, 64, 151, 152, 157] : List Nat).filterMap (fun i => lw_tbl[i]?) := by decide +kernel
set_option maxRecDepth 1000000 in
theorem rb_wL_p : rb_wL = ([341, 343, 345, 347, 218, 220, 222, 224, 226, 228, 230, 232, 234, 236, 135, 137, 139, 141, 143, 145, 147, 98, 100, 102, 104, 106, 108, 110, 112, 114, 116, 118, 183, 185, 187, 189, 191, 193, 195, 197, 300, 302, 304, 306, 308, 310, 312, 314, 316, 318, 320, 322, 324, 326, 328, 330, 332, 257, 259, 261, 263, 741, 743, 745, 747, 749, 751, 753, 755, 757, 759, 761, 763, 765, 767, 769, 771, 773, 775, 777, 779, 781, 783, 785, 787, 789, 791, 793, 795, 797, 799, 801, 803, 805, 807, 809, 811, 813, 815, 817, 819, 821, 823, 825, 827, 829, 831, 833, 835, 837, 839, 841, 843, 845, 847, 849] : List Nat).filterMap (fun i => lw_tbl[i]?) := by decide +kernel
set_option maxRecDepth 1000000 in
theorem rb_wX_p : rb_wX = ([53, 54] : List Nat).filterMap (fun i => lw_tbl[i]?) := by decide +kernel
