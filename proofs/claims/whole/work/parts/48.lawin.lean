theorem mem_pos {big ws : List Cond} (ps : List Nat) (hp : ws = ps.filterMap (fun i => big[i]?)) : ∀ w ∈ ws, w ∈ big := by
  intro w hw
  rw [hp] at hw
  obtain ⟨i, -, hi⟩ := List.mem_filterMap.mp hw
  exact List.mem_of_getElem? hi
theorem mem_app2 {big a b : List Cond} (ha : ∀ w ∈ a, w ∈ big) (hb : ∀ w ∈ b, w ∈ big) : ∀ w ∈ a ++ b, w ∈ big := fun w h => (List.mem_append.mp h).elim (ha w) (hb w)
set_option maxRecDepth 20000 in
theorem in_wsL_law_r1 : ∀ w ∈ wsL_law_r1, w ∈ lw_tbl := mem_pos [60, 61, 40, 708, 709, 52, 62, 63, 64, 65, 66, 67, 68, 69, 41, 270, 84, 85, 42, 271, 208, 91, 43, 272] (by decide +kernel)
set_option maxRecDepth 20000 in
theorem in_wsL_law_r2 : ∀ w ∈ wsL_law_r2, w ∈ lw_tbl := mem_pos [210, 211, 49, 273, 231, 232, 50, 274, 251, 252, 51, 275, 71, 72, 73, 83, 74, 87, 88, 89, 90, 187, 143, 145] (by decide +kernel)
set_option maxRecDepth 20000 in
theorem in_wsL_law_r3 : ∀ w ∈ wsL_law_r3, w ∈ lw_tbl := mem_pos [44, 155, 156, 45, 163, 164, 46, 171, 172, 47, 179, 180, 48, 192, 193, 93, 94, 95, 96, 99, 102, 105, 107, 109] (by decide +kernel)
set_option maxRecDepth 20000 in
theorem in_wsL_law_r4 : ∀ w ∈ wsL_law_r4, w ∈ lw_tbl := mem_pos [146, 147, 148, 149, 150, 157, 158, 159, 160, 165, 166, 167, 168, 173, 174, 175, 176, 181, 182, 183, 184, 213, 214, 215] (by decide +kernel)
set_option maxRecDepth 20000 in
theorem in_wsL_law_r5 : ∀ w ∈ wsL_law_r5, w ∈ lw_tbl := mem_pos [216, 218, 234, 235, 236, 237, 238, 254, 255, 256, 710, 711, 712, 713, 716, 717, 718, 719, 723, 724, 725, 438, 729, 730] (by decide +kernel)
set_option maxRecDepth 20000 in
theorem in_wsL_law_r6 : ∀ w ∈ wsL_law_r6, w ∈ lw_tbl := mem_pos [732, 738, 739, 740, 741, 742, 743, 301, 302, 303, 304, 77, 305, 306, 307, 308, 76, 310, 311, 808, 809, 810, 811, 728] (by decide +kernel)
set_option maxRecDepth 20000 in
theorem in_wsL_law_r7 : ∀ w ∈ wsL_law_r7, w ∈ lw_tbl := mem_pos [812, 813, 814, 312, 313, 314, 315, 815, 816, 817, 818, 316, 317, 318, 319, 320, 321, 322, 323, 324, 326, 0, 327, 328] (by decide +kernel)
set_option maxRecDepth 20000 in
theorem in_wsL_law_r8 : ∀ w ∈ wsL_law_r8, w ∈ lw_tbl := mem_pos [329, 330, 331, 334, 335, 336, 337, 338, 53, 339, 340, 341, 342, 343, 1040, 344, 345, 346, 347, 348, 1039, 350, 351, 352] (by decide +kernel)
set_option maxRecDepth 20000 in
theorem in_wsL_law_r9 : ∀ w ∈ wsL_law_r9, w ∈ lw_tbl := mem_pos [353, 354, 355, 356, 357, 358, 359, 54, 360, 364, 365, 55, 366, 367, 368, 369, 361, 362, 363, 370, 371, 372, 373, 374] (by decide +kernel)
set_option maxRecDepth 20000 in
theorem in_wsL_law_r10 : ∀ w ∈ wsL_law_r10, w ∈ lw_tbl := mem_pos [56, 375, 376, 377, 378, 379, 380, 381, 382, 383, 384, 385, 386, 387, 388, 389, 390, 391, 393, 394, 57, 395, 396, 397] (by decide +kernel)
set_option maxRecDepth 20000 in
theorem in_wsL_law_r11 : ∀ w ∈ wsL_law_r11, w ∈ lw_tbl := mem_pos [398, 399, 400, 401, 402, 404, 406, 408, 409, 410, 411, 412, 58, 413, 414, 415, 416, 417, 418, 419, 420, 421, 422, 423] (by decide +kernel)
set_option maxRecDepth 20000 in
theorem in_wsL_law_r12 : ∀ w ∈ wsL_law_r12, w ∈ lw_tbl := mem_pos [424, 425, 426, 428, 1, 429, 430, 432, 2, 433, 434, 435, 436, 437, 819, 820, 821, 822, 823, 825, 9, 826, 827, 829] (by decide +kernel)
set_option maxRecDepth 20000 in
theorem in_wsL_law_r13 : ∀ w ∈ wsL_law_r13, w ∈ lw_tbl := mem_pos [10, 830, 831, 832, 833, 834, 836, 11, 837, 439, 440, 441, 442, 276, 198, 443, 444, 445, 446, 447, 448, 449, 450, 451] (by decide +kernel)
set_option maxRecDepth 20000 in
theorem in_wsL_law_r14 : ∀ w ∈ wsL_law_r14, w ∈ lw_tbl := mem_pos [458, 196, 97, 100, 452, 453, 454, 455, 113, 115, 118, 120, 457, 459, 460, 838, 839, 840, 841, 715, 714, 720, 721, 722] (by decide +kernel)
set_option maxRecDepth 20000 in
theorem in_wsL_law_r15 : ∀ w ∈ wsL_law_r15, w ∈ lw_tbl := mem_pos [462, 463, 464, 465, 466, 467, 468, 469, 470, 472, 3, 473, 191, 98, 101, 114, 104, 474, 475, 476, 477, 151, 478, 479] (by decide +kernel)
set_option maxRecDepth 20000 in
theorem in_wsL_law_r16 : ∀ w ∈ wsL_law_r16, w ∈ lw_tbl := mem_pos [480, 481, 482, 483, 484, 485, 486, 487, 488, 489, 490, 491, 492, 493, 495, 496, 497, 498, 500, 501, 502, 503, 103, 504] (by decide +kernel)
set_option maxRecDepth 20000 in
theorem in_wsL_law_r17 : ∀ w ∈ wsL_law_r17, w ∈ lw_tbl := mem_pos [507, 505, 508, 509, 510, 520, 511, 512, 513, 504, 505, 506, 514, 515, 516, 517, 518, 519, 521, 522, 523, 524, 525, 526] (by decide +kernel)
set_option maxRecDepth 20000 in
theorem in_wsL_law_r18 : ∀ w ∈ wsL_law_r18, w ∈ lw_tbl := mem_pos [527, 528, 529, 842, 843, 844, 845, 846, 848, 12, 849, 850, 852, 13, 853, 854, 856, 14, 857, 858, 860, 15, 861, 862] (by decide +kernel)
set_option maxRecDepth 20000 in
theorem in_wsL_law_r19 : ∀ w ∈ wsL_law_r19, w ∈ lw_tbl := mem_pos [864, 16, 865, 866, 868, 17, 869, 870, 872, 18, 873, 874, 875, 876, 877, 879, 19, 880, 881, 883, 20, 884, 530, 531] (by decide +kernel)
set_option maxRecDepth 20000 in
theorem in_wsL_law_r20 : ∀ w ∈ wsL_law_r20, w ∈ lw_tbl := mem_pos [532, 533, 534, 535, 536, 537, 538, 539, 540, 541, 885, 886, 887, 888, 542, 543, 544, 545, 119, 546, 547, 548, 889, 890] (by decide +kernel)
set_option maxRecDepth 20000 in
theorem in_wsL_law_r21 : ∀ w ∈ wsL_law_r21, w ∈ lw_tbl := mem_pos [891, 892, 549, 550, 551, 552, 121, 553, 893, 894, 895, 896, 554, 555, 556, 557, 558, 559, 560, 561, 897, 898, 899, 900] (by decide +kernel)
set_option maxRecDepth 20000 in
theorem in_wsL_law_r22 : ∀ w ∈ wsL_law_r22, w ∈ lw_tbl := mem_pos [901, 902, 903, 563, 564, 565, 566, 567, 568, 569, 570, 571, 572, 573, 574, 904, 905, 906, 907, 908, 910, 21, 911, 575] (by decide +kernel)
set_option maxRecDepth 20000 in
theorem in_wsL_law_r23 : ∀ w ∈ wsL_law_r23, w ∈ lw_tbl := mem_pos [576, 577, 578, 278, 221, 579, 580, 581, 582, 194, 189, 112, 220, 583, 584, 585, 586, 587, 59, 588, 589, 590, 591, 592] (by decide +kernel)
set_option maxRecDepth 20000 in
theorem in_wsL_law_r24 : ∀ w ∈ wsL_law_r24, w ∈ lw_tbl := mem_pos [593, 912, 913, 914, 915, 726, 916, 918, 22, 919, 920, 921, 923, 23, 924, 925, 927, 24, 928, 929, 931, 25, 932, 594] (by decide +kernel)
set_option maxRecDepth 20000 in
theorem in_wsL_law_r25 : ∀ w ∈ wsL_law_r25, w ∈ lw_tbl := mem_pos [595, 596, 597, 279, 219, 598, 599, 600, 601, 602, 217, 603, 605, 4, 606, 608, 610, 5, 611, 933, 934, 935, 936, 727] (by decide +kernel)
set_option maxRecDepth 20000 in
theorem in_wsL_law_r26 : ∀ w ∈ wsL_law_r26, w ∈ lw_tbl := mem_pos [937, 939, 26, 940, 941, 943, 27, 944, 945, 947, 28, 948, 613, 614, 615, 616, 117, 617, 618, 619, 620, 949, 950, 951] (by decide +kernel)
set_option maxRecDepth 20000 in
theorem in_wsL_law_r27 : ∀ w ∈ wsL_law_r27, w ∈ lw_tbl := mem_pos [952, 621, 622, 623, 624, 953, 954, 955, 956, 625, 626, 627, 628, 241, 629, 630, 631, 632, 239, 240, 195, 633, 635, 6] (by decide +kernel)
set_option maxRecDepth 20000 in
theorem in_wsL_law_r28 : ∀ w ∈ wsL_law_r28, w ∈ lw_tbl := mem_pos [636, 190, 116, 106, 108, 110, 638, 640, 641, 642, 643, 957, 958, 959, 960, 961, 963, 29, 964, 965, 967, 30, 968, 644] (by decide +kernel)
set_option maxRecDepth 20000 in
theorem in_wsL_law_r29 : ∀ w ∈ wsL_law_r29, w ∈ lw_tbl := mem_pos [645, 646, 647, 648, 649, 650, 651, 652, 653, 655, 7, 656, 657, 969, 970, 971, 972, 973, 975, 31, 976, 977, 979, 32] (by decide +kernel)
set_option maxRecDepth 20000 in
theorem in_wsL_law_r30 : ∀ w ∈ wsL_law_r30, w ∈ lw_tbl := mem_pos [980, 658, 659, 660, 661, 260, 262, 258, 662, 663, 664, 665, 257, 259, 188, 111, 197, 261, 666, 668, 8, 669, 670, 671] (by decide +kernel)
set_option maxRecDepth 20000 in
theorem in_wsL_law_r31 : ∀ w ∈ wsL_law_r31, w ∈ lw_tbl := mem_pos [672, 674, 675, 676, 677, 678, 981, 982, 983, 984, 985, 987, 33, 988, 731, 989, 991, 34, 992, 993, 994, 995, 996, 997] (by decide +kernel)
set_option maxRecDepth 20000 in
theorem in_wsL_law_r32 : ∀ w ∈ wsL_law_r32, w ∈ lw_tbl := mem_pos [999, 35, 1000, 679, 680, 681, 682, 277, 683, 684, 685, 686, 1001, 1002, 1003, 1004, 733, 734, 735, 736, 737, 687, 688, 689] (by decide +kernel)
set_option maxRecDepth 20000 in
theorem in_wsL_law_r33 : ∀ w ∈ wsL_law_r33, w ∈ lw_tbl := mem_pos [690, 1005, 1006, 1007, 1008, 691, 692, 693, 694, 695, 696, 697, 698, 699, 700, 1009, 1010, 1011, 1012, 1013, 1015, 36, 1016, 1017] (by decide +kernel)
set_option maxRecDepth 20000 in
theorem in_wsL_law_r34 : ∀ w ∈ wsL_law_r34, w ∈ lw_tbl := mem_pos [1019, 37, 1020, 1021, 1022, 1023, 701, 702, 703, 704, 705, 706, 75, 707, 1024, 1025, 1026, 1027, 1028, 744, 1029, 1031, 38, 1032] (by decide +kernel)
set_option maxRecDepth 20000 in
theorem in_wsL_law_r35 : ∀ w ∈ wsL_law_r35, w ∈ lw_tbl := mem_pos [1033] (by decide +kernel)
set_option maxRecDepth 20000 in
theorem in_wsX110 : ∀ w ∈ wsX110, w ∈ lw_tbl := mem_pos [280, 282, 284, 286, 288, 290, 292, 294, 296, 298] (by decide +kernel)
set_option maxRecDepth 20000 in
theorem in_wsX120 : ∀ w ∈ wsX120, w ∈ lw_tbl := mem_pos [745, 747, 749, 751, 753, 755, 757, 759, 761, 763, 765, 767, 769, 771, 773, 775, 777, 779, 781, 783, 785, 787, 789, 791, 793, 795, 797, 799, 801, 803, 805] (by decide +kernel)
set_option maxRecDepth 20000 in
theorem in_wsX50 : ∀ w ∈ wsX50, w ∈ lw_tbl := mem_pos [78, 80] (by decide +kernel)
set_option maxRecDepth 20000 in
theorem in_wsX90 : ∀ w ∈ wsX90, w ∈ lw_tbl := mem_pos [199, 201, 203, 205] (by decide +kernel)
set_option maxRecDepth 20000 in
theorem in_wsX30 : ∀ w ∈ wsX30, w ∈ lw_tbl := mem_pos [122, 124, 126, 128, 130, 132, 134, 136, 138, 140] (by decide +kernel)
set_option maxRecDepth 20000 in
theorem in_wsX70 : ∀ w ∈ wsX70, w ∈ lw_tbl := mem_pos [222, 224, 226, 228] (by decide +kernel)
set_option maxRecDepth 20000 in
theorem in_wsX10 : ∀ w ∈ wsX10, w ∈ lw_tbl := mem_pos [242, 244, 246, 248] (by decide +kernel)
set_option maxRecDepth 20000 in
theorem in_wsX40 : ∀ w ∈ wsX40, w ∈ lw_tbl := mem_pos [263, 265, 267] (by decide +kernel)
set_option maxRecDepth 20000 in
theorem in_wsX60 : ∀ w ∈ wsX60, w ∈ lw_tbl := mem_pos [152] (by decide +kernel)
set_option maxRecDepth 20000 in
theorem in_wsX20 : ∀ w ∈ wsX20, w ∈ lw_tbl := mem_pos [161] (by decide +kernel)
set_option maxRecDepth 20000 in
theorem in_wsX00 : ∀ w ∈ wsX00, w ∈ lw_tbl := mem_pos [169] (by decide +kernel)
set_option maxRecDepth 20000 in
theorem in_wsX80 : ∀ w ∈ wsX80, w ∈ lw_tbl := mem_pos [177] (by decide +kernel)
set_option maxRecDepth 20000 in
theorem in_wsX100 : ∀ w ∈ wsX100, w ∈ lw_tbl := mem_pos [185] (by decide +kernel)
theorem wsL_law_in : ∀ w ∈ wsL_law, w ∈ lw_tbl := mem_app2 (mem_app2 (mem_app2 (mem_app2 (mem_app2 (mem_app2 (mem_app2 (mem_app2 (mem_app2 (mem_app2 (mem_app2 (mem_app2 (mem_app2 (mem_app2 (mem_app2 in_wsL_law_r1 (mem_app2 in_wsL_law_r2 (mem_app2 in_wsL_law_r3 (mem_app2 in_wsL_law_r4 (mem_app2 in_wsL_law_r5 (mem_app2 in_wsL_law_r6 (mem_app2 in_wsL_law_r7 (mem_app2 in_wsL_law_r8 (mem_app2 in_wsL_law_r9 (mem_app2 in_wsL_law_r10 (mem_app2 in_wsL_law_r11 (mem_app2 in_wsL_law_r12 (mem_app2 in_wsL_law_r13 (mem_app2 in_wsL_law_r14 (mem_app2 in_wsL_law_r15 (mem_app2 in_wsL_law_r16 (mem_app2 in_wsL_law_r17 (mem_app2 in_wsL_law_r18 (mem_app2 in_wsL_law_r19 (mem_app2 in_wsL_law_r20 (mem_app2 in_wsL_law_r21 (mem_app2 in_wsL_law_r22 (mem_app2 in_wsL_law_r23 (mem_app2 in_wsL_law_r24 (mem_app2 in_wsL_law_r25 (mem_app2 in_wsL_law_r26 (mem_app2 in_wsL_law_r27 (mem_app2 in_wsL_law_r28 (mem_app2 in_wsL_law_r29 (mem_app2 in_wsL_law_r30 (mem_app2 in_wsL_law_r31 (mem_app2 in_wsL_law_r32 (mem_app2 in_wsL_law_r33 (mem_app2 in_wsL_law_r34 in_wsL_law_r35)))))))))))))))))))))))))))))))))) in_wsX110) in_wsX120) in_wsX50) in_wsX90) in_wsX30) in_wsX70) in_wsX10) in_wsX40) in_wsX60) in_wsX20) in_wsX00) in_wsX80) in_wsX100) (fun _ h => absurd h List.not_mem_nil)
theorem inX0 : ∀ w ∈ wsX00, w ∈ lw_tbl := in_wsX00
theorem inX1 : ∀ w ∈ wsX10, w ∈ lw_tbl := in_wsX10
theorem inX2 : ∀ w ∈ wsX20, w ∈ lw_tbl := in_wsX20
theorem inX3 : ∀ w ∈ wsX30, w ∈ lw_tbl := in_wsX30
theorem inX4 : ∀ w ∈ wsX40, w ∈ lw_tbl := in_wsX40
theorem inX5 : ∀ w ∈ wsX50, w ∈ lw_tbl := in_wsX50
theorem inX6 : ∀ w ∈ wsX60, w ∈ lw_tbl := in_wsX60
theorem inX7 : ∀ w ∈ wsX70, w ∈ lw_tbl := in_wsX70
theorem inX8 : ∀ w ∈ wsX80, w ∈ lw_tbl := in_wsX80
theorem inX9 : ∀ w ∈ wsX90, w ∈ lw_tbl := in_wsX90
theorem inX10 : ∀ w ∈ wsX100, w ∈ lw_tbl := in_wsX100
theorem inX11 : ∀ w ∈ wsX110, w ∈ lw_tbl := in_wsX110
theorem inX12 : ∀ w ∈ wsX120, w ∈ lw_tbl := in_wsX120
theorem kNW_in : ∀ w ∈ kNW, w ∈ lw_tbl := mem_pos [86, 209, 212, 233, 253, 70, 639, 637, 456, 562, 673, 309, 333, 607, 612, 92, 461, 494, 499, 1036, 1035, 1037, 1038, 1034] (by decide +kernel)
