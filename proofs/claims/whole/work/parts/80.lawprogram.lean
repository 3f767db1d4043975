def zp_L_law (kc ks : Nat) : List (Bool × Nat × zOp) := [
  (true, 0, o_new kc ks 5 zfs_X5),
  (true, 3, o_dup),
  (true, 4, o_ci kc ks zi_X5_init 0),
  (true, 7, o_as 1),
  (true, 8, o_new kc ks 6 zfs_X6),
  (true, 11, o_dup),
  (true, 12, o_ci kc ks zi_X6_init 0),
  (true, 15, o_as 2),
  (true, 16, o_ic 0),
  (true, 17, o_is 3),
  (false, 18, o_mark 18 []),
  (true, 18, o_il 3),
  (true, 19, o_al 0),
  (true, 20, o_len),
  (true, 21, o_ic 6),
  (true, 23, o_ii (fun x y => x - y)),
  (true, 24, o_cmp (fun x y => y < x) 1275),
  (true, 27, o_al 0),
  (true, 28, o_il 3),
  (true, 29, o_ia),
  (true, 30, o_ic 63),
  (true, 32, o_ii (fun x y => x &&& y)),
  (true, 33, o_sw 0 [196, 229, 252, 275, 298, 331, 354, 387, 430, 463, 486, 509, 542, 585, 618, 631, 644, 657, 680, 713, 726, 749, 792, 805, 818, 841, 864, 887, 931, 974, 1017, 1040, 1093, 1136, 1199, 1232, 1255] 1269),
  (true, 196, o_al 1),
  (true, 197, o_al 0),
  (true, 198, o_il 3),
  (true, 199, o_ic 1),
  (true, 200, o_ii (fun x y => x + y)),
  (true, 201, o_ia),
  (true, 202, o_al 0),
  (true, 203, o_il 3),
  (true, 204, o_ic 2),
  (true, 205, o_ii (fun x y => x + y)),
  (true, 206, o_ia),
  (true, 207, o_cv zi_X5_type 2 5),
  (true, 210, o_al 2),
  (true, 211, o_al 0),
  (true, 212, o_il 3),
  (true, 213, o_ic 1),
  (true, 214, o_ii (fun x y => x + y)),
  (true, 215, o_ia),
  (true, 216, o_al 0),
  (true, 217, o_il 3),
  (true, 218, o_ic 2),
  (true, 219, o_ii (fun x y => x + y)),
  (true, 220, o_ia),
  (true, 221, o_cv zi_X6_type 2 6),
  (true, 224, o_cmp (fun x y => x = y) 1269),
  (true, 227, o_ic 0),
  (true, 228, o_zr),
  (true, 229, o_al 1),
  (true, 230, o_al 0),
  (true, 231, o_il 3),
  (true, 232, o_ic 1),
  (true, 233, o_ii (fun x y => x + y)),
  (true, 234, o_ia),
  (true, 235, o_cv zi_X5_wipe 1 5),
  (true, 238, o_al 2),
  (true, 239, o_al 0),
  (true, 240, o_il 3),
  (true, 241, o_ic 1),
  (true, 242, o_ii (fun x y => x + y)),
  (true, 243, o_ia),
  (true, 244, o_cv zi_X6_wipe 1 6),
  (true, 247, o_cmp (fun x y => x = y) 1269),
  (true, 250, o_ic 0),
  (true, 251, o_zr),
  (true, 252, o_al 1),
  (true, 253, o_al 0),
  (true, 254, o_il 3),
  (true, 255, o_ic 1),
  (true, 256, o_ii (fun x y => x + y)),
  (true, 257, o_ia),
  (true, 258, o_cv zi_X5_undo 1 5),
  (true, 261, o_al 2),
  (true, 262, o_al 0),
  (true, 263, o_il 3),
  (true, 264, o_ic 1),
  (true, 265, o_ii (fun x y => x + y)),
  (true, 266, o_ia),
  (true, 267, o_cv zi_X6_undo 1 6),
  (true, 270, o_cmp (fun x y => x = y) 1269),
  (true, 273, o_ic 0),
  (true, 274, o_zr),
  (true, 275, o_al 1),
  (true, 276, o_al 0),
  (true, 277, o_il 3),
  (true, 278, o_ic 1),
  (true, 279, o_ii (fun x y => x + y)),
  (true, 280, o_ia),
  (true, 281, o_cv zi_X5_fault 1 5),
  (true, 284, o_al 2),
  (true, 285, o_al 0),
  (true, 286, o_il 3),
  (true, 287, o_ic 1),
  (true, 288, o_ii (fun x y => x + y)),
  (true, 289, o_ia),
  (true, 290, o_cv zi_X6_fault 1 6),
  (true, 293, o_cmp (fun x y => x = y) 1269),
  (true, 296, o_ic 0),
  (true, 297, o_zr),
  (true, 298, o_al 1),
  (true, 299, o_al 0),
  (true, 300, o_il 3),
  (true, 301, o_ic 1),
  (true, 302, o_ii (fun x y => x + y)),
  (true, 303, o_ia),
  (true, 304, o_al 0),
  (true, 305, o_il 3),
  (true, 306, o_ic 2),
  (true, 307, o_ii (fun x y => x + y)),
  (true, 308, o_ia),
  (true, 309, o_cv zi_X5_house 2 5),
  (true, 312, o_al 2),
  (true, 313, o_al 0),
  (true, 314, o_il 3),
  (true, 315, o_ic 1),
  (true, 316, o_ii (fun x y => x + y)),
  (true, 317, o_ia),
  (true, 318, o_al 0),
  (true, 319, o_il 3),
  (true, 320, o_ic 2),
  (true, 321, o_ii (fun x y => x + y)),
  (true, 322, o_ia),
  (true, 323, o_cv zi_X6_house 2 6),
  (true, 326, o_cmp (fun x y => x = y) 1269),
  (true, 329, o_ic 0),
  (true, 330, o_zr),
  (true, 331, o_al 1),
  (true, 332, o_al 0),
  (true, 333, o_il 3),
  (true, 334, o_ic 1),
  (true, 335, o_ii (fun x y => x + y)),
  (true, 336, o_ia),
  (true, 337, o_cv zi_X5_elbows 1 5),
  (true, 340, o_al 2),
  (true, 341, o_al 0),
  (true, 342, o_il 3),
  (true, 343, o_ic 1),
  (true, 344, o_ii (fun x y => x + y)),
  (true, 345, o_ia),
  (true, 346, o_cv zi_X6_elbows 1 6),
  (true, 349, o_cmp (fun x y => x = y) 1269),
  (true, 352, o_ic 0),
  (true, 353, o_zr),
  (true, 354, o_al 1),
  (true, 355, o_al 0),
  (true, 356, o_il 3),
  (true, 357, o_ic 1),
  (true, 358, o_ii (fun x y => x + y)),
  (true, 359, o_ia),
  (true, 360, o_al 0),
  (true, 361, o_il 3),
  (true, 362, o_ic 2),
  (true, 363, o_ii (fun x y => x + y)),
  (true, 364, o_ia),
  (true, 365, o_cv zi_X5_set 2 5),
  (true, 368, o_al 2),
  (true, 369, o_al 0),
  (true, 370, o_il 3),
  (true, 371, o_ic 1),
  (true, 372, o_ii (fun x y => x + y)),
  (true, 373, o_ia),
  (true, 374, o_al 0),
  (true, 375, o_il 3),
  (true, 376, o_ic 2),
  (true, 377, o_ii (fun x y => x + y)),
  (true, 378, o_ia),
  (true, 379, o_cv zi_X6_set 2 6),
  (true, 382, o_cmp (fun x y => x = y) 1269),
  (true, 385, o_ic 0),
  (true, 386, o_zr),
  (true, 387, o_al 1),
  (true, 388, o_al 0),
  (true, 389, o_il 3),
  (true, 390, o_ic 1),
  (true, 391, o_ii (fun x y => x + y)),
  (true, 392, o_ia),
  (true, 393, o_al 0),
  (true, 394, o_il 3),
  (true, 395, o_ic 2),
  (true, 396, o_ii (fun x y => x + y)),
  (true, 397, o_ia),
  (true, 398, o_al 0),
  (true, 399, o_il 3),
  (true, 400, o_ic 3),
  (true, 401, o_ii (fun x y => x + y)),
  (true, 402, o_ia),
  (true, 403, o_cv zi_X5_leak 3 5),
  (true, 406, o_al 2),
  (true, 407, o_al 0),
  (true, 408, o_il 3),
  (true, 409, o_ic 1),
  (true, 410, o_ii (fun x y => x + y)),
  (true, 411, o_ia),
  (true, 412, o_al 0),
  (true, 413, o_il 3),
  (true, 414, o_ic 2),
  (true, 415, o_ii (fun x y => x + y)),
  (true, 416, o_ia),
  (true, 417, o_al 0),
  (true, 418, o_il 3),
  (true, 419, o_ic 3),
  (true, 420, o_ii (fun x y => x + y)),
  (true, 421, o_ia),
  (true, 422, o_cv zi_X6_leak 3 6),
  (true, 425, o_cmp (fun x y => x = y) 1269),
  (true, 428, o_ic 0),
  (true, 429, o_zr),
  (true, 430, o_al 1),
  (true, 431, o_al 0),
  (true, 432, o_il 3),
  (true, 433, o_ic 1),
  (true, 434, o_ii (fun x y => x + y)),
  (true, 435, o_ia),
  (true, 436, o_al 0),
  (true, 437, o_il 3),
  (true, 438, o_ic 2),
  (true, 439, o_ii (fun x y => x + y)),
  (true, 440, o_ia),
  (true, 441, o_cv zi_X5_pinch 2 5),
  (true, 444, o_al 2),
  (true, 445, o_al 0),
  (true, 446, o_il 3),
  (true, 447, o_ic 1),
  (true, 448, o_ii (fun x y => x + y)),
  (true, 449, o_ia),
  (true, 450, o_al 0),
  (true, 451, o_il 3),
  (true, 452, o_ic 2),
  (true, 453, o_ii (fun x y => x + y)),
  (true, 454, o_ia),
  (true, 455, o_cv zi_X6_pinch 2 6),
  (true, 458, o_cmp (fun x y => x = y) 1269),
  (true, 461, o_ic 0),
  (true, 462, o_zr),
  (true, 463, o_al 1),
  (true, 464, o_al 0),
  (true, 465, o_il 3),
  (true, 466, o_ic 1),
  (true, 467, o_ii (fun x y => x + y)),
  (true, 468, o_ia),
  (true, 469, o_cv zi_X5_back 1 5),
  (true, 472, o_al 2),
  (true, 473, o_al 0),
  (true, 474, o_il 3),
  (true, 475, o_ic 1),
  (true, 476, o_ii (fun x y => x + y)),
  (true, 477, o_ia),
  (true, 478, o_cv zi_X6_back 1 6),
  (true, 481, o_cmp (fun x y => x = y) 1269),
  (true, 484, o_ic 0),
  (true, 485, o_zr),
  (true, 486, o_al 1),
  (true, 487, o_al 0),
  (true, 488, o_il 3),
  (true, 489, o_ic 1),
  (true, 490, o_ii (fun x y => x + y)),
  (true, 491, o_ia),
  (true, 492, o_cv zi_X5_read 1 5),
  (true, 495, o_al 2),
  (true, 496, o_al 0),
  (true, 497, o_il 3),
  (true, 498, o_ic 1),
  (true, 499, o_ii (fun x y => x + y)),
  (true, 500, o_ia),
  (true, 501, o_cv zi_X6_read 1 6),
  (true, 504, o_cmp (fun x y => x = y) 1269),
  (true, 507, o_ic 0),
  (true, 508, o_zr),
  (true, 509, o_al 1),
  (true, 510, o_al 0),
  (true, 511, o_il 3),
  (true, 512, o_ic 1),
  (true, 513, o_ii (fun x y => x + y)),
  (true, 514, o_ia),
  (true, 515, o_al 0),
  (true, 516, o_il 3),
  (true, 517, o_ic 2),
  (true, 518, o_ii (fun x y => x + y)),
  (true, 519, o_ia),
  (true, 520, o_cv zi_X5_bag 2 5),
  (true, 523, o_al 2),
  (true, 524, o_al 0),
  (true, 525, o_il 3),
  (true, 526, o_ic 1),
  (true, 527, o_ii (fun x y => x + y)),
  (true, 528, o_ia),
  (true, 529, o_al 0),
  (true, 530, o_il 3),
  (true, 531, o_ic 2),
  (true, 532, o_ii (fun x y => x + y)),
  (true, 533, o_ia),
  (true, 534, o_cv zi_X6_bag 2 6),
  (true, 537, o_cmp (fun x y => x = y) 1269),
  (true, 540, o_ic 0),
  (true, 541, o_zr),
  (true, 542, o_al 1),
  (true, 543, o_al 0),
  (true, 544, o_il 3),
  (true, 545, o_ic 1),
  (true, 546, o_ii (fun x y => x + y)),
  (true, 547, o_ia),
  (true, 548, o_al 0),
  (true, 549, o_il 3),
  (true, 550, o_ic 2),
  (true, 551, o_ii (fun x y => x + y)),
  (true, 552, o_ia),
  (true, 553, o_al 0),
  (true, 554, o_il 3),
  (true, 555, o_ic 3),
  (true, 556, o_ii (fun x y => x + y)),
  (true, 557, o_ia),
  (true, 558, o_cv zi_X5_got 3 5),
  (true, 561, o_al 2),
  (true, 562, o_al 0),
  (true, 563, o_il 3),
  (true, 564, o_ic 1),
  (true, 565, o_ii (fun x y => x + y)),
  (true, 566, o_ia),
  (true, 567, o_al 0),
  (true, 568, o_il 3),
  (true, 569, o_ic 2),
  (true, 570, o_ii (fun x y => x + y)),
  (true, 571, o_ia),
  (true, 572, o_al 0),
  (true, 573, o_il 3),
  (true, 574, o_ic 3),
  (true, 575, o_ii (fun x y => x + y)),
  (true, 576, o_ia),
  (true, 577, o_cv zi_X6_got 3 6),
  (true, 580, o_cmp (fun x y => x = y) 1269),
  (true, 583, o_ic 0),
  (true, 584, o_zr),
  (true, 585, o_al 1),
  (true, 586, o_al 0),
  (true, 587, o_il 3),
  (true, 588, o_ic 1),
  (true, 589, o_ii (fun x y => x + y)),
  (true, 590, o_ia),
  (true, 591, o_al 0),
  (true, 592, o_il 3),
  (true, 593, o_ic 2),
  (true, 594, o_ii (fun x y => x + y)),
  (true, 595, o_ia),
  (true, 596, o_cv zi_X5_held 2 5),
  (true, 599, o_al 2),
  (true, 600, o_al 0),
  (true, 601, o_il 3),
  (true, 602, o_ic 1),
  (true, 603, o_ii (fun x y => x + y)),
  (true, 604, o_ia),
  (true, 605, o_al 0),
  (true, 606, o_il 3),
  (true, 607, o_ic 2),
  (true, 608, o_ii (fun x y => x + y)),
  (true, 609, o_ia),
  (true, 610, o_cv zi_X6_held 2 6),
  (true, 613, o_cmp (fun x y => x = y) 1269),
  (true, 616, o_ic 0),
  (true, 617, o_zr),
  (true, 618, o_al 1),
  (true, 619, o_cv zi_X5_first 0 5),
  (true, 622, o_al 2),
  (true, 623, o_cv zi_X6_first 0 6),
  (true, 626, o_cmp (fun x y => x = y) 1269),
  (true, 629, o_ic 0),
  (true, 630, o_zr),
  (true, 631, o_al 1),
  (true, 632, o_cv zi_X5_quiet 0 5),
  (true, 635, o_al 2),
  (true, 636, o_cv zi_X6_quiet 0 6),
  (true, 639, o_cmp (fun x y => x = y) 1269),
  (true, 642, o_ic 0),
  (true, 643, o_zr),
  (true, 644, o_al 1),
  (true, 645, o_cv zi_X5_well 0 5),
  (true, 648, o_al 2),
  (true, 649, o_cv zi_X6_well 0 6),
  (true, 652, o_cmp (fun x y => x = y) 1269),
  (true, 655, o_ic 0),
  (true, 656, o_zr),
  (true, 657, o_al 1),
  (true, 658, o_al 0),
  (true, 659, o_il 3),
  (true, 660, o_ic 1),
  (true, 661, o_ii (fun x y => x + y)),
  (true, 662, o_ia),
  (true, 663, o_cv zi_X5_elbow 1 5),
  (true, 666, o_al 2),
  (true, 667, o_al 0),
  (true, 668, o_il 3),
  (true, 669, o_ic 1),
  (true, 670, o_ii (fun x y => x + y)),
  (true, 671, o_ia),
  (true, 672, o_cv zi_X6_elbow 1 6),
  (true, 675, o_cmp (fun x y => x = y) 1269),
  (true, 678, o_ic 0),
  (true, 679, o_zr),
  (true, 680, o_al 1),
  (true, 681, o_al 0),
  (true, 682, o_il 3),
  (true, 683, o_ic 1),
  (true, 684, o_ii (fun x y => x + y)),
  (true, 685, o_ia),
  (true, 686, o_al 0),
  (true, 687, o_il 3),
  (true, 688, o_ic 2),
  (true, 689, o_ii (fun x y => x + y)),
  (true, 690, o_ia),
  (true, 691, o_cv zi_X5_shut 2 5),
  (true, 694, o_al 2),
  (true, 695, o_al 0),
  (true, 696, o_il 3),
  (true, 697, o_ic 1),
  (true, 698, o_ii (fun x y => x + y)),
  (true, 699, o_ia),
  (true, 700, o_al 0),
  (true, 701, o_il 3),
  (true, 702, o_ic 2),
  (true, 703, o_ii (fun x y => x + y)),
  (true, 704, o_ia),
  (true, 705, o_cv zi_X6_shut 2 6),
  (true, 708, o_cmp (fun x y => x = y) 1269),
  (true, 711, o_ic 0),
  (true, 712, o_zr),
  (true, 713, o_al 1),
  (true, 714, o_cv zi_X5_least 0 5),
  (true, 717, o_al 2),
  (true, 718, o_cv zi_X6_least 0 6),
  (true, 721, o_cmp (fun x y => x = y) 1269),
  (true, 724, o_ic 0),
  (true, 725, o_zr),
  (true, 726, o_al 1),
  (true, 727, o_al 0),
  (true, 728, o_il 3),
  (true, 729, o_ic 1),
  (true, 730, o_ii (fun x y => x + y)),
  (true, 731, o_ia),
  (true, 732, o_cv zi_X5_patch 1 5),
  (true, 735, o_al 2),
  (true, 736, o_al 0),
  (true, 737, o_il 3),
  (true, 738, o_ic 1),
  (true, 739, o_ii (fun x y => x + y)),
  (true, 740, o_ia),
  (true, 741, o_cv zi_X6_patch 1 6),
  (true, 744, o_cmp (fun x y => x = y) 1269),
  (true, 747, o_ic 0),
  (true, 748, o_zr),
  (true, 749, o_al 1),
  (true, 750, o_al 0),
  (true, 751, o_il 3),
  (true, 752, o_ic 1),
  (true, 753, o_ii (fun x y => x + y)),
  (true, 754, o_ia),
  (true, 755, o_al 0),
  (true, 756, o_il 3),
  (true, 757, o_ic 2),
  (true, 758, o_ii (fun x y => x + y)),
  (true, 759, o_ia),
  (true, 760, o_al 0),
  (true, 761, o_il 3),
  (true, 762, o_ic 3),
  (true, 763, o_ii (fun x y => x + y)),
  (true, 764, o_ia),
  (true, 765, o_cv zi_X5_seen 3 5),
  (true, 768, o_al 2),
  (true, 769, o_al 0),
  (true, 770, o_il 3),
  (true, 771, o_ic 1),
  (true, 772, o_ii (fun x y => x + y)),
  (true, 773, o_ia),
  (true, 774, o_al 0),
  (true, 775, o_il 3),
  (true, 776, o_ic 2),
  (true, 777, o_ii (fun x y => x + y)),
  (true, 778, o_ia),
  (true, 779, o_al 0),
  (true, 780, o_il 3),
  (true, 781, o_ic 3),
  (true, 782, o_ii (fun x y => x + y)),
  (true, 783, o_ia),
  (true, 784, o_cv zi_X6_seen 3 6),
  (true, 787, o_cmp (fun x y => x = y) 1269),
  (true, 790, o_ic 0),
  (true, 791, o_zr),
  (true, 792, o_al 1),
  (true, 793, o_cv zi_X5_forget 0 5),
  (true, 796, o_al 2),
  (true, 797, o_cv zi_X6_forget 0 6),
  (true, 800, o_cmp (fun x y => x = y) 1269),
  (true, 803, o_ic 0),
  (true, 804, o_zr),
  (true, 805, o_al 1),
  (true, 806, o_cv zi_X5_never 0 5),
  (true, 809, o_al 2),
  (true, 810, o_cv zi_X6_never 0 6),
  (true, 813, o_cmp (fun x y => x = y) 1269),
  (true, 816, o_ic 0),
  (true, 817, o_zr),
  (true, 818, o_al 1),
  (true, 819, o_al 0),
  (true, 820, o_il 3),
  (true, 821, o_ic 1),
  (true, 822, o_ii (fun x y => x + y)),
  (true, 823, o_ia),
  (true, 824, o_cv zi_X5_was 1 5),
  (true, 827, o_al 2),
  (true, 828, o_al 0),
  (true, 829, o_il 3),
  (true, 830, o_ic 1),
  (true, 831, o_ii (fun x y => x + y)),
  (true, 832, o_ia),
  (true, 833, o_cv zi_X6_was 1 6),
  (true, 836, o_cmp (fun x y => x = y) 1269),
  (true, 839, o_ic 0),
  (true, 840, o_zr),
  (true, 841, o_al 1),
  (true, 842, o_al 0),
  (true, 843, o_il 3),
  (true, 844, o_ic 1),
  (true, 845, o_ii (fun x y => x + y)),
  (true, 846, o_ia),
  (true, 847, o_cv zi_X5_starts 1 5),
  (true, 850, o_al 2),
  (true, 851, o_al 0),
  (true, 852, o_il 3),
  (true, 853, o_ic 1),
  (true, 854, o_ii (fun x y => x + y)),
  (true, 855, o_ia),
  (true, 856, o_cv zi_X6_starts 1 6),
  (true, 859, o_cmp (fun x y => x = y) 1269),
  (true, 862, o_ic 0),
  (true, 863, o_zr),
  (true, 864, o_al 1),
  (true, 865, o_al 0),
  (true, 866, o_il 3),
  (true, 867, o_ic 1),
  (true, 868, o_ii (fun x y => x + y)),
  (true, 869, o_ia),
  (true, 870, o_cv zi_X5_ask 1 5),
  (true, 873, o_al 2),
  (true, 874, o_al 0),
  (true, 875, o_il 3),
  (true, 876, o_ic 1),
  (true, 877, o_ii (fun x y => x + y)),
  (true, 878, o_ia),
  (true, 879, o_cv zi_X6_ask 1 6),
  (true, 882, o_cmp (fun x y => x = y) 1269),
  (true, 885, o_ic 0),
  (true, 886, o_zr),
  (true, 887, o_al 1),
  (true, 888, o_al 0),
  (true, 889, o_il 3),
  (true, 890, o_ic 1),
  (true, 891, o_ii (fun x y => x + y)),
  (true, 892, o_ia),
  (true, 893, o_al 0),
  (true, 894, o_il 3),
  (true, 895, o_ic 2),
  (true, 896, o_ii (fun x y => x + y)),
  (true, 897, o_ia),
  (true, 898, o_al 0),
  (true, 899, o_il 3),
  (true, 900, o_ic 3),
  (true, 901, o_ii (fun x y => x + y)),
  (true, 902, o_ia),
  (true, 903, o_cv zi_X5_moth 3 5),
  (true, 906, o_al 2),
  (true, 907, o_al 0),
  (true, 908, o_il 3),
  (true, 909, o_ic 1),
  (true, 910, o_ii (fun x y => x + y)),
  (true, 911, o_ia),
  (true, 912, o_al 0),
  (true, 913, o_il 3),
  (true, 914, o_ic 2),
  (true, 915, o_ii (fun x y => x + y)),
  (true, 916, o_ia),
  (true, 917, o_al 0),
  (true, 918, o_il 3),
  (true, 919, o_ic 3),
  (true, 920, o_ii (fun x y => x + y)),
  (true, 921, o_ia),
  (true, 922, o_cv zi_X6_moth 3 6),
  (true, 925, o_jc lg_cmp),
  (true, 926, o_if (fun x => x = 0) 1269),
  (true, 929, o_ic 0),
  (true, 930, o_zr),
  (true, 931, o_al 1),
  (true, 932, o_al 0),
  (true, 933, o_il 3),
  (true, 934, o_ic 1),
  (true, 935, o_ii (fun x y => x + y)),
  (true, 936, o_ia),
  (true, 937, o_al 0),
  (true, 938, o_il 3),
  (true, 939, o_ic 2),
  (true, 940, o_ii (fun x y => x + y)),
  (true, 941, o_ia),
  (true, 942, o_al 0),
  (true, 943, o_il 3),
  (true, 944, o_ic 3),
  (true, 945, o_ii (fun x y => x + y)),
  (true, 946, o_ia),
  (true, 947, o_cv zi_X5_year 3 5),
  (true, 950, o_al 2),
  (true, 951, o_al 0),
  (true, 952, o_il 3),
  (true, 953, o_ic 1),
  (true, 954, o_ii (fun x y => x + y)),
  (true, 955, o_ia),
  (true, 956, o_al 0),
  (true, 957, o_il 3),
  (true, 958, o_ic 2),
  (true, 959, o_ii (fun x y => x + y)),
  (true, 960, o_ia),
  (true, 961, o_al 0),
  (true, 962, o_il 3),
  (true, 963, o_ic 3),
  (true, 964, o_ii (fun x y => x + y)),
  (true, 965, o_ia),
  (true, 966, o_cv zi_X6_year 3 6),
  (true, 969, o_cmp (fun x y => x = y) 1269),
  (true, 972, o_ic 0),
  (true, 973, o_zr),
  (true, 974, o_al 1),
  (true, 975, o_al 0),
  (true, 976, o_il 3),
  (true, 977, o_ic 1),
  (true, 978, o_ii (fun x y => x + y)),
  (true, 979, o_ia),
  (true, 980, o_al 0),
  (true, 981, o_il 3),
  (true, 982, o_ic 2),
  (true, 983, o_ii (fun x y => x + y)),
  (true, 984, o_ia),
  (true, 985, o_al 0),
  (true, 986, o_il 3),
  (true, 987, o_ic 3),
  (true, 988, o_ii (fun x y => x + y)),
  (true, 989, o_ia),
  (true, 990, o_cv zi_X5_sheet 3 5),
  (true, 993, o_al 2),
  (true, 994, o_al 0),
  (true, 995, o_il 3),
  (true, 996, o_ic 1),
  (true, 997, o_ii (fun x y => x + y)),
  (true, 998, o_ia),
  (true, 999, o_al 0),
  (true, 1000, o_il 3),
  (true, 1001, o_ic 2),
  (true, 1002, o_ii (fun x y => x + y)),
  (true, 1003, o_ia),
  (true, 1004, o_al 0),
  (true, 1005, o_il 3),
  (true, 1006, o_ic 3),
  (true, 1007, o_ii (fun x y => x + y)),
  (true, 1008, o_ia),
  (true, 1009, o_cv zi_X6_sheet 3 6),
  (true, 1012, o_cmp (fun x y => x = y) 1269),
  (true, 1015, o_ic 0),
  (true, 1016, o_zr),
  (true, 1017, o_al 1),
  (true, 1018, o_al 0),
  (true, 1019, o_il 3),
  (true, 1020, o_ic 1),
  (true, 1021, o_ii (fun x y => x + y)),
  (true, 1022, o_ia),
  (true, 1023, o_cv zi_X5_lose 1 5),
  (true, 1026, o_al 2),
  (true, 1027, o_al 0),
  (true, 1028, o_il 3),
  (true, 1029, o_ic 1),
  (true, 1030, o_ii (fun x y => x + y)),
  (true, 1031, o_ia),
  (true, 1032, o_cv zi_X6_lose 1 6),
  (true, 1035, o_cmp (fun x y => x = y) 1269),
  (true, 1038, o_ic 0),
  (true, 1039, o_zr),
  (true, 1040, o_al 1),
  (true, 1041, o_al 0),
  (true, 1042, o_il 3),
  (true, 1043, o_ic 1),
  (true, 1044, o_ii (fun x y => x + y)),
  (true, 1045, o_ia),
  (true, 1046, o_al 0),
  (true, 1047, o_il 3),
  (true, 1048, o_ic 2),
  (true, 1049, o_ii (fun x y => x + y)),
  (true, 1050, o_ia),
  (true, 1051, o_al 0),
  (true, 1052, o_il 3),
  (true, 1053, o_ic 3),
  (true, 1054, o_ii (fun x y => x + y)),
  (true, 1055, o_ia),
  (true, 1056, o_al 0),
  (true, 1057, o_il 3),
  (true, 1058, o_ic 4),
  (true, 1059, o_ii (fun x y => x + y)),
  (true, 1060, o_ia),
  (true, 1061, o_cv zi_X5_put 4 5),
  (true, 1064, o_al 2),
  (true, 1065, o_al 0),
  (true, 1066, o_il 3),
  (true, 1067, o_ic 1),
  (true, 1068, o_ii (fun x y => x + y)),
  (true, 1069, o_ia),
  (true, 1070, o_al 0),
  (true, 1071, o_il 3),
  (true, 1072, o_ic 2),
  (true, 1073, o_ii (fun x y => x + y)),
  (true, 1074, o_ia),
  (true, 1075, o_al 0),
  (true, 1076, o_il 3),
  (true, 1077, o_ic 3),
  (true, 1078, o_ii (fun x y => x + y)),
  (true, 1079, o_ia),
  (true, 1080, o_al 0),
  (true, 1081, o_il 3),
  (true, 1082, o_ic 4),
  (true, 1083, o_ii (fun x y => x + y)),
  (true, 1084, o_ia),
  (true, 1085, o_cv zi_X6_put 4 6),
  (true, 1088, o_cmp (fun x y => x = y) 1269),
  (true, 1091, o_ic 0),
  (true, 1092, o_zr),
  (true, 1093, o_al 1),
  (true, 1094, o_al 0),
  (true, 1095, o_il 3),
  (true, 1096, o_ic 1),
  (true, 1097, o_ii (fun x y => x + y)),
  (true, 1098, o_ia),
  (true, 1099, o_al 0),
  (true, 1100, o_il 3),
  (true, 1101, o_ic 2),
  (true, 1102, o_ii (fun x y => x + y)),
  (true, 1103, o_ia),
  (true, 1104, o_al 0),
  (true, 1105, o_il 3),
  (true, 1106, o_ic 3),
  (true, 1107, o_ii (fun x y => x + y)),
  (true, 1108, o_ia),
  (true, 1109, o_cv zi_X5_get 3 5),
  (true, 1112, o_al 2),
  (true, 1113, o_al 0),
  (true, 1114, o_il 3),
  (true, 1115, o_ic 1),
  (true, 1116, o_ii (fun x y => x + y)),
  (true, 1117, o_ia),
  (true, 1118, o_al 0),
  (true, 1119, o_il 3),
  (true, 1120, o_ic 2),
  (true, 1121, o_ii (fun x y => x + y)),
  (true, 1122, o_ia),
  (true, 1123, o_al 0),
  (true, 1124, o_il 3),
  (true, 1125, o_ic 3),
  (true, 1126, o_ii (fun x y => x + y)),
  (true, 1127, o_ia),
  (true, 1128, o_cv zi_X6_get 3 6),
  (true, 1131, o_cmp (fun x y => x = y) 1269),
  (true, 1134, o_ic 0),
  (true, 1135, o_zr),
  (true, 1136, o_al 1),
  (true, 1137, o_al 0),
  (true, 1138, o_il 3),
  (true, 1139, o_ic 1),
  (true, 1140, o_ii (fun x y => x + y)),
  (true, 1141, o_ia),
  (true, 1142, o_al 0),
  (true, 1143, o_il 3),
  (true, 1144, o_ic 2),
  (true, 1145, o_ii (fun x y => x + y)),
  (true, 1146, o_ia),
  (true, 1147, o_al 0),
  (true, 1148, o_il 3),
  (true, 1149, o_ic 3),
  (true, 1150, o_ii (fun x y => x + y)),
  (true, 1151, o_ia),
  (true, 1152, o_al 0),
  (true, 1153, o_il 3),
  (true, 1154, o_ic 4),
  (true, 1155, o_ii (fun x y => x + y)),
  (true, 1156, o_ia),
  (true, 1157, o_al 0),
  (true, 1158, o_il 3),
  (true, 1159, o_ic 5),
  (true, 1160, o_ii (fun x y => x + y)),
  (true, 1161, o_ia),
  (true, 1162, o_cv zi_X5_copy 5 5),
  (true, 1165, o_al 2),
  (true, 1166, o_al 0),
  (true, 1167, o_il 3),
  (true, 1168, o_ic 1),
  (true, 1169, o_ii (fun x y => x + y)),
  (true, 1170, o_ia),
  (true, 1171, o_al 0),
  (true, 1172, o_il 3),
  (true, 1173, o_ic 2),
  (true, 1174, o_ii (fun x y => x + y)),
  (true, 1175, o_ia),
  (true, 1176, o_al 0),
  (true, 1177, o_il 3),
  (true, 1178, o_ic 3),
  (true, 1179, o_ii (fun x y => x + y)),
  (true, 1180, o_ia),
  (true, 1181, o_al 0),
  (true, 1182, o_il 3),
  (true, 1183, o_ic 4),
  (true, 1184, o_ii (fun x y => x + y)),
  (true, 1185, o_ia),
  (true, 1186, o_al 0),
  (true, 1187, o_il 3),
  (true, 1188, o_ic 5),
  (true, 1189, o_ii (fun x y => x + y)),
  (true, 1190, o_ia),
  (true, 1191, o_cv zi_X6_copy 5 6),
  (true, 1194, o_cmp (fun x y => x = y) 1269),
  (true, 1197, o_ic 0),
  (true, 1198, o_zr),
  (true, 1199, o_al 1),
  (true, 1200, o_al 0),
  (true, 1201, o_il 3),
  (true, 1202, o_ic 1),
  (true, 1203, o_ii (fun x y => x + y)),
  (true, 1204, o_ia),
  (true, 1205, o_al 0),
  (true, 1206, o_il 3),
  (true, 1207, o_ic 2),
  (true, 1208, o_ii (fun x y => x + y)),
  (true, 1209, o_ia),
  (true, 1210, o_cv zi_X5_write 2 5),
  (true, 1213, o_al 2),
  (true, 1214, o_al 0),
  (true, 1215, o_il 3),
  (true, 1216, o_ic 1),
  (true, 1217, o_ii (fun x y => x + y)),
  (true, 1218, o_ia),
  (true, 1219, o_al 0),
  (true, 1220, o_il 3),
  (true, 1221, o_ic 2),
  (true, 1222, o_ii (fun x y => x + y)),
  (true, 1223, o_ia),
  (true, 1224, o_cv zi_X6_write 2 6),
  (true, 1227, o_cmp (fun x y => x = y) 1269),
  (true, 1230, o_ic 0),
  (true, 1231, o_zr),
  (true, 1232, o_al 1),
  (true, 1233, o_al 0),
  (true, 1234, o_il 3),
  (true, 1235, o_ic 1),
  (true, 1236, o_ii (fun x y => x + y)),
  (true, 1237, o_ia),
  (true, 1238, o_cv zi_X5_count 1 5),
  (true, 1241, o_al 2),
  (true, 1242, o_al 0),
  (true, 1243, o_il 3),
  (true, 1244, o_ic 1),
  (true, 1245, o_ii (fun x y => x + y)),
  (true, 1246, o_ia),
  (true, 1247, o_cv zi_X6_count 1 6),
  (true, 1250, o_cmp (fun x y => x = y) 1269),
  (true, 1253, o_ic 0),
  (true, 1254, o_zr),
  (true, 1255, o_al 1),
  (true, 1256, o_cv zi_X5_digest 0 5),
  (true, 1259, o_al 2),
  (true, 1260, o_cv zi_X6_digest 0 6),
  (true, 1263, o_jc lg_cmp),
  (true, 1264, o_if (fun x => x = 0) 1269),
  (true, 1267, o_ic 0),
  (true, 1268, o_zr),
  (true, 1269, o_inc 3 6),
  (true, 1272, o_gb 18 []),
  (true, 1275, o_ic 1),
  (true, 1276, o_zr)]
set_option maxRecDepth 100000 in
set_option maxHeartbeats 4000000 in
theorem zk_L_law (kc ks : Nat) : z_OK (zS RL cL_law 4 "law" ret 14 554 kc ks) (zp_L_law kc ks) := by
  unfold zp_L_law
  refine And.intro (s_new (C := RX5) (T := TX5) (N := 16) rfl zin_X5 tyX5 tyX5_ok zl_105 zl_106 zl_94 (fv := zfv_X5) zfe_X5 (by decide +kernel) rfl dL_law_0) ?_
  refine And.intro (s_dup dL_law_3) ?_
  refine And.intro (s_callI zf_X5_init zl_108 rfl rfl zl_107 ⟨rfl, rfl⟩ dL_law_4) ?_
  refine And.intro (s_astore_n dL_law_7 rfl) ?_
  refine And.intro (s_new (C := RX6) (T := TX6) (N := 41) rfl zin_X6 tyX6 tyX6_ok zl_785 zl_786 zl_101 (fv := zfv_X6) zfe_X6 (by decide +kernel) rfl dL_law_8) ?_
  refine And.intro (s_dup dL_law_11) ?_
  refine And.intro (s_callI zf_X6_init zl_788 rfl rfl zl_787 ⟨rfl, rfl⟩ dL_law_12) ?_
  refine And.intro (s_astore_n dL_law_15 rfl) ?_
  refine And.intro (s_iconst dL_law_16 (by decide)) ?_
  refine And.intro (s_istore_n dL_law_17 rfl) ?_
  refine And.intro (s_mark) ?_
  refine And.intro (s_iload_n dL_law_18 rfl) ?_
  refine And.intro (s_aload_n dL_law_19 rfl) ?_
  refine And.intro (s_alen dL_law_20) ?_
  refine And.intro (s_bipush dL_law_21 (by decide)) ?_
  refine And.intro (s_isub dL_law_23) ?_
  refine And.intro (s_icmp_gt dL_law_24 (by decide)) ?_
  refine And.intro (s_aload_n dL_law_27 rfl) ?_
  refine And.intro (s_iload_n dL_law_28 rfl) ?_
  refine And.intro (s_iaload dL_law_29) ?_
  refine And.intro (s_bipush dL_law_30 (by decide)) ?_
  refine And.intro (s_iand dL_law_32) ?_
  refine And.intro (s_tsw dL_law_33 (by decide) (by decide) (by decide)) ?_
  refine And.intro (s_aload_n dL_law_196 rfl) ?_
  refine And.intro (s_aload_n dL_law_197 rfl) ?_
  refine And.intro (s_iload_n dL_law_198 rfl) ?_
  refine And.intro (s_iconst dL_law_199 (by decide)) ?_
  refine And.intro (s_iadd dL_law_200) ?_
  refine And.intro (s_iaload dL_law_201) ?_
  refine And.intro (s_aload_n dL_law_202 rfl) ?_
  refine And.intro (s_iload_n dL_law_203 rfl) ?_
  refine And.intro (s_iconst dL_law_204 (by decide)) ?_
  refine And.intro (s_iadd dL_law_205) ?_
  refine And.intro (s_iaload dL_law_206) ?_
  refine And.intro (s_callV (C := RX5) (T := TX5) (N := 16) rfl zf_X5_type zg_X5_type zl_348 ⟨rfl, rfl⟩ dL_law_207) ?_
  refine And.intro (s_aload_n dL_law_210 rfl) ?_
  refine And.intro (s_aload_n dL_law_211 rfl) ?_
  refine And.intro (s_iload_n dL_law_212 rfl) ?_
  refine And.intro (s_iconst dL_law_213 (by decide)) ?_
  refine And.intro (s_iadd dL_law_214) ?_
  refine And.intro (s_iaload dL_law_215) ?_
  refine And.intro (s_aload_n dL_law_216 rfl) ?_
  refine And.intro (s_iload_n dL_law_217 rfl) ?_
  refine And.intro (s_iconst dL_law_218 (by decide)) ?_
  refine And.intro (s_iadd dL_law_219) ?_
  refine And.intro (s_iaload dL_law_220) ?_
  refine And.intro (s_callV (C := RX6) (T := TX6) (N := 41) rfl zf_X6_type zg_X6_type zl_916 ⟨rfl, rfl⟩ dL_law_221) ?_
  refine And.intro (s_icmp_eq dL_law_224 (by decide)) ?_
  refine And.intro (s_iconst dL_law_227 (by decide)) ?_
  refine And.intro (s_zreturn rfl dL_law_228) ?_
  refine And.intro (s_aload_n dL_law_229 rfl) ?_
  refine And.intro (s_aload_n dL_law_230 rfl) ?_
  refine And.intro (s_iload_n dL_law_231 rfl) ?_
  refine And.intro (s_iconst dL_law_232 (by decide)) ?_
  refine And.intro (s_iadd dL_law_233) ?_
  refine And.intro (s_iaload dL_law_234) ?_
  refine And.intro (s_callV (C := RX5) (T := TX5) (N := 16) rfl zf_X5_wipe zg_X5_wipe zl_403 ⟨rfl, rfl⟩ dL_law_235) ?_
  refine And.intro (s_aload_n dL_law_238 rfl) ?_
  refine And.intro (s_aload_n dL_law_239 rfl) ?_
  refine And.intro (s_iload_n dL_law_240 rfl) ?_
  refine And.intro (s_iconst dL_law_241 (by decide)) ?_
  refine And.intro (s_iadd dL_law_242) ?_
  refine And.intro (s_iaload dL_law_243) ?_
  refine And.intro (s_callV (C := RX6) (T := TX6) (N := 41) rfl zf_X6_wipe zg_X6_wipe zl_926 ⟨rfl, rfl⟩ dL_law_244) ?_
  refine And.intro (s_icmp_eq dL_law_247 (by decide)) ?_
  refine And.intro (s_iconst dL_law_250 (by decide)) ?_
  refine And.intro (s_zreturn rfl dL_law_251) ?_
  refine And.intro (s_aload_n dL_law_252 rfl) ?_
  refine And.intro (s_aload_n dL_law_253 rfl) ?_
  refine And.intro (s_iload_n dL_law_254 rfl) ?_
  refine And.intro (s_iconst dL_law_255 (by decide)) ?_
  refine And.intro (s_iadd dL_law_256) ?_
  refine And.intro (s_iaload dL_law_257) ?_
  refine And.intro (s_callV (C := RX5) (T := TX5) (N := 16) rfl zf_X5_undo zg_X5_undo zl_407 ⟨rfl, rfl⟩ dL_law_258) ?_
  refine And.intro (s_aload_n dL_law_261 rfl) ?_
  refine And.intro (s_aload_n dL_law_262 rfl) ?_
  refine And.intro (s_iload_n dL_law_263 rfl) ?_
  refine And.intro (s_iconst dL_law_264 (by decide)) ?_
  refine And.intro (s_iadd dL_law_265) ?_
  refine And.intro (s_iaload dL_law_266) ?_
  refine And.intro (s_callV (C := RX6) (T := TX6) (N := 41) rfl zf_X6_undo zg_X6_undo zl_930 ⟨rfl, rfl⟩ dL_law_267) ?_
  refine And.intro (s_icmp_eq dL_law_270 (by decide)) ?_
  refine And.intro (s_iconst dL_law_273 (by decide)) ?_
  refine And.intro (s_zreturn rfl dL_law_274) ?_
  refine And.intro (s_aload_n dL_law_275 rfl) ?_
  refine And.intro (s_aload_n dL_law_276 rfl) ?_
  refine And.intro (s_iload_n dL_law_277 rfl) ?_
  refine And.intro (s_iconst dL_law_278 (by decide)) ?_
  refine And.intro (s_iadd dL_law_279) ?_
  refine And.intro (s_iaload dL_law_280) ?_
  refine And.intro (s_callV (C := RX5) (T := TX5) (N := 16) rfl zf_X5_fault zg_X5_fault zl_411 ⟨rfl, rfl⟩ dL_law_281) ?_
  refine And.intro (s_aload_n dL_law_284 rfl) ?_
  refine And.intro (s_aload_n dL_law_285 rfl) ?_
  refine And.intro (s_iload_n dL_law_286 rfl) ?_
  refine And.intro (s_iconst dL_law_287 (by decide)) ?_
  refine And.intro (s_iadd dL_law_288) ?_
  refine And.intro (s_iaload dL_law_289) ?_
  refine And.intro (s_callV (C := RX6) (T := TX6) (N := 41) rfl zf_X6_fault zg_X6_fault zl_934 ⟨rfl, rfl⟩ dL_law_290) ?_
  refine And.intro (s_icmp_eq dL_law_293 (by decide)) ?_
  refine And.intro (s_iconst dL_law_296 (by decide)) ?_
  refine And.intro (s_zreturn rfl dL_law_297) ?_
  refine And.intro (s_aload_n dL_law_298 rfl) ?_
  refine And.intro (s_aload_n dL_law_299 rfl) ?_
  refine And.intro (s_iload_n dL_law_300 rfl) ?_
  refine And.intro (s_iconst dL_law_301 (by decide)) ?_
  refine And.intro (s_iadd dL_law_302) ?_
  refine And.intro (s_iaload dL_law_303) ?_
  refine And.intro (s_aload_n dL_law_304 rfl) ?_
  refine And.intro (s_iload_n dL_law_305 rfl) ?_
  refine And.intro (s_iconst dL_law_306 (by decide)) ?_
  refine And.intro (s_iadd dL_law_307) ?_
  refine And.intro (s_iaload dL_law_308) ?_
  refine And.intro (s_callV (C := RX5) (T := TX5) (N := 16) rfl zf_X5_house zg_X5_house zl_415 ⟨rfl, rfl⟩ dL_law_309) ?_
  refine And.intro (s_aload_n dL_law_312 rfl) ?_
  refine And.intro (s_aload_n dL_law_313 rfl) ?_
  refine And.intro (s_iload_n dL_law_314 rfl) ?_
  refine And.intro (s_iconst dL_law_315 (by decide)) ?_
  refine And.intro (s_iadd dL_law_316) ?_
  refine And.intro (s_iaload dL_law_317) ?_
  refine And.intro (s_aload_n dL_law_318 rfl) ?_
  refine And.intro (s_iload_n dL_law_319 rfl) ?_
  refine And.intro (s_iconst dL_law_320 (by decide)) ?_
  refine And.intro (s_iadd dL_law_321) ?_
  refine And.intro (s_iaload dL_law_322) ?_
  refine And.intro (s_callV (C := RX6) (T := TX6) (N := 41) rfl zf_X6_house zg_X6_house zl_962 ⟨rfl, rfl⟩ dL_law_323) ?_
  refine And.intro (s_icmp_eq dL_law_326 (by decide)) ?_
  refine And.intro (s_iconst dL_law_329 (by decide)) ?_
  refine And.intro (s_zreturn rfl dL_law_330) ?_
  refine And.intro (s_aload_n dL_law_331 rfl) ?_
  refine And.intro (s_aload_n dL_law_332 rfl) ?_
  refine And.intro (s_iload_n dL_law_333 rfl) ?_
  refine And.intro (s_iconst dL_law_334 (by decide)) ?_
  refine And.intro (s_iadd dL_law_335) ?_
  refine And.intro (s_iaload dL_law_336) ?_
  refine And.intro (s_callV (C := RX5) (T := TX5) (N := 16) rfl zf_X5_elbows zg_X5_elbows zl_427 ⟨rfl, rfl⟩ dL_law_337) ?_
  refine And.intro (s_aload_n dL_law_340 rfl) ?_
  refine And.intro (s_aload_n dL_law_341 rfl) ?_
  refine And.intro (s_iload_n dL_law_342 rfl) ?_
  refine And.intro (s_iconst dL_law_343 (by decide)) ?_
  refine And.intro (s_iadd dL_law_344) ?_
  refine And.intro (s_iaload dL_law_345) ?_
  refine And.intro (s_callV (C := RX6) (T := TX6) (N := 41) rfl zf_X6_elbows zg_X6_elbows zl_978 ⟨rfl, rfl⟩ dL_law_346) ?_
  refine And.intro (s_icmp_eq dL_law_349 (by decide)) ?_
  refine And.intro (s_iconst dL_law_352 (by decide)) ?_
  refine And.intro (s_zreturn rfl dL_law_353) ?_
  refine And.intro (s_aload_n dL_law_354 rfl) ?_
  refine And.intro (s_aload_n dL_law_355 rfl) ?_
  refine And.intro (s_iload_n dL_law_356 rfl) ?_
  refine And.intro (s_iconst dL_law_357 (by decide)) ?_
  refine And.intro (s_iadd dL_law_358) ?_
  refine And.intro (s_iaload dL_law_359) ?_
  refine And.intro (s_aload_n dL_law_360 rfl) ?_
  refine And.intro (s_iload_n dL_law_361 rfl) ?_
  refine And.intro (s_iconst dL_law_362 (by decide)) ?_
  refine And.intro (s_iadd dL_law_363) ?_
  refine And.intro (s_iaload dL_law_364) ?_
  refine And.intro (s_callV (C := RX5) (T := TX5) (N := 16) rfl zf_X5_set zg_X5_set zl_434 ⟨rfl, rfl⟩ dL_law_365) ?_
  refine And.intro (s_aload_n dL_law_368 rfl) ?_
  refine And.intro (s_aload_n dL_law_369 rfl) ?_
  refine And.intro (s_iload_n dL_law_370 rfl) ?_
  refine And.intro (s_iconst dL_law_371 (by decide)) ?_
  refine And.intro (s_iadd dL_law_372) ?_
  refine And.intro (s_iaload dL_law_373) ?_
  refine And.intro (s_aload_n dL_law_374 rfl) ?_
  refine And.intro (s_iload_n dL_law_375 rfl) ?_
  refine And.intro (s_iconst dL_law_376 (by decide)) ?_
  refine And.intro (s_iadd dL_law_377) ?_
  refine And.intro (s_iaload dL_law_378) ?_
  refine And.intro (s_callV (C := RX6) (T := TX6) (N := 41) rfl zf_X6_set zg_X6_set zl_989 ⟨rfl, rfl⟩ dL_law_379) ?_
  refine And.intro (s_icmp_eq dL_law_382 (by decide)) ?_
  refine And.intro (s_iconst dL_law_385 (by decide)) ?_
  refine And.intro (s_zreturn rfl dL_law_386) ?_
  refine And.intro (s_aload_n dL_law_387 rfl) ?_
  refine And.intro (s_aload_n dL_law_388 rfl) ?_
  refine And.intro (s_iload_n dL_law_389 rfl) ?_
  refine And.intro (s_iconst dL_law_390 (by decide)) ?_
  refine And.intro (s_iadd dL_law_391) ?_
  refine And.intro (s_iaload dL_law_392) ?_
  refine And.intro (s_aload_n dL_law_393 rfl) ?_
  refine And.intro (s_iload_n dL_law_394 rfl) ?_
  refine And.intro (s_iconst dL_law_395 (by decide)) ?_
  refine And.intro (s_iadd dL_law_396) ?_
  refine And.intro (s_iaload dL_law_397) ?_
  refine And.intro (s_aload_n dL_law_398 rfl) ?_
  refine And.intro (s_iload_n dL_law_399 rfl) ?_
  refine And.intro (s_iconst dL_law_400 (by decide)) ?_
  refine And.intro (s_iadd dL_law_401) ?_
  refine And.intro (s_iaload dL_law_402) ?_
  refine And.intro (s_callV (C := RX5) (T := TX5) (N := 16) rfl zf_X5_leak zg_X5_leak zl_438 ⟨rfl, rfl⟩ dL_law_403) ?_
  refine And.intro (s_aload_n dL_law_406 rfl) ?_
  refine And.intro (s_aload_n dL_law_407 rfl) ?_
  refine And.intro (s_iload_n dL_law_408 rfl) ?_
  refine And.intro (s_iconst dL_law_409 (by decide)) ?_
  refine And.intro (s_iadd dL_law_410) ?_
  refine And.intro (s_iaload dL_law_411) ?_
  refine And.intro (s_aload_n dL_law_412 rfl) ?_
  refine And.intro (s_iload_n dL_law_413 rfl) ?_
  refine And.intro (s_iconst dL_law_414 (by decide)) ?_
  refine And.intro (s_iadd dL_law_415) ?_
  refine And.intro (s_iaload dL_law_416) ?_
  refine And.intro (s_aload_n dL_law_417 rfl) ?_
  refine And.intro (s_iload_n dL_law_418 rfl) ?_
  refine And.intro (s_iconst dL_law_419 (by decide)) ?_
  refine And.intro (s_iadd dL_law_420) ?_
  refine And.intro (s_iaload dL_law_421) ?_
  refine And.intro (s_callV (C := RX6) (T := TX6) (N := 41) rfl zf_X6_leak zg_X6_leak zl_993 ⟨rfl, rfl⟩ dL_law_422) ?_
  refine And.intro (s_icmp_eq dL_law_425 (by decide)) ?_
  refine And.intro (s_iconst dL_law_428 (by decide)) ?_
  refine And.intro (s_zreturn rfl dL_law_429) ?_
  refine And.intro (s_aload_n dL_law_430 rfl) ?_
  refine And.intro (s_aload_n dL_law_431 rfl) ?_
  refine And.intro (s_iload_n dL_law_432 rfl) ?_
  refine And.intro (s_iconst dL_law_433 (by decide)) ?_
  refine And.intro (s_iadd dL_law_434) ?_
  refine And.intro (s_iaload dL_law_435) ?_
  refine And.intro (s_aload_n dL_law_436 rfl) ?_
  refine And.intro (s_iload_n dL_law_437 rfl) ?_
  refine And.intro (s_iconst dL_law_438 (by decide)) ?_
  refine And.intro (s_iadd dL_law_439) ?_
  refine And.intro (s_iaload dL_law_440) ?_
  refine And.intro (s_callV (C := RX5) (T := TX5) (N := 16) rfl zf_X5_pinch zg_X5_pinch zl_446 ⟨rfl, rfl⟩ dL_law_441) ?_
  refine And.intro (s_aload_n dL_law_444 rfl) ?_
  refine And.intro (s_aload_n dL_law_445 rfl) ?_
  refine And.intro (s_iload_n dL_law_446 rfl) ?_
  refine And.intro (s_iconst dL_law_447 (by decide)) ?_
  refine And.intro (s_iadd dL_law_448) ?_
  refine And.intro (s_iaload dL_law_449) ?_
  refine And.intro (s_aload_n dL_law_450 rfl) ?_
  refine And.intro (s_iload_n dL_law_451 rfl) ?_
  refine And.intro (s_iconst dL_law_452 (by decide)) ?_
  refine And.intro (s_iadd dL_law_453) ?_
  refine And.intro (s_iaload dL_law_454) ?_
  refine And.intro (s_callV (C := RX6) (T := TX6) (N := 41) rfl zf_X6_pinch zg_X6_pinch zl_997 ⟨rfl, rfl⟩ dL_law_455) ?_
  refine And.intro (s_icmp_eq dL_law_458 (by decide)) ?_
  refine And.intro (s_iconst dL_law_461 (by decide)) ?_
  refine And.intro (s_zreturn rfl dL_law_462) ?_
  refine And.intro (s_aload_n dL_law_463 rfl) ?_
  refine And.intro (s_aload_n dL_law_464 rfl) ?_
  refine And.intro (s_iload_n dL_law_465 rfl) ?_
  refine And.intro (s_iconst dL_law_466 (by decide)) ?_
  refine And.intro (s_iadd dL_law_467) ?_
  refine And.intro (s_iaload dL_law_468) ?_
  refine And.intro (s_callV (C := RX5) (T := TX5) (N := 16) rfl zf_X5_back zg_X5_back zl_457 ⟨rfl, rfl⟩ dL_law_469) ?_
  refine And.intro (s_aload_n dL_law_472 rfl) ?_
  refine And.intro (s_aload_n dL_law_473 rfl) ?_
  refine And.intro (s_iload_n dL_law_474 rfl) ?_
  refine And.intro (s_iconst dL_law_475 (by decide)) ?_
  refine And.intro (s_iadd dL_law_476) ?_
  refine And.intro (s_iaload dL_law_477) ?_
  refine And.intro (s_callV (C := RX6) (T := TX6) (N := 41) rfl zf_X6_back zg_X6_back zl_1001 ⟨rfl, rfl⟩ dL_law_478) ?_
  refine And.intro (s_icmp_eq dL_law_481 (by decide)) ?_
  refine And.intro (s_iconst dL_law_484 (by decide)) ?_
  refine And.intro (s_zreturn rfl dL_law_485) ?_
  refine And.intro (s_aload_n dL_law_486 rfl) ?_
  refine And.intro (s_aload_n dL_law_487 rfl) ?_
  refine And.intro (s_iload_n dL_law_488 rfl) ?_
  refine And.intro (s_iconst dL_law_489 (by decide)) ?_
  refine And.intro (s_iadd dL_law_490) ?_
  refine And.intro (s_iaload dL_law_491) ?_
  refine And.intro (s_callV (C := RX5) (T := TX5) (N := 16) rfl zf_X5_read zg_X5_read zl_461 ⟨rfl, rfl⟩ dL_law_492) ?_
  refine And.intro (s_aload_n dL_law_495 rfl) ?_
  refine And.intro (s_aload_n dL_law_496 rfl) ?_
  refine And.intro (s_iload_n dL_law_497 rfl) ?_
  refine And.intro (s_iconst dL_law_498 (by decide)) ?_
  refine And.intro (s_iadd dL_law_499) ?_
  refine And.intro (s_iaload dL_law_500) ?_
  refine And.intro (s_callV (C := RX6) (T := TX6) (N := 41) rfl zf_X6_read zg_X6_read zl_1005 ⟨rfl, rfl⟩ dL_law_501) ?_
  refine And.intro (s_icmp_eq dL_law_504 (by decide)) ?_
  refine And.intro (s_iconst dL_law_507 (by decide)) ?_
  refine And.intro (s_zreturn rfl dL_law_508) ?_
  refine And.intro (s_aload_n dL_law_509 rfl) ?_
  refine And.intro (s_aload_n dL_law_510 rfl) ?_
  refine And.intro (s_iload_n dL_law_511 rfl) ?_
  refine And.intro (s_iconst dL_law_512 (by decide)) ?_
  refine And.intro (s_iadd dL_law_513) ?_
  refine And.intro (s_iaload dL_law_514) ?_
  refine And.intro (s_aload_n dL_law_515 rfl) ?_
  refine And.intro (s_iload_n dL_law_516 rfl) ?_
  refine And.intro (s_iconst dL_law_517 (by decide)) ?_
  refine And.intro (s_iadd dL_law_518) ?_
  refine And.intro (s_iaload dL_law_519) ?_
  refine And.intro (s_callV (C := RX5) (T := TX5) (N := 16) rfl zf_X5_bag zg_X5_bag zl_484 ⟨rfl, rfl⟩ dL_law_520) ?_
  refine And.intro (s_aload_n dL_law_523 rfl) ?_
  refine And.intro (s_aload_n dL_law_524 rfl) ?_
  refine And.intro (s_iload_n dL_law_525 rfl) ?_
  refine And.intro (s_iconst dL_law_526 (by decide)) ?_
  refine And.intro (s_iadd dL_law_527) ?_
  refine And.intro (s_iaload dL_law_528) ?_
  refine And.intro (s_aload_n dL_law_529 rfl) ?_
  refine And.intro (s_iload_n dL_law_530 rfl) ?_
  refine And.intro (s_iconst dL_law_531 (by decide)) ?_
  refine And.intro (s_iadd dL_law_532) ?_
  refine And.intro (s_iaload dL_law_533) ?_
  refine And.intro (s_callV (C := RX6) (T := TX6) (N := 41) rfl zf_X6_bag zg_X6_bag zl_1017 ⟨rfl, rfl⟩ dL_law_534) ?_
  refine And.intro (s_icmp_eq dL_law_537 (by decide)) ?_
  refine And.intro (s_iconst dL_law_540 (by decide)) ?_
  refine And.intro (s_zreturn rfl dL_law_541) ?_
  refine And.intro (s_aload_n dL_law_542 rfl) ?_
  refine And.intro (s_aload_n dL_law_543 rfl) ?_
  refine And.intro (s_iload_n dL_law_544 rfl) ?_
  refine And.intro (s_iconst dL_law_545 (by decide)) ?_
  refine And.intro (s_iadd dL_law_546) ?_
  refine And.intro (s_iaload dL_law_547) ?_
  refine And.intro (s_aload_n dL_law_548 rfl) ?_
  refine And.intro (s_iload_n dL_law_549 rfl) ?_
  refine And.intro (s_iconst dL_law_550 (by decide)) ?_
  refine And.intro (s_iadd dL_law_551) ?_
  refine And.intro (s_iaload dL_law_552) ?_
  refine And.intro (s_aload_n dL_law_553 rfl) ?_
  refine And.intro (s_iload_n dL_law_554 rfl) ?_
  refine And.intro (s_iconst dL_law_555 (by decide)) ?_
  refine And.intro (s_iadd dL_law_556) ?_
  refine And.intro (s_iaload dL_law_557) ?_
  refine And.intro (s_callV (C := RX5) (T := TX5) (N := 16) rfl zf_X5_got zg_X5_got zl_512 ⟨rfl, rfl⟩ dL_law_558) ?_
  refine And.intro (s_aload_n dL_law_561 rfl) ?_
  refine And.intro (s_aload_n dL_law_562 rfl) ?_
  refine And.intro (s_iload_n dL_law_563 rfl) ?_
  refine And.intro (s_iconst dL_law_564 (by decide)) ?_
  refine And.intro (s_iadd dL_law_565) ?_
  refine And.intro (s_iaload dL_law_566) ?_
  refine And.intro (s_aload_n dL_law_567 rfl) ?_
  refine And.intro (s_iload_n dL_law_568 rfl) ?_
  refine And.intro (s_iconst dL_law_569 (by decide)) ?_
  refine And.intro (s_iadd dL_law_570) ?_
  refine And.intro (s_iaload dL_law_571) ?_
  refine And.intro (s_aload_n dL_law_572 rfl) ?_
  refine And.intro (s_iload_n dL_law_573 rfl) ?_
  refine And.intro (s_iconst dL_law_574 (by decide)) ?_
  refine And.intro (s_iadd dL_law_575) ?_
  refine And.intro (s_iaload dL_law_576) ?_
  refine And.intro (s_callV (C := RX6) (T := TX6) (N := 41) rfl zf_X6_got zg_X6_got zl_1064 ⟨rfl, rfl⟩ dL_law_577) ?_
  refine And.intro (s_icmp_eq dL_law_580 (by decide)) ?_
  refine And.intro (s_iconst dL_law_583 (by decide)) ?_
  refine And.intro (s_zreturn rfl dL_law_584) ?_
  refine And.intro (s_aload_n dL_law_585 rfl) ?_
  refine And.intro (s_aload_n dL_law_586 rfl) ?_
  refine And.intro (s_iload_n dL_law_587 rfl) ?_
  refine And.intro (s_iconst dL_law_588 (by decide)) ?_
  refine And.intro (s_iadd dL_law_589) ?_
  refine And.intro (s_iaload dL_law_590) ?_
  refine And.intro (s_aload_n dL_law_591 rfl) ?_
  refine And.intro (s_iload_n dL_law_592 rfl) ?_
  refine And.intro (s_iconst dL_law_593 (by decide)) ?_
  refine And.intro (s_iadd dL_law_594) ?_
  refine And.intro (s_iaload dL_law_595) ?_
  refine And.intro (s_callV (C := RX5) (T := TX5) (N := 16) rfl zf_X5_held zg_X5_held zl_522 ⟨rfl, rfl⟩ dL_law_596) ?_
  refine And.intro (s_aload_n dL_law_599 rfl) ?_
  refine And.intro (s_aload_n dL_law_600 rfl) ?_
  refine And.intro (s_iload_n dL_law_601 rfl) ?_
  refine And.intro (s_iconst dL_law_602 (by decide)) ?_
  refine And.intro (s_iadd dL_law_603) ?_
  refine And.intro (s_iaload dL_law_604) ?_
  refine And.intro (s_aload_n dL_law_605 rfl) ?_
  refine And.intro (s_iload_n dL_law_606 rfl) ?_
  refine And.intro (s_iconst dL_law_607 (by decide)) ?_
  refine And.intro (s_iadd dL_law_608) ?_
  refine And.intro (s_iaload dL_law_609) ?_
  refine And.intro (s_callV (C := RX6) (T := TX6) (N := 41) rfl zf_X6_held zg_X6_held zl_1072 ⟨rfl, rfl⟩ dL_law_610) ?_
  refine And.intro (s_icmp_eq dL_law_613 (by decide)) ?_
  refine And.intro (s_iconst dL_law_616 (by decide)) ?_
  refine And.intro (s_zreturn rfl dL_law_617) ?_
  refine And.intro (s_aload_n dL_law_618 rfl) ?_
  refine And.intro (s_callV (C := RX5) (T := TX5) (N := 16) rfl zf_X5_first zg_X5_first zl_534 ⟨rfl, rfl⟩ dL_law_619) ?_
  refine And.intro (s_aload_n dL_law_622 rfl) ?_
  refine And.intro (s_callV (C := RX6) (T := TX6) (N := 41) rfl zf_X6_first zg_X6_first zl_1084 ⟨rfl, rfl⟩ dL_law_623) ?_
  refine And.intro (s_icmp_eq dL_law_626 (by decide)) ?_
  refine And.intro (s_iconst dL_law_629 (by decide)) ?_
  refine And.intro (s_zreturn rfl dL_law_630) ?_
  refine And.intro (s_aload_n dL_law_631 rfl) ?_
  refine And.intro (s_callV (C := RX5) (T := TX5) (N := 16) rfl zf_X5_quiet zg_X5_quiet zl_538 ⟨rfl, rfl⟩ dL_law_632) ?_
  refine And.intro (s_aload_n dL_law_635 rfl) ?_
  refine And.intro (s_callV (C := RX6) (T := TX6) (N := 41) rfl zf_X6_quiet zg_X6_quiet zl_1092 ⟨rfl, rfl⟩ dL_law_636) ?_
  refine And.intro (s_icmp_eq dL_law_639 (by decide)) ?_
  refine And.intro (s_iconst dL_law_642 (by decide)) ?_
  refine And.intro (s_zreturn rfl dL_law_643) ?_
  refine And.intro (s_aload_n dL_law_644 rfl) ?_
  refine And.intro (s_callV (C := RX5) (T := TX5) (N := 16) rfl zf_X5_well zg_X5_well zl_542 ⟨rfl, rfl⟩ dL_law_645) ?_
  refine And.intro (s_aload_n dL_law_648 rfl) ?_
  refine And.intro (s_callV (C := RX6) (T := TX6) (N := 41) rfl zf_X6_well zg_X6_well zl_1100 ⟨rfl, rfl⟩ dL_law_649) ?_
  refine And.intro (s_icmp_eq dL_law_652 (by decide)) ?_
  refine And.intro (s_iconst dL_law_655 (by decide)) ?_
  refine And.intro (s_zreturn rfl dL_law_656) ?_
  refine And.intro (s_aload_n dL_law_657 rfl) ?_
  refine And.intro (s_aload_n dL_law_658 rfl) ?_
  refine And.intro (s_iload_n dL_law_659 rfl) ?_
  refine And.intro (s_iconst dL_law_660 (by decide)) ?_
  refine And.intro (s_iadd dL_law_661) ?_
  refine And.intro (s_iaload dL_law_662) ?_
  refine And.intro (s_callV (C := RX5) (T := TX5) (N := 16) rfl zf_X5_elbow zg_X5_elbow zl_546 ⟨rfl, rfl⟩ dL_law_663) ?_
  refine And.intro (s_aload_n dL_law_666 rfl) ?_
  refine And.intro (s_aload_n dL_law_667 rfl) ?_
  refine And.intro (s_iload_n dL_law_668 rfl) ?_
  refine And.intro (s_iconst dL_law_669 (by decide)) ?_
  refine And.intro (s_iadd dL_law_670) ?_
  refine And.intro (s_iaload dL_law_671) ?_
  refine And.intro (s_callV (C := RX6) (T := TX6) (N := 41) rfl zf_X6_elbow zg_X6_elbow zl_1108 ⟨rfl, rfl⟩ dL_law_672) ?_
  refine And.intro (s_icmp_eq dL_law_675 (by decide)) ?_
  refine And.intro (s_iconst dL_law_678 (by decide)) ?_
  refine And.intro (s_zreturn rfl dL_law_679) ?_
  refine And.intro (s_aload_n dL_law_680 rfl) ?_
  refine And.intro (s_aload_n dL_law_681 rfl) ?_
  refine And.intro (s_iload_n dL_law_682 rfl) ?_
  refine And.intro (s_iconst dL_law_683 (by decide)) ?_
  refine And.intro (s_iadd dL_law_684) ?_
  refine And.intro (s_iaload dL_law_685) ?_
  refine And.intro (s_aload_n dL_law_686 rfl) ?_
  refine And.intro (s_iload_n dL_law_687 rfl) ?_
  refine And.intro (s_iconst dL_law_688 (by decide)) ?_
  refine And.intro (s_iadd dL_law_689) ?_
  refine And.intro (s_iaload dL_law_690) ?_
  refine And.intro (s_callV (C := RX5) (T := TX5) (N := 16) rfl zf_X5_shut zg_X5_shut zl_569 ⟨rfl, rfl⟩ dL_law_691) ?_
  refine And.intro (s_aload_n dL_law_694 rfl) ?_
  refine And.intro (s_aload_n dL_law_695 rfl) ?_
  refine And.intro (s_iload_n dL_law_696 rfl) ?_
  refine And.intro (s_iconst dL_law_697 (by decide)) ?_
  refine And.intro (s_iadd dL_law_698) ?_
  refine And.intro (s_iaload dL_law_699) ?_
  refine And.intro (s_aload_n dL_law_700 rfl) ?_
  refine And.intro (s_iload_n dL_law_701 rfl) ?_
  refine And.intro (s_iconst dL_law_702 (by decide)) ?_
  refine And.intro (s_iadd dL_law_703) ?_
  refine And.intro (s_iaload dL_law_704) ?_
  refine And.intro (s_callV (C := RX6) (T := TX6) (N := 41) rfl zf_X6_shut zg_X6_shut zl_1120 ⟨rfl, rfl⟩ dL_law_705) ?_
  refine And.intro (s_icmp_eq dL_law_708 (by decide)) ?_
  refine And.intro (s_iconst dL_law_711 (by decide)) ?_
  refine And.intro (s_zreturn rfl dL_law_712) ?_
  refine And.intro (s_aload_n dL_law_713 rfl) ?_
  refine And.intro (s_callV (C := RX5) (T := TX5) (N := 16) rfl zf_X5_least zg_X5_least zl_577 ⟨rfl, rfl⟩ dL_law_714) ?_
  refine And.intro (s_aload_n dL_law_717 rfl) ?_
  refine And.intro (s_callV (C := RX6) (T := TX6) (N := 41) rfl zf_X6_least zg_X6_least zl_1128 ⟨rfl, rfl⟩ dL_law_718) ?_
  refine And.intro (s_icmp_eq dL_law_721 (by decide)) ?_
  refine And.intro (s_iconst dL_law_724 (by decide)) ?_
  refine And.intro (s_zreturn rfl dL_law_725) ?_
  refine And.intro (s_aload_n dL_law_726 rfl) ?_
  refine And.intro (s_aload_n dL_law_727 rfl) ?_
  refine And.intro (s_iload_n dL_law_728 rfl) ?_
  refine And.intro (s_iconst dL_law_729 (by decide)) ?_
  refine And.intro (s_iadd dL_law_730) ?_
  refine And.intro (s_iaload dL_law_731) ?_
  refine And.intro (s_callV (C := RX5) (T := TX5) (N := 16) rfl zf_X5_patch zg_X5_patch zl_581 ⟨rfl, rfl⟩ dL_law_732) ?_
  refine And.intro (s_aload_n dL_law_735 rfl) ?_
  refine And.intro (s_aload_n dL_law_736 rfl) ?_
  refine And.intro (s_iload_n dL_law_737 rfl) ?_
  refine And.intro (s_iconst dL_law_738 (by decide)) ?_
  refine And.intro (s_iadd dL_law_739) ?_
  refine And.intro (s_iaload dL_law_740) ?_
  refine And.intro (s_callV (C := RX6) (T := TX6) (N := 41) rfl zf_X6_patch zg_X6_patch zl_1136 ⟨rfl, rfl⟩ dL_law_741) ?_
  refine And.intro (s_icmp_eq dL_law_744 (by decide)) ?_
  refine And.intro (s_iconst dL_law_747 (by decide)) ?_
  refine And.intro (s_zreturn rfl dL_law_748) ?_
  refine And.intro (s_aload_n dL_law_749 rfl) ?_
  refine And.intro (s_aload_n dL_law_750 rfl) ?_
  refine And.intro (s_iload_n dL_law_751 rfl) ?_
  refine And.intro (s_iconst dL_law_752 (by decide)) ?_
  refine And.intro (s_iadd dL_law_753) ?_
  refine And.intro (s_iaload dL_law_754) ?_
  refine And.intro (s_aload_n dL_law_755 rfl) ?_
  refine And.intro (s_iload_n dL_law_756 rfl) ?_
  refine And.intro (s_iconst dL_law_757 (by decide)) ?_
  refine And.intro (s_iadd dL_law_758) ?_
  refine And.intro (s_iaload dL_law_759) ?_
  refine And.intro (s_aload_n dL_law_760 rfl) ?_
  refine And.intro (s_iload_n dL_law_761 rfl) ?_
  refine And.intro (s_iconst dL_law_762 (by decide)) ?_
  refine And.intro (s_iadd dL_law_763) ?_
  refine And.intro (s_iaload dL_law_764) ?_
  refine And.intro (s_callV (C := RX5) (T := TX5) (N := 16) rfl zf_X5_seen zg_X5_seen zl_589 ⟨rfl, rfl⟩ dL_law_765) ?_
  refine And.intro (s_aload_n dL_law_768 rfl) ?_
  refine And.intro (s_aload_n dL_law_769 rfl) ?_
  refine And.intro (s_iload_n dL_law_770 rfl) ?_
  refine And.intro (s_iconst dL_law_771 (by decide)) ?_
  refine And.intro (s_iadd dL_law_772) ?_
  refine And.intro (s_iaload dL_law_773) ?_
  refine And.intro (s_aload_n dL_law_774 rfl) ?_
  refine And.intro (s_iload_n dL_law_775 rfl) ?_
  refine And.intro (s_iconst dL_law_776 (by decide)) ?_
  refine And.intro (s_iadd dL_law_777) ?_
  refine And.intro (s_iaload dL_law_778) ?_
  refine And.intro (s_aload_n dL_law_779 rfl) ?_
  refine And.intro (s_iload_n dL_law_780 rfl) ?_
  refine And.intro (s_iconst dL_law_781 (by decide)) ?_
  refine And.intro (s_iadd dL_law_782) ?_
  refine And.intro (s_iaload dL_law_783) ?_
  refine And.intro (s_callV (C := RX6) (T := TX6) (N := 41) rfl zf_X6_seen zg_X6_seen zl_1144 ⟨rfl, rfl⟩ dL_law_784) ?_
  refine And.intro (s_icmp_eq dL_law_787 (by decide)) ?_
  refine And.intro (s_iconst dL_law_790 (by decide)) ?_
  refine And.intro (s_zreturn rfl dL_law_791) ?_
  refine And.intro (s_aload_n dL_law_792 rfl) ?_
  refine And.intro (s_callV (C := RX5) (T := TX5) (N := 16) rfl zf_X5_forget zg_X5_forget zl_593 ⟨rfl, rfl⟩ dL_law_793) ?_
  refine And.intro (s_aload_n dL_law_796 rfl) ?_
  refine And.intro (s_callV (C := RX6) (T := TX6) (N := 41) rfl zf_X6_forget zg_X6_forget zl_1148 ⟨rfl, rfl⟩ dL_law_797) ?_
  refine And.intro (s_icmp_eq dL_law_800 (by decide)) ?_
  refine And.intro (s_iconst dL_law_803 (by decide)) ?_
  refine And.intro (s_zreturn rfl dL_law_804) ?_
  refine And.intro (s_aload_n dL_law_805 rfl) ?_
  refine And.intro (s_callV (C := RX5) (T := TX5) (N := 16) rfl zf_X5_never zg_X5_never zl_597 ⟨rfl, rfl⟩ dL_law_806) ?_
  refine And.intro (s_aload_n dL_law_809 rfl) ?_
  refine And.intro (s_callV (C := RX6) (T := TX6) (N := 41) rfl zf_X6_never zg_X6_never zl_1152 ⟨rfl, rfl⟩ dL_law_810) ?_
  refine And.intro (s_icmp_eq dL_law_813 (by decide)) ?_
  refine And.intro (s_iconst dL_law_816 (by decide)) ?_
  refine And.intro (s_zreturn rfl dL_law_817) ?_
  refine And.intro (s_aload_n dL_law_818 rfl) ?_
  refine And.intro (s_aload_n dL_law_819 rfl) ?_
  refine And.intro (s_iload_n dL_law_820 rfl) ?_
  refine And.intro (s_iconst dL_law_821 (by decide)) ?_
  refine And.intro (s_iadd dL_law_822) ?_
  refine And.intro (s_iaload dL_law_823) ?_
  refine And.intro (s_callV (C := RX5) (T := TX5) (N := 16) rfl zf_X5_was zg_X5_was zl_605 ⟨rfl, rfl⟩ dL_law_824) ?_
  refine And.intro (s_aload_n dL_law_827 rfl) ?_
  refine And.intro (s_aload_n dL_law_828 rfl) ?_
  refine And.intro (s_iload_n dL_law_829 rfl) ?_
  refine And.intro (s_iconst dL_law_830 (by decide)) ?_
  refine And.intro (s_iadd dL_law_831) ?_
  refine And.intro (s_iaload dL_law_832) ?_
  refine And.intro (s_callV (C := RX6) (T := TX6) (N := 41) rfl zf_X6_was zg_X6_was zl_1164 ⟨rfl, rfl⟩ dL_law_833) ?_
  refine And.intro (s_icmp_eq dL_law_836 (by decide)) ?_
  refine And.intro (s_iconst dL_law_839 (by decide)) ?_
  refine And.intro (s_zreturn rfl dL_law_840) ?_
  refine And.intro (s_aload_n dL_law_841 rfl) ?_
  refine And.intro (s_aload_n dL_law_842 rfl) ?_
  refine And.intro (s_iload_n dL_law_843 rfl) ?_
  refine And.intro (s_iconst dL_law_844 (by decide)) ?_
  refine And.intro (s_iadd dL_law_845) ?_
  refine And.intro (s_iaload dL_law_846) ?_
  refine And.intro (s_callV (C := RX5) (T := TX5) (N := 16) rfl zf_X5_starts zg_X5_starts zl_613 ⟨rfl, rfl⟩ dL_law_847) ?_
  refine And.intro (s_aload_n dL_law_850 rfl) ?_
  refine And.intro (s_aload_n dL_law_851 rfl) ?_
  refine And.intro (s_iload_n dL_law_852 rfl) ?_
  refine And.intro (s_iconst dL_law_853 (by decide)) ?_
  refine And.intro (s_iadd dL_law_854) ?_
  refine And.intro (s_iaload dL_law_855) ?_
  refine And.intro (s_callV (C := RX6) (T := TX6) (N := 41) rfl zf_X6_starts zg_X6_starts zl_1172 ⟨rfl, rfl⟩ dL_law_856) ?_
  refine And.intro (s_icmp_eq dL_law_859 (by decide)) ?_
  refine And.intro (s_iconst dL_law_862 (by decide)) ?_
  refine And.intro (s_zreturn rfl dL_law_863) ?_
  refine And.intro (s_aload_n dL_law_864 rfl) ?_
  refine And.intro (s_aload_n dL_law_865 rfl) ?_
  refine And.intro (s_iload_n dL_law_866 rfl) ?_
  refine And.intro (s_iconst dL_law_867 (by decide)) ?_
  refine And.intro (s_iadd dL_law_868) ?_
  refine And.intro (s_iaload dL_law_869) ?_
  refine And.intro (s_callV (C := RX5) (T := TX5) (N := 16) rfl zf_X5_ask zg_X5_ask zl_643 ⟨rfl, rfl⟩ dL_law_870) ?_
  refine And.intro (s_aload_n dL_law_873 rfl) ?_
  refine And.intro (s_aload_n dL_law_874 rfl) ?_
  refine And.intro (s_iload_n dL_law_875 rfl) ?_
  refine And.intro (s_iconst dL_law_876 (by decide)) ?_
  refine And.intro (s_iadd dL_law_877) ?_
  refine And.intro (s_iaload dL_law_878) ?_
  refine And.intro (s_callV (C := RX6) (T := TX6) (N := 41) rfl zf_X6_ask zg_X6_ask zl_1180 ⟨rfl, rfl⟩ dL_law_879) ?_
  refine And.intro (s_icmp_eq dL_law_882 (by decide)) ?_
  refine And.intro (s_iconst dL_law_885 (by decide)) ?_
  refine And.intro (s_zreturn rfl dL_law_886) ?_
  refine And.intro (s_aload_n dL_law_887 rfl) ?_
  refine And.intro (s_aload_n dL_law_888 rfl) ?_
  refine And.intro (s_iload_n dL_law_889 rfl) ?_
  refine And.intro (s_iconst dL_law_890 (by decide)) ?_
  refine And.intro (s_iadd dL_law_891) ?_
  refine And.intro (s_iaload dL_law_892) ?_
  refine And.intro (s_aload_n dL_law_893 rfl) ?_
  refine And.intro (s_iload_n dL_law_894 rfl) ?_
  refine And.intro (s_iconst dL_law_895 (by decide)) ?_
  refine And.intro (s_iadd dL_law_896) ?_
  refine And.intro (s_iaload dL_law_897) ?_
  refine And.intro (s_aload_n dL_law_898 rfl) ?_
  refine And.intro (s_iload_n dL_law_899 rfl) ?_
  refine And.intro (s_iconst dL_law_900 (by decide)) ?_
  refine And.intro (s_iadd dL_law_901) ?_
  refine And.intro (s_iaload dL_law_902) ?_
  refine And.intro (s_callV (C := RX5) (T := TX5) (N := 16) rfl zf_X5_moth zg_X5_moth zl_660 ⟨rfl, rfl⟩ dL_law_903) ?_
  refine And.intro (s_aload_n dL_law_906 rfl) ?_
  refine And.intro (s_aload_n dL_law_907 rfl) ?_
  refine And.intro (s_iload_n dL_law_908 rfl) ?_
  refine And.intro (s_iconst dL_law_909 (by decide)) ?_
  refine And.intro (s_iadd dL_law_910) ?_
  refine And.intro (s_iaload dL_law_911) ?_
  refine And.intro (s_aload_n dL_law_912 rfl) ?_
  refine And.intro (s_iload_n dL_law_913 rfl) ?_
  refine And.intro (s_iconst dL_law_914 (by decide)) ?_
  refine And.intro (s_iadd dL_law_915) ?_
  refine And.intro (s_iaload dL_law_916) ?_
  refine And.intro (s_aload_n dL_law_917 rfl) ?_
  refine And.intro (s_iload_n dL_law_918 rfl) ?_
  refine And.intro (s_iconst dL_law_919 (by decide)) ?_
  refine And.intro (s_iadd dL_law_920) ?_
  refine And.intro (s_iaload dL_law_921) ?_
  refine And.intro (s_callV (C := RX6) (T := TX6) (N := 41) rfl zf_X6_moth zg_X6_moth zl_1188 ⟨rfl, rfl⟩ dL_law_922) ?_
  refine And.intro (s_lcmp dL_law_925) ?_
  refine And.intro (s_if_eq dL_law_926 (by decide)) ?_
  refine And.intro (s_iconst dL_law_929 (by decide)) ?_
  refine And.intro (s_zreturn rfl dL_law_930) ?_
  refine And.intro (s_aload_n dL_law_931 rfl) ?_
  refine And.intro (s_aload_n dL_law_932 rfl) ?_
  refine And.intro (s_iload_n dL_law_933 rfl) ?_
  refine And.intro (s_iconst dL_law_934 (by decide)) ?_
  refine And.intro (s_iadd dL_law_935) ?_
  refine And.intro (s_iaload dL_law_936) ?_
  refine And.intro (s_aload_n dL_law_937 rfl) ?_
  refine And.intro (s_iload_n dL_law_938 rfl) ?_
  refine And.intro (s_iconst dL_law_939 (by decide)) ?_
  refine And.intro (s_iadd dL_law_940) ?_
  refine And.intro (s_iaload dL_law_941) ?_
  refine And.intro (s_aload_n dL_law_942 rfl) ?_
  refine And.intro (s_iload_n dL_law_943 rfl) ?_
  refine And.intro (s_iconst dL_law_944 (by decide)) ?_
  refine And.intro (s_iadd dL_law_945) ?_
  refine And.intro (s_iaload dL_law_946) ?_
  refine And.intro (s_callV (C := RX5) (T := TX5) (N := 16) rfl zf_X5_year zg_X5_year zl_681 ⟨rfl, rfl⟩ dL_law_947) ?_
  refine And.intro (s_aload_n dL_law_950 rfl) ?_
  refine And.intro (s_aload_n dL_law_951 rfl) ?_
  refine And.intro (s_iload_n dL_law_952 rfl) ?_
  refine And.intro (s_iconst dL_law_953 (by decide)) ?_
  refine And.intro (s_iadd dL_law_954) ?_
  refine And.intro (s_iaload dL_law_955) ?_
  refine And.intro (s_aload_n dL_law_956 rfl) ?_
  refine And.intro (s_iload_n dL_law_957 rfl) ?_
  refine And.intro (s_iconst dL_law_958 (by decide)) ?_
  refine And.intro (s_iadd dL_law_959) ?_
  refine And.intro (s_iaload dL_law_960) ?_
  refine And.intro (s_aload_n dL_law_961 rfl) ?_
  refine And.intro (s_iload_n dL_law_962 rfl) ?_
  refine And.intro (s_iconst dL_law_963 (by decide)) ?_
  refine And.intro (s_iadd dL_law_964) ?_
  refine And.intro (s_iaload dL_law_965) ?_
  refine And.intro (s_callV (C := RX6) (T := TX6) (N := 41) rfl zf_X6_year zg_X6_year zl_1203 ⟨rfl, rfl⟩ dL_law_966) ?_
  refine And.intro (s_icmp_eq dL_law_969 (by decide)) ?_
  refine And.intro (s_iconst dL_law_972 (by decide)) ?_
  refine And.intro (s_zreturn rfl dL_law_973) ?_
  refine And.intro (s_aload_n dL_law_974 rfl) ?_
  refine And.intro (s_aload_n dL_law_975 rfl) ?_
  refine And.intro (s_iload_n dL_law_976 rfl) ?_
  refine And.intro (s_iconst dL_law_977 (by decide)) ?_
  refine And.intro (s_iadd dL_law_978) ?_
  refine And.intro (s_iaload dL_law_979) ?_
  refine And.intro (s_aload_n dL_law_980 rfl) ?_
  refine And.intro (s_iload_n dL_law_981 rfl) ?_
  refine And.intro (s_iconst dL_law_982 (by decide)) ?_
  refine And.intro (s_iadd dL_law_983) ?_
  refine And.intro (s_iaload dL_law_984) ?_
  refine And.intro (s_aload_n dL_law_985 rfl) ?_
  refine And.intro (s_iload_n dL_law_986 rfl) ?_
  refine And.intro (s_iconst dL_law_987 (by decide)) ?_
  refine And.intro (s_iadd dL_law_988) ?_
  refine And.intro (s_iaload dL_law_989) ?_
  refine And.intro (s_callV (C := RX5) (T := TX5) (N := 16) rfl zf_X5_sheet zg_X5_sheet zl_690 ⟨rfl, rfl⟩ dL_law_990) ?_
  refine And.intro (s_aload_n dL_law_993 rfl) ?_
  refine And.intro (s_aload_n dL_law_994 rfl) ?_
  refine And.intro (s_iload_n dL_law_995 rfl) ?_
  refine And.intro (s_iconst dL_law_996 (by decide)) ?_
  refine And.intro (s_iadd dL_law_997) ?_
  refine And.intro (s_iaload dL_law_998) ?_
  refine And.intro (s_aload_n dL_law_999 rfl) ?_
  refine And.intro (s_iload_n dL_law_1000 rfl) ?_
  refine And.intro (s_iconst dL_law_1001 (by decide)) ?_
  refine And.intro (s_iadd dL_law_1002) ?_
  refine And.intro (s_iaload dL_law_1003) ?_
  refine And.intro (s_aload_n dL_law_1004 rfl) ?_
  refine And.intro (s_iload_n dL_law_1005 rfl) ?_
  refine And.intro (s_iconst dL_law_1006 (by decide)) ?_
  refine And.intro (s_iadd dL_law_1007) ?_
  refine And.intro (s_iaload dL_law_1008) ?_
  refine And.intro (s_callV (C := RX6) (T := TX6) (N := 41) rfl zf_X6_sheet zg_X6_sheet zl_1212 ⟨rfl, rfl⟩ dL_law_1009) ?_
  refine And.intro (s_icmp_eq dL_law_1012 (by decide)) ?_
  refine And.intro (s_iconst dL_law_1015 (by decide)) ?_
  refine And.intro (s_zreturn rfl dL_law_1016) ?_
  refine And.intro (s_aload_n dL_law_1017 rfl) ?_
  refine And.intro (s_aload_n dL_law_1018 rfl) ?_
  refine And.intro (s_iload_n dL_law_1019 rfl) ?_
  refine And.intro (s_iconst dL_law_1020 (by decide)) ?_
  refine And.intro (s_iadd dL_law_1021) ?_
  refine And.intro (s_iaload dL_law_1022) ?_
  refine And.intro (s_callV (C := RX5) (T := TX5) (N := 16) rfl zf_X5_lose zg_X5_lose zl_701 ⟨rfl, rfl⟩ dL_law_1023) ?_
  refine And.intro (s_aload_n dL_law_1026 rfl) ?_
  refine And.intro (s_aload_n dL_law_1027 rfl) ?_
  refine And.intro (s_iload_n dL_law_1028 rfl) ?_
  refine And.intro (s_iconst dL_law_1029 (by decide)) ?_
  refine And.intro (s_iadd dL_law_1030) ?_
  refine And.intro (s_iaload dL_law_1031) ?_
  refine And.intro (s_callV (C := RX6) (T := TX6) (N := 41) rfl zf_X6_lose zg_X6_lose zl_1216 ⟨rfl, rfl⟩ dL_law_1032) ?_
  refine And.intro (s_icmp_eq dL_law_1035 (by decide)) ?_
  refine And.intro (s_iconst dL_law_1038 (by decide)) ?_
  refine And.intro (s_zreturn rfl dL_law_1039) ?_
  refine And.intro (s_aload_n dL_law_1040 rfl) ?_
  refine And.intro (s_aload_n dL_law_1041 rfl) ?_
  refine And.intro (s_iload_n dL_law_1042 rfl) ?_
  refine And.intro (s_iconst dL_law_1043 (by decide)) ?_
  refine And.intro (s_iadd dL_law_1044) ?_
  refine And.intro (s_iaload dL_law_1045) ?_
  refine And.intro (s_aload_n dL_law_1046 rfl) ?_
  refine And.intro (s_iload_n dL_law_1047 rfl) ?_
  refine And.intro (s_iconst dL_law_1048 (by decide)) ?_
  refine And.intro (s_iadd dL_law_1049) ?_
  refine And.intro (s_iaload dL_law_1050) ?_
  refine And.intro (s_aload_n dL_law_1051 rfl) ?_
  refine And.intro (s_iload_n dL_law_1052 rfl) ?_
  refine And.intro (s_iconst dL_law_1053 (by decide)) ?_
  refine And.intro (s_iadd dL_law_1054) ?_
  refine And.intro (s_iaload dL_law_1055) ?_
  refine And.intro (s_aload_n dL_law_1056 rfl) ?_
  refine And.intro (s_iload_n dL_law_1057 rfl) ?_
  refine And.intro (s_iconst dL_law_1058 (by decide)) ?_
  refine And.intro (s_iadd dL_law_1059) ?_
  refine And.intro (s_iaload dL_law_1060) ?_
  refine And.intro (s_callV (C := RX5) (T := TX5) (N := 16) rfl zf_X5_put zg_X5_put zl_709 ⟨rfl, rfl⟩ dL_law_1061) ?_
  refine And.intro (s_aload_n dL_law_1064 rfl) ?_
  refine And.intro (s_aload_n dL_law_1065 rfl) ?_
  refine And.intro (s_iload_n dL_law_1066 rfl) ?_
  refine And.intro (s_iconst dL_law_1067 (by decide)) ?_
  refine And.intro (s_iadd dL_law_1068) ?_
  refine And.intro (s_iaload dL_law_1069) ?_
  refine And.intro (s_aload_n dL_law_1070 rfl) ?_
  refine And.intro (s_iload_n dL_law_1071 rfl) ?_
  refine And.intro (s_iconst dL_law_1072 (by decide)) ?_
  refine And.intro (s_iadd dL_law_1073) ?_
  refine And.intro (s_iaload dL_law_1074) ?_
  refine And.intro (s_aload_n dL_law_1075 rfl) ?_
  refine And.intro (s_iload_n dL_law_1076 rfl) ?_
  refine And.intro (s_iconst dL_law_1077 (by decide)) ?_
  refine And.intro (s_iadd dL_law_1078) ?_
  refine And.intro (s_iaload dL_law_1079) ?_
  refine And.intro (s_aload_n dL_law_1080 rfl) ?_
  refine And.intro (s_iload_n dL_law_1081 rfl) ?_
  refine And.intro (s_iconst dL_law_1082 (by decide)) ?_
  refine And.intro (s_iadd dL_law_1083) ?_
  refine And.intro (s_iaload dL_law_1084) ?_
  refine And.intro (s_callV (C := RX6) (T := TX6) (N := 41) rfl zf_X6_put zg_X6_put zl_1220 ⟨rfl, rfl⟩ dL_law_1085) ?_
  refine And.intro (s_icmp_eq dL_law_1088 (by decide)) ?_
  refine And.intro (s_iconst dL_law_1091 (by decide)) ?_
  refine And.intro (s_zreturn rfl dL_law_1092) ?_
  refine And.intro (s_aload_n dL_law_1093 rfl) ?_
  refine And.intro (s_aload_n dL_law_1094 rfl) ?_
  refine And.intro (s_iload_n dL_law_1095 rfl) ?_
  refine And.intro (s_iconst dL_law_1096 (by decide)) ?_
  refine And.intro (s_iadd dL_law_1097) ?_
  refine And.intro (s_iaload dL_law_1098) ?_
  refine And.intro (s_aload_n dL_law_1099 rfl) ?_
  refine And.intro (s_iload_n dL_law_1100 rfl) ?_
  refine And.intro (s_iconst dL_law_1101 (by decide)) ?_
  refine And.intro (s_iadd dL_law_1102) ?_
  refine And.intro (s_iaload dL_law_1103) ?_
  refine And.intro (s_aload_n dL_law_1104 rfl) ?_
  refine And.intro (s_iload_n dL_law_1105 rfl) ?_
  refine And.intro (s_iconst dL_law_1106 (by decide)) ?_
  refine And.intro (s_iadd dL_law_1107) ?_
  refine And.intro (s_iaload dL_law_1108) ?_
  refine And.intro (s_callV (C := RX5) (T := TX5) (N := 16) rfl zf_X5_get zg_X5_get zl_722 ⟨rfl, rfl⟩ dL_law_1109) ?_
  refine And.intro (s_aload_n dL_law_1112 rfl) ?_
  refine And.intro (s_aload_n dL_law_1113 rfl) ?_
  refine And.intro (s_iload_n dL_law_1114 rfl) ?_
  refine And.intro (s_iconst dL_law_1115 (by decide)) ?_
  refine And.intro (s_iadd dL_law_1116) ?_
  refine And.intro (s_iaload dL_law_1117) ?_
  refine And.intro (s_aload_n dL_law_1118 rfl) ?_
  refine And.intro (s_iload_n dL_law_1119 rfl) ?_
  refine And.intro (s_iconst dL_law_1120 (by decide)) ?_
  refine And.intro (s_iadd dL_law_1121) ?_
  refine And.intro (s_iaload dL_law_1122) ?_
  refine And.intro (s_aload_n dL_law_1123 rfl) ?_
  refine And.intro (s_iload_n dL_law_1124 rfl) ?_
  refine And.intro (s_iconst dL_law_1125 (by decide)) ?_
  refine And.intro (s_iadd dL_law_1126) ?_
  refine And.intro (s_iaload dL_law_1127) ?_
  refine And.intro (s_callV (C := RX6) (T := TX6) (N := 41) rfl zf_X6_get zg_X6_get zl_1232 ⟨rfl, rfl⟩ dL_law_1128) ?_
  refine And.intro (s_icmp_eq dL_law_1131 (by decide)) ?_
  refine And.intro (s_iconst dL_law_1134 (by decide)) ?_
  refine And.intro (s_zreturn rfl dL_law_1135) ?_
  refine And.intro (s_aload_n dL_law_1136 rfl) ?_
  refine And.intro (s_aload_n dL_law_1137 rfl) ?_
  refine And.intro (s_iload_n dL_law_1138 rfl) ?_
  refine And.intro (s_iconst dL_law_1139 (by decide)) ?_
  refine And.intro (s_iadd dL_law_1140) ?_
  refine And.intro (s_iaload dL_law_1141) ?_
  refine And.intro (s_aload_n dL_law_1142 rfl) ?_
  refine And.intro (s_iload_n dL_law_1143 rfl) ?_
  refine And.intro (s_iconst dL_law_1144 (by decide)) ?_
  refine And.intro (s_iadd dL_law_1145) ?_
  refine And.intro (s_iaload dL_law_1146) ?_
  refine And.intro (s_aload_n dL_law_1147 rfl) ?_
  refine And.intro (s_iload_n dL_law_1148 rfl) ?_
  refine And.intro (s_iconst dL_law_1149 (by decide)) ?_
  refine And.intro (s_iadd dL_law_1150) ?_
  refine And.intro (s_iaload dL_law_1151) ?_
  refine And.intro (s_aload_n dL_law_1152 rfl) ?_
  refine And.intro (s_iload_n dL_law_1153 rfl) ?_
  refine And.intro (s_iconst dL_law_1154 (by decide)) ?_
  refine And.intro (s_iadd dL_law_1155) ?_
  refine And.intro (s_iaload dL_law_1156) ?_
  refine And.intro (s_aload_n dL_law_1157 rfl) ?_
  refine And.intro (s_iload_n dL_law_1158 rfl) ?_
  refine And.intro (s_iconst dL_law_1159 (by decide)) ?_
  refine And.intro (s_iadd dL_law_1160) ?_
  refine And.intro (s_iaload dL_law_1161) ?_
  refine And.intro (s_callV (C := RX5) (T := TX5) (N := 16) rfl zf_X5_copy zg_X5_copy zl_727 ⟨rfl, rfl⟩ dL_law_1162) ?_
  refine And.intro (s_aload_n dL_law_1165 rfl) ?_
  refine And.intro (s_aload_n dL_law_1166 rfl) ?_
  refine And.intro (s_iload_n dL_law_1167 rfl) ?_
  refine And.intro (s_iconst dL_law_1168 (by decide)) ?_
  refine And.intro (s_iadd dL_law_1169) ?_
  refine And.intro (s_iaload dL_law_1170) ?_
  refine And.intro (s_aload_n dL_law_1171 rfl) ?_
  refine And.intro (s_iload_n dL_law_1172 rfl) ?_
  refine And.intro (s_iconst dL_law_1173 (by decide)) ?_
  refine And.intro (s_iadd dL_law_1174) ?_
  refine And.intro (s_iaload dL_law_1175) ?_
  refine And.intro (s_aload_n dL_law_1176 rfl) ?_
  refine And.intro (s_iload_n dL_law_1177 rfl) ?_
  refine And.intro (s_iconst dL_law_1178 (by decide)) ?_
  refine And.intro (s_iadd dL_law_1179) ?_
  refine And.intro (s_iaload dL_law_1180) ?_
  refine And.intro (s_aload_n dL_law_1181 rfl) ?_
  refine And.intro (s_iload_n dL_law_1182 rfl) ?_
  refine And.intro (s_iconst dL_law_1183 (by decide)) ?_
  refine And.intro (s_iadd dL_law_1184) ?_
  refine And.intro (s_iaload dL_law_1185) ?_
  refine And.intro (s_aload_n dL_law_1186 rfl) ?_
  refine And.intro (s_iload_n dL_law_1187 rfl) ?_
  refine And.intro (s_iconst dL_law_1188 (by decide)) ?_
  refine And.intro (s_iadd dL_law_1189) ?_
  refine And.intro (s_iaload dL_law_1190) ?_
  refine And.intro (s_callV (C := RX6) (T := TX6) (N := 41) rfl zf_X6_copy zg_X6_copy zl_1237 ⟨rfl, rfl⟩ dL_law_1191) ?_
  refine And.intro (s_icmp_eq dL_law_1194 (by decide)) ?_
  refine And.intro (s_iconst dL_law_1197 (by decide)) ?_
  refine And.intro (s_zreturn rfl dL_law_1198) ?_
  refine And.intro (s_aload_n dL_law_1199 rfl) ?_
  refine And.intro (s_aload_n dL_law_1200 rfl) ?_
  refine And.intro (s_iload_n dL_law_1201 rfl) ?_
  refine And.intro (s_iconst dL_law_1202 (by decide)) ?_
  refine And.intro (s_iadd dL_law_1203) ?_
  refine And.intro (s_iaload dL_law_1204) ?_
  refine And.intro (s_aload_n dL_law_1205 rfl) ?_
  refine And.intro (s_iload_n dL_law_1206 rfl) ?_
  refine And.intro (s_iconst dL_law_1207 (by decide)) ?_
  refine And.intro (s_iadd dL_law_1208) ?_
  refine And.intro (s_iaload dL_law_1209) ?_
  refine And.intro (s_callV (C := RX5) (T := TX5) (N := 16) rfl zf_X5_write zg_X5_write zl_738 ⟨rfl, rfl⟩ dL_law_1210) ?_
  refine And.intro (s_aload_n dL_law_1213 rfl) ?_
  refine And.intro (s_aload_n dL_law_1214 rfl) ?_
  refine And.intro (s_iload_n dL_law_1215 rfl) ?_
  refine And.intro (s_iconst dL_law_1216 (by decide)) ?_
  refine And.intro (s_iadd dL_law_1217) ?_
  refine And.intro (s_iaload dL_law_1218) ?_
  refine And.intro (s_aload_n dL_law_1219 rfl) ?_
  refine And.intro (s_iload_n dL_law_1220 rfl) ?_
  refine And.intro (s_iconst dL_law_1221 (by decide)) ?_
  refine And.intro (s_iadd dL_law_1222) ?_
  refine And.intro (s_iaload dL_law_1223) ?_
  refine And.intro (s_callV (C := RX6) (T := TX6) (N := 41) rfl zf_X6_write zg_X6_write zl_1241 ⟨rfl, rfl⟩ dL_law_1224) ?_
  refine And.intro (s_icmp_eq dL_law_1227 (by decide)) ?_
  refine And.intro (s_iconst dL_law_1230 (by decide)) ?_
  refine And.intro (s_zreturn rfl dL_law_1231) ?_
  refine And.intro (s_aload_n dL_law_1232 rfl) ?_
  refine And.intro (s_aload_n dL_law_1233 rfl) ?_
  refine And.intro (s_iload_n dL_law_1234 rfl) ?_
  refine And.intro (s_iconst dL_law_1235 (by decide)) ?_
  refine And.intro (s_iadd dL_law_1236) ?_
  refine And.intro (s_iaload dL_law_1237) ?_
  refine And.intro (s_callV (C := RX5) (T := TX5) (N := 16) rfl zf_X5_count zg_X5_count zl_742 ⟨rfl, rfl⟩ dL_law_1238) ?_
  refine And.intro (s_aload_n dL_law_1241 rfl) ?_
  refine And.intro (s_aload_n dL_law_1242 rfl) ?_
  refine And.intro (s_iload_n dL_law_1243 rfl) ?_
  refine And.intro (s_iconst dL_law_1244 (by decide)) ?_
  refine And.intro (s_iadd dL_law_1245) ?_
  refine And.intro (s_iaload dL_law_1246) ?_
  refine And.intro (s_callV (C := RX6) (T := TX6) (N := 41) rfl zf_X6_count zg_X6_count zl_1245 ⟨rfl, rfl⟩ dL_law_1247) ?_
  refine And.intro (s_icmp_eq dL_law_1250 (by decide)) ?_
  refine And.intro (s_iconst dL_law_1253 (by decide)) ?_
  refine And.intro (s_zreturn rfl dL_law_1254) ?_
  refine And.intro (s_aload_n dL_law_1255 rfl) ?_
  refine And.intro (s_callV (C := RX5) (T := TX5) (N := 16) rfl zf_X5_digest zg_X5_digest zl_746 ⟨rfl, rfl⟩ dL_law_1256) ?_
  refine And.intro (s_aload_n dL_law_1259 rfl) ?_
  refine And.intro (s_callV (C := RX6) (T := TX6) (N := 41) rfl zf_X6_digest zg_X6_digest zl_1253 ⟨rfl, rfl⟩ dL_law_1260) ?_
  refine And.intro (s_lcmp dL_law_1263) ?_
  refine And.intro (s_if_eq dL_law_1264 (by decide)) ?_
  refine And.intro (s_iconst dL_law_1267 (by decide)) ?_
  refine And.intro (s_zreturn rfl dL_law_1268) ?_
  refine And.intro (s_iinc dL_law_1269 (by decide)) ?_
  refine And.intro (s_gotob dL_law_1272 (by decide)) ?_
  refine And.intro (s_iconst dL_law_1275 (by decide)) ?_
  refine And.intro (s_zreturn rfl dL_law_1276) ?_
  exact trivial
