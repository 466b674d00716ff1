/-! the law: its words are among the tables' -/
set_option maxRecDepth 20000 in
theorem wsL_law_r1_in : ∀ w ∈ wsL_law_r1, w ∈ lw_tbl := by
  intro w hw
  have hp : wsL_law_r1 = ([54, 55, 45, 561, 562, 51, 56, 57, 58, 59, 60, 61, 62, 63, 46, 276, 112, 113, 47, 277, 278, 279, 140, 141] : List Nat).filterMap (fun i => lw_tbl[i]?) := by decide +kernel
  rw [hp] at hw
  obtain ⟨i, -, hi⟩ := List.mem_filterMap.mp hw
  exact List.mem_of_getElem? hi
set_option maxRecDepth 20000 in
theorem wsL_law_r2_in : ∀ w ∈ wsL_law_r2, w ∈ lw_tbl := by
  intro w hw
  have hp : wsL_law_r2 = ([48, 280, 281, 282, 203, 204, 49, 283, 65, 66, 67, 110, 75, 111, 77, 79, 82, 85, 88, 90, 115, 116, 117, 118] : List Nat).filterMap (fun i => lw_tbl[i]?) := by decide +kernel
  rw [hp] at hw
  obtain ⟨i, -, hi⟩ := List.mem_filterMap.mp hw
  exact List.mem_of_getElem? hi
set_option maxRecDepth 20000 in
theorem wsL_law_r3_in : ∀ w ∈ wsL_law_r3, w ∈ lw_tbl := by
  intro w hw
  have hp : wsL_law_r3 = ([122, 125, 142, 143, 144, 145, 149, 151, 152, 153, 155, 156, 157, 159, 160, 146, 147, 148, 205, 206, 207, 208, 209, 219] : List Nat).filterMap (fun i => lw_tbl[i]?) := by decide +kernel
  rw [hp] at hw
  obtain ⟨i, -, hi⟩ := List.mem_filterMap.mp hw
  exact List.mem_of_getElem? hi
set_option maxRecDepth 20000 in
theorem wsL_law_r4_in : ∀ w ∈ wsL_law_r4, w ∈ lw_tbl := by
  intro w hw
  have hp : wsL_law_r4 = ([221, 217, 218, 211, 220, 212, 213, 214, 215, 216, 225, 223, 241, 243, 0, 244, 245, 246, 247, 248, 68, 72, 249, 250] : List Nat).filterMap (fun i => lw_tbl[i]?) := by decide +kernel
  rw [hp] at hw
  obtain ⟨i, -, hi⟩ := List.mem_filterMap.mp hw
  exact List.mem_of_getElem? hi
set_option maxRecDepth 20000 in
theorem wsL_law_r5_in : ∀ w ∈ wsL_law_r5, w ∈ lw_tbl := by
  intro w hw
  have hp : wsL_law_r5 = ([251, 252, 128, 253, 254, 255, 256, 257, 259, 1, 260, 261, 262, 263, 264, 265, 266, 267, 268, 269, 270, 271, 158, 161] : List Nat).filterMap (fun i => lw_tbl[i]?) := by decide +kernel
  rw [hp] at hw
  obtain ⟨i, -, hi⟩ := List.mem_filterMap.mp hw
  exact List.mem_of_getElem? hi
set_option maxRecDepth 20000 in
theorem wsL_law_r6_in : ∀ w ∈ wsL_law_r6, w ∈ lw_tbl := by
  intro w hw
  have hp : wsL_law_r6 = ([163, 166, 272, 273, 50, 274, 275, 563, 564, 565, 566, 567, 569, 570, 571, 572, 573, 574, 575, 576, 577, 578, 579, 580] : List Nat).filterMap (fun i => lw_tbl[i]?) := by decide +kernel
  rw [hp] at hw
  obtain ⟨i, -, hi⟩ := List.mem_filterMap.mp hw
  exact List.mem_of_getElem? hi
set_option maxRecDepth 20000 in
theorem wsL_law_r7_in : ∀ w ∈ wsL_law_r7, w ∈ lw_tbl := by
  intro w hw
  have hp : wsL_law_r7 = ([581, 582, 583, 584, 585, 588, 589, 590, 591, 592, 593, 594, 595, 596, 597, 603, 604, 608, 301, 302, 303, 304, 305, 306] : List Nat).filterMap (fun i => lw_tbl[i]?) := by decide +kernel
  rw [hp] at hw
  obtain ⟨i, -, hi⟩ := List.mem_filterMap.mp hw
  exact List.mem_of_getElem? hi
set_option maxRecDepth 20000 in
theorem wsL_law_r8_in : ∀ w ∈ wsL_law_r8, w ∈ lw_tbl := by
  intro w hw
  have hp : wsL_law_r8 = ([307, 694, 695, 696, 697, 568, 605, 698, 699, 700, 701, 703, 22, 704, 308, 309, 310, 311, 312, 313, 314, 315, 316, 705] : List Nat).filterMap (fun i => lw_tbl[i]?) := by decide +kernel
  rw [hp] at hw
  obtain ⟨i, -, hi⟩ := List.mem_filterMap.mp hw
  exact List.mem_of_getElem? hi
set_option maxRecDepth 20000 in
theorem wsL_law_r9_in : ∀ w ∈ wsL_law_r9, w ∈ lw_tbl := by
  intro w hw
  have hp : wsL_law_r9 = ([706, 707, 708, 709, 711, 23, 712, 317, 318, 319, 320, 129, 713, 714, 715, 716, 321, 322, 323, 324, 73, 325, 326, 327] : List Nat).filterMap (fun i => lw_tbl[i]?) := by decide +kernel
  rw [hp] at hw
  obtain ⟨i, -, hi⟩ := List.mem_filterMap.mp hw
  exact List.mem_of_getElem? hi
set_option maxRecDepth 20000 in
theorem wsL_law_r10_in : ∀ w ∈ wsL_law_r10, w ∈ lw_tbl := by
  intro w hw
  have hp : wsL_law_r10 = ([328, 329, 330, 331, 332, 333, 335, 2, 336, 717, 718, 719, 720, 337, 338, 339, 340, 341, 342, 343, 344, 345, 721, 722] : List Nat).filterMap (fun i => lw_tbl[i]?) := by decide +kernel
  rw [hp] at hw
  obtain ⟨i, -, hi⟩ := List.mem_filterMap.mp hw
  exact List.mem_of_getElem? hi
set_option maxRecDepth 20000 in
theorem wsL_law_r11_in : ∀ w ∈ wsL_law_r11, w ∈ lw_tbl := by
  intro w hw
  have hp : wsL_law_r11 = ([723, 724, 725, 727, 24, 728, 346, 347, 348, 349, 80, 729, 730, 731, 732, 350, 351, 352, 353, 83, 86, 733, 734, 735] : List Nat).filterMap (fun i => lw_tbl[i]?) := by decide +kernel
  rw [hp] at hw
  obtain ⟨i, -, hi⟩ := List.mem_filterMap.mp hw
  exact List.mem_of_getElem? hi
set_option maxRecDepth 20000 in
theorem wsL_law_r12_in : ∀ w ∈ wsL_law_r12, w ∈ lw_tbl := by
  intro w hw
  have hp : wsL_law_r12 = ([736, 354, 355, 356, 357, 120, 123, 126, 358, 360, 3, 361, 737, 738, 739, 740, 362, 363, 364, 365, 154, 366, 368, 4] : List Nat).filterMap (fun i => lw_tbl[i]?) := by decide +kernel
  rw [hp] at hw
  obtain ⟨i, -, hi⟩ := List.mem_filterMap.mp hw
  exact List.mem_of_getElem? hi
set_option maxRecDepth 20000 in
theorem wsL_law_r13_in : ∀ w ∈ wsL_law_r13, w ∈ lw_tbl := by
  intro w hw
  have hp : wsL_law_r13 = ([369, 370, 371, 372, 373, 374, 375, 377, 5, 378, 71, 124, 121, 127, 416, 418, 417, 52, 165, 379, 381, 6, 382, 74] : List Nat).filterMap (fun i => lw_tbl[i]?) := by decide +kernel
  rw [hp] at hw
  obtain ⟨i, -, hi⟩ := List.mem_filterMap.mp hw
  exact List.mem_of_getElem? hi
set_option maxRecDepth 20000 in
theorem wsL_law_r14_in : ∀ w ∈ wsL_law_r14, w ∈ lw_tbl := by
  intro w hw
  have hp : wsL_law_r14 = ([76, 383, 385, 7, 386, 89, 387, 389, 8, 390, 78, 391, 393, 9, 394, 81, 395, 396, 398, 10, 399, 400, 402, 11] : List Nat).filterMap (fun i => lw_tbl[i]?) := by decide +kernel
  rw [hp] at hw
  obtain ⟨i, -, hi⟩ := List.mem_filterMap.mp hw
  exact List.mem_of_getElem? hi
set_option maxRecDepth 20000 in
theorem wsL_law_r15_in : ∀ w ∈ wsL_law_r15, w ∈ lw_tbl := by
  intro w hw
  have hp : wsL_law_r15 = ([403, 404, 406, 12, 407, 408, 409, 410, 411, 412, 414, 13, 415, 419, 421, 14, 422, 423, 424, 426, 15, 427, 130, 428] : List Nat).filterMap (fun i => lw_tbl[i]?) := by decide +kernel
  rw [hp] at hw
  obtain ⟨i, -, hi⟩ := List.mem_filterMap.mp hw
  exact List.mem_of_getElem? hi
set_option maxRecDepth 20000 in
theorem wsL_law_r16_in : ∀ w ∈ wsL_law_r16, w ∈ lw_tbl := by
  intro w hw
  have hp : wsL_law_r16 = ([429, 53, 430, 431, 433, 16, 434, 84, 87, 435, 436, 437, 438, 439, 441, 17, 442, 443, 444, 445, 446, 447, 449, 18] : List Nat).filterMap (fun i => lw_tbl[i]?) := by decide +kernel
  rw [hp] at hw
  obtain ⟨i, -, hi⟩ := List.mem_filterMap.mp hw
  exact List.mem_of_getElem? hi
set_option maxRecDepth 20000 in
theorem wsL_law_r17_in : ∀ w ∈ wsL_law_r17, w ∈ lw_tbl := by
  intro w hw
  have hp : wsL_law_r17 = ([450, 451, 452, 453, 454, 455, 456, 457, 458, 741, 742, 743, 744, 752, 745, 747, 25, 748, 586, 587, 749, 750, 751, 753] : List Nat).filterMap (fun i => lw_tbl[i]?) := by decide +kernel
  rw [hp] at hw
  obtain ⟨i, -, hi⟩ := List.mem_filterMap.mp hw
  exact List.mem_of_getElem? hi
set_option maxRecDepth 20000 in
theorem wsL_law_r18_in : ∀ w ∈ wsL_law_r18, w ∈ lw_tbl := by
  intro w hw
  have hp : wsL_law_r18 = ([755, 26, 756, 599, 601, 757, 759, 27, 760, 598, 600, 761, 763, 28, 764, 765, 767, 29, 768, 602, 769, 771, 30, 772] : List Nat).filterMap (fun i => lw_tbl[i]?) := by decide +kernel
  rw [hp] at hw
  obtain ⟨i, -, hi⟩ := List.mem_filterMap.mp hw
  exact List.mem_of_getElem? hi
set_option maxRecDepth 20000 in
theorem wsL_law_r19_in : ∀ w ∈ wsL_law_r19, w ∈ lw_tbl := by
  intro w hw
  have hp : wsL_law_r19 = ([773, 775, 31, 776, 777, 779, 32, 780, 781, 783, 33, 784, 785, 787, 34, 788, 789, 791, 35, 792, 793, 795, 36, 796] : List Nat).filterMap (fun i => lw_tbl[i]?) := by decide +kernel
  rw [hp] at hw
  obtain ⟨i, -, hi⟩ := List.mem_filterMap.mp hw
  exact List.mem_of_getElem? hi
set_option maxRecDepth 20000 in
theorem wsL_law_r20_in : ∀ w ∈ wsL_law_r20, w ∈ lw_tbl := by
  intro w hw
  have hp : wsL_law_r20 = ([797, 799, 37, 800, 801, 803, 38, 804, 805, 807, 39, 808, 459, 460, 461, 462, 150, 809, 810, 811, 812, 463, 464, 465] : List Nat).filterMap (fun i => lw_tbl[i]?) := by decide +kernel
  rw [hp] at hw
  obtain ⟨i, -, hi⟩ := List.mem_filterMap.mp hw
  exact List.mem_of_getElem? hi
set_option maxRecDepth 20000 in
theorem wsL_law_r21_in : ∀ w ∈ wsL_law_r21, w ∈ lw_tbl := by
  intro w hw
  have hp : wsL_law_r21 = ([466, 467, 813, 814, 815, 816, 468, 469, 470, 471, 472, 473, 474, 475, 476, 477, 478, 479, 480, 481, 482, 483, 484, 817] : List Nat).filterMap (fun i => lw_tbl[i]?) := by decide +kernel
  rw [hp] at hw
  obtain ⟨i, -, hi⟩ := List.mem_filterMap.mp hw
  exact List.mem_of_getElem? hi
set_option maxRecDepth 20000 in
theorem wsL_law_r22_in : ∀ w ∈ wsL_law_r22, w ∈ lw_tbl := by
  intro w hw
  have hp : wsL_law_r22 = ([818, 819, 820, 485, 486, 487, 488, 162, 164, 489, 490, 491, 492, 493, 494, 495, 496, 497, 821, 822, 823, 824, 825, 827] : List Nat).filterMap (fun i => lw_tbl[i]?) := by decide +kernel
  rw [hp] at hw
  obtain ⟨i, -, hi⟩ := List.mem_filterMap.mp hw
  exact List.mem_of_getElem? hi
set_option maxRecDepth 20000 in
theorem wsL_law_r23_in : ∀ w ∈ wsL_law_r23, w ∈ lw_tbl := by
  intro w hw
  have hp : wsL_law_r23 = ([40, 828, 829, 831, 41, 832, 498, 499, 500, 501, 167, 502, 503, 504, 505, 833, 834, 835, 836, 506, 507, 508, 509, 510] : List Nat).filterMap (fun i => lw_tbl[i]?) := by decide +kernel
  rw [hp] at hw
  obtain ⟨i, -, hi⟩ := List.mem_filterMap.mp hw
  exact List.mem_of_getElem? hi
set_option maxRecDepth 20000 in
theorem wsL_law_r24_in : ∀ w ∈ wsL_law_r24, w ∈ lw_tbl := by
  intro w hw
  have hp : wsL_law_r24 = ([511, 512, 513, 514, 516, 19, 517, 837, 838, 839, 840, 518, 519, 520, 521, 224, 522, 523, 524, 525, 119, 539, 526, 527] : List Nat).filterMap (fun i => lw_tbl[i]?) := by decide +kernel
  rw [hp] at hw
  obtain ⟨i, -, hi⟩ := List.mem_filterMap.mp hw
  exact List.mem_of_getElem? hi
set_option maxRecDepth 20000 in
theorem wsL_law_r25_in : ∀ w ∈ wsL_law_r25, w ∈ lw_tbl := by
  intro w hw
  have hp : wsL_law_r25 = ([528, 530, 20, 531, 69, 532, 533, 534, 535, 536, 537, 538, 540, 542, 21, 543, 841, 842, 843, 844, 607, 845, 847, 42] : List Nat).filterMap (fun i => lw_tbl[i]?) := by decide +kernel
  rw [hp] at hw
  obtain ⟨i, -, hi⟩ := List.mem_filterMap.mp hw
  exact List.mem_of_getElem? hi
set_option maxRecDepth 20000 in
theorem wsL_law_r26_in : ∀ w ∈ wsL_law_r26, w ∈ lw_tbl := by
  intro w hw
  have hp : wsL_law_r26 = ([848, 606, 544, 545, 546, 547, 222, 849, 850, 851, 852, 853, 548, 549, 550, 551, 552, 553, 554, 555, 556, 854, 855, 856] : List Nat).filterMap (fun i => lw_tbl[i]?) := by decide +kernel
  rw [hp] at hw
  obtain ⟨i, -, hi⟩ := List.mem_filterMap.mp hw
  exact List.mem_of_getElem? hi
set_option maxRecDepth 20000 in
theorem wsL_law_r27_in : ∀ w ∈ wsL_law_r27, w ∈ lw_tbl := by
  intro w hw
  have hp : wsL_law_r27 = ([857, 858, 859, 861, 43, 862, 557, 558, 559, 560, 70, 863, 864, 865, 866] : List Nat).filterMap (fun i => lw_tbl[i]?) := by decide +kernel
  rw [hp] at hw
  obtain ⟨i, -, hi⟩ := List.mem_filterMap.mp hw
  exact List.mem_of_getElem? hi
set_option maxRecDepth 20000 in
theorem wsX40_in : ∀ w ∈ wsX40, w ∈ lw_tbl := by
  intro w hw
  have hp : wsX40 = ([284, 286, 288, 290, 292, 294, 296, 298] : List Nat).filterMap (fun i => lw_tbl[i]?) := by decide +kernel
  rw [hp] at hw
  obtain ⟨i, -, hi⟩ := List.mem_filterMap.mp hw
  exact List.mem_of_getElem? hi
set_option maxRecDepth 20000 in
theorem wsX50_in : ∀ w ∈ wsX50, w ∈ lw_tbl := by
  intro w hw
  have hp : wsX50 = ([609, 611, 613, 615, 617, 619, 621, 623, 625, 627, 629, 631, 633, 635, 637, 639, 641, 643, 645, 647, 649, 651, 653, 655, 657, 659, 661, 663, 665, 667, 669, 671, 673, 675, 677, 679, 681, 683, 685, 687, 689, 691] : List Nat).filterMap (fun i => lw_tbl[i]?) := by decide +kernel
  rw [hp] at hw
  obtain ⟨i, -, hi⟩ := List.mem_filterMap.mp hw
  exact List.mem_of_getElem? hi
set_option maxRecDepth 20000 in
theorem wsX00_in : ∀ w ∈ wsX00, w ∈ lw_tbl := by
  intro w hw
  have hp : wsX00 = ([91, 93, 95, 97, 99, 101, 103, 105, 107] : List Nat).filterMap (fun i => lw_tbl[i]?) := by decide +kernel
  rw [hp] at hw
  obtain ⟨i, -, hi⟩ := List.mem_filterMap.mp hw
  exact List.mem_of_getElem? hi
set_option maxRecDepth 20000 in
theorem wsX10_in : ∀ w ∈ wsX10, w ∈ lw_tbl := by
  intro w hw
  have hp : wsX10 = ([131, 133, 135, 137] : List Nat).filterMap (fun i => lw_tbl[i]?) := by decide +kernel
  rw [hp] at hw
  obtain ⟨i, -, hi⟩ := List.mem_filterMap.mp hw
  exact List.mem_of_getElem? hi
set_option maxRecDepth 20000 in
theorem wsX20_in : ∀ w ∈ wsX20, w ∈ lw_tbl := by
  intro w hw
  have hp : wsX20 = ([168, 170, 172, 174, 176, 178, 180, 182, 184, 186, 188, 190, 192, 194, 196, 198, 200] : List Nat).filterMap (fun i => lw_tbl[i]?) := by decide +kernel
  rw [hp] at hw
  obtain ⟨i, -, hi⟩ := List.mem_filterMap.mp hw
  exact List.mem_of_getElem? hi
set_option maxRecDepth 20000 in
theorem wsX30_in : ∀ w ∈ wsX30, w ∈ lw_tbl := by
  intro w hw
  have hp : wsX30 = ([226, 228, 230, 232, 234, 236, 238] : List Nat).filterMap (fun i => lw_tbl[i]?) := by decide +kernel
  rw [hp] at hw
  obtain ⟨i, -, hi⟩ := List.mem_filterMap.mp hw
  exact List.mem_of_getElem? hi
def wsL_law : List Cond := (wsL_law_r1 ++ (wsL_law_r2 ++ (wsL_law_r3 ++ (wsL_law_r4 ++ (wsL_law_r5 ++ (wsL_law_r6 ++ (wsL_law_r7 ++ (wsL_law_r8 ++ (wsL_law_r9 ++ (wsL_law_r10 ++ (wsL_law_r11 ++ (wsL_law_r12 ++ (wsL_law_r13 ++ (wsL_law_r14 ++ (wsL_law_r15 ++ (wsL_law_r16 ++ (wsL_law_r17 ++ (wsL_law_r18 ++ (wsL_law_r19 ++ (wsL_law_r20 ++ (wsL_law_r21 ++ (wsL_law_r22 ++ (wsL_law_r23 ++ (wsL_law_r24 ++ (wsL_law_r25 ++ (wsL_law_r26 ++ (wsL_law_r27))))))))))))))))))))))))))) ++ wsX40 ++ wsX50 ++ wsX00 ++ wsX10 ++ wsX20 ++ wsX30 ++ ([] : List Cond)
theorem ap_in {a b t : List Cond} (ha : ∀ w ∈ a, w ∈ t) (hb : ∀ w ∈ b, w ∈ t) : ∀ w ∈ a ++ b, w ∈ t := fun w h => (List.mem_append.mp h).elim (ha w) (hb w)
theorem wsL_law_in : ∀ w ∈ wsL_law, w ∈ lw_tbl := ap_in (ap_in (ap_in (ap_in (ap_in (ap_in (ap_in (ap_in wsL_law_r1_in (ap_in wsL_law_r2_in (ap_in wsL_law_r3_in (ap_in wsL_law_r4_in (ap_in wsL_law_r5_in (ap_in wsL_law_r6_in (ap_in wsL_law_r7_in (ap_in wsL_law_r8_in (ap_in wsL_law_r9_in (ap_in wsL_law_r10_in (ap_in wsL_law_r11_in (ap_in wsL_law_r12_in (ap_in wsL_law_r13_in (ap_in wsL_law_r14_in (ap_in wsL_law_r15_in (ap_in wsL_law_r16_in (ap_in wsL_law_r17_in (ap_in wsL_law_r18_in (ap_in wsL_law_r19_in (ap_in wsL_law_r20_in (ap_in wsL_law_r21_in (ap_in wsL_law_r22_in (ap_in wsL_law_r23_in (ap_in wsL_law_r24_in (ap_in wsL_law_r25_in (ap_in wsL_law_r26_in wsL_law_r27_in)))))))))))))))))))))))))) wsX40_in) wsX50_in) wsX00_in) wsX10_in) wsX20_in) wsX30_in) (fun _ h => absurd h List.not_mem_nil)
