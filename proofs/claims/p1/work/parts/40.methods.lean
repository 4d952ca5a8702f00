/-! the methods: names, bytes, the pcs of their instructions (by wip/whole/gen/code.py) -/
/-- LogicalTimesLaw.law([I)Z -/
def xY0 : xe_Y := (x, code, maxLocals, ret, [], [0, 3, 4, 7, 8, 11, 12, 15, 16, 17, 19, 20, 21, 23, 25, 26, 27, 29, 30, 33, 34, 36, 37, 39, 40, 120, 121, 122, 124, 125, 126, 127, 128, 130, 131, 132, 133, 134, 136, 137, 138, 139, 140, 142, 143, 144, 145, 146, 148, 149, 150, 151, 154, 155, 156, 158, 159, 160, 161, 162, 164, 165, 166, 167, 168, 170, 171, 172, 173, 174, 176, 177, 178, 179, 180, 182, 183, 184, 185, 188, 191, 192, 193, 194, 195, 197, 198, 199, 200, 203, 204, 205, 207, 208, 209, 210, 213, 216, 217, 218, 219, 222, 223, 226, 229, 230, 231, 232, 233, 235, 236, 237, 238, 241, 242, 243, 245, 246, 247, 248, 251, 254, 255, 256, 257, 258, 260, 261, 262, 263, 264, 266, 267, 268, 269, 270, 273, 275, 276, 277, 279, 280, 281, 282, 283, 285, 286, 287, 288, 291, 293, 294, 297, 299, 302, 303, 304, 306, 309, 310, 311, 312, 314, 315, 316, 319, 320, 321, 324, 325, 326, 328, 329, 330, 331, 332, 335, 337, 338, 339, 341, 342, 343, 344, 347, 349, 350, 353, 355, 358, 359, 360, 362, 365, 366, 367, 368, 370, 371, 372, 375, 376, 377, 380, 381, 382, 384, 385, 386, 387, 388, 391, 393, 394, 395, 397, 398, 399, 400, 403, 405, 406, 409, 411, 414, 415, 416, 418, 421, 422, 423, 424, 426, 427, 428, 431, 432, 433, 436, 437, 438, 440, 441, 442, 443, 444, 446, 447, 448, 449, 450, 453, 455, 456, 457, 459, 460, 461, 462, 463, 465, 466, 467, 468, 471, 473, 474, 477, 479, 482, 483, 484, 486, 489, 490, 491, 492, 494, 495, 496, 499, 500, 501, 504, 505, 506, 508, 509, 510, 511, 514, 516, 517, 518, 520, 521, 522, 523, 526, 527, 530, 532, 535, 536, 537, 540, 541, 542, 544, 545, 546, 547, 548, 550, 551, 552, 553, 556, 558, 559, 560, 562, 563, 564, 565, 566, 568, 569, 570, 571, 574, 575, 578, 580, 583, 584, 585, 588, 589, 590, 592, 593, 594, 595, 596, 598, 599, 600, 601, 604, 606, 607, 608, 610, 611, 612, 613, 614, 616, 617, 618, 619, 622, 623, 626, 628, 631, 632, 633, 636, 637, 638, 640, 641, 642, 643, 646, 648, 649, 650, 652, 653, 654, 655, 658, 659, 662, 664, 667, 668, 669, 672, 673, 674, 676, 677, 678, 679, 680, 682, 683, 684, 685, 686, 689, 691, 692, 693, 695, 696, 697, 698, 699, 701, 702, 703, 704, 707, 709, 710, 713, 715, 718, 719, 720, 722, 725, 726, 727, 728, 730, 731, 732, 735, 736, 737, 740, 741, 742, 744, 745, 746, 747, 748, 751, 753, 754, 755, 757, 758, 759, 760, 763, 765, 766, 769, 771, 774, 775, 776, 778, 781, 782, 783, 784, 786, 787, 788, 791, 792, 793, 796, 797, 798, 800, 801, 802, 803, 804, 807, 809, 810, 811, 813, 814, 815, 816, 819, 821, 822, 825, 827, 830, 831, 832, 834, 837, 838, 839, 840, 842, 843, 844, 847, 848, 849, 852, 853, 854, 856, 857, 858, 859, 860, 863, 865, 866, 867, 869, 870, 871, 872, 875, 877, 878, 881, 883, 886, 887, 888, 890, 893, 894, 895, 896, 898, 899, 900, 903, 904, 905, 908, 911, 914, 915])
/-- LogicalTimes.<init>()V -/
def xY1 : xe_Y := (⟨"LogicalTimes", "<init>", "()V"⟩, prog_1_method_1_code, 1, none, [], [0, 1, 4, 5, 8, 10, 13, 14, 17, 19, 22, 23, 26, 27, 30, 33, 34, 37, 38, 41, 44, 45, 48, 49, 50, 53, 54, 57, 60, 63, 64, 67, 68, 69, 72, 75, 78])
/-- LogicalTimes$Tokens.<init>()V -/
def xY2 : xe_Y := (⟨"LogicalTimes$Tokens", "<init>", "()V"⟩, prog_12_method_1_code, 1, none, [], [0, 1, 4, 5, 8, 11, 14, 15, 18, 20, 23, 24, 27, 29, 32])
/-- LogicalTimes$Program.<init>()V -/
def xY3 : xe_Y := (⟨"LogicalTimes$Program", "<init>", "()V"⟩, prog_7_method_1_code, 2, none, [], [0, 1, 4, 5, 8, 9, 12, 15, 16, 18, 20, 23, 24, 25, 28, 31, 32, 34, 37, 40, 41, 42, 43, 44, 47, 48, 51, 52, 55, 56, 59, 60, 61, 64, 65, 68, 71, 72, 73, 74, 75, 78, 79, 82, 83, 86, 87, 90, 91, 92, 95, 96, 99, 102])
/-- LogicalTimes$Code.<init>()V -/
def xY4 : xe_Y := (⟨"LogicalTimes$Code", "<init>", "()V"⟩, prog_2_method_1_code, 1, none, [], [0, 1, 4, 5, 8, 10, 13, 14, 17, 19, 22, 23, 25, 27, 30, 31, 32, 34, 37, 38, 40, 42, 45])
/-- LogicalTimes$Mode.<init>(I)V -/
def xY5 : xe_Y := (⟨"LogicalTimes$Mode", "<init>", "(I)V"⟩, prog_5_method_1_code, 3, none, [], [0, 1, 4, 5, 7, 10, 13, 14, 15, 18, 21, 22, 24, 26, 29, 30, 32, 35, 38, 39, 41, 43, 46, 47, 50, 52, 55, 56, 57, 60, 61, 62, 63, 64, 67, 68, 71, 72, 75, 76, 79, 80, 83, 84, 87, 90])
/-- LogicalTimes$Exit.<init>()V -/
def xY6 : xe_Y := (⟨"LogicalTimes$Exit", "<init>", "()V"⟩, prog_3_method_1_code, 1, none, [], [0, 1, 4])
/-- LogicalTimes$Task.<init>(I)V -/
def xY7 : xe_Y := (⟨"LogicalTimes$Task", "<init>", "(I)V"⟩, prog_11_method_1_code, 2, none, [], [0, 1, 4, 5, 7, 9, 12, 13, 16, 17, 20, 23, 24, 25, 28])
/-- LogicalTimes$Run.<init>()V -/
def xY8 : xe_Y := (⟨"LogicalTimes$Run", "<init>", "()V"⟩, prog_9_method_1_code, 1, none, [], [0, 1, 4, 5, 7, 9, 12, 13, 15, 17, 20])
/-- LogicalTimes$Reader.<init>(LLogicalTimes$Tokens;LLogicalTimes$Program;)V -/
def xY9 : xe_Y := (⟨"LogicalTimes$Reader", "<init>", "(LLogicalTimes$Tokens;LLogicalTimes$Program;)V"⟩, prog_8_method_1_code, 3, none, [], [0, 1, 4, 5, 8, 9, 11, 14, 17, 18, 21, 22, 23, 26, 29, 30, 33, 34, 36, 39, 42, 43, 44, 47, 48, 49, 52, 53, 54, 57, 60])
/-- LogicalTimes$Names.<init>(I)V -/
def xY10 : xe_Y := (⟨"LogicalTimes$Names", "<init>", "(I)V"⟩, prog_6_method_1_code, 2, none, [], [0, 1, 4, 5, 6, 8, 11, 12, 13, 15, 18, 19, 20, 22, 25])
/-- LogicalTimes$Runner.<init>(LLogicalTimes$Program;)V -/
def xY11 : xe_Y := (⟨"LogicalTimes$Runner", "<init>", "(LLogicalTimes$Program;)V"⟩, prog_10_method_1_code, 2, none, [], [0, 1, 4, 5, 7, 9, 12, 13, 14, 16, 20, 23, 24, 25, 27, 30, 31, 32, 34, 37, 38, 39, 42])
/-- LogicalTimes.feed(IIIII)Z -/
def xY12 : xe_Y := (⟨"LogicalTimes", "feed", "(IIIII)Z"⟩, prog_1_method_2_code, 6, (Option.some Jvm.ClassFile.FieldType.boolean), [], [0, 1, 4, 6, 7, 10, 13, 14, 15, 16, 17, 20, 21, 22, 25, 26, 27, 30, 31, 33, 36, 37, 39, 42, 43])
/-- LogicalTimes.putBytes(I)V -/
def xY13 : xe_Y := (⟨"LogicalTimes", "putBytes", "(I)V"⟩, prog_1_method_3_code, 3, none, [], [0, 2, 3, 4, 7, 8, 11, 12, 15, 16, 17, 18, 19, 20, 21, 22, 25, 26, 27, 30, 33, 36])
/-- LogicalTimes.end(I)Z -/
def xY14 : xe_Y := (⟨"LogicalTimes", "end", "(I)Z"⟩, prog_1_method_4_code, 2, (Option.some Jvm.ClassFile.FieldType.boolean), [], [0, 1, 4, 5, 6, 9, 12, 13, 14, 15, 18, 19, 20, 23, 24, 25, 28, 29, 30, 33, 34, 35, 38, 39])
/-- LogicalTimes.compile()I -/
def xY15 : xe_Y := (⟨"LogicalTimes", "compile", "()I"⟩, prog_1_method_5_code, 2, (Option.some Jvm.ClassFile.FieldType.int), [(28, 35, 38, 76)], [0, 1, 4, 5, 8, 9, 12, 13, 16, 17, 20, 23, 24, 25, 28, 29, 32, 35, 38, 39, 40, 43, 46, 47, 48, 51, 54, 55, 56, 57, 60, 63, 64])
/-- LogicalTimes$Tokens.split([BI)V -/
def xY16 : xe_Y := (⟨"LogicalTimes$Tokens", "split", "([BI)V"⟩, prog_12_method_2_code, 5, none, [], [0, 1, 2, 5, 6, 7, 10, 11, 12, 13, 15, 17, 18, 21, 22, 23, 24, 25, 26, 29, 30, 33, 34, 35, 38, 39, 42, 43, 44, 45, 48, 51, 52, 55, 56, 59, 60, 61, 62, 65, 68, 69, 72, 75])
/-- LogicalTimes$Tokens.pastBlanks([BII)I -/
def xY17 : xe_Y := (⟨"LogicalTimes$Tokens", "pastBlanks", "([BII)I"⟩, prog_12_method_3_code, 4, (Option.some Jvm.ClassFile.FieldType.int), [], [0, 1, 2, 3, 4, 7, 8, 9, 10, 12, 15, 16, 17, 18, 20, 23, 24, 25, 26, 28, 31, 32, 33, 34, 36, 39, 42, 45, 46])
/-- LogicalTimes$Tokens.splitNext([BII)I -/
def xY18 : xe_Y := (⟨"LogicalTimes$Tokens", "splitNext", "([BII)I"⟩, prog_12_method_4_code, 4, (Option.some Jvm.ClassFile.FieldType.int), [], [0, 1, 2, 5, 6, 9, 10, 11, 14, 15, 16, 17, 18, 19, 22, 25, 26, 27, 30, 33, 34, 35, 36, 37, 40, 41, 42, 43, 44, 47, 50, 51, 52, 53, 54, 57, 58, 59, 60, 61, 62, 63, 64, 67, 70, 71, 72, 75, 76, 77, 78])
/-- LogicalTimes$Tokens.put(LLogicalTimes$Kind;IJ)V -/
def xY19 : xe_Y := (⟨"LogicalTimes$Tokens", "put", "(LLogicalTimes$Kind;IJ)V"⟩, prog_12_method_7_code, 5, none, [], [0, 1, 4, 5, 8, 9, 10, 11, 14, 15, 18, 19, 20, 21, 24, 25, 28, 29, 30, 31, 32, 35, 36, 37, 40])
/-- LogicalTimes$Tokens.isLetter(I)Z -/
def xY20 : xe_Y := (⟨"LogicalTimes$Tokens", "isLetter", "(I)Z"⟩, prog_12_method_8_code, 1, (Option.some Jvm.ClassFile.FieldType.boolean), [], [0, 1, 3, 6, 7, 9, 12, 13, 15, 18, 19, 21, 24, 25, 28, 29])
/-- LogicalTimes$Tokens.splitName([BII)I -/
def xY21 : xe_Y := (⟨"LogicalTimes$Tokens", "splitName", "([BII)I"⟩, prog_12_method_5_code, 7, (Option.some Jvm.ClassFile.FieldType.int), [], [0, 1, 3, 4, 6, 8, 9, 12, 13, 15, 16, 19, 22, 23, 25, 26, 29, 32, 34, 36, 37, 38, 40, 41, 42, 43, 45, 48, 51, 52, 54, 55, 56, 58, 61, 64, 67, 68, 69, 71, 74, 77, 78, 80, 83, 85])
/-- LogicalTimes$Tokens.isDigit(I)Z -/
def xY22 : xe_Y := (⟨"LogicalTimes$Tokens", "isDigit", "(I)Z"⟩, prog_12_method_9_code, 1, (Option.some Jvm.ClassFile.FieldType.boolean), [], [0, 1, 3, 6, 7, 9, 12, 13, 16, 17])
/-- LogicalTimes$Kind.spelled([BIILLogicalTimes$Kind;)LLogicalTimes$Kind; -/
def xY23 : xe_Y := (⟨"LogicalTimes$Kind", "spelled", "([BIILLogicalTimes$Kind;)LLogicalTimes$Kind;"⟩, prog_4_method_5_code, 5, (Option.some (Jvm.ClassFile.FieldType.object "LogicalTimes$Kind")), [], [0, 1, 3, 5, 8, 9, 12, 15, 17, 18, 19, 20, 21, 24, 27, 30, 32, 33, 34, 37, 40, 41])
/-- LogicalTimes$Kind.stands([BII)Z -/
def xY24 : xe_Y := (⟨"LogicalTimes$Kind", "stands", "([BII)Z"⟩, prog_4_method_6_code, 5, (Option.some Jvm.ClassFile.FieldType.boolean), [], [0, 1, 4, 7, 8, 9, 10, 13, 14, 15, 16, 18, 20, 21, 24, 25, 28, 30, 31, 32, 35, 36, 38, 39, 42, 43, 44, 47, 50, 51])
/-- java/lang/String.length()I -/
def xY25 : xe_Y := (⟨"java/lang/String", "length", "()I"⟩, prog_22_method_54_code, 1, (Option.some Jvm.ClassFile.FieldType.int), [], [0, 1, 4, 5, 6, 9, 10])
/-- java/lang/String.coder()B -/
def xY26 : xe_Y := (⟨"java/lang/String", "coder", "()B"⟩, prog_22_method_152_code, 1, (Option.some Jvm.ClassFile.FieldType.byte), [], [0, 3, 6, 7, 10, 13, 14])
/-- java/lang/String.charAt(I)C -/
def xY27 : xe_Y := (⟨"java/lang/String", "charAt", "(I)C"⟩, prog_22_method_56_code, 2, (Option.some Jvm.ClassFile.FieldType.char), [], [0, 1, 4, 7, 8, 11, 12, 15, 16])
/-- java/lang/String.isLatin1()Z -/
def xY28 : xe_Y := (⟨"java/lang/String", "isLatin1", "()Z"⟩, prog_22_method_154_code, 1, (Option.some Jvm.ClassFile.FieldType.boolean), [], [0, 3, 6, 7, 10, 13, 14, 17, 18])
/-- java/lang/StringLatin1.charAt([BI)C -/
def xY29 : xe_Y := (⟨"java/lang/StringLatin1", "charAt", "([BI)C"⟩, prog_23_method_2_code, 2, (Option.some Jvm.ClassFile.FieldType.char), [], [0, 1, 2, 3, 6, 7, 8, 9, 12, 13, 14])
/-- java/lang/String.checkIndex(II)V -/
def xY30 : xe_Y := (⟨"java/lang/String", "checkIndex", "(II)V"⟩, prog_22_method_155_code, 2, none, [], [0, 1, 2, 5, 8, 9])
/-- jdk/internal/util/Preconditions.checkIndex(IILjava/util/function/BiFunction;)I -/
def xY31 : xe_Y := (⟨"jdk/internal/util/Preconditions", "checkIndex", "(IILjava/util/function/BiFunction;)I"⟩, prog_29_method_11_code, 3, (Option.some Jvm.ClassFile.FieldType.int), [], [0, 1, 4, 5, 6, 9, 16, 17])
/-- LogicalTimes$Tokens.splitNumber([BII)I -/
def xY32 : xe_Y := (⟨"LogicalTimes$Tokens", "splitNumber", "([BII)I"⟩, prog_12_method_6_code, 7, (Option.some Jvm.ClassFile.FieldType.int), [], [0, 1, 3, 4, 6, 8, 9, 12, 13, 15, 16, 19, 22, 24, 27, 28, 29, 31, 32, 34, 35, 36, 37, 39, 42, 45, 46, 48, 49, 50, 52, 55, 58, 61, 64, 65, 67, 70, 71, 73, 76, 78])
/-- LogicalTimes$Reader.readProgram()V -/
def xY33 : xe_Y := (⟨"LogicalTimes$Reader", "readProgram", "()V"⟩, prog_8_method_3_code, 2, none, [], [0, 1, 4, 7, 8, 11, 12, 15, 16, 19, 20, 23, 24, 27, 28, 31, 32, 33, 36, 37, 38, 41, 42, 43, 44, 46, 49, 50, 53, 56, 59, 60, 63, 66, 69, 70, 73, 76, 79, 80, 81, 82, 83, 86, 87, 90, 91, 94, 97, 100, 101, 104, 107, 110, 111, 114, 117, 120, 121, 124, 125, 128, 129, 132])
/-- LogicalTimes$Program.clear()V -/
def xY34 : xe_Y := (⟨"LogicalTimes$Program", "clear", "()V"⟩, prog_7_method_2_code, 1, none, [], [0, 1, 4, 5, 8, 9, 10, 13, 14, 15, 18, 19, 20, 23, 24, 25, 28])
/-- LogicalTimes$Reader.isAt(LLogicalTimes$Kind;)Z -/
def xY35 : xe_Y := (⟨"LogicalTimes$Reader", "isAt", "(LLogicalTimes$Kind;)Z"⟩, prog_8_method_19_code, 2, (Option.some Jvm.ClassFile.FieldType.boolean), [], [0, 1, 4, 7, 8, 11, 12, 13, 16, 17, 20, 21])
/-- LogicalTimes$Reader.readDeclaration()V -/
def xY36 : xe_Y := (⟨"LogicalTimes$Reader", "readDeclaration", "()V"⟩, prog_8_method_4_code, 2, none, [], [0, 1, 4, 7, 8, 9, 12, 13, 16, 19, 21, 24, 25, 28, 29, 32, 33, 36, 39, 40, 43, 44, 47, 48, 51, 52, 53, 56, 57, 58, 61, 62, 63, 66, 67, 70, 71, 74, 75, 76, 79, 80, 83, 86, 89, 90, 93, 96, 99, 100, 103, 104, 107, 110, 111, 114, 115, 116, 118, 121, 124, 127, 128, 131, 132, 135, 136, 137, 140, 141, 144, 147])
/-- LogicalTimes$Reader.refuse(Z)V -/
def xY37 : xe_Y := (⟨"LogicalTimes$Reader", "refuse", "(Z)V"⟩, prog_8_method_20_code, 1, none, [], [0, 1, 4, 7, 8, 11, 12])
/-- LogicalTimes$Reader.takeNewName(LLogicalTimes$Names;II)V -/
def xY38 : xe_Y := (⟨"LogicalTimes$Reader", "takeNewName", "(LLogicalTimes$Names;II)V"⟩, prog_8_method_22_code, 4, none, [], [0, 1, 4, 7, 10, 11, 12, 15, 18, 19, 22, 23, 26, 29, 30, 33, 34, 37, 38, 39, 42, 45, 46, 49, 50, 51, 52, 55, 56, 57, 60, 61, 62, 65])
/-- LogicalTimes$Names.find(J)I -/
def xY39 : xe_Y := (⟨"LogicalTimes$Names", "find", "(J)I"⟩, prog_6_method_2_code, 4, (Option.some Jvm.ClassFile.FieldType.int), [], [0, 1, 2, 3, 4, 7, 10, 11, 14, 15, 16, 17, 18, 21, 22, 23, 26, 29, 30])
/-- LogicalTimes$Names.add(JII)V -/
def xY40 : xe_Y := (⟨"LogicalTimes$Names", "add", "(JII)V"⟩, prog_6_method_3_code, 5, none, [], [0, 1, 4, 5, 8, 9, 12, 13, 16, 17, 20, 21, 22, 23, 26, 27, 30, 31, 32, 33, 36, 37, 40, 42, 43, 44, 45, 48, 49, 50, 53])
/-- LogicalTimes$Reader.take(LLogicalTimes$Kind;)V -/
def xY41 : xe_Y := (⟨"LogicalTimes$Reader", "take", "(LLogicalTimes$Kind;)V"⟩, prog_8_method_21_code, 2, none, [], [0, 1, 4, 7, 8, 11, 12, 13, 16, 19, 20, 23, 24, 25, 26, 29, 30, 31, 34])
/-- LogicalTimes$Reader.takeNumber(II)I -/
def xY42 : xe_Y := (⟨"LogicalTimes$Reader", "takeNumber", "(II)I"⟩, prog_8_method_23_code, 4, (Option.some Jvm.ClassFile.FieldType.int), [], [0, 1, 4, 7, 10, 11, 14, 17, 18, 21, 22, 23, 24, 25, 28, 29, 32, 35, 36, 39, 40, 41, 42, 43, 46, 47, 50, 51, 54, 55, 58, 61, 62, 65, 66, 67, 68, 69, 70, 73, 74, 75, 78, 79])
/-- LogicalTimes$Program.addPort(I)V -/
def xY43 : xe_Y := (⟨"LogicalTimes$Program", "addPort", "(I)V"⟩, prog_7_method_3_code, 2, none, [], [0, 1, 4, 5, 8, 9, 10, 11, 12, 15, 16, 17, 20])
/-- LogicalTimes$Reader.readMode()V -/
def xY44 : xe_Y := (⟨"LogicalTimes$Reader", "readMode", "()V"⟩, prog_8_method_5_code, 2, none, [], [0, 1, 4, 7, 8, 11, 12, 15, 16, 19, 20, 23, 26, 27, 28, 31, 32, 33, 36, 37, 38, 41, 42, 43, 45, 48, 51, 54, 55, 58, 61, 62, 63, 64, 66, 69, 70, 73, 76, 79, 80, 83, 86, 89, 90, 91, 92, 93, 96, 97, 100, 103, 106, 107, 110, 113, 116, 117, 120, 123, 126, 127, 130, 131, 134, 137])
/-- LogicalTimes$Program.addMode(I)LLogicalTimes$Mode; -/
def xY45 : xe_Y := (⟨"LogicalTimes$Program", "addMode", "(I)LLogicalTimes$Mode;"⟩, prog_7_method_4_code, 3, (Option.some (Jvm.ClassFile.FieldType.object "LogicalTimes$Mode")), [], [0, 1, 4, 5, 8, 9, 10, 11, 12, 15, 16, 17, 20, 21, 22, 25, 26])
/-- LogicalTimes$Mode.renew(I)V -/
def xY46 : xe_Y := (⟨"LogicalTimes$Mode", "renew", "(I)V"⟩, prog_5_method_2_code, 3, none, [], [0, 1, 2, 5, 6, 7, 10, 11, 12, 15, 16, 17, 20, 21, 22, 25, 26, 27, 28, 29, 32, 33, 36, 37, 40, 41, 42, 43, 46, 49])
/-- LogicalTimes$Reader.readTask()V -/
def xY47 : xe_Y := (⟨"LogicalTimes$Reader", "readTask", "()V"⟩, prog_8_method_6_code, 2, none, [], [0, 1, 4, 7, 9, 12, 13, 16, 17, 20, 21, 22, 25, 26, 27, 30, 31, 32, 35, 36, 37, 40, 41, 42, 45, 46, 47, 50, 53, 54, 55, 58, 59, 62, 63, 64, 65, 68, 69, 72, 75, 76, 79, 80, 81, 84, 85, 88, 89, 92, 95, 98, 99, 102, 103, 104, 107, 110, 111, 114, 115, 118, 121, 124, 125, 128, 129, 132, 135, 136, 139, 140, 143, 144, 147, 150, 151, 154])
/-- LogicalTimes$Reader.takePart(Z)I -/
def xY48 : xe_Y := (⟨"LogicalTimes$Reader", "takePart", "(Z)I"⟩, prog_8_method_24_code, 3, (Option.some Jvm.ClassFile.FieldType.int), [], [0, 1, 4, 7, 10, 11, 14, 17, 18, 21, 22, 23, 24, 27, 28, 31, 34, 35, 36, 39, 42, 43, 46, 47, 48, 49, 50, 53, 54, 57, 58, 61, 62, 65, 68, 69, 72, 75, 76, 79, 80, 81, 82, 83, 84, 87, 88, 91, 92, 95, 98, 99, 102, 103, 106, 107, 108, 111, 112, 113, 116, 117])
/-- LogicalTimes$Mode.spansGoInto(I)Z -/
def xY49 : xe_Y := (⟨"LogicalTimes$Mode", "spansGoInto", "(I)Z"⟩, prog_5_method_4_code, 3, (Option.some Jvm.ClassFile.FieldType.boolean), [], [0, 1, 2, 3, 4, 7, 10, 11, 12, 15, 16, 17, 20, 21, 24, 25, 26, 29, 32, 33])
/-- LogicalTimes$Program.addTask(LLogicalTimes$Mode;II)LLogicalTimes$Task; -/
def xY50 : xe_Y := (⟨"LogicalTimes$Program", "addTask", "(LLogicalTimes$Mode;II)LLogicalTimes$Task;"⟩, prog_7_method_5_code, 5, (Option.some (Jvm.ClassFile.FieldType.object "LogicalTimes$Task")), [], [0, 1, 4, 5, 8, 9, 11, 13, 14, 17, 18, 19, 22, 23, 24, 27, 28, 29, 32, 33, 36, 37, 40, 42, 43, 44, 45, 48, 49, 50, 53, 55])
/-- LogicalTimes$Task.renew(III)V -/
def xY51 : xe_Y := (⟨"LogicalTimes$Task", "renew", "(III)V"⟩, prog_11_method_2_code, 4, none, [], [0, 1, 2, 5, 6, 7, 10, 11, 12, 15, 16, 17, 20, 21, 22, 25, 26, 27, 30, 31, 32, 35])
/-- LogicalTimes$Reader.forgetLocals()V -/
def xY52 : xe_Y := (⟨"LogicalTimes$Reader", "forgetLocals", "()V"⟩, prog_8_method_7_code, 1, none, [], [0, 1, 4, 5, 8, 11, 12, 15, 18, 19, 22])
/-- LogicalTimes$Reader.readBlock(I)I -/
def xY53 : xe_Y := (⟨"LogicalTimes$Reader", "readBlock", "(I)I"⟩, prog_8_method_8_code, 4, (Option.some Jvm.ClassFile.FieldType.int), [], [0, 1, 2, 5, 6, 9, 10, 13, 14, 17, 20, 21, 22, 23, 24, 25, 28, 31, 32, 35, 38, 41, 42, 43, 44, 47, 48, 49, 52, 55, 56, 59, 60, 63, 66, 67, 70, 71, 74, 75, 78, 81, 82])
/-- LogicalTimes$Reader.readStatement(I)I -/
def xY54 : xe_Y := (⟨"LogicalTimes$Reader", "readStatement", "(I)I"⟩, prog_8_method_9_code, 2, (Option.some Jvm.ClassFile.FieldType.int), [], [0, 1, 4, 7, 10, 11, 14, 15, 18, 19, 20, 23, 24, 25, 28, 29, 30, 33, 34, 37, 40, 43, 44, 45, 48, 49, 50, 53, 56, 59, 60, 61, 64, 65, 66, 69, 70])
/-- LogicalTimes$Reader.readIf(I)I -/
def xY55 : xe_Y := (⟨"LogicalTimes$Reader", "readIf", "(I)I"⟩, prog_8_method_10_code, 5, (Option.some Jvm.ClassFile.FieldType.int), [], [0, 1, 2, 5, 6, 7, 10, 11, 12, 13, 16, 17, 20, 22, 23, 26, 27, 28, 29, 30, 31, 34, 35, 36, 39, 42, 45, 46, 47, 50, 51, 52, 55, 56, 59, 61, 62, 65, 67, 68, 71, 72, 75, 77, 78, 79, 80, 81, 82, 83, 86, 89, 90, 91, 94, 95, 98, 99, 100, 101])
/-- LogicalTimes$Reader.readLevel(II)V -/
def xY56 : xe_Y := (⟨"LogicalTimes$Reader", "readLevel", "(II)V"⟩, prog_8_method_13_code, 6, none, [], [0, 1, 2, 5, 6, 7, 10, 11, 12, 13, 14, 15, 16, 19, 20, 23, 24, 27, 29, 30, 31, 33, 35, 36, 39, 40, 43, 46, 47, 50, 51, 54, 55, 58, 59, 62, 65, 66, 69, 70, 73, 75, 76, 79, 80, 81, 82, 83, 84, 87, 88, 91, 93, 94, 97, 98, 101, 104])
/-- LogicalTimes$Reader.readOperand(I)V -/
def xY57 : xe_Y := (⟨"LogicalTimes$Reader", "readOperand", "(I)V"⟩, prog_8_method_14_code, 3, none, [], [0, 1, 4, 7, 10, 11, 14, 15, 16, 19, 22, 23, 26, 27, 28, 31, 32, 35, 36, 39, 42, 45, 46, 49, 50, 53, 56, 57, 60, 61, 64, 65, 66, 69, 70, 73, 76, 77, 78, 81, 82, 85, 86, 89, 90, 93, 94, 97, 100, 101, 102, 103, 106, 109, 110, 111, 114, 115, 116, 117, 120, 121, 124, 127, 128, 129, 130, 133, 134, 135, 138, 141, 142, 143, 144, 147, 148, 149, 152, 155, 156, 159, 162, 165, 166, 168, 171, 172, 175, 176, 179, 180, 183, 184, 185, 186, 187, 190, 191, 194, 195, 196, 199, 200, 201, 202, 205, 208, 211, 212, 214, 217, 218, 221, 222, 225, 226, 229, 230, 231, 232, 233, 234, 237, 238, 241, 244, 247, 248, 251, 252, 255, 256, 259])
/-- LogicalTimes$Code.add(II)I -/
def xY58 : xe_Y := (⟨"LogicalTimes$Code", "add", "(II)I"⟩, prog_2_method_2_code, 4, (Option.some Jvm.ClassFile.FieldType.int), [], [0, 1, 4, 5, 6, 7, 10, 11, 14, 15, 18, 19, 20, 21, 22, 25, 26, 27, 28, 29, 30, 33, 34, 35, 38, 39])
/-- LogicalTimes$Reader.takeInE()V -/
def xY59 : xe_Y := (⟨"LogicalTimes$Reader", "takeInE", "()V"⟩, prog_8_method_15_code, 1, none, [], [0, 1, 4, 6, 9, 12, 13, 16, 17, 18, 19, 22, 23, 24, 27, 28, 29, 32, 33, 34, 37])
/-- LogicalTimes$Code.aimHere(I)V -/
def xY60 : xe_Y := (⟨"LogicalTimes$Code", "aimHere", "(I)V"⟩, prog_2_method_3_code, 2, none, [], [0, 1, 2, 5, 6, 9, 10, 13, 14, 15, 18, 19])
/-- LogicalTimes$Reader.readRepeat(I)I -/
def xY61 : xe_Y := (⟨"LogicalTimes$Reader", "readRepeat", "(I)I"⟩, prog_8_method_11_code, 5, (Option.some Jvm.ClassFile.FieldType.int), [], [0, 1, 2, 5, 6, 7, 10, 11, 12, 14, 17, 18, 19, 22, 24, 25, 28, 29, 30, 33, 36, 37, 38, 39, 40, 41, 44, 46, 47, 50, 52, 53, 56, 57, 58, 59, 61, 62, 63])
/-- LogicalTimes$Reader.readAssignment()V -/
def xY62 : xe_Y := (⟨"LogicalTimes$Reader", "readAssignment", "()V"⟩, prog_8_method_12_code, 4, none, [], [0, 1, 4, 7, 10, 11, 14, 15, 18, 19, 22, 23, 26, 29, 30, 33, 34, 37, 38, 39, 42, 43, 46, 49, 51, 54, 55, 58, 59, 62, 63, 66, 69, 70, 71, 74, 75, 78, 81, 82, 85, 86, 87, 88, 91, 94, 97, 98, 101, 102, 105, 106, 107, 110, 111, 114, 117, 118, 119, 120, 121, 124, 127, 128, 129, 130, 133, 134, 137, 138, 139, 140, 143, 146, 147, 148, 149, 152, 153, 156, 157, 160, 163, 164, 165, 166, 167, 170, 171, 174, 175, 178, 179, 180, 183, 184, 185, 188, 189, 192, 195, 196, 197, 198, 201, 202, 205, 206, 209, 211, 214, 216, 217, 220, 221, 222, 225, 228, 229, 232, 233, 236, 237, 240, 241, 242, 243, 244, 247, 250, 251, 254, 257, 258, 259, 260])
/-- LogicalTimes$Reader.readSwitch()V -/
def xY63 : xe_Y := (⟨"LogicalTimes$Reader", "readSwitch", "()V"⟩, prog_8_method_16_code, 2, none, [], [0, 1, 4, 7, 8, 11, 12, 15, 16, 19, 20, 21, 24, 25, 26, 29, 30, 33, 36, 37, 38, 39, 40, 43, 46, 47, 50, 53, 54, 57, 58, 59, 62, 63, 64, 67, 70, 73, 74, 75, 76, 79, 80, 81, 84, 87, 90, 91, 94, 97, 98, 99, 102, 105, 106, 109, 112, 113, 116, 119])
/-- LogicalTimes$Mode.addExit()LLogicalTimes$Exit; -/
def xY64 : xe_Y := (⟨"LogicalTimes$Mode", "addExit", "()LLogicalTimes$Exit;"⟩, prog_5_method_3_code, 2, (Option.some (Jvm.ClassFile.FieldType.object "LogicalTimes$Exit")), [], [0, 1, 4, 5, 8, 9, 10, 11, 12, 15, 16, 17, 20, 21])
/-- LogicalTimes$Reader.readSlots()V -/
def xY65 : xe_Y := (⟨"LogicalTimes$Reader", "readSlots", "()V"⟩, prog_8_method_17_code, 4, none, [], [0, 1, 2, 5, 6, 7, 10, 11, 12, 13, 14, 15, 16, 19, 22, 25, 26, 27, 28, 31, 34, 35, 36, 39, 40, 41, 44, 47, 48, 49, 50, 51, 52, 53, 54, 55, 58, 61, 64, 67, 68, 69, 72, 73, 74, 77, 80, 83, 84, 87, 90])
/-- LogicalTimes$Reader.aimSwitches()V -/
def xY66 : xe_Y := (⟨"LogicalTimes$Reader", "aimSwitches", "()V"⟩, prog_8_method_18_code, 4, none, [], [0, 1, 2, 3, 4, 7, 10, 13, 14, 15, 16, 17, 20, 23, 24, 25, 28, 31, 32, 35, 38, 39, 40, 43, 44, 45, 46, 47, 48, 51, 54, 55, 56, 59, 60, 63, 66, 67, 70, 71, 74, 77, 78, 81, 84, 85, 88, 89, 92, 95, 98, 101, 104])
/-- LogicalTimes$Reader.placeAtHand()I -/
def xY67 : xe_Y := (⟨"LogicalTimes$Reader", "placeAtHand", "()I"⟩, prog_8_method_2_code, 1, (Option.some Jvm.ClassFile.FieldType.int), [], [0, 1, 4, 7, 8, 11, 12])
/-- LogicalTimes$Program.prepare()V -/
def xY68 : xe_Y := (⟨"LogicalTimes$Program", "prepare", "()V"⟩, prog_7_method_6_code, 2, none, [], [0, 1, 2, 3, 4, 7, 10, 11, 12, 15, 16, 17, 20, 21, 24, 25, 26, 29, 30, 33, 34, 35, 38, 41, 44])
/-- LogicalTimes$Program.countMessages(LLogicalTimes$Mode;)V -/
def xY69 : xe_Y := (⟨"LogicalTimes$Program", "countMessages", "(LLogicalTimes$Mode;)V"⟩, prog_7_method_7_code, 5, none, [], [0, 1, 2, 3, 4, 7, 10, 11, 14, 15, 16, 17, 18, 20, 22, 23, 26, 29, 30, 33, 35, 36, 37, 38, 41, 42, 44, 45, 48, 51, 54, 55, 58, 59, 62, 64, 65, 66, 67, 70, 71, 72, 75, 78, 81, 82, 83, 86, 89, 90, 91, 94, 95, 98, 99, 102, 103, 104, 107, 108, 109, 112, 115, 118])
/-- LogicalTimes$Program.isUsedElsewhere(II)Z -/
def xY70 : xe_Y := (⟨"LogicalTimes$Program", "isUsedElsewhere", "(II)Z"⟩, prog_7_method_8_code, 4, (Option.some Jvm.ClassFile.FieldType.boolean), [], [0, 1, 2, 3, 4, 7, 10, 11, 14, 15, 16, 19, 20, 23, 24, 27, 28, 29, 32, 33, 36, 37, 38, 41, 42, 43, 44, 45, 46, 49, 50, 51, 54, 57, 58])
/-- LogicalTimes$Mode.checkTasks()V -/
def xY71 : xe_Y := (⟨"LogicalTimes$Mode", "checkTasks", "()V"⟩, prog_5_method_6_code, 3, none, [], [0, 1, 2, 5, 6, 9, 10, 11, 12, 13, 16, 19, 20, 21, 24, 25, 28, 29, 30, 33, 34, 35, 38, 39, 40, 41, 42, 45, 46, 47, 48, 51, 54, 57, 58, 59, 60, 61, 64, 67, 70])
/-- LogicalTimes$Mode.loseSlots()V -/
def xY72 : xe_Y := (⟨"LogicalTimes$Mode", "loseSlots", "()V"⟩, prog_5_method_8_code, 2, none, [], [0, 1, 4, 5, 8, 9, 10, 11, 12, 15, 16, 19, 20, 23, 24, 25, 26, 29, 32])
/-- java/util/Arrays.fill([II)V -/
def xY73 : xe_Y := (⟨"java/util/Arrays", "fill", "([II)V"⟩, prog_27_method_103_code, 4, none, [], [0, 1, 2, 3, 4, 5, 6, 7, 10, 11, 12, 13, 14, 17, 20])
/-- LogicalTimes$Mode.beginSpans(I)V -/
def xY74 : xe_Y := (⟨"LogicalTimes$Mode", "beginSpans", "(I)V"⟩, prog_5_method_9_code, 3, none, [], [0, 1, 2, 3, 4, 7, 10, 11, 12, 15, 16, 17, 20, 21, 24, 25, 28, 29, 30, 33, 34, 37, 38, 39, 42, 43, 44, 47, 48, 49, 52, 53, 56, 59, 62])
/-- LogicalTimes$Run.begin(II)V -/
def xY75 : xe_Y := (⟨"LogicalTimes$Run", "begin", "(II)V"⟩, prog_9_method_2_code, 3, none, [], [0, 1, 2, 5, 6, 7, 10, 11, 12, 15, 16, 17, 20])
/-- LogicalTimes$Mode.giveSlot(I)V -/
def xY76 : xe_Y := (⟨"LogicalTimes$Mode", "giveSlot", "(I)V"⟩, prog_5_method_10_code, 6, none, [], [0, 1, 2, 3, 4, 5, 6, 9, 12, 13, 16, 17, 18, 21, 23, 25, 28, 31, 33, 36, 37, 40, 41, 42, 45, 48, 49, 52, 53, 55, 57, 60, 61, 64, 66, 69, 70, 73, 76, 79, 80, 83, 84, 85, 86, 89, 92, 93, 96, 97, 100, 103, 104, 105, 108, 109, 110, 111, 112, 115, 116, 117, 120, 121, 122, 123, 124, 127, 128, 131, 132, 133, 136, 137, 138, 141, 142, 143, 144, 145, 146, 147, 148, 151, 152, 155, 156, 157, 160])
/-- LogicalTimes$Mode.runNode(II)V -/
def xY77 : xe_Y := (⟨"LogicalTimes$Mode", "runNode", "(II)V"⟩, prog_5_method_11_code, 4, none, [], [0, 1, 2, 5, 6, 7, 10, 11, 12, 15, 16, 19, 20, 21, 24, 25, 28, 31, 34, 35, 36, 39, 40, 43, 46, 47, 48, 49, 50, 53, 56])
/-- LogicalTimes$Mode.firstToRun(I)LLogicalTimes$Task; -/
def xY78 : xe_Y := (⟨"LogicalTimes$Mode", "firstToRun", "(I)LLogicalTimes$Task;"⟩, prog_5_method_5_code, 5, (Option.some (Jvm.ClassFile.FieldType.object "LogicalTimes$Task")), [], [0, 1, 2, 3, 4, 5, 6, 9, 12, 13, 16, 17, 18, 20, 22, 25, 26, 29, 31, 34, 37, 40, 41, 44, 46, 49, 52, 53, 56, 59, 62, 64, 65, 68, 71, 72])
/-- LogicalTimes$Mode.endSpans(I)V -/
def xY79 : xe_Y := (⟨"LogicalTimes$Mode", "endSpans", "(I)V"⟩, prog_5_method_12_code, 4, none, [], [0, 1, 2, 3, 4, 7, 10, 11, 14, 15, 16, 17, 18, 21, 24, 25, 28, 29, 32, 35, 38, 39, 40, 43, 44, 45, 48, 51, 52, 53, 56, 57, 60, 61, 64, 67, 70, 73])
/-- LogicalTimes$Mode.judge()V -/
def xY80 : xe_Y := (⟨"LogicalTimes$Mode", "judge", "()V"⟩, prog_5_method_7_code, 2, none, [], [0, 1, 4, 7, 8, 11, 12, 13, 14, 15, 16, 19, 22, 23, 26, 27, 28, 31, 32, 35, 36, 37, 38, 39, 42, 43, 46, 49])
/-- LogicalTimes.count(I)I -/
def xY81 : xe_Y := (⟨"LogicalTimes", "count", "(I)I"⟩, prog_1_method_6_code, 2, (Option.some Jvm.ClassFile.FieldType.int), [], [0, 1, 36, 37, 40, 43, 44, 45, 48, 51, 52, 53, 56, 59, 60, 61, 64, 67, 68, 69, 72, 75, 76, 77])
/-- LogicalTimes$Program.allMessages()I -/
def xY82 : xe_Y := (⟨"LogicalTimes$Program", "allMessages", "()I"⟩, prog_7_method_9_code, 3, (Option.some Jvm.ClassFile.FieldType.int), [], [0, 1, 2, 3, 4, 5, 6, 9, 12, 13, 14, 17, 18, 19, 22, 23, 24, 27, 30, 31])
/-- LogicalTimesLaw.task(LLogicalTimes;II[J)I -/
def xY83 : xe_Y := (⟨"LogicalTimesLaw", "task", "(LLogicalTimes;II[J)I"⟩, method_3_code, 5, (Option.some Jvm.ClassFile.FieldType.int), [(0, 10, 13, 13)], [0, 1, 2, 3, 4, 5, 8, 9, 10, 13, 15, 16, 17, 18])
/-- LogicalTimes.task(II)I -/
def xY84 : xe_Y := (⟨"LogicalTimes", "task", "(II)I"⟩, prog_1_method_7_code, 4, (Option.some Jvm.ClassFile.FieldType.int), [], [0, 1, 2, 5, 6, 7, 44, 45, 48, 49, 50, 53, 54, 55, 58, 59, 60, 63, 64, 65, 68, 69, 70, 73, 76, 77, 80, 81, 84])
/-- LogicalTimes.taskNumbered(I)LLogicalTimes$Task; -/
def xY85 : xe_Y := (⟨"LogicalTimes", "taskNumbered", "(I)LLogicalTimes$Task;"⟩, prog_1_method_21_code, 2, (Option.some (Jvm.ClassFile.FieldType.object "LogicalTimes$Task")), [], [0, 1, 2, 5, 8, 11, 12, 15, 18, 19, 20])
/-- LogicalTimes.needBelow(II)V -/
def xY86 : xe_Y := (⟨"LogicalTimes", "needBelow", "(II)V"⟩, prog_1_method_20_code, 2, none, [], [0, 1, 4, 5, 6, 9, 12, 13, 16, 17])
/-- java/lang/Integer.bitCount(I)I -/
def xY87 : xe_Y := (⟨"java/lang/Integer", "bitCount", "(I)I"⟩, prog_19_method_49_code, 1, (Option.some Jvm.ClassFile.FieldType.int), [], [0, 1, 2, 3, 4, 7, 8, 9, 10, 11, 14, 15, 16, 17, 18, 21, 22, 23, 24, 25, 26, 27, 28, 29, 32, 33, 34, 35, 36, 38, 39, 40, 41, 42, 43, 45, 46, 47, 48, 49, 51, 52])
/-- LogicalTimesLaw.check(LLogicalTimes;I[J)I -/
def xY88 : xe_Y := (⟨"LogicalTimesLaw", "check", "(LLogicalTimes;I[J)I"⟩, method_4_code, 4, (Option.some Jvm.ClassFile.FieldType.int), [(0, 9, 12, 13)], [0, 1, 2, 3, 4, 7, 8, 9, 12, 13, 14, 15, 16])
/-- LogicalTimes.check(I)I -/
def xY89 : xe_Y := (⟨"LogicalTimes", "check", "(I)I"⟩, prog_1_method_8_code, 2, (Option.some Jvm.ClassFile.FieldType.int), [], [0, 1, 2, 5, 8])
/-- LogicalTimes.modeNumbered(I)LLogicalTimes$Mode; -/
def xY90 : xe_Y := (⟨"LogicalTimes", "modeNumbered", "(I)LLogicalTimes$Mode;"⟩, prog_1_method_22_code, 2, (Option.some (Jvm.ClassFile.FieldType.object "LogicalTimes$Mode")), [], [0, 1, 2, 5, 8, 11, 12, 15, 18, 19, 20])
/-- LogicalTimesLaw.slack(LLogicalTimes;I[J)I -/
def xY91 : xe_Y := (⟨"LogicalTimesLaw", "slack", "(LLogicalTimes;I[J)I"⟩, method_5_code, 4, (Option.some Jvm.ClassFile.FieldType.int), [(0, 9, 12, 13)], [0, 1, 2, 3, 4, 7, 8, 9, 12, 13, 14, 15, 16])
/-- LogicalTimes.slack(I)I -/
def xY92 : xe_Y := (⟨"LogicalTimes", "slack", "(I)I"⟩, prog_1_method_9_code, 2, (Option.some Jvm.ClassFile.FieldType.int), [], [0, 1, 2, 5, 8])
/-- LogicalTimesLaw.slot(LLogicalTimes;II[J)I -/
def xY93 : xe_Y := (⟨"LogicalTimesLaw", "slot", "(LLogicalTimes;II[J)I"⟩, method_6_code, 5, (Option.some Jvm.ClassFile.FieldType.int), [(0, 10, 13, 13)], [0, 1, 2, 3, 4, 5, 8, 9, 10, 13, 15, 16, 17, 18])
/-- LogicalTimes.slot(II)I -/
def xY94 : xe_Y := (⟨"LogicalTimes", "slot", "(II)I"⟩, prog_1_method_10_code, 4, (Option.some Jvm.ClassFile.FieldType.int), [], [0, 1, 2, 5, 6, 7, 10, 11, 12, 15, 18, 21, 22, 25, 26, 27, 30, 31, 32])
/-- LogicalTimesLaw.reset(LLogicalTimes;I)I -/
def xY95 : xe_Y := (⟨"LogicalTimesLaw", "reset", "(LLogicalTimes;I)I"⟩, method_7_code, 3, (Option.some Jvm.ClassFile.FieldType.int), [(0, 5, 8, 13)], [0, 1, 2, 5, 8, 9, 10, 11, 12])
/-- LogicalTimes.reset(I)V -/
def xY96 : xe_Y := (⟨"LogicalTimes", "reset", "(I)V"⟩, prog_1_method_11_code, 2, none, [], [0, 1, 2, 5, 6, 7, 10, 11, 14])
/-- LogicalTimes$Runner.restart(I)V -/
def xY97 : xe_Y := (⟨"LogicalTimes$Runner", "restart", "(I)V"⟩, prog_10_method_2_code, 3, none, [], [0, 1, 2, 5, 6, 7, 10, 11, 12, 15, 16, 17, 20, 21, 22, 25, 26, 27, 30, 31, 32, 35, 36, 37, 40, 41, 44, 47, 48, 49, 52, 53, 55, 58, 59, 60, 61, 62, 65, 66, 69, 72, 73, 74, 77, 78, 79, 80, 82, 85, 88, 91, 92, 95, 96, 99, 100, 103, 104, 107, 108, 109, 110, 111, 114, 117, 120, 121, 124, 127, 128, 129, 132, 133, 136, 139, 142])
/-- LogicalTimesLaw.takes(LLogicalTimes;II)I -/
def xY98 : xe_Y := (⟨"LogicalTimesLaw", "takes", "(LLogicalTimes;II)I"⟩, method_8_code, 4, (Option.some Jvm.ClassFile.FieldType.int), [(0, 6, 9, 33), (0, 6, 12, 13), (0, 6, 15, 35)], [0, 1, 2, 3, 6, 9, 10, 11, 12, 13, 14, 15, 16, 17, 18, 19])
/-- LogicalTimes.takes(II)V -/
def xY99 : xe_Y := (⟨"LogicalTimes", "takes", "(II)V"⟩, prog_1_method_12_code, 4, none, [], [0, 1, 4, 5, 6, 9, 10, 11, 14, 15, 16, 19, 22, 25, 26, 29, 30, 31, 34, 35, 38])
/-- LogicalTimes.needRunning()V -/
def xY100 : xe_Y := (⟨"LogicalTimes", "needRunning", "()V"⟩, prog_1_method_19_code, 1, none, [], [0, 1, 4, 7, 10, 13, 14, 17, 18])
/-- LogicalTimesLaw.sensor(LLogicalTimes;II)I -/
def xY101 : xe_Y := (⟨"LogicalTimesLaw", "sensor", "(LLogicalTimes;II)I"⟩, method_9_code, 4, (Option.some Jvm.ClassFile.FieldType.int), [(0, 6, 9, 33), (0, 6, 12, 13)], [0, 1, 2, 3, 6, 9, 10, 11, 12, 13, 14, 15, 16])
/-- LogicalTimes.sensor(II)V -/
def xY102 : xe_Y := (⟨"LogicalTimes", "sensor", "(II)V"⟩, prog_1_method_13_code, 3, none, [], [0, 1, 4, 5, 6, 9, 12, 15, 16, 19, 22, 23, 24, 25])
/-- LogicalTimesLaw.tick(LLogicalTimes;I)I -/
def xY103 : xe_Y := (⟨"LogicalTimesLaw", "tick", "(LLogicalTimes;I)I"⟩, method_10_code, 3, (Option.some Jvm.ClassFile.FieldType.int), [(0, 5, 8, 33), (0, 5, 11, 35)], [0, 1, 2, 5, 8, 9, 10, 11, 12, 13, 14, 15])
/-- LogicalTimes.tick(I)V -/
def xY104 : xe_Y := (⟨"LogicalTimes", "tick", "(I)V"⟩, prog_1_method_14_code, 3, none, [], [0, 1, 4, 5, 6, 9, 10, 13, 16, 19, 20, 23, 24, 25, 26, 27, 28, 31, 32, 35, 38, 41, 44])
/-- LogicalTimes$Runner.passTick()V -/
def xY105 : xe_Y := (⟨"LogicalTimes$Runner", "passTick", "()V"⟩, prog_10_method_3_code, 2, none, [], [0, 1, 4, 7, 8, 9, 12, 15, 16, 19, 20, 23, 24, 25, 28, 31, 32, 35, 36, 39, 40, 41, 44, 47, 48, 51, 52, 55, 56, 57, 60, 63, 64, 67, 68, 71, 72, 73, 74, 75, 78, 79, 80, 83, 86, 89, 90, 91, 94, 95, 96, 99])
/-- LogicalTimes$Runner.endSpans(LLogicalTimes$Mode;)V -/
def xY106 : xe_Y := (⟨"LogicalTimes$Runner", "endSpans", "(LLogicalTimes$Mode;)V"⟩, prog_10_method_4_code, 3, none, [], [0, 1, 2, 3, 4, 7, 10, 11, 14, 15, 18, 19, 20, 23, 24, 27, 28, 29, 32, 33, 34, 37, 40, 43])
/-- LogicalTimes$Runner.publish(LLogicalTimes$Task;)V -/
def xY107 : xe_Y := (⟨"LogicalTimes$Runner", "publish", "(LLogicalTimes$Task;)V"⟩, prog_10_method_5_code, 4, none, [], [0, 1, 4, 7, 10, 11, 14, 15, 16, 17, 20, 21, 22, 25, 26, 27, 30, 31, 32, 35, 38, 39, 40, 41, 42, 45, 48, 51, 52, 55, 56, 57, 58, 59, 62, 63, 66, 67, 68, 71, 74, 75, 76, 77, 78, 81, 82, 83, 84, 87, 90, 93])
/-- LogicalTimes$Runner.show(LLogicalTimes$Task;I)V -/
def xY108 : xe_Y := (⟨"LogicalTimes$Runner", "show", "(LLogicalTimes$Task;I)V"⟩, prog_10_method_6_code, 5, none, [], [0, 1, 4, 7, 8, 9, 10, 11, 14, 15, 18, 19, 20, 21, 23, 25, 26, 29, 30, 33, 35, 36, 39, 42, 43, 46, 48, 49, 50, 51, 54, 57, 58, 59, 60, 63, 66])
/-- LogicalTimes$Runner.changeMode(LLogicalTimes$Mode;)V -/
def xY109 : xe_Y := (⟨"LogicalTimes$Runner", "changeMode", "(LLogicalTimes$Mode;)V"⟩, prog_10_method_7_code, 4, none, [], [0, 1, 2, 3, 4, 7, 10, 11, 14, 15, 16, 17, 18, 21, 22, 25, 26, 29, 30, 33, 36, 37, 40, 41, 44, 45, 48, 49, 52, 53, 56, 59, 62, 63, 64, 67, 70, 71, 72, 75, 76, 77, 80, 81, 82, 85, 86, 89, 92, 93, 96, 97, 100, 103, 104, 105, 108])
/-- LogicalTimes$Code.follow(II[I[I[I)I -/
def xY110 : xe_Y := (⟨"LogicalTimes$Code", "follow", "(II[I[I[I)I"⟩, prog_2_method_4_code, 10, (Option.some Jvm.ClassFile.FieldType.int), [], [0, 1, 4, 5, 8, 9, 10, 13, 14, 15, 18, 19, 21, 22, 24, 26, 28, 31, 33, 34, 37, 38, 41, 43, 44, 46, 47, 50, 52, 53, 140, 141, 143, 146, 149, 150, 151, 153, 154, 157, 160, 161, 163, 165, 166, 169, 172, 173, 174, 177, 179, 180, 183, 186, 187, 188, 191, 192, 195, 198, 200, 202, 203, 206, 207, 210, 211, 214, 216, 217, 220, 221, 224, 225, 228, 229, 232, 234, 235, 236, 237, 240, 241, 242, 245, 248, 249, 252, 255, 257, 258, 259, 262, 264, 266, 269, 271, 272, 273, 275, 278, 279, 282, 285, 287, 290, 292, 293, 294, 296, 299, 300, 303, 305, 306, 307, 310, 312, 313, 314, 317, 319, 322, 325, 328, 331, 334, 335, 338, 339, 340])
/-- LogicalTimes$Code.push(I)V -/
def xY111 : xe_Y := (⟨"LogicalTimes$Code", "push", "(I)V"⟩, prog_2_method_7_code, 2, none, [], [0, 1, 4, 5, 8, 9, 10, 11, 12, 15, 16, 17, 20])
/-- LogicalTimes$Code.pop()I -/
def xY112 : xe_Y := (⟨"LogicalTimes$Code", "pop", "()I"⟩, prog_2_method_8_code, 1, (Option.some Jvm.ClassFile.FieldType.int), [], [0, 1, 2, 5, 6, 7, 10, 11, 14, 15, 18, 19])
/-- LogicalTimes$Code.isLastRound()Z -/
def xY113 : xe_Y := (⟨"LogicalTimes$Code", "isLastRound", "()Z"⟩, prog_2_method_5_code, 2, (Option.some Jvm.ClassFile.FieldType.boolean), [], [0, 1, 4, 5, 8, 9, 10, 11, 12, 13, 14, 15, 16, 19, 20, 23, 24, 25, 26, 29, 30, 33, 34, 35, 36, 37, 40, 41, 44, 45, 48, 49, 50, 53, 54])
/-- LogicalTimes$Code.combined(III)I -/
def xY114 : xe_Y := (⟨"LogicalTimes$Code", "combined", "(III)I"⟩, prog_2_method_6_code, 3, (Option.some Jvm.ClassFile.FieldType.int), [], [0, 1, 40, 41, 42, 43, 44, 45, 46, 47, 48, 49, 50, 51, 52, 53, 56, 57, 60, 61, 62, 63, 64, 65, 68, 69, 72, 73, 74, 75, 76, 77, 78, 81, 82, 85, 86, 87, 88, 89, 92, 93, 96, 97])
/-- LogicalTimes$Runner.beginSpans(LLogicalTimes$Mode;)V -/
def xY115 : xe_Y := (⟨"LogicalTimes$Runner", "beginSpans", "(LLogicalTimes$Mode;)V"⟩, prog_10_method_8_code, 3, none, [], [0, 1, 2, 3, 4, 7, 10, 11, 14, 15, 18, 19, 20, 23, 24, 27, 28, 29, 32, 33, 34, 37, 40, 43])
/-- LogicalTimes$Runner.beginRun(LLogicalTimes$Task;)V -/
def xY116 : xe_Y := (⟨"LogicalTimes$Runner", "beginRun", "(LLogicalTimes$Task;)V"⟩, prog_10_method_9_code, 3, none, [], [0, 1, 4, 5, 6, 7, 8, 11, 12, 15, 18, 19, 20, 21, 24, 25, 28, 29, 30, 33, 36, 37, 38, 41, 42, 45, 46, 49, 52, 53, 56, 57, 60, 61, 64, 65, 68, 69, 70, 73, 74, 75, 78, 79, 82, 85, 86, 89, 90, 91, 94])
/-- LogicalTimes$Runner.compute(LLogicalTimes$Task;[I[I)V -/
def xY117 : xe_Y := (⟨"LogicalTimes$Runner", "compute", "(LLogicalTimes$Task;[I[I)V"⟩, prog_10_method_10_code, 4, none, [], [0, 1, 2, 3, 4, 6, 9, 10, 13, 16, 17, 20, 21, 24, 25, 26, 29, 30, 33, 34])
/-- LogicalTimes$Runner.sendMessage(LLogicalTimes$Mode;)V -/
def xY118 : xe_Y := (⟨"LogicalTimes$Runner", "sendMessage", "(LLogicalTimes$Mode;)V"⟩, prog_10_method_11_code, 3, none, [], [0, 1, 4, 5, 8, 9, 10, 11, 14, 15, 18, 21, 24, 25, 28, 29, 32, 33, 34, 37, 38, 41, 42, 43, 44, 47, 48, 49, 52, 53, 54, 57])
/-- LogicalTimes$Runner.runNode(I)V -/
def xY119 : xe_Y := (⟨"LogicalTimes$Runner", "runNode", "(I)V"⟩, prog_10_method_12_code, 3, none, [], [0, 1, 4, 7, 8, 11, 12, 13, 16, 17, 18, 21, 22, 23, 26, 27, 30, 31, 34, 35, 36, 39, 40, 43, 44, 47, 48, 49, 52, 53, 54, 57, 58, 61, 64, 67, 68, 71, 72, 73, 76])
/-- LogicalTimesLaw.port(LLogicalTimes;II[J)I -/
def xY120 : xe_Y := (⟨"LogicalTimesLaw", "port", "(LLogicalTimes;II[J)I"⟩, method_11_code, 5, (Option.some Jvm.ClassFile.FieldType.int), [(0, 10, 13, 33), (0, 10, 17, 13)], [0, 1, 2, 3, 4, 5, 8, 9, 10, 13, 15, 16, 17, 19, 20, 21, 22])
/-- LogicalTimes.port(II)I -/
def xY121 : xe_Y := (⟨"LogicalTimes", "port", "(II)I"⟩, prog_1_method_15_code, 3, (Option.some Jvm.ClassFile.FieldType.int), [], [0, 1, 4, 5, 6, 9, 10, 11, 14, 17, 20, 21, 24, 27, 28, 29, 30, 31])
/-- LogicalTimesLaw.denoted(LLogicalTimes;I[J)I -/
def xY122 : xe_Y := (⟨"LogicalTimesLaw", "denoted", "(LLogicalTimes;I[J)I"⟩, method_12_code, 4, (Option.some Jvm.ClassFile.FieldType.int), [(0, 9, 12, 33), (0, 9, 15, 13)], [0, 1, 2, 3, 4, 7, 8, 9, 12, 13, 14, 15, 16, 17, 18, 19])
/-- LogicalTimes.denoted(I)I -/
def xY123 : xe_Y := (⟨"LogicalTimes", "denoted", "(I)I"⟩, prog_1_method_16_code, 2, (Option.some Jvm.ClassFile.FieldType.int), [], [0, 1, 4, 5, 6, 9, 12, 15, 16, 19, 22, 23, 24])
/-- LogicalTimesLaw.state(LLogicalTimes;I[J)I -/
def xY124 : xe_Y := (⟨"LogicalTimesLaw", "state", "(LLogicalTimes;I[J)I"⟩, method_13_code, 4, (Option.some Jvm.ClassFile.FieldType.int), [(0, 9, 12, 33), (0, 9, 15, 13)], [0, 1, 2, 3, 4, 7, 8, 9, 12, 13, 14, 15, 16, 17, 18, 19])
/-- LogicalTimes.state(I)I -/
def xY125 : xe_Y := (⟨"LogicalTimes", "state", "(I)I"⟩, prog_1_method_17_code, 2, (Option.some Jvm.ClassFile.FieldType.int), [], [0, 1, 4, 5, 48, 49, 52, 55, 56, 57, 60, 63, 64, 65, 68, 71, 72, 73, 76, 79, 80, 81, 84, 87, 88, 89, 92, 95, 96, 97, 100, 103, 104, 107, 108, 111])
/-- LogicalTimesLaw.running(LLogicalTimes;I[J)I -/
def xY126 : xe_Y := (⟨"LogicalTimesLaw", "running", "(LLogicalTimes;I[J)I"⟩, method_14_code, 4, (Option.some Jvm.ClassFile.FieldType.int), [(0, 9, 12, 33), (0, 9, 15, 13)], [0, 1, 2, 3, 4, 7, 8, 9, 12, 13, 14, 15, 16, 17, 18, 19])
/-- LogicalTimes.running(I)I -/
def xY127 : xe_Y := (⟨"LogicalTimes", "running", "(I)I"⟩, prog_1_method_18_code, 2, (Option.some Jvm.ClassFile.FieldType.int), [], [0, 1, 4, 5, 6, 9, 10, 13, 16, 17, 18])
/-- LogicalTimesModel.<init>()V -/
def xY128 : xe_Y := (⟨"LogicalTimesModel", "<init>", "()V"⟩, prog_14_method_1_code, 1, none, [], [0, 1, 4, 5, 8, 10, 13, 14, 17, 19, 22, 23, 25, 27, 30, 31, 34, 36, 39, 40, 43, 45, 48, 49, 52, 54, 57, 58, 60, 62, 65, 66, 68, 70, 73, 74, 75, 77, 80, 81, 82, 84, 87, 88, 89, 91, 94, 95, 96, 98, 101, 102, 103, 105, 108, 109, 111, 113, 116, 117, 119, 121, 124, 125, 127, 129, 132, 133, 135, 137, 140, 141, 143, 145, 148, 149, 151, 153, 156, 157, 159, 161, 164, 165, 167, 169, 172, 173, 175, 177, 180, 181, 184, 186, 189, 190, 193, 195, 198, 199, 201, 203, 206, 207, 209, 211, 214, 215, 218, 220, 223, 224, 226, 228, 231, 232, 234, 236, 239, 240, 242, 244, 247, 248, 250, 252, 255, 256, 258, 260, 263, 264, 267, 269, 272, 273, 276, 278, 281, 282, 285, 287, 290, 291, 294, 296, 299, 300, 303, 305, 308, 309, 311, 313, 316, 317, 319, 321, 324, 325, 327, 329, 332, 333, 335, 337, 340, 341, 343, 345, 348, 349, 351, 353, 356, 357, 359, 361, 364, 365, 367, 369, 372, 373, 375, 377, 380, 381, 383, 385, 388, 389, 391, 393, 396, 397, 399, 401, 404, 405, 407, 409, 412, 413, 415, 417, 420, 421, 423, 425, 428, 429, 431, 433, 436, 437, 438, 440, 443, 444, 445, 447, 450, 451, 453, 455, 458, 459, 461, 463, 466, 467, 470, 472, 475, 476, 479, 481, 484, 485, 488, 490, 493, 494, 497, 498, 501, 502, 503, 506, 507, 510, 511, 512, 515, 516, 519, 520, 521, 524, 525, 528, 529, 530, 533, 534, 537, 538, 539, 542, 543, 546, 547, 548, 551, 553, 556, 557, 558, 561, 563, 566, 567, 568, 571, 573, 576, 577, 578, 581, 583, 586, 587, 588, 591, 593, 596, 597])
/-- LogicalTimesModel.thrown()I -/
def xY129 : xe_Y := (⟨"LogicalTimesModel", "thrown", "()I"⟩, prog_14_method_2_code, 1, (Option.some Jvm.ClassFile.FieldType.int), [], [0, 1, 4])
/-- LogicalTimesModel.feed(IIIII)Z -/
def xY130 : xe_Y := (⟨"LogicalTimesModel", "feed", "(IIIII)Z"⟩, prog_14_method_5_code, 8, (Option.some Jvm.ClassFile.FieldType.boolean), [], [0, 1, 2, 5, 6, 9, 12, 15, 16, 17, 18, 20, 22, 24, 27, 29, 30, 33, 34, 37, 39, 41, 44, 45, 48, 50, 52, 55, 56, 59, 61, 63, 66, 68, 71, 73, 75, 76, 79, 80, 83, 85, 86, 88, 90, 92, 94, 95, 96, 97, 98, 99, 102, 103, 104, 107, 110, 111, 112, 115, 117, 118, 121, 122])
/-- LogicalTimesModel.end(I)Z -/
def xY131 : xe_Y := (⟨"LogicalTimesModel", "end", "(I)Z"⟩, prog_14_method_6_code, 3, (Option.some Jvm.ClassFile.FieldType.boolean), [], [0, 1, 2, 5, 6, 7, 8, 9, 12, 13, 16, 19, 20, 21, 22, 23, 24, 25, 28, 29, 32, 33, 34, 37, 38, 39, 40, 43, 46, 47, 48, 51, 52, 53, 56, 57])
/-- LogicalTimesModel.in(JJJ)Z -/
def xY132 : xe_Y := (⟨"LogicalTimesModel", "in", "(JJJ)Z"⟩, prog_14_method_4_code, 6, (Option.some Jvm.ClassFile.FieldType.boolean), [], [0, 1, 2, 3, 6, 7, 9, 10, 13, 14, 17, 18])
/-- LogicalTimesModel.compile()I -/
def xY133 : xe_Y := (⟨"LogicalTimesModel", "compile", "()I"⟩, prog_14_method_42_code, 4, (Option.some Jvm.ClassFile.FieldType.int), [], [0, 1, 2, 5, 6, 9, 10, 11, 14, 15, 18, 19, 20, 23, 24, 25, 28, 29, 30, 31, 34, 35, 36, 39, 42, 43, 44, 47, 50, 51, 54, 55, 58, 59, 62, 63, 64, 67, 70, 71, 74, 77, 78, 81, 82, 83, 84, 87, 88, 91, 92, 95, 96, 99, 100, 103, 104, 107, 108, 111, 112, 115, 116, 117, 118, 121, 122, 123, 124, 125, 128, 129, 132, 133, 134, 137, 138, 139, 142, 145, 146, 147, 148, 149, 152, 155, 156, 159, 160, 163, 164, 167, 168, 169, 170, 171, 172, 173, 174, 175, 178, 179, 182, 183, 184, 185, 186, 187, 190, 191, 192, 193, 194, 197, 200, 201, 202, 205, 208, 211, 212])
/-- LogicalTimesModel.split()V -/
def xY134 : xe_Y := (⟨"LogicalTimesModel", "split", "()V"⟩, prog_14_method_11_code, 9, none, [], [0, 1, 2, 5, 6, 7, 8, 9, 10, 13, 14, 15, 16, 17, 20, 23, 24, 27, 28, 29, 31, 34, 35, 38, 39, 40, 42, 45, 46, 49, 50, 51, 53, 56, 57, 60, 61, 62, 64, 67, 70, 73, 74, 75, 78, 81, 82, 85, 86, 87, 90, 91, 93, 94, 95, 98, 99, 102, 105, 106, 109, 110, 113, 114, 115, 116, 117, 120, 121, 124, 125, 127, 128, 130, 132, 135, 136, 137, 138, 139, 142, 143, 144, 147, 149, 152, 155, 156, 157, 160, 163, 164, 167, 168, 169, 172, 175, 176, 179, 180, 181, 184, 187, 190, 193, 194, 196, 197, 199, 202, 205, 207, 210, 213, 214, 216, 217, 218, 221, 224, 225, 228, 229, 230, 233, 236, 238, 241, 242, 245, 247, 250, 253, 255, 256, 257, 260, 261, 262, 263, 264, 267, 268, 270, 273, 276, 277, 278, 280, 281, 283, 286, 287, 290, 291, 293, 295, 298, 301, 304, 305, 307, 310, 313, 314, 317, 318, 320, 322, 323, 326, 327, 330, 331, 334, 335, 338, 339, 340, 341, 342, 345, 346, 349, 350, 351, 354])
/-- LogicalTimesModel.token(IIJ)V -/
def xY135 : xe_Y := (⟨"LogicalTimesModel", "token", "(IIJ)V"⟩, prog_14_method_10_code, 5, none, [], [0, 1, 4, 5, 8, 9, 10, 11, 14, 15, 18, 19, 20, 21, 24, 25, 28, 29, 30, 31, 32, 35, 36, 37, 40])
/-- LogicalTimesModel.isLetter(I)Z -/
def xY136 : xe_Y := (⟨"LogicalTimesModel", "isLetter", "(I)Z"⟩, prog_14_method_7_code, 1, (Option.some Jvm.ClassFile.FieldType.boolean), [], [0, 1, 2, 5, 8, 11, 14, 15, 16, 19, 22, 25, 28, 29, 32, 33])
/-- LogicalTimesModel.isDigit(I)Z -/
def xY137 : xe_Y := (⟨"LogicalTimesModel", "isDigit", "(I)Z"⟩, prog_14_method_8_code, 1, (Option.some Jvm.ClassFile.FieldType.boolean), [], [0, 1, 2, 5, 8, 11])
/-- LogicalTimesModel.name(IIZ)V -/
def xY138 : xe_Y := (⟨"LogicalTimesModel", "name", "(IIZ)V"⟩, prog_14_method_12_code, 8, none, [], [0, 1, 3, 4, 6, 8, 9, 12, 14, 16, 17, 18, 21, 23, 24, 25, 26, 28, 31, 34, 35, 37, 38, 40, 42, 44, 47, 48, 51, 53, 54, 56, 57, 60, 62, 65, 67, 69, 72, 75, 76, 79, 80, 81, 82, 84, 87, 88, 89, 90, 91, 94, 97, 98, 100, 103, 104, 107, 108, 109, 111, 114, 116, 117, 120, 122, 125])
/-- LogicalTimesModel.isSign(I)Z -/
def xY139 : xe_Y := (⟨"LogicalTimesModel", "isSign", "(I)Z"⟩, prog_14_method_9_code, 1, (Option.some Jvm.ClassFile.FieldType.boolean), [], [0, 1, 3, 6, 7, 9, 12, 13, 15, 18, 19, 21, 24, 25, 27, 30, 31, 33, 36, 37, 39, 42, 43, 45, 48, 49, 51, 54, 55, 57, 60, 61, 63, 66, 67, 69, 72, 73, 75, 78, 79, 81, 84, 85, 88, 89])
/-- LogicalTimesModel.clear()V -/
def xY140 : xe_Y := (⟨"LogicalTimesModel", "clear", "()V"⟩, prog_14_method_41_code, 1, none, [], [0, 1, 2, 5, 6, 7, 10, 11, 12, 15, 16, 17, 20, 21, 22, 25, 26, 27, 30, 31, 32, 35, 36, 37, 40, 41, 42, 45])
/-- LogicalTimesModel.isWord(I)Z -/
def xY141 : xe_Y := (⟨"LogicalTimesModel", "isWord", "(I)Z"⟩, prog_14_method_13_code, 2, (Option.some Jvm.ClassFile.FieldType.boolean), [], [0, 1, 4, 5, 8, 9, 10, 13, 14, 17, 18, 21, 22, 23, 24, 25, 28, 29, 32, 33])
/-- LogicalTimesModel.declaration()Z -/
def xY142 : xe_Y := (⟨"LogicalTimesModel", "declaration", "()Z"⟩, prog_14_method_24_code, 4, (Option.some Jvm.ClassFile.FieldType.boolean), [], [0, 1, 2, 5, 6, 7, 8, 11, 12, 15, 17, 20, 21, 24, 25, 28, 29, 32, 33, 36, 37, 40, 41, 44, 47, 48, 49, 50, 53, 54, 57, 58, 59, 60, 61, 64, 65, 68, 69, 70, 73, 74, 75, 78, 81, 82, 83, 86, 89, 90, 93, 94, 97, 100, 101, 102, 103, 106, 107, 110, 111, 114, 115, 116, 117, 118, 121, 122, 123, 126, 127, 129, 132, 133, 134, 136, 139, 142, 143, 144, 147, 150, 153, 154, 155, 156, 159, 160, 163, 164, 165, 166, 169, 170, 173, 174, 177, 178, 179, 180, 183, 184, 185, 188, 189, 191, 194])
/-- LogicalTimesModel.need(Z)Z -/
def xY143 : xe_Y := (⟨"LogicalTimesModel", "need", "(Z)Z"⟩, prog_14_method_16_code, 2, (Option.some Jvm.ClassFile.FieldType.boolean), [], [0, 1, 4, 5, 6, 9, 10, 13, 16, 17, 18, 21, 22, 23, 26, 27, 30, 33, 34, 37, 38])
/-- LogicalTimesModel.portOf(J)I -/
def xY144 : xe_Y := (⟨"LogicalTimesModel", "portOf", "(J)I"⟩, prog_14_method_21_code, 4, (Option.some Jvm.ClassFile.FieldType.int), [], [0, 1, 2, 3, 4, 7, 10, 11, 14, 15, 16, 17, 18, 21, 22, 23, 26, 29, 30])
/-- LogicalTimesModel.sensorOf(J)I -/
def xY145 : xe_Y := (⟨"LogicalTimesModel", "sensorOf", "(J)I"⟩, prog_14_method_22_code, 4, (Option.some Jvm.ClassFile.FieldType.int), [], [0, 1, 2, 3, 4, 7, 10, 11, 14, 15, 16, 17, 18, 21, 22, 23, 26, 29, 30])
/-- LogicalTimesModel.sign(I)Z -/
def xY146 : xe_Y := (⟨"LogicalTimesModel", "sign", "(I)Z"⟩, prog_14_method_17_code, 2, (Option.some Jvm.ClassFile.FieldType.boolean), [], [0, 1, 2, 3, 6, 9])
/-- LogicalTimesModel.isSignOf(I)Z -/
def xY147 : xe_Y := (⟨"LogicalTimesModel", "isSignOf", "(I)Z"⟩, prog_14_method_14_code, 2, (Option.some Jvm.ClassFile.FieldType.boolean), [], [0, 1, 4, 5, 8, 9, 10, 13, 14, 17, 18, 21, 22, 23, 24, 25, 28, 29, 32, 33])
/-- LogicalTimesModel.number(JJ)Z -/
def xY148 : xe_Y := (⟨"LogicalTimesModel", "number", "(JJ)Z"⟩, prog_14_method_19_code, 5, (Option.some Jvm.ClassFile.FieldType.boolean), [], [0, 1, 2, 5, 6, 9, 10, 11, 14, 15, 18, 19, 22, 23, 24, 25, 28, 31, 32, 35, 36, 39])
/-- LogicalTimesModel.before()I -/
def xY149 : xe_Y := (⟨"LogicalTimesModel", "before", "()I"⟩, prog_14_method_20_code, 1, (Option.some Jvm.ClassFile.FieldType.int), [], [0, 1, 4, 5, 8, 9, 10, 11, 12])
/-- LogicalTimesModel.fails()Z -/
def xY150 : xe_Y := (⟨"LogicalTimesModel", "fails", "()Z"⟩, prog_14_method_15_code, 1, (Option.some Jvm.ClassFile.FieldType.boolean), [], [0, 1, 2, 5, 6])
/-- LogicalTimesModel.readMode()Z -/
def xY151 : xe_Y := (⟨"LogicalTimesModel", "readMode", "()Z"⟩, prog_14_method_25_code, 6, (Option.some Jvm.ClassFile.FieldType.boolean), [], [0, 1, 2, 3, 6, 9, 10, 13, 14, 17, 18, 21, 22, 25, 28, 29, 30, 31, 34, 35, 38, 39, 40, 41, 42, 45, 46, 49, 50, 51, 54, 55, 56, 59, 62, 63, 66, 67, 70, 73, 74, 75, 76, 79, 80, 81, 84, 85, 86, 87, 88, 89, 92, 93, 94, 97, 98, 99, 102, 105, 108, 109, 110, 111, 114, 115, 116, 119, 120, 121, 123, 126, 129, 130, 131, 132, 135, 137, 138, 139, 142, 145, 146, 149, 151, 152, 154, 157, 158, 161, 162, 163, 164, 167, 170, 171, 172, 173, 176, 178, 179, 181, 184, 187, 188, 191, 193, 194, 195, 198, 199, 202, 203, 204, 205, 208, 211, 212, 213, 214, 216, 219, 222, 223, 224, 227, 230, 231, 232, 233, 235, 238])
/-- LogicalTimesModel.modeOf(J)I -/
def xY152 : xe_Y := (⟨"LogicalTimesModel", "modeOf", "(J)I"⟩, prog_14_method_23_code, 4, (Option.some Jvm.ClassFile.FieldType.int), [], [0, 1, 2, 3, 4, 7, 10, 11, 14, 15, 16, 17, 18, 21, 22, 23, 26, 29, 30])
/-- LogicalTimesModel.readTask(I)Z -/
def xY153 : xe_Y := (⟨"LogicalTimesModel", "readTask", "(I)Z"⟩, prog_14_method_26_code, 7, (Option.some Jvm.ClassFile.FieldType.boolean), [], [0, 1, 2, 5, 6, 7, 10, 11, 14, 15, 18, 19, 20, 21, 24, 25, 28, 29, 30, 33, 34, 37, 38, 40, 41, 43, 45, 46, 49, 52, 54, 57, 58, 61, 63, 64, 65, 66, 69, 70, 73, 74, 76, 79, 82, 83, 85, 88, 91, 92, 93, 94, 97, 99, 100, 101, 104, 105, 108, 109, 110, 113, 114, 117, 118, 121, 122, 123, 124, 127, 128, 131, 132, 133, 134, 135, 138, 139, 142, 143, 144, 145, 146, 149, 150, 153, 154, 157, 160, 161, 162, 163, 166, 168, 169, 172, 173, 174, 177, 179, 180, 183, 184, 185, 186, 189, 191, 192, 193, 194, 195, 196, 199, 202, 203, 204, 207, 210, 213, 214, 215, 216, 219, 221, 222, 223, 224, 227, 229, 230, 231, 232, 235, 237, 238, 241, 242, 243, 246, 248, 249, 250, 251, 254, 256, 257, 260, 261, 262, 264, 266, 268, 271, 272, 275, 277, 279, 280, 282, 283, 284, 285, 286, 289, 291, 293, 294, 296, 297, 298, 299, 302, 305, 306, 308, 310, 312, 315, 316, 319, 321, 322, 323, 326, 329, 330, 332, 335, 338, 339, 340, 341, 342, 345, 346, 347, 350, 351, 354, 357, 358, 360, 363, 366, 367, 369, 372, 375, 378, 379, 381, 382, 385, 388, 389, 390, 391, 393, 394, 397, 398, 399, 402, 403, 404, 407, 408])
/-- LogicalTimesModel.word(I)Z -/
def xY154 : xe_Y := (⟨"LogicalTimesModel", "word", "(I)Z"⟩, prog_14_method_18_code, 2, (Option.some Jvm.ClassFile.FieldType.boolean), [], [0, 1, 2, 3, 6, 9])
/-- LogicalTimesModel.openBlock(I)V -/
def xY155 : xe_Y := (⟨"LogicalTimesModel", "openBlock", "(I)V"⟩, prog_14_method_28_code, 2, none, [], [0, 1, 4, 5, 8, 9, 10, 11, 14, 15, 18, 19, 20, 21, 22, 25, 26, 27, 30])
/-- LogicalTimesModel.closeBlock(I)Z -/
def xY156 : xe_Y := (⟨"LogicalTimesModel", "closeBlock", "(I)Z"⟩, prog_14_method_31_code, 5, (Option.some Jvm.ClassFile.FieldType.boolean), [], [0, 1, 4, 5, 6, 7, 8, 11, 12, 13, 14, 15, 18, 19, 20, 23, 24, 27, 30, 31, 34, 35, 36, 39, 40, 41, 42, 43, 44, 47, 48, 49, 52, 53, 54, 57, 58, 59, 62, 63, 64, 65, 66, 69, 70, 71, 74, 75, 76, 79, 80, 81, 84, 85, 88, 89, 90, 91, 94, 95, 97, 98, 101, 102, 103, 106, 107, 110, 111, 112, 113, 114, 115, 116, 119, 120, 121, 122, 123, 124, 125, 126, 127, 128, 129, 130, 133, 134, 135, 136, 139, 140, 142, 145, 148, 149, 150, 153, 154, 155, 158, 159, 161, 162, 165, 166, 169, 170, 173, 174, 175, 176, 179, 180, 181, 184, 185, 186, 189, 190, 191, 192, 193, 196, 197, 198, 199, 200, 201, 204, 205, 206, 209, 210, 213, 214, 215, 216, 219, 220, 221, 224, 225, 226, 227, 230, 231, 234, 235, 236, 239, 240, 242, 243, 246, 247, 248, 249, 250, 251, 252, 253, 255, 258, 259, 262, 264, 265, 266, 267, 268])
/-- LogicalTimesModel.put(II)V -/
def xY157 : xe_Y := (⟨"LogicalTimesModel", "put", "(II)V"⟩, prog_14_method_27_code, 3, none, [], [0, 1, 4, 5, 8, 9, 10, 11, 14, 15, 18, 19, 20, 21, 22, 25, 26, 27, 30])
/-- LogicalTimesModel.brace(I)Z -/
def xY158 : xe_Y := (⟨"LogicalTimesModel", "brace", "(I)Z"⟩, prog_14_method_29_code, 2, (Option.some Jvm.ClassFile.FieldType.boolean), [], [0, 1, 2, 4, 7, 10, 11, 14, 16, 19, 20, 23, 24, 27, 30, 31, 32, 33, 34, 37, 38])
/-- LogicalTimesModel.statement(II)Z -/
def xY159 : xe_Y := (⟨"LogicalTimesModel", "statement", "(II)Z"⟩, prog_14_method_30_code, 3, (Option.some Jvm.ClassFile.FieldType.boolean), [], [0, 1, 4, 7, 10, 11, 12, 15, 18, 19, 21, 24, 27, 28, 31, 32, 35, 36, 37, 40, 41, 44, 45, 46, 47, 50, 51, 52, 55, 56, 57, 60, 63, 64, 65, 68, 69, 70, 73, 74, 75, 78, 81, 82, 83, 84, 86, 87, 90, 91, 94, 95, 98, 99, 102, 103, 104, 105, 106, 107, 110, 111, 112, 114, 117, 120, 121, 122, 125, 126, 127, 130, 131, 132, 135, 138, 141, 142, 143, 144, 146, 147, 150, 153, 154, 157, 158, 161, 162, 165, 166, 167, 170, 171, 174, 175, 178, 179, 180, 181, 184, 185, 186, 187, 188, 191])
/-- LogicalTimesModel.expression(I)Z -/
def xY160 : xe_Y := (⟨"LogicalTimesModel", "expression", "(I)Z"⟩, prog_14_method_39_code, 4, (Option.some Jvm.ClassFile.FieldType.boolean), [], [0, 1, 2, 5, 6, 7, 10, 11, 12, 15, 16, 17, 20, 21, 24, 25, 26, 27, 28, 29, 30, 33, 34, 35, 38, 41, 42, 43, 44, 47, 48, 51, 54, 55, 57, 60, 63, 64, 65, 68, 69, 70, 73, 74, 75, 78, 79, 80, 83, 84, 85, 88, 89, 90, 93, 94, 95, 98, 99, 102, 105, 106, 107, 108, 111, 114, 115, 118, 119, 122, 123, 124, 127, 128, 131, 132, 135, 136, 137, 140, 141, 142, 143, 146, 147, 150, 151, 154, 155, 158, 159, 162, 163, 166, 167, 170, 171, 174, 175, 176, 177, 180, 183, 184, 185, 188, 191, 192, 195, 196, 199, 200, 203, 204, 207, 208, 209, 210, 213, 214, 217, 218, 219, 220, 221, 224, 225, 226, 229, 230, 233, 236, 237, 238, 241, 242, 245, 248, 249, 252, 253, 254, 255, 258, 259])
/-- LogicalTimesModel.operand(I)Z -/
def xY161 : xe_Y := (⟨"LogicalTimesModel", "operand", "(I)Z"⟩, prog_14_method_40_code, 8, (Option.some Jvm.ClassFile.FieldType.boolean), [], [0, 1, 3, 6, 9, 10, 12, 15, 18, 19, 22, 24, 27, 28, 31, 32, 33, 34, 37, 38, 39, 42, 43, 46, 47, 50, 51, 53, 56, 59, 61, 64, 66, 67, 68, 69, 72, 73, 74, 77, 78, 80, 83, 86, 87, 88, 91, 92, 93, 96, 97, 100, 101, 104, 105, 106, 107, 110, 113, 114, 115, 116, 119, 120, 123, 124, 125, 128, 129, 130, 131, 134, 135, 138, 139, 140, 143, 144, 147, 148, 149, 152, 153, 156, 157, 158, 161, 162, 165, 166, 167, 170, 171, 174, 175, 176, 177, 178, 181, 183, 184, 185, 188, 190, 191, 193, 194, 196, 198, 200, 203, 204, 207, 208, 211, 213, 214, 217, 218, 221, 223, 224, 225, 226, 229, 231, 234, 236, 238, 241, 244, 246, 249, 251, 254, 256, 259, 260, 263, 264, 266, 269, 270, 273, 274, 277, 279, 280, 281, 283, 284, 285, 286, 287, 289, 292, 293, 296, 298, 301, 302, 305, 306, 308, 311, 313, 316, 318, 321, 323, 326, 328, 331, 332, 335])
/-- LogicalTimesModel.past()Z -/
def xY162 : xe_Y := (⟨"LogicalTimesModel", "past", "()Z"⟩, prog_14_method_35_code, 1, (Option.some Jvm.ClassFile.FieldType.boolean), [], [0, 1, 4, 6, 9, 10, 13, 14, 15, 16, 19, 20, 21, 24, 25, 26, 29, 30, 31, 34, 35])
/-- LogicalTimesModel.turn()V -/
def xY163 : xe_Y := (⟨"LogicalTimesModel", "turn", "()V"⟩, prog_14_method_38_code, 1, none, [], [0, 1, 4, 7, 8, 11, 12, 15, 16, 17, 18, 20, 23, 24, 25, 28, 29, 30, 33, 34, 35, 38, 39, 40, 43, 44, 45, 46, 49, 52])
/-- LogicalTimesModel.settle(I)V -/
def xY164 : xe_Y := (⟨"LogicalTimesModel", "settle", "(I)V"⟩, prog_14_method_37_code, 2, none, [], [0, 1, 4, 7, 8, 11, 12, 15, 16, 17, 18, 21, 22, 25, 26, 27, 30, 31, 32, 35, 36, 38, 39, 42, 43, 46, 47, 50, 53])
/-- LogicalTimesModel.tight(I)I -/
def xY165 : xe_Y := (⟨"LogicalTimesModel", "tight", "(I)I"⟩, prog_14_method_36_code, 1, (Option.some Jvm.ClassFile.FieldType.int), [], [0, 1, 3, 6, 7, 9, 12, 13, 15, 18, 19, 22, 23, 25, 28, 29, 31, 34, 35, 38, 39, 41, 44, 45, 47, 50, 51, 54, 55])
/-- LogicalTimesModel.assignment(II)Z -/
def xY166 : xe_Y := (⟨"LogicalTimesModel", "assignment", "(II)Z"⟩, prog_14_method_32_code, 9, (Option.some Jvm.ClassFile.FieldType.boolean), [], [0, 1, 4, 5, 8, 9, 10, 11, 12, 15, 17, 18, 19, 22, 25, 26, 29, 30, 32, 33, 35, 37, 38, 41, 44, 46, 49, 51, 54, 55, 58, 60, 61, 62, 65, 66, 69, 71, 73, 74, 76, 77, 78, 81, 82, 85, 86, 88, 91, 94, 95, 97, 99, 102, 104, 107, 108, 110, 112, 113, 116, 117, 118, 121, 122, 125, 127, 128, 129, 130, 133, 135, 138, 140, 142, 145, 148, 150, 153, 154, 157, 158, 159, 161, 164, 165, 168, 169, 170, 172, 175, 178, 179, 180, 182, 185, 187, 190, 191, 194, 195, 196, 198, 199, 202, 204, 205, 206, 207, 210, 211, 212, 213, 214, 215, 216, 217, 219, 222, 225, 226, 227, 230, 233, 234, 236, 239, 242, 243, 244, 245, 248, 249, 252, 253, 254, 255, 256, 257, 258, 259, 261, 264, 265, 268, 270, 271, 272, 274, 275, 276, 277, 278, 281, 283, 284, 285, 287, 288, 289, 290, 291, 293, 295, 298, 301, 302, 305, 307, 308, 309, 310, 312, 314, 317, 318])
/-- LogicalTimesModel.readSwitch(I)Z -/
def xY167 : xe_Y := (⟨"LogicalTimesModel", "readSwitch", "(I)Z"⟩, prog_14_method_33_code, 5, (Option.some Jvm.ClassFile.FieldType.boolean), [], [0, 1, 2, 5, 6, 7, 10, 11, 14, 15, 18, 19, 20, 23, 24, 27, 28, 31, 32, 33, 34, 37, 38, 41, 42, 43, 44, 45, 48, 49, 52, 53, 54, 55, 56, 59, 60, 63, 64, 65, 66, 69, 70, 73, 74, 75, 76, 77, 80, 81, 84, 85, 86, 87, 90, 91, 92, 93, 95, 97, 98, 101, 104, 105, 108, 109, 112, 114, 115, 116, 119, 120, 121, 124, 126, 127, 128, 131, 132, 135, 136, 137, 140, 143, 144, 145, 148, 151, 152, 153, 156, 159, 160, 161, 162, 165, 167, 168, 171, 173, 174, 175, 176, 179, 181, 182, 183, 184, 187, 189, 190, 193, 194, 195, 196, 199, 202, 203, 204, 205, 207, 208, 211, 212, 214, 217, 220, 221, 222, 223, 226, 228, 229, 232, 233, 236, 237, 238, 239, 242, 244, 245, 248, 249, 252, 253, 254, 255, 256, 259, 260, 263, 264, 265, 268, 269, 272, 273, 276, 279, 280, 281, 282, 283, 286, 287, 288, 291, 292, 294, 297])
/-- LogicalTimesModel.readSlots(I)Z -/
def xY168 : xe_Y := (⟨"LogicalTimesModel", "readSlots", "(I)Z"⟩, prog_14_method_34_code, 4, (Option.some Jvm.ClassFile.FieldType.boolean), [], [0, 1, 2, 5, 6, 7, 10, 11, 12, 13, 14, 15, 18, 19, 20, 21, 22, 23, 26, 29, 30, 31, 32, 35, 36, 39, 40, 41, 42, 45, 46, 49, 50, 53, 54, 55, 58, 59, 62, 63, 64, 65, 66, 69, 70, 71, 74, 75, 78, 79, 80, 81, 82, 83, 85, 88, 91, 92, 94, 97, 98, 99, 100, 103, 104, 105, 108])
/-- LogicalTimesModel.numberMessages()V -/
def xY169 : xe_Y := (⟨"LogicalTimesModel", "numberMessages", "()V"⟩, prog_14_method_44_code, 3, none, [], [0, 1, 2, 3, 4, 7, 10, 11, 14, 15, 16, 17, 18, 19, 20, 21, 24, 27, 28, 31, 32, 33, 34, 35, 36, 37, 40, 43, 44, 47, 48, 49, 50, 53, 56, 57, 60, 61, 62, 63, 64, 65, 66, 67, 70, 71, 74, 75, 76, 77, 78, 81, 82, 83, 84, 87, 88, 89, 92, 93, 96, 97, 98, 99, 102, 103, 104, 105, 108, 109, 110, 111, 114, 117, 120, 123])
/-- LogicalTimesModel.isSent(II)Z -/
def xY170 : xe_Y := (⟨"LogicalTimesModel", "isSent", "(II)Z"⟩, prog_14_method_43_code, 5, (Option.some Jvm.ClassFile.FieldType.boolean), [], [0, 1, 2, 3, 5, 7, 8, 11, 14, 15, 18, 19, 22, 24, 25, 26, 29, 30, 31, 34, 35, 38, 40, 42, 43, 44, 45, 46, 49, 50, 53, 54, 55, 58, 61, 62, 65, 66, 69, 71, 72, 73, 74, 75, 76, 79, 80, 83, 84])
/-- LogicalTimesModel.examine(I)V -/
def xY171 : xe_Y := (⟨"LogicalTimesModel", "examine", "(I)V"⟩, prog_14_method_47_code, 7, none, [], [0, 1, 2, 3, 4, 5, 7, 9, 10, 13, 16, 17, 20, 22, 23, 24, 25, 26, 29, 31, 32, 33, 36, 37, 40, 42, 43, 44, 47, 49, 50, 51, 54, 55, 56, 57, 60, 63, 64, 67, 68, 69, 70, 71, 73, 75, 76, 79, 80, 81, 84, 85, 87, 89, 90, 93, 96, 97, 100, 102, 103, 104, 107, 109, 110, 113, 115, 116, 117, 120, 123, 125, 126, 129, 131, 132, 133, 135, 136, 139, 141, 142, 145, 146, 149, 151, 153, 154, 156, 157, 158, 159, 160, 161, 162, 165, 167, 170, 171, 172, 174, 175, 178, 179, 180, 183, 186, 187, 190, 192, 193, 196, 198, 199, 200, 201, 204, 206, 208, 209, 211, 212, 214, 215, 218, 221, 222, 224, 226, 227, 230, 232, 233, 236, 237, 238, 241, 242, 243, 245, 247, 250, 252, 254, 257, 260, 261, 264, 266, 267, 268, 269, 270, 271, 272, 275, 277, 278, 281, 282, 285, 287, 289, 290, 292, 293, 296, 298, 299, 300, 301, 303, 304, 305, 306, 309, 312, 315, 318, 319, 321, 323, 324, 327, 330, 331, 334, 336, 337, 338, 341, 342, 344, 347, 350, 353, 354, 357, 358, 359, 362, 363, 366, 367, 368, 369, 370, 371, 374, 375, 376, 378, 380, 381, 384, 387, 388, 391, 393, 394, 395, 398, 399, 402, 404, 405, 406, 407, 410, 412, 413, 416, 417, 420, 423, 424, 425, 426, 428, 430, 433, 434, 435, 437, 440, 443, 444, 447, 448, 451, 453, 454, 455, 458, 461])
/-- LogicalTimesModel.chosen(III)I -/
def xY172 : xe_Y := (⟨"LogicalTimesModel", "chosen", "(III)I"⟩, prog_14_method_46_code, 7, (Option.some Jvm.ClassFile.FieldType.int), [], [0, 1, 3, 4, 6, 8, 9, 12, 15, 16, 19, 21, 22, 23, 26, 27, 30, 32, 33, 34, 37, 38, 41, 43, 44, 47, 48, 51, 52, 54, 56, 59, 61, 64, 65, 67, 68, 71, 72, 74, 75, 78, 81, 83, 85, 88, 91, 93])
/-- LogicalTimesModel.endOf(II)I -/
def xY173 : xe_Y := (⟨"LogicalTimesModel", "endOf", "(II)I"⟩, prog_14_method_45_code, 3, (Option.some Jvm.ClassFile.FieldType.int), [], [0, 1, 2, 5, 6, 7, 8, 9, 10, 11, 14, 15, 16, 17])
/-- LogicalTimesModel.reckonSpare(I)V -/
def xY174 : xe_Y := (⟨"LogicalTimesModel", "reckonSpare", "(I)V"⟩, prog_14_method_48_code, 5, none, [], [0, 1, 4, 5, 8, 9, 10, 11, 12, 13, 16, 17, 18, 21, 22, 25, 27, 28, 29, 30, 31, 32, 33, 34, 37, 38, 41, 42, 43, 44, 45, 48, 49, 50, 51, 52, 53, 55, 56, 59, 60, 62, 63, 66, 67, 68, 71, 73, 76, 77, 80, 81, 82, 83, 86, 89])
/-- LogicalTimesModel.messageFor(II)I -/
def xY175 : xe_Y := (⟨"LogicalTimesModel", "messageFor", "(II)I"⟩, prog_14_method_50_code, 11, (Option.some Jvm.ClassFile.FieldType.int), [], [0, 1, 2, 3, 5, 6, 8, 10, 11, 14, 17, 18, 21, 23, 24, 25, 28, 31, 32, 33, 36, 38, 39, 40, 42, 43, 46, 48, 49, 51, 52, 54, 56, 58, 61, 62, 65, 67, 68, 70, 72, 73, 74, 76, 77, 79, 80, 83, 85, 87, 88, 90, 91, 92, 93, 96, 97, 98, 100, 103, 106, 107, 110, 111, 113, 115, 118, 119, 122, 123, 125, 126, 129, 131, 134, 137, 139, 140, 141, 143, 144, 147, 149, 152, 155, 158, 161, 162])
/-- LogicalTimesModel.slotOf(II)I -/
def xY176 : xe_Y := (⟨"LogicalTimesModel", "slotOf", "(II)I"⟩, prog_14_method_49_code, 4, (Option.some Jvm.ClassFile.FieldType.int), [], [0, 1, 2, 3, 4, 7, 10, 11, 14, 15, 16, 17, 20, 21, 24, 25, 26, 27, 30, 31, 34, 35, 36, 37, 40, 43, 44])
/-- LogicalTimesModel.reset(I)V -/
def xY177 : xe_Y := (⟨"LogicalTimesModel", "reset", "(I)V"⟩, prog_14_method_53_code, 3, none, [], [0, 1, 2, 3, 4, 5, 8, 9, 10, 11, 14, 17, 18, 21, 22, 25, 26, 29, 32, 33, 34, 35, 38, 39, 40, 43, 44, 45, 48, 49, 50, 53, 54, 55, 58, 59, 60, 63, 64, 65, 68, 69, 70, 73, 74, 75, 76, 78, 81, 82, 85, 86, 87, 88, 91, 94, 95, 98, 99, 100, 103, 104, 105, 108, 111, 112, 113, 114, 116, 119, 120, 123, 124, 125, 128, 129, 131, 132, 133, 134, 137, 140, 141, 142, 143, 144, 147, 148, 151, 152, 153, 154, 155, 158, 159, 160, 161, 164, 167, 168, 169, 170, 172, 175, 176, 179, 180, 181, 182, 183, 186, 187, 188, 189, 192, 195])
/-- LogicalTimesModel.count(I)I -/
def xY178 : xe_Y := (⟨"LogicalTimesModel", "count", "(I)I"⟩, prog_14_method_59_code, 4, (Option.some Jvm.ClassFile.FieldType.int), [], [0, 1, 2, 5, 6, 7, 8, 9, 10, 11, 14, 17, 18, 19, 22, 23, 24, 25, 26, 29, 32, 33, 36, 37, 40, 43, 44, 45, 48, 49, 52, 55, 56, 57, 60, 61, 64, 67, 68, 69, 72, 73, 76, 79, 80, 81, 84, 85, 88, 89])
/-- LogicalTimesModel.task(II)I -/
def xY179 : xe_Y := (⟨"LogicalTimesModel", "task", "(II)I"⟩, prog_14_method_61_code, 5, (Option.some Jvm.ClassFile.FieldType.int), [], [0, 1, 2, 3, 6, 9, 10, 11, 12, 15, 18, 21, 22, 25, 26, 29, 30, 33, 36, 37, 38, 39, 40, 43, 44, 47, 48, 51, 52, 53, 56, 57, 58, 61, 62, 65, 66, 67, 70, 71, 72, 75, 76, 79, 80, 81, 84, 85, 86, 89, 90, 93, 94, 95, 98, 99, 102, 103, 104, 105, 106, 107, 108, 110, 112, 113, 116, 119, 120, 121, 124, 126, 127, 128, 130, 131, 132, 135, 136, 139, 140, 141, 142, 145, 148, 149])
/-- LogicalTimesModel.isTask(I)Z -/
def xY180 : xe_Y := (⟨"LogicalTimesModel", "isTask", "(I)Z"⟩, prog_14_method_60_code, 2, (Option.some Jvm.ClassFile.FieldType.boolean), [], [0, 1, 2, 3, 4, 7, 8, 9, 10, 13])
/-- LogicalTimesModel.check(I)I -/
def xY181 : xe_Y := (⟨"LogicalTimesModel", "check", "(I)I"⟩, prog_14_method_62_code, 2, (Option.some Jvm.ClassFile.FieldType.int), [], [0, 1, 2, 3, 4, 5, 8, 9, 10, 11, 14, 17, 18, 21, 22, 25, 26, 29, 32, 33, 36, 37, 40, 41, 42])
/-- LogicalTimesModel.slack(I)I -/
def xY182 : xe_Y := (⟨"LogicalTimesModel", "slack", "(I)I"⟩, prog_14_method_63_code, 2, (Option.some Jvm.ClassFile.FieldType.int), [], [0, 1, 2, 3, 6, 9, 10, 13, 14, 17, 18, 21, 24, 25, 28, 29, 32, 33, 34])
/-- LogicalTimesModel.slot(II)I -/
def xY183 : xe_Y := (⟨"LogicalTimesModel", "slot", "(II)I"⟩, prog_14_method_64_code, 3, (Option.some Jvm.ClassFile.FieldType.int), [], [0, 1, 2, 3, 4, 5, 8, 9, 10, 11, 14, 17, 18, 19, 20, 21, 24, 25, 26, 27, 28, 29, 32, 35, 36, 39, 40, 43, 44, 47, 50, 51, 54, 55, 56, 57, 60])
/-- LogicalTimesModel.takes(II)V -/
def xY184 : xe_Y := (⟨"LogicalTimesModel", "takes", "(II)V"⟩, prog_14_method_65_code, 3, none, [], [0, 1, 2, 5, 8, 9, 12, 13, 14, 17, 20, 21, 24, 25, 26, 27, 28, 31, 32, 33, 34, 37, 40, 41, 44, 45, 48, 49, 52, 55, 56, 59, 60, 61, 62])
/-- LogicalTimesModel.sensor(II)V -/
def xY185 : xe_Y := (⟨"LogicalTimesModel", "sensor", "(II)V"⟩, prog_14_method_66_code, 3, none, [], [0, 1, 2, 5, 8, 9, 12, 13, 14, 15, 16, 19, 20, 21, 22, 25, 28, 29, 32, 33, 36, 37, 40, 43, 44, 47, 48, 49, 50])
/-- LogicalTimesModel.tick(I)V -/
def xY186 : xe_Y := (⟨"LogicalTimesModel", "tick", "(I)V"⟩, prog_14_method_67_code, 3, none, [], [0, 1, 2, 5, 8, 9, 12, 13, 14, 15, 18, 21, 24, 25, 28, 29, 32, 33, 34, 35, 36, 39, 40, 43, 46, 47, 50, 53, 56])
/-- LogicalTimesModel.step()V -/
def xY187 : xe_Y := (⟨"LogicalTimesModel", "step", "()V"⟩, prog_14_method_58_code, 2, none, [], [0, 1, 4, 7, 8, 9, 10, 11, 14, 17, 18, 21, 22, 23, 24, 27, 30, 31, 34, 35, 38, 39, 40, 41, 44, 45, 46, 49, 52, 55, 56, 59, 62, 63, 66, 67, 70, 71, 74, 75, 78, 79, 80, 83, 84, 85, 86, 87, 90, 93, 94, 97, 98, 99, 100, 103, 106, 107, 110, 111, 114, 115, 116, 117, 120, 121, 122, 125, 128, 131, 132, 133, 134, 135, 138, 141, 142, 145, 146, 147, 148, 151, 154, 155, 158, 159, 160, 161, 164, 167, 168, 171, 172, 173, 176, 177, 178, 181, 182, 183, 186, 189, 192, 193, 194, 195, 196, 199, 200, 203, 204, 205, 206, 209, 210, 211, 214, 217, 218, 219, 222, 223, 224, 227, 230, 231, 234, 235, 238, 239, 240, 241, 242, 243, 244, 245, 246, 249, 250, 253, 254, 255, 256, 259, 260, 261, 264, 265, 266, 269, 272, 275, 276, 277, 280, 281, 282, 285])
/-- LogicalTimesModel.finish(I)V -/
def xY188 : xe_Y := (⟨"LogicalTimesModel", "finish", "(I)V"⟩, prog_14_method_54_code, 5, none, [], [0, 1, 2, 3, 4, 7, 10, 11, 14, 16, 17, 18, 19, 20, 21, 24, 27, 28, 31, 32, 33, 36, 38, 39, 40, 41, 42, 43, 44, 45, 46, 47, 48, 51, 52, 55, 56, 57, 60, 61, 62, 65, 66, 67, 70, 71, 74, 76, 77, 78, 79, 80, 81, 84, 85, 88, 89, 91, 92, 95, 97, 98, 99, 100, 101, 103, 106, 107, 110, 112, 113, 114, 115, 116, 117, 120, 121, 124, 126, 127, 128, 129, 130, 131, 132, 135, 138, 141, 144, 145, 148, 149, 150, 153, 154, 155, 156, 159, 160, 161, 164, 165, 166, 169, 170, 173, 174, 175, 176])
/-- LogicalTimesModel.goesOver()Z -/
def xY189 : xe_Y := (⟨"LogicalTimesModel", "goesOver", "()Z"⟩, prog_14_method_55_code, 3, (Option.some Jvm.ClassFile.FieldType.boolean), [], [0, 1, 2, 3, 4, 7, 10, 11, 14, 15, 16, 17, 20, 23, 24, 27, 28, 31, 32, 33, 34, 37, 40, 41, 42, 43, 45, 48, 49, 52, 53, 54, 57, 58, 59, 60, 63, 66, 67, 68, 71, 72, 73, 76, 79, 82, 83, 84, 85, 88, 89, 90, 93, 96, 97, 98, 101, 102, 103, 106, 107, 108, 111, 114, 115])
/-- LogicalTimesModel.run(I)I -/
def xY190 : xe_Y := (⟨"LogicalTimesModel", "run", "(I)I"⟩, prog_14_method_51_code, 7, (Option.some Jvm.ClassFile.FieldType.int), [], [0, 1, 2, 3, 5, 8, 9, 12, 13, 14, 17, 18, 19, 20, 23, 26, 27, 28, 29, 31, 34, 35, 38, 39, 40, 41, 44, 47, 48, 49, 50, 51, 52, 54, 55, 58, 60, 61, 63, 66, 67, 70, 72, 73, 75, 76, 79, 81, 82, 84, 87, 89, 90, 93, 95, 96, 99, 101, 102, 105, 107, 108, 111, 112, 115, 116, 118, 119, 122, 124, 127, 129, 130, 133, 134, 137, 139, 140, 143, 145, 146, 149, 150, 153, 155, 156, 159, 160, 163, 165, 166, 167, 170, 173, 175, 176, 179, 180, 183, 184, 185, 186, 187, 190, 191, 192, 193, 194, 195, 196, 199, 201, 203, 206, 209, 210, 213, 214, 215, 216, 218, 219, 222, 223, 224, 225, 226, 227, 230, 231, 232, 235, 236, 239, 241, 243, 246, 248, 250, 253, 256, 258, 260, 263, 264, 267, 269, 270, 273, 274, 275, 276, 279, 280, 283, 285, 286, 289, 290, 291, 292, 295, 297, 299, 302, 305, 306, 309, 310, 311, 314, 316, 319, 321, 323, 326, 328, 330, 333, 335, 337, 340, 342, 344, 347, 348, 351, 352, 354, 355, 358, 361, 362, 365, 366, 367, 368, 369, 370, 371, 372, 373, 374, 377, 378, 379, 380, 381, 384, 386, 388, 391, 394, 397, 398, 401, 402, 405, 406, 407, 410, 411])
/-- LogicalTimesModel.two(III)I -/
def xY191 : xe_Y := (⟨"LogicalTimesModel", "two", "(III)I"⟩, prog_14_method_52_code, 3, (Option.some Jvm.ClassFile.FieldType.int), [], [0, 1, 60, 61, 62, 63, 64, 65, 66, 67, 68, 69, 70, 71, 72, 73, 76, 77, 80, 81, 82, 83, 84, 85, 88, 89, 92, 93, 94, 95, 96, 97, 98, 101, 102, 105, 106, 107, 108, 109, 112, 113, 116, 117])
/-- LogicalTimesModel.begin(I)V -/
def xY192 : xe_Y := (⟨"LogicalTimesModel", "begin", "(I)V"⟩, prog_14_method_56_code, 4, none, [], [0, 1, 2, 3, 5, 8, 9, 12, 13, 14, 17, 19, 20, 23, 24, 25, 26, 27, 28, 29, 30, 33, 36, 37, 38, 41, 42, 43, 46, 47, 48, 49, 50, 52, 55, 56, 59, 61, 62, 63, 64, 65, 66, 69, 70, 71, 72, 73, 76, 77, 78, 81, 82, 83, 84, 85, 88, 90, 91, 92, 93, 94, 95, 96, 99, 102, 103, 104, 107, 108, 109, 112, 113, 114, 115, 116, 118, 121, 122, 125, 127, 128, 129, 130, 131, 132, 135, 136, 137, 138, 141, 144, 145, 148, 149, 150, 153, 154, 155, 158, 159, 162, 163, 164, 167, 168, 171, 172, 173, 174, 175, 178, 179, 180, 181, 182, 185, 186, 187, 190, 191, 192, 195, 196, 197, 200])
/-- LogicalTimesModel.send(I)V -/
def xY193 : xe_Y := (⟨"LogicalTimesModel", "send", "(I)V"⟩, prog_14_method_57_code, 5, none, [], [0, 1, 2, 3, 4, 7, 10, 11, 12, 15, 16, 17, 18, 19, 22, 23, 26, 27, 28, 29, 30, 33, 34, 35, 36, 37, 38, 39, 42, 43, 44, 45, 48, 51, 52, 55, 56, 57, 60, 61, 62, 63, 64, 67, 68, 69, 70, 71, 72, 75, 78, 81, 82, 84, 86, 87, 90, 93, 94, 95, 97, 100, 103, 106, 107, 110, 111, 114, 116, 117, 118, 120, 121, 122, 123, 124, 125, 128, 129, 130, 133, 136, 139, 142, 145, 148])
/-- LogicalTimesModel.port(II)I -/
def xY194 : xe_Y := (⟨"LogicalTimesModel", "port", "(II)I"⟩, prog_14_method_68_code, 3, (Option.some Jvm.ClassFile.FieldType.int), [], [0, 1, 2, 5, 8, 9, 12, 13, 14, 15, 18, 21, 24, 25, 26, 27, 28, 31, 32, 33, 34, 37, 40, 41, 44, 45, 48, 49, 52, 55, 56, 59, 60, 63, 65, 66, 67, 68, 69, 70])
/-- LogicalTimesModel.denoted(I)I -/
def xY195 : xe_Y := (⟨"LogicalTimesModel", "denoted", "(I)I"⟩, prog_14_method_69_code, 2, (Option.some Jvm.ClassFile.FieldType.int), [], [0, 1, 2, 5, 8, 9, 12, 13, 14, 15, 16, 19, 20, 21, 22, 25, 28, 29, 32, 33, 36, 37, 40, 43, 44, 47, 48, 51, 52, 53])
/-- LogicalTimesModel.state(I)I -/
def xY196 : xe_Y := (⟨"LogicalTimesModel", "state", "(I)I"⟩, prog_14_method_70_code, 2, (Option.some Jvm.ClassFile.FieldType.int), [], [0, 1, 2, 5, 8, 9, 12, 13, 14, 15, 18, 21, 24, 25, 28, 29, 32, 33, 36, 39, 40, 41, 42, 80, 81, 84, 85, 86, 89, 90, 91, 94, 95, 96, 99, 100, 101, 104, 105, 106, 109, 110, 111, 114])
/-- LogicalTimesModel.running(I)I -/
def xY197 : xe_Y := (⟨"LogicalTimesModel", "running", "(I)I"⟩, prog_14_method_71_code, 2, (Option.some Jvm.ClassFile.FieldType.int), [], [0, 1, 2, 5, 8, 9, 12, 13, 14, 15, 18, 21, 24, 25, 28, 29, 32, 33, 36, 39, 40, 43, 44, 47, 48, 49])
def xM_Ys : List xe_Y := [xY0, xY1, xY2, xY3, xY4, xY5, xY6, xY7, xY8, xY9, xY10, xY11, xY12, xY13, xY14, xY15, xY16, xY17, xY18, xY19, xY20, xY21, xY22, xY23, xY24, xY25, xY26, xY27, xY28, xY29, xY30, xY31, xY32, xY33, xY34, xY35, xY36, xY37, xY38, xY39, xY40, xY41, xY42, xY43, xY44, xY45, xY46, xY47, xY48, xY49, xY50, xY51, xY52, xY53, xY54, xY55, xY56, xY57, xY58, xY59, xY60, xY61, xY62, xY63, xY64, xY65, xY66, xY67, xY68, xY69, xY70, xY71, xY72, xY73, xY74, xY75, xY76, xY77, xY78, xY79, xY80, xY81, xY82, xY83, xY84, xY85, xY86, xY87, xY88, xY89, xY90, xY91, xY92, xY93, xY94, xY95, xY96, xY97, xY98, xY99, xY100, xY101, xY102, xY103, xY104, xY105, xY106, xY107, xY108, xY109, xY110, xY111, xY112, xY113, xY114, xY115, xY116, xY117, xY118, xY119, xY120, xY121, xY122, xY123, xY124, xY125, xY126, xY127, xY128, xY129, xY130, xY131, xY132, xY133, xY134, xY135, xY136, xY137, xY138, xY139, xY140, xY141, xY142, xY143, xY144, xY145, xY146, xY147, xY148, xY149, xY150, xY151, xY152, xY153, xY154, xY155, xY156, xY157, xY158, xY159, xY160, xY161, xY162, xY163, xY164, xY165, xY166, xY167, xY168, xY169, xY170, xY171, xY172, xY173, xY174, xY175, xY176, xY177, xY178, xY179, xY180, xY181, xY182, xY183, xY184, xY185, xY186, xY187, xY188, xY189, xY190, xY191, xY192, xY193, xY194, xY195, xY196, xY197]
def xM_Y (y : Nat) : Option xe_Y := xM_Ys[y]?
def xM_L (y : Nat) : Nat := match xM_Y y with
  | some Y => xy_l Y
  | none => 0
theorem xK0 : xg_ok 0 xR0 xT0 8 := ⟨rfl, xK0_w, xK0_t, xK0_n⟩
theorem xK1 : xg_ok 1 xR1 xT1 5 := ⟨rfl, xK1_w, xK1_t, xK1_n⟩
theorem xK2 : xg_ok 2 xR2 xT2 13 := ⟨rfl, xK2_w, xK2_t, xK2_n⟩
theorem xK3 : xg_ok 3 xR3 xT3 4 := ⟨rfl, xK3_w, xK3_t, xK3_n⟩
theorem xK4 : xg_ok 4 xR4 xT4 8 := ⟨rfl, xK4_w, xK4_t, xK4_n⟩
theorem xK5 : xg_ok 5 xR5 xT5 12 := ⟨rfl, xK5_w, xK5_t, xK5_n⟩
theorem xK6 : xg_ok 6 xR6 xT6 7 := ⟨rfl, xK6_w, xK6_t, xK6_n⟩
theorem xK7 : xg_ok 7 xR7 xT7 13 := ⟨rfl, xK7_w, xK7_t, xK7_n⟩
theorem xK8 : xg_ok 8 xR8 xT8 15 := ⟨rfl, xK8_w, xK8_t, xK8_n⟩
theorem xK9 : xg_ok 9 xR9 xT9 5 := ⟨rfl, xK9_w, xK9_t, xK9_n⟩
theorem xK10 : xg_ok 10 xR10 xT10 8 := ⟨rfl, xK10_w, xK10_t, xK10_n⟩
theorem xK11 : xg_ok 11 xR11 xT11 87 := ⟨rfl, xK11_w, xK11_t, xK11_n⟩
set_option maxRecDepth 100000 in
theorem xm1 : xe_OKM xY1 := ⟨xg_c1 33 rfl rfl, xg_w 1 (by decide +kernel), by decide +kernel, rfl⟩
set_option maxRecDepth 100000 in
theorem xm2 : xe_OKM xY2 := ⟨xg_c1 41 rfl rfl, xg_w 2 (by decide +kernel), by decide +kernel, rfl⟩
set_option maxRecDepth 100000 in
theorem xm3 : xe_OKM xY3 := ⟨xg_c1 71 rfl rfl, xg_w 3 (by decide +kernel), by decide +kernel, rfl⟩
set_option maxRecDepth 100000 in
theorem xm4 : xe_OKM xY4 := ⟨xg_c1 77 rfl rfl, xg_w 4 (by decide +kernel), by decide +kernel, rfl⟩
set_option maxRecDepth 100000 in
theorem xm5 : xe_OKM xY5 := ⟨xg_c1 113 rfl rfl, xg_w 5 (by decide +kernel), by decide +kernel, rfl⟩
set_option maxRecDepth 100000 in
theorem xm6 : xe_OKM xY6 := ⟨xg_c1 121 rfl rfl, xg_w 6 (by decide +kernel), by decide +kernel, rfl⟩
set_option maxRecDepth 100000 in
theorem xm7 : xe_OKM xY7 := ⟨xg_c1 208 rfl rfl, xg_w 7 (by decide +kernel), by decide +kernel, rfl⟩
set_option maxRecDepth 100000 in
theorem xm8 : xe_OKM xY8 := ⟨xg_c1 214 rfl rfl, xg_w 8 (by decide +kernel), by decide +kernel, rfl⟩
set_option maxRecDepth 100000 in
theorem xm9 : xe_OKM xY9 := ⟨xg_c2 131 rfl rfl, xg_w 9 (by decide +kernel), by decide +kernel, rfl⟩
set_option maxRecDepth 100000 in
theorem xm10 : xe_OKM xY10 := ⟨xg_c2 137 rfl rfl, xg_w 10 (by decide +kernel), by decide +kernel, rfl⟩
set_option maxRecDepth 100000 in
theorem xm11 : xe_OKM xY11 := ⟨xg_c2 196 rfl rfl, xg_w 11 (by decide +kernel), by decide +kernel, rfl⟩
set_option maxRecDepth 100000 in
theorem xm12 : xe_OKM xY12 := ⟨xg_c3 40 rfl rfl, xg_w 1 (by decide +kernel), by decide +kernel, rfl⟩
set_option maxRecDepth 100000 in
theorem xm13 : xe_OKM xY13 := ⟨xg_c3 44 rfl rfl, xg_w 1 (by decide +kernel), by decide +kernel, rfl⟩
set_option maxRecDepth 100000 in
theorem xm14 : xe_OKM xY14 := ⟨xg_c3 48 rfl rfl, xg_w 1 (by decide +kernel), by decide +kernel, rfl⟩
set_option maxRecDepth 100000 in
theorem xm15 : xe_OKM xY15 := ⟨xg_c3 55 rfl rfl, xg_w 1 (by decide +kernel), by decide +kernel, rfl⟩
set_option maxRecDepth 100000 in
theorem xm16 : xe_OKM xY16 := ⟨xg_c3 60 rfl rfl, xg_w 2 (by decide +kernel), by decide +kernel, rfl⟩
set_option maxRecDepth 100000 in
theorem xm17 : xe_OKM xY17 := ⟨xg_c3 63 rfl rfl, xg_w 2 (by decide +kernel), by decide +kernel, rfl⟩
set_option maxRecDepth 100000 in
theorem xm18 : xe_OKM xY18 := ⟨xg_c3 67 rfl rfl, xg_w 2 (by decide +kernel), by decide +kernel, rfl⟩
set_option maxRecDepth 100000 in
theorem xm19 : xe_OKM xY19 := ⟨xg_c3 73 rfl rfl, xg_w 2 (by decide +kernel), by decide +kernel, rfl⟩
set_option maxRecDepth 100000 in
theorem xm20 : xe_OKM xY20 := ⟨xg_c3 76 rfl rfl, xg_w 2 (by decide +kernel), by decide +kernel, rfl⟩
set_option maxRecDepth 100000 in
theorem xm21 : xe_OKM xY21 := ⟨xg_c3 80 rfl rfl, xg_w 2 (by decide +kernel), by decide +kernel, rfl⟩
set_option maxRecDepth 100000 in
theorem xm22 : xe_OKM xY22 := ⟨xg_c3 83 rfl rfl, xg_w 2 (by decide +kernel), by decide +kernel, rfl⟩
set_option maxRecDepth 100000 in
theorem xm23 : xe_OKM xY23 := ⟨xg_c3 90 rfl rfl, xg_w 15 (by decide +kernel), by decide +kernel, rfl⟩
set_option maxRecDepth 100000 in
theorem xm24 : xe_OKM xY24 := ⟨xg_c3 97 rfl rfl, xg_w 15 (by decide +kernel), by decide +kernel, rfl⟩
set_option maxRecDepth 100000 in
theorem xm25 : xe_OKM xY25 := ⟨xg_c3 101 rfl rfl, xg_w 16 (by decide +kernel), by decide +kernel, rfl⟩
set_option maxRecDepth 100000 in
theorem xm26 : xe_OKM xY26 := ⟨xg_c3 105 rfl rfl, xg_w 16 (by decide +kernel), by decide +kernel, rfl⟩
set_option maxRecDepth 100000 in
theorem xm27 : xe_OKM xY27 := ⟨xg_c3 111 rfl rfl, xg_w 16 (by decide +kernel), by decide +kernel, rfl⟩
set_option maxRecDepth 100000 in
theorem xm28 : xe_OKM xY28 := ⟨xg_c3 115 rfl rfl, xg_w 16 (by decide +kernel), by decide +kernel, rfl⟩
set_option maxRecDepth 100000 in
theorem xm29 : xe_OKM xY29 := ⟨xg_c3 118 rfl rfl, xg_w 17 (by decide +kernel), by decide +kernel, rfl⟩
set_option maxRecDepth 100000 in
theorem xm30 : xe_OKM xY30 := ⟨xg_c3 121 rfl rfl, xg_w 16 (by decide +kernel), by decide +kernel, rfl⟩
set_option maxRecDepth 100000 in
theorem xm31 : xe_OKM xY31 := ⟨xg_c3 126 rfl rfl, xg_w 18 (by decide +kernel), by decide +kernel, rfl⟩
set_option maxRecDepth 100000 in
theorem xm32 : xe_OKM xY32 := ⟨xg_c3 149 rfl rfl, xg_w 2 (by decide +kernel), by decide +kernel, rfl⟩
set_option maxRecDepth 100000 in
theorem xm33 : xe_OKM xY33 := ⟨xg_c3 156 rfl rfl, xg_w 9 (by decide +kernel), by decide +kernel, rfl⟩
set_option maxRecDepth 100000 in
theorem xm34 : xe_OKM xY34 := ⟨xg_c3 160 rfl rfl, xg_w 3 (by decide +kernel), by decide +kernel, rfl⟩
set_option maxRecDepth 100000 in
theorem xm35 : xe_OKM xY35 := ⟨xg_c3 166 rfl rfl, xg_w 9 (by decide +kernel), by decide +kernel, rfl⟩
set_option maxRecDepth 100000 in
theorem xm36 : xe_OKM xY36 := ⟨xg_c3 172 rfl rfl, xg_w 9 (by decide +kernel), by decide +kernel, rfl⟩
set_option maxRecDepth 100000 in
theorem xm37 : xe_OKM xY37 := ⟨xg_c3 175 rfl rfl, xg_w 9 (by decide +kernel), by decide +kernel, rfl⟩
set_option maxRecDepth 100000 in
theorem xm38 : xe_OKM xY38 := ⟨xg_c4 2 rfl rfl, xg_w 9 (by decide +kernel), by decide +kernel, rfl⟩
set_option maxRecDepth 100000 in
theorem xm39 : xe_OKM xY39 := ⟨xg_c4 7 rfl rfl, xg_w 10 (by decide +kernel), by decide +kernel, rfl⟩
set_option maxRecDepth 100000 in
theorem xm40 : xe_OKM xY40 := ⟨xg_c4 11 rfl rfl, xg_w 10 (by decide +kernel), by decide +kernel, rfl⟩
set_option maxRecDepth 100000 in
theorem xm41 : xe_OKM xY41 := ⟨xg_c4 17 rfl rfl, xg_w 9 (by decide +kernel), by decide +kernel, rfl⟩
set_option maxRecDepth 100000 in
theorem xm42 : xe_OKM xY42 := ⟨xg_c4 22 rfl rfl, xg_w 9 (by decide +kernel), by decide +kernel, rfl⟩
set_option maxRecDepth 100000 in
theorem xm43 : xe_OKM xY43 := ⟨xg_c4 27 rfl rfl, xg_w 3 (by decide +kernel), by decide +kernel, rfl⟩
set_option maxRecDepth 100000 in
theorem xm44 : xe_OKM xY44 := ⟨xg_c4 35 rfl rfl, xg_w 9 (by decide +kernel), by decide +kernel, rfl⟩
set_option maxRecDepth 100000 in
theorem xm45 : xe_OKM xY45 := ⟨xg_c4 39 rfl rfl, xg_w 3 (by decide +kernel), by decide +kernel, rfl⟩
set_option maxRecDepth 100000 in
theorem xm46 : xe_OKM xY46 := ⟨xg_c4 43 rfl rfl, xg_w 5 (by decide +kernel), by decide +kernel, rfl⟩
set_option maxRecDepth 100000 in
theorem xm47 : xe_OKM xY47 := ⟨xg_c4 51 rfl rfl, xg_w 9 (by decide +kernel), by decide +kernel, rfl⟩
set_option maxRecDepth 100000 in
theorem xm48 : xe_OKM xY48 := ⟨xg_c4 55 rfl rfl, xg_w 9 (by decide +kernel), by decide +kernel, rfl⟩
set_option maxRecDepth 100000 in
theorem xm49 : xe_OKM xY49 := ⟨xg_c4 59 rfl rfl, xg_w 5 (by decide +kernel), by decide +kernel, rfl⟩
set_option maxRecDepth 100000 in
theorem xm50 : xe_OKM xY50 := ⟨xg_c4 65 rfl rfl, xg_w 3 (by decide +kernel), by decide +kernel, rfl⟩
set_option maxRecDepth 100000 in
theorem xm51 : xe_OKM xY51 := ⟨xg_c4 69 rfl rfl, xg_w 7 (by decide +kernel), by decide +kernel, rfl⟩
set_option maxRecDepth 100000 in
theorem xm52 : xe_OKM xY52 := ⟨xg_c4 73 rfl rfl, xg_w 9 (by decide +kernel), by decide +kernel, rfl⟩
set_option maxRecDepth 100000 in
theorem xm53 : xe_OKM xY53 := ⟨xg_c4 77 rfl rfl, xg_w 9 (by decide +kernel), by decide +kernel, rfl⟩
set_option maxRecDepth 100000 in
theorem xm54 : xe_OKM xY54 := ⟨xg_c4 83 rfl rfl, xg_w 9 (by decide +kernel), by decide +kernel, rfl⟩
set_option maxRecDepth 100000 in
theorem xm55 : xe_OKM xY55 := ⟨xg_c4 89 rfl rfl, xg_w 9 (by decide +kernel), by decide +kernel, rfl⟩
set_option maxRecDepth 100000 in
theorem xm56 : xe_OKM xY56 := ⟨xg_c4 93 rfl rfl, xg_w 9 (by decide +kernel), by decide +kernel, rfl⟩
set_option maxRecDepth 100000 in
theorem xm57 : xe_OKM xY57 := ⟨xg_c4 97 rfl rfl, xg_w 9 (by decide +kernel), by decide +kernel, rfl⟩
set_option maxRecDepth 100000 in
theorem xm58 : xe_OKM xY58 := ⟨xg_c4 101 rfl rfl, xg_w 4 (by decide +kernel), by decide +kernel, rfl⟩
set_option maxRecDepth 100000 in
theorem xm59 : xe_OKM xY59 := ⟨xg_c4 107 rfl rfl, xg_w 9 (by decide +kernel), by decide +kernel, rfl⟩
set_option maxRecDepth 100000 in
theorem xm60 : xe_OKM xY60 := ⟨xg_c4 117 rfl rfl, xg_w 4 (by decide +kernel), by decide +kernel, rfl⟩
set_option maxRecDepth 100000 in
theorem xm61 : xe_OKM xY61 := ⟨xg_c4 126 rfl rfl, xg_w 9 (by decide +kernel), by decide +kernel, rfl⟩
set_option maxRecDepth 100000 in
theorem xm62 : xe_OKM xY62 := ⟨xg_c4 130 rfl rfl, xg_w 9 (by decide +kernel), by decide +kernel, rfl⟩
set_option maxRecDepth 100000 in
theorem xm63 : xe_OKM xY63 := ⟨xg_c4 136 rfl rfl, xg_w 9 (by decide +kernel), by decide +kernel, rfl⟩
set_option maxRecDepth 100000 in
theorem xm64 : xe_OKM xY64 := ⟨xg_c4 140 rfl rfl, xg_w 5 (by decide +kernel), by decide +kernel, rfl⟩
set_option maxRecDepth 100000 in
theorem xm65 : xe_OKM xY65 := ⟨xg_c4 148 rfl rfl, xg_w 9 (by decide +kernel), by decide +kernel, rfl⟩
set_option maxRecDepth 100000 in
theorem xm66 : xe_OKM xY66 := ⟨xg_c4 155 rfl rfl, xg_w 9 (by decide +kernel), by decide +kernel, rfl⟩
set_option maxRecDepth 100000 in
theorem xm67 : xe_OKM xY67 := ⟨xg_c4 160 rfl rfl, xg_w 9 (by decide +kernel), by decide +kernel, rfl⟩
set_option maxRecDepth 100000 in
theorem xm68 : xe_OKM xY68 := ⟨xg_c4 164 rfl rfl, xg_w 3 (by decide +kernel), by decide +kernel, rfl⟩
set_option maxRecDepth 100000 in
theorem xm69 : xe_OKM xY69 := ⟨xg_c4 168 rfl rfl, xg_w 3 (by decide +kernel), by decide +kernel, rfl⟩
set_option maxRecDepth 100000 in
theorem xm70 : xe_OKM xY70 := ⟨xg_c4 172 rfl rfl, xg_w 3 (by decide +kernel), by decide +kernel, rfl⟩
set_option maxRecDepth 100000 in
theorem xm71 : xe_OKM xY71 := ⟨xg_c4 176 rfl rfl, xg_w 5 (by decide +kernel), by decide +kernel, rfl⟩
set_option maxRecDepth 100000 in
theorem xm72 : xe_OKM xY72 := ⟨xg_c4 180 rfl rfl, xg_w 5 (by decide +kernel), by decide +kernel, rfl⟩
set_option maxRecDepth 100000 in
theorem xm73 : xe_OKM xY73 := ⟨xg_c4 183 rfl rfl, xg_w 25 (by decide +kernel), by decide +kernel, rfl⟩
set_option maxRecDepth 100000 in
theorem xm74 : xe_OKM xY74 := ⟨xg_c4 187 rfl rfl, xg_w 5 (by decide +kernel), by decide +kernel, rfl⟩
set_option maxRecDepth 100000 in
theorem xm75 : xe_OKM xY75 := ⟨xg_c4 191 rfl rfl, xg_w 8 (by decide +kernel), by decide +kernel, rfl⟩
set_option maxRecDepth 100000 in
theorem xm76 : xe_OKM xY76 := ⟨xg_c4 195 rfl rfl, xg_w 5 (by decide +kernel), by decide +kernel, rfl⟩
set_option maxRecDepth 100000 in
theorem xm77 : xe_OKM xY77 := ⟨xg_c4 199 rfl rfl, xg_w 5 (by decide +kernel), by decide +kernel, rfl⟩
set_option maxRecDepth 100000 in
theorem xm78 : xe_OKM xY78 := ⟨xg_c4 203 rfl rfl, xg_w 5 (by decide +kernel), by decide +kernel, rfl⟩
set_option maxRecDepth 100000 in
theorem xm79 : xe_OKM xY79 := ⟨xg_c4 210 rfl rfl, xg_w 5 (by decide +kernel), by decide +kernel, rfl⟩
set_option maxRecDepth 100000 in
theorem xm80 : xe_OKM xY80 := ⟨xg_c4 214 rfl rfl, xg_w 5 (by decide +kernel), by decide +kernel, rfl⟩
set_option maxRecDepth 100000 in
theorem xm81 : xe_OKM xY81 := ⟨xg_c4 218 rfl rfl, xg_w 1 (by decide +kernel), by decide +kernel, rfl⟩
set_option maxRecDepth 100000 in
theorem xm82 : xe_OKM xY82 := ⟨xg_c4 222 rfl rfl, xg_w 3 (by decide +kernel), by decide +kernel, rfl⟩
set_option maxRecDepth 100000 in
theorem xm83 : xe_OKM xY83 := ⟨xg_c4 225 rfl rfl, xg_w 0 (by decide +kernel), by decide +kernel, rfl⟩
set_option maxRecDepth 100000 in
theorem xm84 : xe_OKM xY84 := ⟨xg_c4 230 rfl rfl, xg_w 1 (by decide +kernel), by decide +kernel, rfl⟩
set_option maxRecDepth 100000 in
theorem xm85 : xe_OKM xY85 := ⟨xg_c4 234 rfl rfl, xg_w 1 (by decide +kernel), by decide +kernel, rfl⟩
set_option maxRecDepth 100000 in
theorem xm86 : xe_OKM xY86 := ⟨xg_c4 237 rfl rfl, xg_w 1 (by decide +kernel), by decide +kernel, rfl⟩
set_option maxRecDepth 100000 in
theorem xm87 : xe_OKM xY87 := ⟨xg_c5 15 rfl rfl, xg_w 27 (by decide +kernel), by decide +kernel, rfl⟩
set_option maxRecDepth 100000 in
theorem xm88 : xe_OKM xY88 := ⟨xg_c5 21 rfl rfl, xg_w 0 (by decide +kernel), by decide +kernel, rfl⟩
set_option maxRecDepth 100000 in
theorem xm89 : xe_OKM xY89 := ⟨xg_c5 25 rfl rfl, xg_w 1 (by decide +kernel), by decide +kernel, rfl⟩
set_option maxRecDepth 100000 in
theorem xm90 : xe_OKM xY90 := ⟨xg_c5 29 rfl rfl, xg_w 1 (by decide +kernel), by decide +kernel, rfl⟩
set_option maxRecDepth 100000 in
theorem xm91 : xe_OKM xY91 := ⟨xg_c5 32 rfl rfl, xg_w 0 (by decide +kernel), by decide +kernel, rfl⟩
set_option maxRecDepth 100000 in
theorem xm92 : xe_OKM xY92 := ⟨xg_c5 36 rfl rfl, xg_w 1 (by decide +kernel), by decide +kernel, rfl⟩
set_option maxRecDepth 100000 in
theorem xm93 : xe_OKM xY93 := ⟨xg_c5 39 rfl rfl, xg_w 0 (by decide +kernel), by decide +kernel, rfl⟩
set_option maxRecDepth 100000 in
theorem xm94 : xe_OKM xY94 := ⟨xg_c5 43 rfl rfl, xg_w 1 (by decide +kernel), by decide +kernel, rfl⟩
set_option maxRecDepth 100000 in
theorem xm95 : xe_OKM xY95 := ⟨xg_c5 46 rfl rfl, xg_w 0 (by decide +kernel), by decide +kernel, rfl⟩
set_option maxRecDepth 100000 in
theorem xm96 : xe_OKM xY96 := ⟨xg_c5 50 rfl rfl, xg_w 1 (by decide +kernel), by decide +kernel, rfl⟩
set_option maxRecDepth 100000 in
theorem xm97 : xe_OKM xY97 := ⟨xg_c5 54 rfl rfl, xg_w 11 (by decide +kernel), by decide +kernel, rfl⟩
set_option maxRecDepth 100000 in
theorem xm98 : xe_OKM xY98 := ⟨xg_c5 59 rfl rfl, xg_w 0 (by decide +kernel), by decide +kernel, rfl⟩
set_option maxRecDepth 100000 in
theorem xm99 : xe_OKM xY99 := ⟨xg_c5 65 rfl rfl, xg_w 1 (by decide +kernel), by decide +kernel, rfl⟩
set_option maxRecDepth 100000 in
theorem xm100 : xe_OKM xY100 := ⟨xg_c5 69 rfl rfl, xg_w 1 (by decide +kernel), by decide +kernel, rfl⟩
set_option maxRecDepth 100000 in
theorem xm101 : xe_OKM xY101 := ⟨xg_c5 88 rfl rfl, xg_w 0 (by decide +kernel), by decide +kernel, rfl⟩
set_option maxRecDepth 100000 in
theorem xm102 : xe_OKM xY102 := ⟨xg_c5 92 rfl rfl, xg_w 1 (by decide +kernel), by decide +kernel, rfl⟩
set_option maxRecDepth 100000 in
theorem xm103 : xe_OKM xY103 := ⟨xg_c5 95 rfl rfl, xg_w 0 (by decide +kernel), by decide +kernel, rfl⟩
set_option maxRecDepth 100000 in
theorem xm104 : xe_OKM xY104 := ⟨xg_c5 99 rfl rfl, xg_w 1 (by decide +kernel), by decide +kernel, rfl⟩
set_option maxRecDepth 100000 in
theorem xm105 : xe_OKM xY105 := ⟨xg_c5 103 rfl rfl, xg_w 11 (by decide +kernel), by decide +kernel, rfl⟩
set_option maxRecDepth 100000 in
theorem xm106 : xe_OKM xY106 := ⟨xg_c5 107 rfl rfl, xg_w 11 (by decide +kernel), by decide +kernel, rfl⟩
set_option maxRecDepth 100000 in
theorem xm107 : xe_OKM xY107 := ⟨xg_c5 111 rfl rfl, xg_w 11 (by decide +kernel), by decide +kernel, rfl⟩
set_option maxRecDepth 100000 in
theorem xm108 : xe_OKM xY108 := ⟨xg_c5 115 rfl rfl, xg_w 11 (by decide +kernel), by decide +kernel, rfl⟩
set_option maxRecDepth 100000 in
theorem xm109 : xe_OKM xY109 := ⟨xg_c5 119 rfl rfl, xg_w 11 (by decide +kernel), by decide +kernel, rfl⟩
set_option maxRecDepth 100000 in
theorem xm110 : xe_OKM xY110 := ⟨xg_c5 123 rfl rfl, xg_w 4 (by decide +kernel), by decide +kernel, rfl⟩
set_option maxRecDepth 100000 in
theorem xm111 : xe_OKM xY111 := ⟨xg_c5 129 rfl rfl, xg_w 4 (by decide +kernel), by decide +kernel, rfl⟩
set_option maxRecDepth 100000 in
theorem xm112 : xe_OKM xY112 := ⟨xg_c5 133 rfl rfl, xg_w 4 (by decide +kernel), by decide +kernel, rfl⟩
set_option maxRecDepth 100000 in
theorem xm113 : xe_OKM xY113 := ⟨xg_c5 137 rfl rfl, xg_w 4 (by decide +kernel), by decide +kernel, rfl⟩
set_option maxRecDepth 100000 in
theorem xm114 : xe_OKM xY114 := ⟨xg_c5 140 rfl rfl, xg_w 4 (by decide +kernel), by decide +kernel, rfl⟩
set_option maxRecDepth 100000 in
theorem xm115 : xe_OKM xY115 := ⟨xg_c5 144 rfl rfl, xg_w 11 (by decide +kernel), by decide +kernel, rfl⟩
set_option maxRecDepth 100000 in
theorem xm116 : xe_OKM xY116 := ⟨xg_c5 148 rfl rfl, xg_w 11 (by decide +kernel), by decide +kernel, rfl⟩
set_option maxRecDepth 100000 in
theorem xm117 : xe_OKM xY117 := ⟨xg_c5 152 rfl rfl, xg_w 11 (by decide +kernel), by decide +kernel, rfl⟩
set_option maxRecDepth 100000 in
theorem xm118 : xe_OKM xY118 := ⟨xg_c5 157 rfl rfl, xg_w 11 (by decide +kernel), by decide +kernel, rfl⟩
set_option maxRecDepth 100000 in
theorem xm119 : xe_OKM xY119 := ⟨xg_c5 161 rfl rfl, xg_w 11 (by decide +kernel), by decide +kernel, rfl⟩
set_option maxRecDepth 100000 in
theorem xm120 : xe_OKM xY120 := ⟨xg_c5 165 rfl rfl, xg_w 0 (by decide +kernel), by decide +kernel, rfl⟩
set_option maxRecDepth 100000 in
theorem xm121 : xe_OKM xY121 := ⟨xg_c5 169 rfl rfl, xg_w 1 (by decide +kernel), by decide +kernel, rfl⟩
set_option maxRecDepth 100000 in
theorem xm122 : xe_OKM xY122 := ⟨xg_c5 172 rfl rfl, xg_w 0 (by decide +kernel), by decide +kernel, rfl⟩
set_option maxRecDepth 100000 in
theorem xm123 : xe_OKM xY123 := ⟨xg_c5 176 rfl rfl, xg_w 1 (by decide +kernel), by decide +kernel, rfl⟩
set_option maxRecDepth 100000 in
theorem xm124 : xe_OKM xY124 := ⟨xg_c5 179 rfl rfl, xg_w 0 (by decide +kernel), by decide +kernel, rfl⟩
set_option maxRecDepth 100000 in
theorem xm125 : xe_OKM xY125 := ⟨xg_c5 183 rfl rfl, xg_w 1 (by decide +kernel), by decide +kernel, rfl⟩
set_option maxRecDepth 100000 in
theorem xm126 : xe_OKM xY126 := ⟨xg_c5 186 rfl rfl, xg_w 0 (by decide +kernel), by decide +kernel, rfl⟩
set_option maxRecDepth 100000 in
theorem xm127 : xe_OKM xY127 := ⟨xg_c5 190 rfl rfl, xg_w 1 (by decide +kernel), by decide +kernel, rfl⟩
set_option maxRecDepth 100000 in
theorem xm128 : xe_OKM xY128 := ⟨xg_c5 195 rfl rfl, xg_w 12 (by decide +kernel), by decide +kernel, rfl⟩
set_option maxRecDepth 100000 in
theorem xm129 : xe_OKM xY129 := ⟨xg_c6 233 rfl rfl, xg_w 12 (by decide +kernel), by decide +kernel, rfl⟩
set_option maxRecDepth 100000 in
theorem xm130 : xe_OKM xY130 := ⟨xg_c6 237 rfl rfl, xg_w 12 (by decide +kernel), by decide +kernel, rfl⟩
set_option maxRecDepth 100000 in
theorem xm131 : xe_OKM xY131 := ⟨xg_c7 1 rfl rfl, xg_w 12 (by decide +kernel), by decide +kernel, rfl⟩
set_option maxRecDepth 100000 in
theorem xm132 : xe_OKM xY132 := ⟨xg_c7 4 rfl rfl, xg_w 12 (by decide +kernel), by decide +kernel, rfl⟩
set_option maxRecDepth 100000 in
theorem xm133 : xe_OKM xY133 := ⟨xg_c7 8 rfl rfl, xg_w 12 (by decide +kernel), by decide +kernel, rfl⟩
set_option maxRecDepth 100000 in
theorem xm134 : xe_OKM xY134 := ⟨xg_c7 12 rfl rfl, xg_w 12 (by decide +kernel), by decide +kernel, rfl⟩
set_option maxRecDepth 100000 in
theorem xm135 : xe_OKM xY135 := ⟨xg_c7 16 rfl rfl, xg_w 12 (by decide +kernel), by decide +kernel, rfl⟩
set_option maxRecDepth 100000 in
theorem xm136 : xe_OKM xY136 := ⟨xg_c7 19 rfl rfl, xg_w 12 (by decide +kernel), by decide +kernel, rfl⟩
set_option maxRecDepth 100000 in
theorem xm137 : xe_OKM xY137 := ⟨xg_c7 26 rfl rfl, xg_w 12 (by decide +kernel), by decide +kernel, rfl⟩
set_option maxRecDepth 100000 in
theorem xm138 : xe_OKM xY138 := ⟨xg_c7 32 rfl rfl, xg_w 12 (by decide +kernel), by decide +kernel, rfl⟩
set_option maxRecDepth 100000 in
theorem xm139 : xe_OKM xY139 := ⟨xg_c7 37 rfl rfl, xg_w 12 (by decide +kernel), by decide +kernel, rfl⟩
set_option maxRecDepth 100000 in
theorem xm140 : xe_OKM xY140 := ⟨xg_c7 41 rfl rfl, xg_w 12 (by decide +kernel), by decide +kernel, rfl⟩
set_option maxRecDepth 100000 in
theorem xm141 : xe_OKM xY141 := ⟨xg_c7 45 rfl rfl, xg_w 12 (by decide +kernel), by decide +kernel, rfl⟩
set_option maxRecDepth 100000 in
theorem xm142 : xe_OKM xY142 := ⟨xg_c7 49 rfl rfl, xg_w 12 (by decide +kernel), by decide +kernel, rfl⟩
set_option maxRecDepth 100000 in
theorem xm143 : xe_OKM xY143 := ⟨xg_c7 53 rfl rfl, xg_w 12 (by decide +kernel), by decide +kernel, rfl⟩
set_option maxRecDepth 100000 in
theorem xm144 : xe_OKM xY144 := ⟨xg_c7 57 rfl rfl, xg_w 12 (by decide +kernel), by decide +kernel, rfl⟩
set_option maxRecDepth 100000 in
theorem xm145 : xe_OKM xY145 := ⟨xg_c7 61 rfl rfl, xg_w 12 (by decide +kernel), by decide +kernel, rfl⟩
set_option maxRecDepth 100000 in
theorem xm146 : xe_OKM xY146 := ⟨xg_c7 65 rfl rfl, xg_w 12 (by decide +kernel), by decide +kernel, rfl⟩
set_option maxRecDepth 100000 in
theorem xm147 : xe_OKM xY147 := ⟨xg_c7 69 rfl rfl, xg_w 12 (by decide +kernel), by decide +kernel, rfl⟩
set_option maxRecDepth 100000 in
theorem xm148 : xe_OKM xY148 := ⟨xg_c7 73 rfl rfl, xg_w 12 (by decide +kernel), by decide +kernel, rfl⟩
set_option maxRecDepth 100000 in
theorem xm149 : xe_OKM xY149 := ⟨xg_c7 77 rfl rfl, xg_w 12 (by decide +kernel), by decide +kernel, rfl⟩
set_option maxRecDepth 100000 in
theorem xm150 : xe_OKM xY150 := ⟨xg_c7 81 rfl rfl, xg_w 12 (by decide +kernel), by decide +kernel, rfl⟩
set_option maxRecDepth 100000 in
theorem xm151 : xe_OKM xY151 := ⟨xg_c7 85 rfl rfl, xg_w 12 (by decide +kernel), by decide +kernel, rfl⟩
set_option maxRecDepth 100000 in
theorem xm152 : xe_OKM xY152 := ⟨xg_c7 89 rfl rfl, xg_w 12 (by decide +kernel), by decide +kernel, rfl⟩
set_option maxRecDepth 100000 in
theorem xm153 : xe_OKM xY153 := ⟨xg_c7 94 rfl rfl, xg_w 12 (by decide +kernel), by decide +kernel, rfl⟩
set_option maxRecDepth 100000 in
theorem xm154 : xe_OKM xY154 := ⟨xg_c7 98 rfl rfl, xg_w 12 (by decide +kernel), by decide +kernel, rfl⟩
set_option maxRecDepth 100000 in
theorem xm155 : xe_OKM xY155 := ⟨xg_c7 103 rfl rfl, xg_w 12 (by decide +kernel), by decide +kernel, rfl⟩
set_option maxRecDepth 100000 in
theorem xm156 : xe_OKM xY156 := ⟨xg_c7 107 rfl rfl, xg_w 12 (by decide +kernel), by decide +kernel, rfl⟩
set_option maxRecDepth 100000 in
theorem xm157 : xe_OKM xY157 := ⟨xg_c7 111 rfl rfl, xg_w 12 (by decide +kernel), by decide +kernel, rfl⟩
set_option maxRecDepth 100000 in
theorem xm158 : xe_OKM xY158 := ⟨xg_c7 115 rfl rfl, xg_w 12 (by decide +kernel), by decide +kernel, rfl⟩
set_option maxRecDepth 100000 in
theorem xm159 : xe_OKM xY159 := ⟨xg_c7 119 rfl rfl, xg_w 12 (by decide +kernel), by decide +kernel, rfl⟩
set_option maxRecDepth 100000 in
theorem xm160 : xe_OKM xY160 := ⟨xg_c7 123 rfl rfl, xg_w 12 (by decide +kernel), by decide +kernel, rfl⟩
set_option maxRecDepth 100000 in
theorem xm161 : xe_OKM xY161 := ⟨xg_c7 127 rfl rfl, xg_w 12 (by decide +kernel), by decide +kernel, rfl⟩
set_option maxRecDepth 100000 in
theorem xm162 : xe_OKM xY162 := ⟨xg_c7 131 rfl rfl, xg_w 12 (by decide +kernel), by decide +kernel, rfl⟩
set_option maxRecDepth 100000 in
theorem xm163 : xe_OKM xY163 := ⟨xg_c7 135 rfl rfl, xg_w 12 (by decide +kernel), by decide +kernel, rfl⟩
set_option maxRecDepth 100000 in
theorem xm164 : xe_OKM xY164 := ⟨xg_c7 139 rfl rfl, xg_w 12 (by decide +kernel), by decide +kernel, rfl⟩
set_option maxRecDepth 100000 in
theorem xm165 : xe_OKM xY165 := ⟨xg_c7 142 rfl rfl, xg_w 12 (by decide +kernel), by decide +kernel, rfl⟩
set_option maxRecDepth 100000 in
theorem xm166 : xe_OKM xY166 := ⟨xg_c7 147 rfl rfl, xg_w 12 (by decide +kernel), by decide +kernel, rfl⟩
set_option maxRecDepth 100000 in
theorem xm167 : xe_OKM xY167 := ⟨xg_c7 151 rfl rfl, xg_w 12 (by decide +kernel), by decide +kernel, rfl⟩
set_option maxRecDepth 100000 in
theorem xm168 : xe_OKM xY168 := ⟨xg_c7 155 rfl rfl, xg_w 12 (by decide +kernel), by decide +kernel, rfl⟩
set_option maxRecDepth 100000 in
theorem xm169 : xe_OKM xY169 := ⟨xg_c7 159 rfl rfl, xg_w 12 (by decide +kernel), by decide +kernel, rfl⟩
set_option maxRecDepth 100000 in
theorem xm170 : xe_OKM xY170 := ⟨xg_c7 163 rfl rfl, xg_w 12 (by decide +kernel), by decide +kernel, rfl⟩
set_option maxRecDepth 100000 in
theorem xm171 : xe_OKM xY171 := ⟨xg_c7 167 rfl rfl, xg_w 12 (by decide +kernel), by decide +kernel, rfl⟩
set_option maxRecDepth 100000 in
theorem xm172 : xe_OKM xY172 := ⟨xg_c7 171 rfl rfl, xg_w 12 (by decide +kernel), by decide +kernel, rfl⟩
set_option maxRecDepth 100000 in
theorem xm173 : xe_OKM xY173 := ⟨xg_c7 175 rfl rfl, xg_w 12 (by decide +kernel), by decide +kernel, rfl⟩
set_option maxRecDepth 100000 in
theorem xm174 : xe_OKM xY174 := ⟨xg_c7 179 rfl rfl, xg_w 12 (by decide +kernel), by decide +kernel, rfl⟩
set_option maxRecDepth 100000 in
theorem xm175 : xe_OKM xY175 := ⟨xg_c7 183 rfl rfl, xg_w 12 (by decide +kernel), by decide +kernel, rfl⟩
set_option maxRecDepth 100000 in
theorem xm176 : xe_OKM xY176 := ⟨xg_c7 187 rfl rfl, xg_w 12 (by decide +kernel), by decide +kernel, rfl⟩
set_option maxRecDepth 100000 in
theorem xm177 : xe_OKM xY177 := ⟨xg_c7 191 rfl rfl, xg_w 12 (by decide +kernel), by decide +kernel, rfl⟩
set_option maxRecDepth 100000 in
theorem xm178 : xe_OKM xY178 := ⟨xg_c7 195 rfl rfl, xg_w 12 (by decide +kernel), by decide +kernel, rfl⟩
set_option maxRecDepth 100000 in
theorem xm179 : xe_OKM xY179 := ⟨xg_c7 199 rfl rfl, xg_w 12 (by decide +kernel), by decide +kernel, rfl⟩
set_option maxRecDepth 100000 in
theorem xm180 : xe_OKM xY180 := ⟨xg_c7 203 rfl rfl, xg_w 12 (by decide +kernel), by decide +kernel, rfl⟩
set_option maxRecDepth 100000 in
theorem xm181 : xe_OKM xY181 := ⟨xg_c7 208 rfl rfl, xg_w 12 (by decide +kernel), by decide +kernel, rfl⟩
set_option maxRecDepth 100000 in
theorem xm182 : xe_OKM xY182 := ⟨xg_c7 212 rfl rfl, xg_w 12 (by decide +kernel), by decide +kernel, rfl⟩
set_option maxRecDepth 100000 in
theorem xm183 : xe_OKM xY183 := ⟨xg_c7 216 rfl rfl, xg_w 12 (by decide +kernel), by decide +kernel, rfl⟩
set_option maxRecDepth 100000 in
theorem xm184 : xe_OKM xY184 := ⟨xg_c7 220 rfl rfl, xg_w 12 (by decide +kernel), by decide +kernel, rfl⟩
set_option maxRecDepth 100000 in
theorem xm185 : xe_OKM xY185 := ⟨xg_c7 224 rfl rfl, xg_w 12 (by decide +kernel), by decide +kernel, rfl⟩
set_option maxRecDepth 100000 in
theorem xm186 : xe_OKM xY186 := ⟨xg_c7 228 rfl rfl, xg_w 12 (by decide +kernel), by decide +kernel, rfl⟩
set_option maxRecDepth 100000 in
theorem xm187 : xe_OKM xY187 := ⟨xg_c7 233 rfl rfl, xg_w 12 (by decide +kernel), by decide +kernel, rfl⟩
set_option maxRecDepth 100000 in
theorem xm188 : xe_OKM xY188 := ⟨xg_c7 237 rfl rfl, xg_w 12 (by decide +kernel), by decide +kernel, rfl⟩
set_option maxRecDepth 100000 in
theorem xm189 : xe_OKM xY189 := ⟨xg_c8 1 rfl rfl, xg_w 12 (by decide +kernel), by decide +kernel, rfl⟩
set_option maxRecDepth 100000 in
theorem xm190 : xe_OKM xY190 := ⟨xg_c8 5 rfl rfl, xg_w 12 (by decide +kernel), by decide +kernel, rfl⟩
set_option maxRecDepth 100000 in
theorem xm191 : xe_OKM xY191 := ⟨xg_c8 8 rfl rfl, xg_w 12 (by decide +kernel), by decide +kernel, rfl⟩
set_option maxRecDepth 100000 in
theorem xm192 : xe_OKM xY192 := ⟨xg_c8 12 rfl rfl, xg_w 12 (by decide +kernel), by decide +kernel, rfl⟩
set_option maxRecDepth 100000 in
theorem xm193 : xe_OKM xY193 := ⟨xg_c8 16 rfl rfl, xg_w 12 (by decide +kernel), by decide +kernel, rfl⟩
set_option maxRecDepth 100000 in
theorem xm194 : xe_OKM xY194 := ⟨xg_c8 20 rfl rfl, xg_w 12 (by decide +kernel), by decide +kernel, rfl⟩
set_option maxRecDepth 100000 in
theorem xm195 : xe_OKM xY195 := ⟨xg_c8 24 rfl rfl, xg_w 12 (by decide +kernel), by decide +kernel, rfl⟩
set_option maxRecDepth 100000 in
theorem xm196 : xe_OKM xY196 := ⟨xg_c8 28 rfl rfl, xg_w 12 (by decide +kernel), by decide +kernel, rfl⟩
set_option maxRecDepth 100000 in
theorem xm197 : xe_OKM xY197 := ⟨xg_c8 33 rfl rfl, xg_w 12 (by decide +kernel), by decide +kernel, rfl⟩
