/-! the law: its code, its loop over pairs of calls, from its entry -/
abbrev qmL (nm : String) : qcI := (13, ⟨"QueryClassesLaw", nm, "([I)Z"⟩, code, 4, some .boolean)
def qtL_law : List qcE := [(0, 3, .new 7, 0, 0, .null), (3, 4, .dup, 0, 0, .null), (4, 7, .invokespecial 9, 0, 0, .null), (7, 8, .astore_n 1, 0, 0, .null), (8, 11, .new 10, 0, 0, .null), (11, 12, .dup, 0, 0, .null), (12, 15, .invokespecial 12, 0, 0, .null), (15, 16, .astore_n 2, 0, 0, .null), (16, 17, .iconst 0, 0, 0, .int (0)), (17, 18, .istore_n 3, 0, 0, .null), (18, 19, .iload_n 3, 0, 0, .null), (19, 20, .aload_n 0, 0, 0, .null), (20, 21, .arraylength, 0, 0, .null), (21, 23, .bipush 6, 0, 0, .int (6)), (23, 24, .isub, 0, 0, .null), (24, 27, .if_icmp .gt 723, 747, 24, .null), (27, 28, .aload_n 0, 0, 0, .null), (28, 29, .iload_n 3, 0, 0, .null), (29, 30, .iaload, 0, 0, .null), (30, 32, .bipush 31, 0, 0, .int (31)), (32, 33, .iand, 0, 0, .null), (33, 128, .tableswitch 708 0 19 #[95, 118, 161, 194, 217, 290, 324, 357, 420, 443, 456, 469, 502, 555, 578, 601, 624, 648, 672, 695], 0, 0, .null), (128, 129, .aload_n 1, 0, 0, .null), (129, 130, .aload_n 0, 0, 0, .null), (130, 131, .iload_n 3, 0, 0, .null), (131, 132, .iconst 1, 0, 0, .int (1)), (132, 133, .iadd, 0, 0, .null), (133, 134, .iaload, 0, 0, .null), (134, 137, .invokevirtual 13, 0, 0, .null), (137, 138, .aload_n 2, 0, 0, .null), (138, 139, .aload_n 0, 0, 0, .null), (139, 140, .iload_n 3, 0, 0, .null), (140, 141, .iconst 1, 0, 0, .int (1)), (141, 142, .iadd, 0, 0, .null), (142, 143, .iaload, 0, 0, .null), (143, 146, .invokevirtual 17, 0, 0, .null), (146, 149, .if_icmp .eq 595, 741, 146, .null), (149, 150, .iconst 0, 0, 0, .int (0)), (150, 151, .ireturn, 0, 0, .null), (151, 152, .aload_n 1, 0, 0, .null), (152, 153, .aload_n 0, 0, 0, .null), (153, 154, .iload_n 3, 0, 0, .null), (154, 155, .iconst 1, 0, 0, .int (1)), (155, 156, .iadd, 0, 0, .null), (156, 157, .iaload, 0, 0, .null), (157, 158, .aload_n 0, 0, 0, .null), (158, 159, .iload_n 3, 0, 0, .null), (159, 160, .iconst 2, 0, 0, .int (2)), (160, 161, .iadd, 0, 0, .null), (161, 162, .iaload, 0, 0, .null), (162, 163, .aload_n 0, 0, 0, .null), (163, 164, .iload_n 3, 0, 0, .null), (164, 165, .iconst 3, 0, 0, .int (3)), (165, 166, .iadd, 0, 0, .null), (166, 167, .iaload, 0, 0, .null), (167, 170, .invokevirtual 18, 0, 0, .null), (170, 171, .aload_n 2, 0, 0, .null), (171, 172, .aload_n 0, 0, 0, .null), (172, 173, .iload_n 3, 0, 0, .null), (173, 174, .iconst 1, 0, 0, .int (1)), (174, 175, .iadd, 0, 0, .null), (175, 176, .iaload, 0, 0, .null), (176, 177, .aload_n 0, 0, 0, .null), (177, 178, .iload_n 3, 0, 0, .null), (178, 179, .iconst 2, 0, 0, .int (2)), (179, 180, .iadd, 0, 0, .null), (180, 181, .iaload, 0, 0, .null), (181, 182, .aload_n 0, 0, 0, .null), (182, 183, .iload_n 3, 0, 0, .null), (183, 184, .iconst 3, 0, 0, .int (3)), (184, 185, .iadd, 0, 0, .null), (185, 186, .iaload, 0, 0, .null), (186, 189, .invokevirtual 22, 0, 0, .null), (189, 192, .if_icmp .eq 552, 741, 189, .null), (192, 193, .iconst 0, 0, 0, .int (0)), (193, 194, .ireturn, 0, 0, .null), (194, 195, .aload_n 1, 0, 0, .null), (195, 196, .aload_n 0, 0, 0, .null), (196, 197, .iload_n 3, 0, 0, .null), (197, 198, .iconst 1, 0, 0, .int (1)), (198, 199, .iadd, 0, 0, .null), (199, 200, .iaload, 0, 0, .null), (200, 201, .aload_n 0, 0, 0, .null), (201, 202, .iload_n 3, 0, 0, .null), (202, 203, .iconst 2, 0, 0, .int (2)), (203, 204, .iadd, 0, 0, .null), (204, 205, .iaload, 0, 0, .null), (205, 208, .invokevirtual 23, 0, 0, .null), (208, 209, .aload_n 2, 0, 0, .null), (209, 210, .aload_n 0, 0, 0, .null), (210, 211, .iload_n 3, 0, 0, .null), (211, 212, .iconst 1, 0, 0, .int (1)), (212, 213, .iadd, 0, 0, .null), (213, 214, .iaload, 0, 0, .null), (214, 215, .aload_n 0, 0, 0, .null), (215, 216, .iload_n 3, 0, 0, .null), (216, 217, .iconst 2, 0, 0, .int (2)), (217, 218, .iadd, 0, 0, .null), (218, 219, .iaload, 0, 0, .null), (219, 222, .invokevirtual 27, 0, 0, .null), (222, 225, .if_icmp .eq 519, 741, 222, .null), (225, 226, .iconst 0, 0, 0, .int (0)), (226, 227, .ireturn, 0, 0, .null), (227, 228, .aload_n 1, 0, 0, .null), (228, 229, .aload_n 0, 0, 0, .null), (229, 230, .iload_n 3, 0, 0, .null), (230, 231, .iconst 1, 0, 0, .int (1)), (231, 232, .iadd, 0, 0, .null), (232, 233, .iaload, 0, 0, .null), (233, 236, .invokevirtual 28, 0, 0, .null), (236, 237, .aload_n 2, 0, 0, .null), (237, 238, .aload_n 0, 0, 0, .null), (238, 239, .iload_n 3, 0, 0, .null), (239, 240, .iconst 1, 0, 0, .int (1)), (240, 241, .iadd, 0, 0, .null), (241, 242, .iaload, 0, 0, .null), (242, 245, .invokevirtual 31, 0, 0, .null), (245, 248, .if_icmp .eq 496, 741, 245, .null), (248, 249, .iconst 0, 0, 0, .int (0)), (249, 250, .ireturn, 0, 0, .null), (250, 251, .aload_n 1, 0, 0, .null), (251, 252, .aload_n 0, 0, 0, .null), (252, 253, .iload_n 3, 0, 0, .null), (253, 254, .iconst 1, 0, 0, .int (1)), (254, 255, .iadd, 0, 0, .null), (255, 256, .iaload, 0, 0, .null), (256, 257, .aload_n 0, 0, 0, .null), (257, 258, .iload_n 3, 0, 0, .null), (258, 259, .iconst 2, 0, 0, .int (2)), (259, 260, .iadd, 0, 0, .null), (260, 261, .iaload, 0, 0, .null), (261, 262, .aload_n 0, 0, 0, .null), (262, 263, .iload_n 3, 0, 0, .null), (263, 264, .iconst 3, 0, 0, .int (3)), (264, 265, .iadd, 0, 0, .null), (265, 266, .iaload, 0, 0, .null), (266, 267, .i2l, 0, 0, .null), (267, 269, .bipush 32, 0, 0, .int (32)), (269, 270, .lshl, 0, 0, .null), (270, 271, .aload_n 0, 0, 0, .null), (271, 272, .iload_n 3, 0, 0, .null), (272, 273, .iconst 4, 0, 0, .int (4)), (273, 274, .iadd, 0, 0, .null), (274, 275, .iaload, 0, 0, .null), (275, 276, .i2l, 0, 0, .null), (276, 279, .ldc2_w 32, 0, 0, .long (4294967295)), (279, 280, .land, 0, 0, .null), (280, 281, .lor, 0, 0, .null), (281, 284, .invokevirtual 34, 0, 0, .null), (284, 285, .aload_n 2, 0, 0, .null), (285, 286, .aload_n 0, 0, 0, .null), (286, 287, .iload_n 3, 0, 0, .null), (287, 288, .iconst 1, 0, 0, .int (1)), (288, 289, .iadd, 0, 0, .null), (289, 290, .iaload, 0, 0, .null), (290, 291, .aload_n 0, 0, 0, .null), (291, 292, .iload_n 3, 0, 0, .null), (292, 293, .iconst 2, 0, 0, .int (2)), (293, 294, .iadd, 0, 0, .null), (294, 295, .iaload, 0, 0, .null), (295, 296, .aload_n 0, 0, 0, .null), (296, 297, .iload_n 3, 0, 0, .null), (297, 298, .iconst 3, 0, 0, .int (3)), (298, 299, .iadd, 0, 0, .null), (299, 300, .iaload, 0, 0, .null), (300, 301, .i2l, 0, 0, .null), (301, 303, .bipush 32, 0, 0, .int (32)), (303, 304, .lshl, 0, 0, .null), (304, 305, .aload_n 0, 0, 0, .null), (305, 306, .iload_n 3, 0, 0, .null), (306, 307, .iconst 4, 0, 0, .int (4)), (307, 308, .iadd, 0, 0, .null), (308, 309, .iaload, 0, 0, .null), (309, 310, .i2l, 0, 0, .null), (310, 313, .ldc2_w 32, 0, 0, .long (4294967295)), (313, 314, .land, 0, 0, .null), (314, 315, .lor, 0, 0, .null), (315, 318, .invokevirtual 38, 0, 0, .null), (318, 321, .if_icmp .eq 423, 741, 318, .null), (321, 322, .iconst 0, 0, 0, .int (0)), (322, 323, .ireturn, 0, 0, .null), (323, 324, .aload_n 1, 0, 0, .null), (324, 325, .aload_n 0, 0, 0, .null), (325, 326, .iload_n 3, 0, 0, .null), (326, 327, .iconst 1, 0, 0, .int (1)), (327, 328, .iadd, 0, 0, .null), (328, 329, .iaload, 0, 0, .null), (329, 330, .aload_n 0, 0, 0, .null), (330, 331, .iload_n 3, 0, 0, .null), (331, 332, .iconst 2, 0, 0, .int (2)), (332, 333, .iadd, 0, 0, .null), (333, 334, .iaload, 0, 0, .null), (334, 337, .invokevirtual 39, 0, 0, .null), (337, 338, .aload_n 2, 0, 0, .null), (338, 339, .aload_n 0, 0, 0, .null), (339, 340, .iload_n 3, 0, 0, .null), (340, 341, .iconst 1, 0, 0, .int (1)), (341, 342, .iadd, 0, 0, .null), (342, 343, .iaload, 0, 0, .null), (343, 344, .aload_n 0, 0, 0, .null), (344, 345, .iload_n 3, 0, 0, .null), (345, 346, .iconst 2, 0, 0, .int (2)), (346, 347, .iadd, 0, 0, .null), (347, 348, .iaload, 0, 0, .null), (348, 351, .invokevirtual 43, 0, 0, .null), (351, 352, .lcmp, 0, 0, .null), (352, 355, .ifCond .eq 389, 741, 352, .null), (355, 356, .iconst 0, 0, 0, .int (0)), (356, 357, .ireturn, 0, 0, .null), (357, 358, .aload_n 1, 0, 0, .null), (358, 359, .aload_n 0, 0, 0, .null), (359, 360, .iload_n 3, 0, 0, .null), (360, 361, .iconst 1, 0, 0, .int (1)), (361, 362, .iadd, 0, 0, .null), (362, 363, .iaload, 0, 0, .null), (363, 364, .aload_n 0, 0, 0, .null), (364, 365, .iload_n 3, 0, 0, .null), (365, 366, .iconst 2, 0, 0, .int (2)), (366, 367, .iadd, 0, 0, .null), (367, 368, .iaload, 0, 0, .null), (368, 371, .invokevirtual 44, 0, 0, .null), (371, 372, .aload_n 2, 0, 0, .null), (372, 373, .aload_n 0, 0, 0, .null), (373, 374, .iload_n 3, 0, 0, .null), (374, 375, .iconst 1, 0, 0, .int (1)), (375, 376, .iadd, 0, 0, .null), (376, 377, .iaload, 0, 0, .null), (377, 378, .aload_n 0, 0, 0, .null), (378, 379, .iload_n 3, 0, 0, .null), (379, 380, .iconst 2, 0, 0, .int (2)), (380, 381, .iadd, 0, 0, .null), (381, 382, .iaload, 0, 0, .null), (382, 385, .invokevirtual 47, 0, 0, .null), (385, 388, .if_icmp .eq 356, 741, 385, .null), (388, 389, .iconst 0, 0, 0, .int (0)), (389, 390, .ireturn, 0, 0, .null), (390, 391, .aload_n 1, 0, 0, .null), (391, 392, .aload_n 0, 0, 0, .null), (392, 393, .iload_n 3, 0, 0, .null), (393, 394, .iconst 1, 0, 0, .int (1)), (394, 395, .iadd, 0, 0, .null), (395, 396, .iaload, 0, 0, .null), (396, 397, .aload_n 0, 0, 0, .null), (397, 398, .iload_n 3, 0, 0, .null), (398, 399, .iconst 2, 0, 0, .int (2)), (399, 400, .iadd, 0, 0, .null), (400, 401, .iaload, 0, 0, .null), (401, 402, .aload_n 0, 0, 0, .null), (402, 403, .iload_n 3, 0, 0, .null), (403, 404, .iconst 3, 0, 0, .int (3)), (404, 405, .iadd, 0, 0, .null), (405, 406, .iaload, 0, 0, .null), (406, 407, .aload_n 0, 0, 0, .null), (407, 408, .iload_n 3, 0, 0, .null), (408, 409, .iconst 4, 0, 0, .int (4)), (409, 410, .iadd, 0, 0, .null), (410, 411, .iaload, 0, 0, .null), (411, 412, .aload_n 0, 0, 0, .null), (412, 413, .iload_n 3, 0, 0, .null), (413, 414, .iconst 5, 0, 0, .int (5)), (414, 415, .iadd, 0, 0, .null), (415, 416, .iaload, 0, 0, .null), (416, 419, .invokevirtual 48, 0, 0, .null), (419, 420, .aload_n 2, 0, 0, .null), (420, 421, .aload_n 0, 0, 0, .null), (421, 422, .iload_n 3, 0, 0, .null), (422, 423, .iconst 1, 0, 0, .int (1)), (423, 424, .iadd, 0, 0, .null), (424, 425, .iaload, 0, 0, .null), (425, 426, .aload_n 0, 0, 0, .null), (426, 427, .iload_n 3, 0, 0, .null), (427, 428, .iconst 2, 0, 0, .int (2)), (428, 429, .iadd, 0, 0, .null), (429, 430, .iaload, 0, 0, .null), (430, 431, .aload_n 0, 0, 0, .null), (431, 432, .iload_n 3, 0, 0, .null), (432, 433, .iconst 3, 0, 0, .int (3)), (433, 434, .iadd, 0, 0, .null), (434, 435, .iaload, 0, 0, .null), (435, 436, .aload_n 0, 0, 0, .null), (436, 437, .iload_n 3, 0, 0, .null), (437, 438, .iconst 4, 0, 0, .int (4)), (438, 439, .iadd, 0, 0, .null), (439, 440, .iaload, 0, 0, .null), (440, 441, .aload_n 0, 0, 0, .null), (441, 442, .iload_n 3, 0, 0, .null), (442, 443, .iconst 5, 0, 0, .int (5)), (443, 444, .iadd, 0, 0, .null), (444, 445, .iaload, 0, 0, .null), (445, 448, .invokevirtual 52, 0, 0, .null), (448, 451, .if_icmp .eq 293, 741, 448, .null), (451, 452, .iconst 0, 0, 0, .int (0)), (452, 453, .ireturn, 0, 0, .null), (453, 454, .aload_n 1, 0, 0, .null), (454, 455, .aload_n 0, 0, 0, .null), (455, 456, .iload_n 3, 0, 0, .null), (456, 457, .iconst 1, 0, 0, .int (1)), (457, 458, .iadd, 0, 0, .null), (458, 459, .iaload, 0, 0, .null), (459, 462, .invokevirtual 53, 0, 0, .null), (462, 463, .aload_n 2, 0, 0, .null), (463, 464, .aload_n 0, 0, 0, .null), (464, 465, .iload_n 3, 0, 0, .null), (465, 466, .iconst 1, 0, 0, .int (1)), (466, 467, .iadd, 0, 0, .null), (467, 468, .iaload, 0, 0, .null), (468, 471, .invokevirtual 56, 0, 0, .null), (471, 474, .if_icmp .eq 270, 741, 471, .null), (474, 475, .iconst 0, 0, 0, .int (0)), (475, 476, .ireturn, 0, 0, .null), (476, 477, .aload_n 1, 0, 0, .null), (477, 480, .invokevirtual 57, 0, 0, .null), (480, 481, .aload_n 2, 0, 0, .null), (481, 484, .invokevirtual 61, 0, 0, .null), (484, 487, .if_icmp .eq 257, 741, 484, .null), (487, 488, .iconst 0, 0, 0, .int (0)), (488, 489, .ireturn, 0, 0, .null), (489, 490, .aload_n 1, 0, 0, .null), (490, 493, .invokevirtual 62, 0, 0, .null), (493, 494, .aload_n 2, 0, 0, .null), (494, 497, .invokevirtual 65, 0, 0, .null), (497, 500, .if_icmp .eq 244, 741, 497, .null), (500, 501, .iconst 0, 0, 0, .int (0)), (501, 502, .ireturn, 0, 0, .null), (502, 503, .aload_n 1, 0, 0, .null), (503, 504, .aload_n 0, 0, 0, .null), (504, 505, .iload_n 3, 0, 0, .null), (505, 506, .iconst 1, 0, 0, .int (1)), (506, 507, .iadd, 0, 0, .null), (507, 508, .iaload, 0, 0, .null), (508, 509, .aload_n 0, 0, 0, .null), (509, 510, .iload_n 3, 0, 0, .null), (510, 511, .iconst 2, 0, 0, .int (2)), (511, 512, .iadd, 0, 0, .null), (512, 513, .iaload, 0, 0, .null), (513, 516, .invokevirtual 66, 0, 0, .null), (516, 517, .aload_n 2, 0, 0, .null), (517, 518, .aload_n 0, 0, 0, .null), (518, 519, .iload_n 3, 0, 0, .null), (519, 520, .iconst 1, 0, 0, .int (1)), (520, 521, .iadd, 0, 0, .null), (521, 522, .iaload, 0, 0, .null), (522, 523, .aload_n 0, 0, 0, .null), (523, 524, .iload_n 3, 0, 0, .null), (524, 525, .iconst 2, 0, 0, .int (2)), (525, 526, .iadd, 0, 0, .null), (526, 527, .iaload, 0, 0, .null), (527, 530, .invokevirtual 69, 0, 0, .null), (530, 533, .if_icmp .eq 211, 741, 530, .null), (533, 534, .iconst 0, 0, 0, .int (0)), (534, 535, .ireturn, 0, 0, .null), (535, 536, .aload_n 1, 0, 0, .null), (536, 537, .aload_n 0, 0, 0, .null), (537, 538, .iload_n 3, 0, 0, .null), (538, 539, .iconst 1, 0, 0, .int (1)), (539, 540, .iadd, 0, 0, .null), (540, 541, .iaload, 0, 0, .null), (541, 542, .aload_n 0, 0, 0, .null), (542, 543, .iload_n 3, 0, 0, .null), (543, 544, .iconst 2, 0, 0, .int (2)), (544, 545, .iadd, 0, 0, .null), (545, 546, .iaload, 0, 0, .null), (546, 547, .aload_n 0, 0, 0, .null), (547, 548, .iload_n 3, 0, 0, .null), (548, 549, .iconst 3, 0, 0, .int (3)), (549, 550, .iadd, 0, 0, .null), (550, 551, .iaload, 0, 0, .null), (551, 552, .aload_n 0, 0, 0, .null), (552, 553, .iload_n 3, 0, 0, .null), (553, 554, .iconst 4, 0, 0, .int (4)), (554, 555, .iadd, 0, 0, .null), (555, 556, .iaload, 0, 0, .null), (556, 559, .invokevirtual 70, 0, 0, .null), (559, 560, .aload_n 2, 0, 0, .null), (560, 561, .aload_n 0, 0, 0, .null), (561, 562, .iload_n 3, 0, 0, .null), (562, 563, .iconst 1, 0, 0, .int (1)), (563, 564, .iadd, 0, 0, .null), (564, 565, .iaload, 0, 0, .null), (565, 566, .aload_n 0, 0, 0, .null), (566, 567, .iload_n 3, 0, 0, .null), (567, 568, .iconst 2, 0, 0, .int (2)), (568, 569, .iadd, 0, 0, .null), (569, 570, .iaload, 0, 0, .null), (570, 571, .aload_n 0, 0, 0, .null), (571, 572, .iload_n 3, 0, 0, .null), (572, 573, .iconst 3, 0, 0, .int (3)), (573, 574, .iadd, 0, 0, .null), (574, 575, .iaload, 0, 0, .null), (575, 576, .aload_n 0, 0, 0, .null), (576, 577, .iload_n 3, 0, 0, .null), (577, 578, .iconst 4, 0, 0, .int (4)), (578, 579, .iadd, 0, 0, .null), (579, 580, .iaload, 0, 0, .null), (580, 583, .invokevirtual 74, 0, 0, .null), (583, 586, .if_icmp .eq 158, 741, 583, .null), (586, 587, .iconst 0, 0, 0, .int (0)), (587, 588, .ireturn, 0, 0, .null), (588, 589, .aload_n 1, 0, 0, .null), (589, 590, .aload_n 0, 0, 0, .null), (590, 591, .iload_n 3, 0, 0, .null), (591, 592, .iconst 1, 0, 0, .int (1)), (592, 593, .iadd, 0, 0, .null), (593, 594, .iaload, 0, 0, .null), (594, 597, .invokevirtual 75, 0, 0, .null), (597, 598, .aload_n 2, 0, 0, .null), (598, 599, .aload_n 0, 0, 0, .null), (599, 600, .iload_n 3, 0, 0, .null), (600, 601, .iconst 1, 0, 0, .int (1)), (601, 602, .iadd, 0, 0, .null), (602, 603, .iaload, 0, 0, .null), (603, 606, .invokevirtual 78, 0, 0, .null), (606, 609, .if_icmp .eq 135, 741, 606, .null), (609, 610, .iconst 0, 0, 0, .int (0)), (610, 611, .ireturn, 0, 0, .null), (611, 612, .aload_n 1, 0, 0, .null), (612, 613, .aload_n 0, 0, 0, .null), (613, 614, .iload_n 3, 0, 0, .null), (614, 615, .iconst 1, 0, 0, .int (1)), (615, 616, .iadd, 0, 0, .null), (616, 617, .iaload, 0, 0, .null), (617, 620, .invokevirtual 79, 0, 0, .null), (620, 621, .aload_n 2, 0, 0, .null), (621, 622, .aload_n 0, 0, 0, .null), (622, 623, .iload_n 3, 0, 0, .null), (623, 624, .iconst 1, 0, 0, .int (1)), (624, 625, .iadd, 0, 0, .null), (625, 626, .iaload, 0, 0, .null), (626, 629, .invokevirtual 82, 0, 0, .null), (629, 632, .if_icmp .eq 112, 741, 629, .null), (632, 633, .iconst 0, 0, 0, .int (0)), (633, 634, .ireturn, 0, 0, .null), (634, 635, .aload_n 1, 0, 0, .null), (635, 636, .aload_n 0, 0, 0, .null), (636, 637, .iload_n 3, 0, 0, .null), (637, 638, .iconst 1, 0, 0, .int (1)), (638, 639, .iadd, 0, 0, .null), (639, 640, .iaload, 0, 0, .null), (640, 643, .invokevirtual 83, 0, 0, .null), (643, 644, .aload_n 2, 0, 0, .null), (644, 645, .aload_n 0, 0, 0, .null), (645, 646, .iload_n 3, 0, 0, .null), (646, 647, .iconst 1, 0, 0, .int (1)), (647, 648, .iadd, 0, 0, .null), (648, 649, .iaload, 0, 0, .null), (649, 652, .invokevirtual 86, 0, 0, .null), (652, 655, .if_icmp .eq 89, 741, 652, .null), (655, 656, .iconst 0, 0, 0, .int (0)), (656, 657, .ireturn, 0, 0, .null), (657, 658, .aload_n 1, 0, 0, .null), (658, 659, .aload_n 0, 0, 0, .null), (659, 660, .iload_n 3, 0, 0, .null), (660, 661, .iconst 1, 0, 0, .int (1)), (661, 662, .iadd, 0, 0, .null), (662, 663, .iaload, 0, 0, .null), (663, 666, .invokevirtual 87, 0, 0, .null), (666, 667, .aload_n 2, 0, 0, .null), (667, 668, .aload_n 0, 0, 0, .null), (668, 669, .iload_n 3, 0, 0, .null), (669, 670, .iconst 1, 0, 0, .int (1)), (670, 671, .iadd, 0, 0, .null), (671, 672, .iaload, 0, 0, .null), (672, 675, .invokevirtual 91, 0, 0, .null), (675, 676, .lcmp, 0, 0, .null), (676, 679, .ifCond .eq 65, 741, 676, .null), (679, 680, .iconst 0, 0, 0, .int (0)), (680, 681, .ireturn, 0, 0, .null), (681, 682, .aload_n 1, 0, 0, .null), (682, 683, .aload_n 0, 0, 0, .null), (683, 684, .iload_n 3, 0, 0, .null), (684, 685, .iconst 1, 0, 0, .int (1)), (685, 686, .iadd, 0, 0, .null), (686, 687, .iaload, 0, 0, .null), (687, 690, .invokevirtual 92, 0, 0, .null), (690, 691, .aload_n 2, 0, 0, .null), (691, 692, .aload_n 0, 0, 0, .null), (692, 693, .iload_n 3, 0, 0, .null), (693, 694, .iconst 1, 0, 0, .int (1)), (694, 695, .iadd, 0, 0, .null), (695, 696, .iaload, 0, 0, .null), (696, 699, .invokevirtual 95, 0, 0, .null), (699, 700, .lcmp, 0, 0, .null), (700, 703, .ifCond .eq 41, 741, 700, .null), (703, 704, .iconst 0, 0, 0, .int (0)), (704, 705, .ireturn, 0, 0, .null), (705, 706, .aload_n 1, 0, 0, .null), (706, 707, .aload_n 0, 0, 0, .null), (707, 708, .iload_n 3, 0, 0, .null), (708, 709, .iconst 1, 0, 0, .int (1)), (709, 710, .iadd, 0, 0, .null), (710, 711, .iaload, 0, 0, .null), (711, 714, .invokevirtual 96, 0, 0, .null), (714, 715, .aload_n 2, 0, 0, .null), (715, 716, .aload_n 0, 0, 0, .null), (716, 717, .iload_n 3, 0, 0, .null), (717, 718, .iconst 1, 0, 0, .int (1)), (718, 719, .iadd, 0, 0, .null), (719, 720, .iaload, 0, 0, .null), (720, 723, .invokevirtual 99, 0, 0, .null), (723, 726, .if_icmp .eq 18, 741, 723, .null), (726, 727, .iconst 0, 0, 0, .int (0)), (727, 728, .ireturn, 0, 0, .null), (728, 729, .aload_n 1, 0, 0, .null), (729, 732, .invokevirtual 100, 0, 0, .null), (732, 733, .aload_n 2, 0, 0, .null), (733, 736, .invokevirtual 103, 0, 0, .null), (736, 739, .if_icmp .eq 5, 741, 736, .null), (739, 740, .iconst 0, 0, 0, .int (0)), (740, 741, .ireturn, 0, 0, .null), (741, 744, .iinc 3 6, 0, 0, .int (6)), (744, 747, .goto (-726), 18, 744, .null), (747, 748, .iconst 1, 0, 0, .int (1)), (748, 749, .ireturn, 0, 0, .null)]
set_option maxRecDepth 100000 in
theorem qkL_law0 : qtL_law.all (qc_ok (qmL "law")) = true := by decide +kernel
theorem qkL_law (nm : String) : qtL_law.all (qc_ok (qmL nm)) = true := qkL_law0
/-- what the law's own script is -/
def qc_SK (b L : Nat) (xs : Nat → Int32) (g : qcG) (args : Array Value) (s : State) : Prop := va_X b L xs s s.heap ∧ b < s.heap.size ∧ g.2.2.1 254 = b ∧ g.2.2.2 = s.heap.size ∧ args = #[Value.ref b] ∧ ∃ (p : Program) (m : MethodId) (c : Code), True
def qc_QL (b L : Nat) (xs : Nat → Int32) : qcQ := fun g below args s t => qc_SK b L xs g args s → lw_Z below args s t
theorem qc_Wv {p : Program} {l : Launch} {e : Env} {R : Room} {s : State} {m : MethodId} {args : Array Value} {below : List Frame} {meth : Method} {c : Code} {H : Heap} {locs : List Loc} {cells slots : Nat} {Q : State → Prop} {g : JFrame} (h : ∀ t, Q t) : W p l e R s m args below meth c H locs cells slots Q g := fun T _ _ => ⟨T.setTop g, Steps.refl _, h _⟩
section QCLW
variable {R0 : Room} {mi : qcI} {cu su : Nat} {w : qcW} {pc pc' : Nat} {lv : List (Nat × Value)} {st : List Value} {M : qcM} {a0 b0 : Nat} {v : Value} {b L : Nat} {xs : Nat → Int32}
theorem qc_sld {j : Int32} (hd : qc_d mi (pc, pc', .iaload, a0, b0, v)) (hin : vp_in j L) (kk : qc_X R0 mi (qc_QL b L xs) cu su w (pc', lv, .int (xs j.toNatClampNeg) :: st, M)) : qc_X R0 mi (qc_QL b L xs) cu su w (pc, lv, .int j :: .ref 254 :: st, M) := by
  obtain ⟨rfl, hdg⟩ := hd.of (n := 0) rfl
  intro p l e s m args below meth c0 g H locs ls C D S L0
  by_cases hK : qc_SK b L xs g args s
  · have hA : ¬ qc_own g b := by
      show ¬ g.2.2.2 ≤ b
      have h1 := hK.2.1
      have h2 := hK.2.2.2.1
      omega
    have k2 := kk p l e s m args below meth c0 g H locs ls C D S L0
    have h3 := va_sld (l := l) (e := e) (R := R0) (args := args) (below := below) (meth := meth) (cells := cu) (slots := su) (Q := qc_QL b L xs g below args s) (ls := ls) (rest := st.map (qc_cv g.2.2.1)) C.1 C.2.1 hK.1 hK.2.1 hA S hin hdg k2
    simp only [List.map_cons, qc_cv, hK.2.2.1]
    exact h3
  · exact qc_Wv (fun t h => absurd h hK)
theorem qc_slen (hd : qc_d mi (pc, pc', .arraylength, a0, b0, v)) (kk : qc_X R0 mi (qc_QL b L xs) cu su w (pc', lv, .int (nI L) :: st, M)) : qc_X R0 mi (qc_QL b L xs) cu su w (pc, lv, .ref 254 :: st, M) := by
  obtain ⟨rfl, hdg⟩ := hd.of (n := 0) rfl
  intro p l e s m args below meth c0 g H locs ls C D S L0
  by_cases hK : qc_SK b L xs g args s
  · have hA : ¬ qc_own g b := by
      show ¬ g.2.2.2 ≤ b
      have h1 := hK.2.1
      have h2 := hK.2.2.2.1
      omega
    have k2 := kk p l e s m args below meth c0 g H locs ls C D S L0
    have h3 := va_slen (l := l) (e := e) (R := R0) (args := args) (below := below) (meth := meth) (cells := cu) (slots := su) (Q := qc_QL b L xs g below args s) (ls := ls) (rest := st.map (qc_cv g.2.2.1)) C.1 C.2.1 hK.1 hK.2.1 hA S hdg k2
    simp only [List.map_cons, qc_cv, hK.2.2.1]
    exact h3
  · exact qc_Wv (fun t h => absurd h hK)
theorem qc_lend {nm : String} (hd : qc_d (qmL nm) (pc, pc', .ireturn, a0, b0, v)) (hc : cu ≤ 600000) (hs : su ≤ 7302250) : qc_X room_1 (qmL nm) (qc_QL b L xs) cu su w (pc, lv, [.int 1], M) := by
  obtain ⟨rfl, hdg⟩ := hd.of (n := 0) rfl
  intro p l e s m args below meth c0 g H locs ls C D S L0
  by_cases hK : qc_SK b L xs g args s
  · have h1 : W p l e room_1 s m args below meth c0 H locs cu su (lw_Z below args s) (F0 m pc ls [.int 1]) := by
      rw [hK.2.2.2.2.1]
      refine va_forget (fun q hq => ?_) (W.widen hc hs (lw_ret (s := s) (d0 := s.drawn) (Drawn.sameBut.refl s.drawn lw_cs) C.1 C.2.1 C.2.2.1 C.2.2.2.2.2.2.1 hdg))
      have h2 := S.2.2 q hq
      rw [← hK.2.2.2.1]
      exact h2
    intro T hT X
    obtain ⟨t, q1, q2⟩ := h1 T hT X
    exact ⟨t, q1, fun _ => q2⟩
  · exact qc_Wv (fun t h => absurd h hK)
theorem qc_widen {R : Room} {mi : qcI} {QQ : qcQ} {c : qcC} {cu su cu' su' : Nat} (h1 : cu ≤ cu') (h2 : su ≤ su') (k : qc_X R mi QQ cu' su' w c) : qc_X R mi QQ cu su w c := by
  intro p l e s m args below meth c0 g H locs ls C D S L
  exact W.widen h1 h2 (k p l e s m args below meth c0 g H locs ls C D S L)
end QCLW
/-- a call of the class, then one of the reference: both answer alike, and the state stays good -/
def qc_pr (Inv : qcW → qcM → Prop) (mX mM : qcI) (as : List Value) (w : qcW) (M : qcM) (ok : Value → Prop) : Prop := ∃ d mc ms d2 : Nat, d ≤ 1000 ∧ mc ≤ 8 ∧ ms ≤ 1500 ∧ d2 ≤ 1000 ∧
  qc_V d mc ms mX (.ref 256 :: as) w M (fun r w1 M1 => ∃ x, r = some x ∧ ok x ∧ qcNF ≤ w1.1 ∧ qc_V d2 0 0 mM (.ref 291 :: as) w1 M1 (fun r' w2 M2 => r' = some x ∧ Inv w2 M2))
def qc_oki (v : Value) : Prop := ∃ x : Int32, v = .int x
def qc_okl (v : Value) : Prop := ∃ x : Int64, v = .long x
/-- all twenty pairs, from any good state -/
def qc_prs (Inv : qcW → qcM → Prop) : Prop := ∀ (w : qcW) (M : qcM), Inv w M → qcNF ≤ w.1 ∧ (∀ (a : Int32), qc_pr Inv qmX11_objects qmX12_objects [.int a] w M qc_oki) ∧ (∀ (a b c : Int32), qc_pr Inv qmX11_column qmX12_column [.int a, .int b, .int c] w M qc_oki) ∧ (∀ (a b : Int32), qc_pr Inv qmX11_share qmX12_share [.int a, .int b] w M qc_oki) ∧ (∀ (a : Int32), qc_pr Inv qmX11_drop qmX12_drop [.int a] w M qc_oki) ∧ (∀ (a b : Int32) (v : Int64), qc_pr Inv qmX11_put qmX12_put [.int a, .int b, .long v] w M qc_oki) ∧ (∀ (a b : Int32), qc_pr Inv qmX11_cell qmX12_cell [.int a, .int b] w M qc_okl) ∧ (∀ (a b : Int32), qc_pr Inv qmX11_about qmX12_about [.int a, .int b] w M qc_oki) ∧ (∀ (a b c d e : Int32), qc_pr Inv qmX11_feed qmX12_feed [.int a, .int b, .int c, .int d, .int e] w M qc_oki) ∧ (∀ (a : Int32), qc_pr Inv qmX11_end qmX12_end [.int a] w M qc_oki) ∧ (qc_pr Inv qmX11_query qmX12_query [] w M qc_oki) ∧ (qc_pr Inv qmX11_fault qmX12_fault [] w M qc_oki) ∧ (∀ (a b : Int32), qc_pr Inv qmX11_acts qmX12_acts [.int a, .int b] w M qc_oki) ∧ (∀ (a b c d : Int32), qc_pr Inv qmX11_act qmX12_act [.int a, .int b, .int c, .int d] w M qc_oki) ∧ (∀ (a : Int32), qc_pr Inv qmX11_run qmX12_run [.int a] w M qc_oki) ∧ (∀ (a : Int32), qc_pr Inv qmX11_told qmX12_told [.int a] w M qc_oki) ∧ (∀ (a : Int32), qc_pr Inv qmX11_hit qmX12_hit_ [.int a] w M qc_oki) ∧ (∀ (a : Int32), qc_pr Inv qmX11_score qmX12_score [.int a] w M qc_okl) ∧ (∀ (a : Int32), qc_pr Inv qmX11_value qmX12_value [.int a] w M qc_okl) ∧ (∀ (a : Int32), qc_pr Inv qmX11_count qmX12_count [.int a] w M qc_oki) ∧ (qc_pr Inv qmX11_clear qmX12_clear [] w M qc_oki)
set_option maxRecDepth 100000 in
set_option maxHeartbeats 4000000 in
theorem qc_lawloop (nm : String) (Inv : qcW → qcM → Prop) (hprs : qc_prs Inv) (b L : Nat) (xs : Nat → Int32) (hL : L ≤ 3072) : ∀ (k t : Nat) (x : Int32) (w : qcW) (M : qcM) (hx : x = nI (6 * t)) (ht : 6 * t ≤ L) (hk : L - 6 * t < k) (hI : Inv w M), qc_X room_1 (qmL nm) (qc_QL b L xs) (82 + 8 * t) (30688 + 1500 * t) w (18, [(0, .ref 254), (1, .ref 256), (2, .ref 291), (3, .int x)], [], M) := by
  intro k
  induction k with
  | zero => intro t x w M hx ht hk; omega
  | succ k ih =>
    intro t x w M hx ht hk hI
    have hp := hprs w M hI
    have tx := qc_ti hx (by omega)
    have tl : (nI L - 6).toInt = (L : Int) - 6 := by
      have h1 := pk_sub_toInt (a := L) (b := 6) (by omega) (by omega)
      exact h1
    refine qc_iload_n (qc_at (qkL_law nm) 10 rfl) rfl <| qc_aload_n (qc_at (qkL_law nm) 11 rfl) rfl <| qc_slen (qc_at (qkL_law nm) 12 rfl) <| qc_bipush (qc_at (qkL_law nm) 13 rfl) <| qc_isub (qc_at (qkL_law nm) 14 rfl) <| ?_
    refine qc_icmp_gt (qc_at (qkL_law nm) 15 rfl) (fun h1 => ?_) (fun h1 => ?_)
    · refine qc_iconst (qc_at (qkL_law nm) 511 rfl) <| ?_
      exact qc_lend (qc_at (qkL_law nm) 512 rfl) (by omega) (by omega)
    have hle : 6 * t + 6 ≤ L := by simp only [Int32.lt_iff_toInt_lt, Int32.le_iff_toInt_le, Int32.reduceToInt] at *; omega
    have hi0 : vp_in x L := by rw [hx]; exact vp_in_nI (by omega) (by omega)
    have hi1 : vp_in (x + 1) L := by rw [hx, show (1 : Int32) = nI 1 from rfl, nI_add]; exact vp_in_nI (by omega) (by omega)
    have hi2 : vp_in (x + 2) L := by rw [hx, show (2 : Int32) = nI 2 from rfl, nI_add]; exact vp_in_nI (by omega) (by omega)
    have hi3 : vp_in (x + 3) L := by rw [hx, show (3 : Int32) = nI 3 from rfl, nI_add]; exact vp_in_nI (by omega) (by omega)
    have hi4 : vp_in (x + 4) L := by rw [hx, show (4 : Int32) = nI 4 from rfl, nI_add]; exact vp_in_nI (by omega) (by omega)
    have hi5 : vp_in (x + 5) L := by rw [hx, show (5 : Int32) = nI 5 from rfl, nI_add]; exact vp_in_nI (by omega) (by omega)
    have hnext : ∀ w2 M2, Inv w2 M2 → qc_X room_1 (qmL nm) (qc_QL b L xs) (82 + 8 * t + 8) (30688 + 1500 * t + 1500) w2 (741, [(0, .ref 254), (1, .ref 256), (2, .ref 291), (3, .int x)], [], M2) := by
      intro w2 M2 hI2
      refine qc_iinc (lv' := [(3, _), (0, _), (1, _), (2, _)]) (qc_at (qkL_law nm) 509 rfl) rfl rfl rfl <| qc_goto (qc_at (qkL_law nm) 510 rfl) <| ?_
      refine qc_sub [1, 2, 3, 0] rfl ?_
      have h2 := ih (t + 1) (x + 6) w2 M2 (by rw [hx, show (6 : Int32) = nI 6 from rfl, nI_add]; congr 1) (by omega) (by omega) hI2
      rw [show 82 + 8 * (t + 1) = 82 + 8 * t + 8 by omega, show 30688 + 1500 * (t + 1) = 30688 + 1500 * t + 1500 by omega] at h2
      exact h2
    refine qc_aload_n (qc_at (qkL_law nm) 16 rfl) rfl <| qc_iload_n (qc_at (qkL_law nm) 17 rfl) rfl <| qc_sld (qc_at (qkL_law nm) 18 rfl) hi0 <| qc_bipush (qc_at (qkL_law nm) 19 rfl) <| qc_iand (qc_at (qkL_law nm) 20 rfl) <| ?_
    refine qc_sw 20 (qc_at (qkL_law nm) 21 rfl) rfl rfl (fun j6 hj6 h6 => ?_) (fun h6 => ?_)
    · rcases (show j6 = 0 ∨ j6 = 1 ∨ j6 = 2 ∨ j6 = 3 ∨ j6 = 4 ∨ j6 = 5 ∨ j6 = 6 ∨ j6 = 7 ∨ j6 = 8 ∨ j6 = 9 ∨ j6 = 10 ∨ j6 = 11 ∨ j6 = 12 ∨ j6 = 13 ∨ j6 = 14 ∨ j6 = 15 ∨ j6 = 16 ∨ j6 = 17 ∨ j6 = 18 ∨ j6 = 19 by omega) with rfl | rfl | rfl | rfl | rfl | rfl | rfl | rfl | rfl | rfl | rfl | rfl | rfl | rfl | rfl | rfl | rfl | rfl | rfl | rfl
      · refine ⟨128, rfl, ?_⟩
        replace h6 := qc_i32 (c := (0)) h6 rfl
        refine qc_aload_n (qc_at (qkL_law nm) 22 rfl) rfl <| qc_aload_n (qc_at (qkL_law nm) 23 rfl) rfl <| qc_iload_n (qc_at (qkL_law nm) 24 rfl) rfl <| qc_iconst (qc_at (qkL_law nm) 25 rfl) <| qc_iadd (qc_at (qkL_law nm) 26 rfl) <| qc_sld (qc_at (qkL_law nm) 27 rfl) hi1 <| ?_
        obtain ⟨d, mc, ms, d2, hd1, hd2, hd3, hd4, hV⟩ := hp.2.1 (xs (x + 1).toNatClampNeg)
        refine qc_cV (ci := 9) (a0 := 256) (qc_at (qkL_law nm) 28 rfl) ql_13_13 qfX11_objects (qc_kf hp.1 rfl) rfl hV rfl rfl (Nat.le_of_ble_eq_true rfl) ⟨by show _ ≤ 2048; omega, by show 8 + (_ + 11) + _ ≤ 84000; simp only; omega⟩ ⟨by show _ ≤ 600000; omega, by show _ ≤ 7302250; omega⟩ (fun r w1 M1 hz => ?_)
        obtain ⟨y, rfl, ⟨z, rfl⟩, hn1, hV2⟩ := hz
        show qc_X _ _ _ _ _ _ (_, _, Value.int z :: _, _)
        refine qc_aload_n (qc_at (qkL_law nm) 29 rfl) rfl <| qc_aload_n (qc_at (qkL_law nm) 30 rfl) rfl <| qc_iload_n (qc_at (qkL_law nm) 31 rfl) rfl <| qc_iconst (qc_at (qkL_law nm) 32 rfl) <| qc_iadd (qc_at (qkL_law nm) 33 rfl) <| qc_sld (qc_at (qkL_law nm) 34 rfl) hi1 <| ?_
        refine qc_cV (ci := 10) (a0 := 291) (qc_at (qkL_law nm) 35 rfl) ql_13_17 qfX12_objects (qc_kf hn1 rfl) rfl hV2 rfl rfl (Nat.le_of_ble_eq_true rfl) ⟨by show _ ≤ 2048; omega, by show 8 + (_ + 11) + _ ≤ 84000; simp only; omega⟩ ⟨by show _ ≤ 600000; omega, by show _ ≤ 7302250; omega⟩ (fun r w2 M2 hz => ?_)
        obtain ⟨rfl, hI2⟩ := hz
        show qc_X _ _ _ _ _ _ (_, _, Value.int z :: _, _)
        refine qc_icmp_eq (qc_at (qkL_law nm) 36 rfl) (fun h7 => ?_) (fun h7 => ?_)
        · exact qc_widen (by omega) (by omega) (hnext w2 M2 hI2)
        · exact absurd rfl h7
      · refine ⟨151, rfl, ?_⟩
        replace h6 := qc_i32 (c := (1)) h6 rfl
        refine qc_aload_n (qc_at (qkL_law nm) 39 rfl) rfl <| qc_aload_n (qc_at (qkL_law nm) 40 rfl) rfl <| qc_iload_n (qc_at (qkL_law nm) 41 rfl) rfl <| qc_iconst (qc_at (qkL_law nm) 42 rfl) <| qc_iadd (qc_at (qkL_law nm) 43 rfl) <| qc_sld (qc_at (qkL_law nm) 44 rfl) hi1 <| qc_aload_n (qc_at (qkL_law nm) 45 rfl) rfl <| qc_iload_n (qc_at (qkL_law nm) 46 rfl) rfl <| qc_iconst (qc_at (qkL_law nm) 47 rfl) <| qc_iadd (qc_at (qkL_law nm) 48 rfl) <| qc_sld (qc_at (qkL_law nm) 49 rfl) hi2 <| qc_aload_n (qc_at (qkL_law nm) 50 rfl) rfl <| qc_iload_n (qc_at (qkL_law nm) 51 rfl) rfl <| qc_iconst (qc_at (qkL_law nm) 52 rfl) <| qc_iadd (qc_at (qkL_law nm) 53 rfl) <| qc_sld (qc_at (qkL_law nm) 54 rfl) hi3 <| ?_
        obtain ⟨d, mc, ms, d2, hd1, hd2, hd3, hd4, hV⟩ := hp.2.2.1 (xs (x + 1).toNatClampNeg) (xs (x + 2).toNatClampNeg) (xs (x + 3).toNatClampNeg)
        refine qc_cV (ci := 9) (a0 := 256) (qc_at (qkL_law nm) 55 rfl) ql_13_18 qfX11_column (qc_kf hp.1 rfl) rfl hV rfl rfl (Nat.le_of_ble_eq_true rfl) ⟨by show _ ≤ 2048; omega, by show 8 + (_ + 11) + _ ≤ 84000; simp only; omega⟩ ⟨by show _ ≤ 600000; omega, by show _ ≤ 7302250; omega⟩ (fun r w1 M1 hz => ?_)
        obtain ⟨y, rfl, ⟨z, rfl⟩, hn1, hV2⟩ := hz
        show qc_X _ _ _ _ _ _ (_, _, Value.int z :: _, _)
        refine qc_aload_n (qc_at (qkL_law nm) 56 rfl) rfl <| qc_aload_n (qc_at (qkL_law nm) 57 rfl) rfl <| qc_iload_n (qc_at (qkL_law nm) 58 rfl) rfl <| qc_iconst (qc_at (qkL_law nm) 59 rfl) <| qc_iadd (qc_at (qkL_law nm) 60 rfl) <| qc_sld (qc_at (qkL_law nm) 61 rfl) hi1 <| qc_aload_n (qc_at (qkL_law nm) 62 rfl) rfl <| qc_iload_n (qc_at (qkL_law nm) 63 rfl) rfl <| qc_iconst (qc_at (qkL_law nm) 64 rfl) <| qc_iadd (qc_at (qkL_law nm) 65 rfl) <| qc_sld (qc_at (qkL_law nm) 66 rfl) hi2 <| qc_aload_n (qc_at (qkL_law nm) 67 rfl) rfl <| qc_iload_n (qc_at (qkL_law nm) 68 rfl) rfl <| qc_iconst (qc_at (qkL_law nm) 69 rfl) <| qc_iadd (qc_at (qkL_law nm) 70 rfl) <| qc_sld (qc_at (qkL_law nm) 71 rfl) hi3 <| ?_
        refine qc_cV (ci := 10) (a0 := 291) (qc_at (qkL_law nm) 72 rfl) ql_13_22 qfX12_column (qc_kf hn1 rfl) rfl hV2 rfl rfl (Nat.le_of_ble_eq_true rfl) ⟨by show _ ≤ 2048; omega, by show 8 + (_ + 11) + _ ≤ 84000; simp only; omega⟩ ⟨by show _ ≤ 600000; omega, by show _ ≤ 7302250; omega⟩ (fun r w2 M2 hz => ?_)
        obtain ⟨rfl, hI2⟩ := hz
        show qc_X _ _ _ _ _ _ (_, _, Value.int z :: _, _)
        refine qc_icmp_eq (qc_at (qkL_law nm) 73 rfl) (fun h8 => ?_) (fun h8 => ?_)
        · exact qc_widen (by omega) (by omega) (hnext w2 M2 hI2)
        · exact absurd rfl h8
      · refine ⟨194, rfl, ?_⟩
        replace h6 := qc_i32 (c := (2)) h6 rfl
        refine qc_aload_n (qc_at (qkL_law nm) 76 rfl) rfl <| qc_aload_n (qc_at (qkL_law nm) 77 rfl) rfl <| qc_iload_n (qc_at (qkL_law nm) 78 rfl) rfl <| qc_iconst (qc_at (qkL_law nm) 79 rfl) <| qc_iadd (qc_at (qkL_law nm) 80 rfl) <| qc_sld (qc_at (qkL_law nm) 81 rfl) hi1 <| qc_aload_n (qc_at (qkL_law nm) 82 rfl) rfl <| qc_iload_n (qc_at (qkL_law nm) 83 rfl) rfl <| qc_iconst (qc_at (qkL_law nm) 84 rfl) <| qc_iadd (qc_at (qkL_law nm) 85 rfl) <| qc_sld (qc_at (qkL_law nm) 86 rfl) hi2 <| ?_
        obtain ⟨d, mc, ms, d2, hd1, hd2, hd3, hd4, hV⟩ := hp.2.2.2.1 (xs (x + 1).toNatClampNeg) (xs (x + 2).toNatClampNeg)
        refine qc_cV (ci := 9) (a0 := 256) (qc_at (qkL_law nm) 87 rfl) ql_13_23 qfX11_share (qc_kf hp.1 rfl) rfl hV rfl rfl (Nat.le_of_ble_eq_true rfl) ⟨by show _ ≤ 2048; omega, by show 8 + (_ + 11) + _ ≤ 84000; simp only; omega⟩ ⟨by show _ ≤ 600000; omega, by show _ ≤ 7302250; omega⟩ (fun r w1 M1 hz => ?_)
        obtain ⟨y, rfl, ⟨z, rfl⟩, hn1, hV2⟩ := hz
        show qc_X _ _ _ _ _ _ (_, _, Value.int z :: _, _)
        refine qc_aload_n (qc_at (qkL_law nm) 88 rfl) rfl <| qc_aload_n (qc_at (qkL_law nm) 89 rfl) rfl <| qc_iload_n (qc_at (qkL_law nm) 90 rfl) rfl <| qc_iconst (qc_at (qkL_law nm) 91 rfl) <| qc_iadd (qc_at (qkL_law nm) 92 rfl) <| qc_sld (qc_at (qkL_law nm) 93 rfl) hi1 <| qc_aload_n (qc_at (qkL_law nm) 94 rfl) rfl <| qc_iload_n (qc_at (qkL_law nm) 95 rfl) rfl <| qc_iconst (qc_at (qkL_law nm) 96 rfl) <| qc_iadd (qc_at (qkL_law nm) 97 rfl) <| qc_sld (qc_at (qkL_law nm) 98 rfl) hi2 <| ?_
        refine qc_cV (ci := 10) (a0 := 291) (qc_at (qkL_law nm) 99 rfl) ql_13_27 qfX12_share (qc_kf hn1 rfl) rfl hV2 rfl rfl (Nat.le_of_ble_eq_true rfl) ⟨by show _ ≤ 2048; omega, by show 8 + (_ + 11) + _ ≤ 84000; simp only; omega⟩ ⟨by show _ ≤ 600000; omega, by show _ ≤ 7302250; omega⟩ (fun r w2 M2 hz => ?_)
        obtain ⟨rfl, hI2⟩ := hz
        show qc_X _ _ _ _ _ _ (_, _, Value.int z :: _, _)
        refine qc_icmp_eq (qc_at (qkL_law nm) 100 rfl) (fun h9 => ?_) (fun h9 => ?_)
        · exact qc_widen (by omega) (by omega) (hnext w2 M2 hI2)
        · exact absurd rfl h9
      · refine ⟨227, rfl, ?_⟩
        replace h6 := qc_i32 (c := (3)) h6 rfl
        refine qc_aload_n (qc_at (qkL_law nm) 103 rfl) rfl <| qc_aload_n (qc_at (qkL_law nm) 104 rfl) rfl <| qc_iload_n (qc_at (qkL_law nm) 105 rfl) rfl <| qc_iconst (qc_at (qkL_law nm) 106 rfl) <| qc_iadd (qc_at (qkL_law nm) 107 rfl) <| qc_sld (qc_at (qkL_law nm) 108 rfl) hi1 <| ?_
        obtain ⟨d, mc, ms, d2, hd1, hd2, hd3, hd4, hV⟩ := hp.2.2.2.2.1 (xs (x + 1).toNatClampNeg)
        refine qc_cV (ci := 9) (a0 := 256) (qc_at (qkL_law nm) 109 rfl) ql_13_28 qfX11_drop (qc_kf hp.1 rfl) rfl hV rfl rfl (Nat.le_of_ble_eq_true rfl) ⟨by show _ ≤ 2048; omega, by show 8 + (_ + 11) + _ ≤ 84000; simp only; omega⟩ ⟨by show _ ≤ 600000; omega, by show _ ≤ 7302250; omega⟩ (fun r w1 M1 hz => ?_)
        obtain ⟨y, rfl, ⟨z, rfl⟩, hn1, hV2⟩ := hz
        show qc_X _ _ _ _ _ _ (_, _, Value.int z :: _, _)
        refine qc_aload_n (qc_at (qkL_law nm) 110 rfl) rfl <| qc_aload_n (qc_at (qkL_law nm) 111 rfl) rfl <| qc_iload_n (qc_at (qkL_law nm) 112 rfl) rfl <| qc_iconst (qc_at (qkL_law nm) 113 rfl) <| qc_iadd (qc_at (qkL_law nm) 114 rfl) <| qc_sld (qc_at (qkL_law nm) 115 rfl) hi1 <| ?_
        refine qc_cV (ci := 10) (a0 := 291) (qc_at (qkL_law nm) 116 rfl) ql_13_31 qfX12_drop (qc_kf hn1 rfl) rfl hV2 rfl rfl (Nat.le_of_ble_eq_true rfl) ⟨by show _ ≤ 2048; omega, by show 8 + (_ + 11) + _ ≤ 84000; simp only; omega⟩ ⟨by show _ ≤ 600000; omega, by show _ ≤ 7302250; omega⟩ (fun r w2 M2 hz => ?_)
        obtain ⟨rfl, hI2⟩ := hz
        show qc_X _ _ _ _ _ _ (_, _, Value.int z :: _, _)
        refine qc_icmp_eq (qc_at (qkL_law nm) 117 rfl) (fun h10 => ?_) (fun h10 => ?_)
        · exact qc_widen (by omega) (by omega) (hnext w2 M2 hI2)
        · exact absurd rfl h10
      · refine ⟨250, rfl, ?_⟩
        replace h6 := qc_i32 (c := (4)) h6 rfl
        refine qc_aload_n (qc_at (qkL_law nm) 120 rfl) rfl <| qc_aload_n (qc_at (qkL_law nm) 121 rfl) rfl <| qc_iload_n (qc_at (qkL_law nm) 122 rfl) rfl <| qc_iconst (qc_at (qkL_law nm) 123 rfl) <| qc_iadd (qc_at (qkL_law nm) 124 rfl) <| qc_sld (qc_at (qkL_law nm) 125 rfl) hi1 <| qc_aload_n (qc_at (qkL_law nm) 126 rfl) rfl <| qc_iload_n (qc_at (qkL_law nm) 127 rfl) rfl <| qc_iconst (qc_at (qkL_law nm) 128 rfl) <| qc_iadd (qc_at (qkL_law nm) 129 rfl) <| qc_sld (qc_at (qkL_law nm) 130 rfl) hi2 <| qc_aload_n (qc_at (qkL_law nm) 131 rfl) rfl <| qc_iload_n (qc_at (qkL_law nm) 132 rfl) rfl <| qc_iconst (qc_at (qkL_law nm) 133 rfl) <| qc_iadd (qc_at (qkL_law nm) 134 rfl) <| qc_sld (qc_at (qkL_law nm) 135 rfl) hi3 <| qc_i2l (qc_at (qkL_law nm) 136 rfl) <| qc_bipush (qc_at (qkL_law nm) 137 rfl) <| qc_lshl (qc_at (qkL_law nm) 138 rfl) <| qc_aload_n (qc_at (qkL_law nm) 139 rfl) rfl <| qc_iload_n (qc_at (qkL_law nm) 140 rfl) rfl <| qc_iconst (qc_at (qkL_law nm) 141 rfl) <| qc_iadd (qc_at (qkL_law nm) 142 rfl) <| qc_sld (qc_at (qkL_law nm) 143 rfl) hi4 <| qc_i2l (qc_at (qkL_law nm) 144 rfl) <| qc_ldc2l (qc_at (qkL_law nm) 145 rfl) <| qc_land (qc_at (qkL_law nm) 146 rfl) <| qc_lor (qc_at (qkL_law nm) 147 rfl) <| ?_
        obtain ⟨d, mc, ms, d2, hd1, hd2, hd3, hd4, hV⟩ := hp.2.2.2.2.2.1 (xs (x + 1).toNatClampNeg) (xs (x + 2).toNatClampNeg) _
        refine qc_cV (ci := 9) (a0 := 256) (qc_at (qkL_law nm) 148 rfl) ql_13_34 qfX11_put (qc_kf hp.1 rfl) rfl hV rfl rfl (Nat.le_of_ble_eq_true rfl) ⟨by show _ ≤ 2048; omega, by show 8 + (_ + 11) + _ ≤ 84000; simp only; omega⟩ ⟨by show _ ≤ 600000; omega, by show _ ≤ 7302250; omega⟩ (fun r w1 M1 hz => ?_)
        obtain ⟨y, rfl, ⟨z, rfl⟩, hn1, hV2⟩ := hz
        show qc_X _ _ _ _ _ _ (_, _, Value.int z :: _, _)
        refine qc_aload_n (qc_at (qkL_law nm) 149 rfl) rfl <| qc_aload_n (qc_at (qkL_law nm) 150 rfl) rfl <| qc_iload_n (qc_at (qkL_law nm) 151 rfl) rfl <| qc_iconst (qc_at (qkL_law nm) 152 rfl) <| qc_iadd (qc_at (qkL_law nm) 153 rfl) <| qc_sld (qc_at (qkL_law nm) 154 rfl) hi1 <| qc_aload_n (qc_at (qkL_law nm) 155 rfl) rfl <| qc_iload_n (qc_at (qkL_law nm) 156 rfl) rfl <| qc_iconst (qc_at (qkL_law nm) 157 rfl) <| qc_iadd (qc_at (qkL_law nm) 158 rfl) <| qc_sld (qc_at (qkL_law nm) 159 rfl) hi2 <| qc_aload_n (qc_at (qkL_law nm) 160 rfl) rfl <| qc_iload_n (qc_at (qkL_law nm) 161 rfl) rfl <| qc_iconst (qc_at (qkL_law nm) 162 rfl) <| qc_iadd (qc_at (qkL_law nm) 163 rfl) <| qc_sld (qc_at (qkL_law nm) 164 rfl) hi3 <| qc_i2l (qc_at (qkL_law nm) 165 rfl) <| qc_bipush (qc_at (qkL_law nm) 166 rfl) <| qc_lshl (qc_at (qkL_law nm) 167 rfl) <| qc_aload_n (qc_at (qkL_law nm) 168 rfl) rfl <| qc_iload_n (qc_at (qkL_law nm) 169 rfl) rfl <| qc_iconst (qc_at (qkL_law nm) 170 rfl) <| qc_iadd (qc_at (qkL_law nm) 171 rfl) <| qc_sld (qc_at (qkL_law nm) 172 rfl) hi4 <| qc_i2l (qc_at (qkL_law nm) 173 rfl) <| qc_ldc2l (qc_at (qkL_law nm) 174 rfl) <| qc_land (qc_at (qkL_law nm) 175 rfl) <| qc_lor (qc_at (qkL_law nm) 176 rfl) <| ?_
        refine qc_cV (ci := 10) (a0 := 291) (qc_at (qkL_law nm) 177 rfl) ql_13_38 qfX12_put (qc_kf hn1 rfl) rfl hV2 rfl rfl (Nat.le_of_ble_eq_true rfl) ⟨by show _ ≤ 2048; omega, by show 8 + (_ + 11) + _ ≤ 84000; simp only; omega⟩ ⟨by show _ ≤ 600000; omega, by show _ ≤ 7302250; omega⟩ (fun r w2 M2 hz => ?_)
        obtain ⟨rfl, hI2⟩ := hz
        show qc_X _ _ _ _ _ _ (_, _, Value.int z :: _, _)
        refine qc_icmp_eq (qc_at (qkL_law nm) 178 rfl) (fun h11 => ?_) (fun h11 => ?_)
        · exact qc_widen (by omega) (by omega) (hnext w2 M2 hI2)
        · exact absurd rfl h11
      · refine ⟨323, rfl, ?_⟩
        replace h6 := qc_i32 (c := (5)) h6 rfl
        refine qc_aload_n (qc_at (qkL_law nm) 181 rfl) rfl <| qc_aload_n (qc_at (qkL_law nm) 182 rfl) rfl <| qc_iload_n (qc_at (qkL_law nm) 183 rfl) rfl <| qc_iconst (qc_at (qkL_law nm) 184 rfl) <| qc_iadd (qc_at (qkL_law nm) 185 rfl) <| qc_sld (qc_at (qkL_law nm) 186 rfl) hi1 <| qc_aload_n (qc_at (qkL_law nm) 187 rfl) rfl <| qc_iload_n (qc_at (qkL_law nm) 188 rfl) rfl <| qc_iconst (qc_at (qkL_law nm) 189 rfl) <| qc_iadd (qc_at (qkL_law nm) 190 rfl) <| qc_sld (qc_at (qkL_law nm) 191 rfl) hi2 <| ?_
        obtain ⟨d, mc, ms, d2, hd1, hd2, hd3, hd4, hV⟩ := hp.2.2.2.2.2.2.1 (xs (x + 1).toNatClampNeg) (xs (x + 2).toNatClampNeg)
        refine qc_cV (ci := 9) (a0 := 256) (qc_at (qkL_law nm) 192 rfl) ql_13_39 qfX11_cell (qc_kf hp.1 rfl) rfl hV rfl rfl (Nat.le_of_ble_eq_true rfl) ⟨by show _ ≤ 2048; omega, by show 8 + (_ + 11) + _ ≤ 84000; simp only; omega⟩ ⟨by show _ ≤ 600000; omega, by show _ ≤ 7302250; omega⟩ (fun r w1 M1 hz => ?_)
        obtain ⟨y, rfl, ⟨z, rfl⟩, hn1, hV2⟩ := hz
        show qc_X _ _ _ _ _ _ (_, _, Value.long z :: _, _)
        refine qc_aload_n (qc_at (qkL_law nm) 193 rfl) rfl <| qc_aload_n (qc_at (qkL_law nm) 194 rfl) rfl <| qc_iload_n (qc_at (qkL_law nm) 195 rfl) rfl <| qc_iconst (qc_at (qkL_law nm) 196 rfl) <| qc_iadd (qc_at (qkL_law nm) 197 rfl) <| qc_sld (qc_at (qkL_law nm) 198 rfl) hi1 <| qc_aload_n (qc_at (qkL_law nm) 199 rfl) rfl <| qc_iload_n (qc_at (qkL_law nm) 200 rfl) rfl <| qc_iconst (qc_at (qkL_law nm) 201 rfl) <| qc_iadd (qc_at (qkL_law nm) 202 rfl) <| qc_sld (qc_at (qkL_law nm) 203 rfl) hi2 <| ?_
        refine qc_cV (ci := 10) (a0 := 291) (qc_at (qkL_law nm) 204 rfl) ql_13_43 qfX12_cell (qc_kf hn1 rfl) rfl hV2 rfl rfl (Nat.le_of_ble_eq_true rfl) ⟨by show _ ≤ 2048; omega, by show 8 + (_ + 11) + _ ≤ 84000; simp only; omega⟩ ⟨by show _ ≤ 600000; omega, by show _ ≤ 7302250; omega⟩ (fun r w2 M2 hz => ?_)
        obtain ⟨rfl, hI2⟩ := hz
        show qc_X _ _ _ _ _ _ (_, _, Value.long z :: _, _)
        refine qc_lcmp (qc_at (qkL_law nm) 205 rfl) <| ?_
        refine qc_if_eq (qc_at (qkL_law nm) 206 rfl) (fun h12 => ?_) (fun h12 => ?_)
        · exact qc_widen (by omega) (by omega) (hnext w2 M2 hI2)
        · exact absurd ((qc_lc_eq _ _).mpr rfl) h12
      · refine ⟨357, rfl, ?_⟩
        replace h6 := qc_i32 (c := (6)) h6 rfl
        refine qc_aload_n (qc_at (qkL_law nm) 209 rfl) rfl <| qc_aload_n (qc_at (qkL_law nm) 210 rfl) rfl <| qc_iload_n (qc_at (qkL_law nm) 211 rfl) rfl <| qc_iconst (qc_at (qkL_law nm) 212 rfl) <| qc_iadd (qc_at (qkL_law nm) 213 rfl) <| qc_sld (qc_at (qkL_law nm) 214 rfl) hi1 <| qc_aload_n (qc_at (qkL_law nm) 215 rfl) rfl <| qc_iload_n (qc_at (qkL_law nm) 216 rfl) rfl <| qc_iconst (qc_at (qkL_law nm) 217 rfl) <| qc_iadd (qc_at (qkL_law nm) 218 rfl) <| qc_sld (qc_at (qkL_law nm) 219 rfl) hi2 <| ?_
        obtain ⟨d, mc, ms, d2, hd1, hd2, hd3, hd4, hV⟩ := hp.2.2.2.2.2.2.2.1 (xs (x + 1).toNatClampNeg) (xs (x + 2).toNatClampNeg)
        refine qc_cV (ci := 9) (a0 := 256) (qc_at (qkL_law nm) 220 rfl) ql_13_44 qfX11_about (qc_kf hp.1 rfl) rfl hV rfl rfl (Nat.le_of_ble_eq_true rfl) ⟨by show _ ≤ 2048; omega, by show 8 + (_ + 11) + _ ≤ 84000; simp only; omega⟩ ⟨by show _ ≤ 600000; omega, by show _ ≤ 7302250; omega⟩ (fun r w1 M1 hz => ?_)
        obtain ⟨y, rfl, ⟨z, rfl⟩, hn1, hV2⟩ := hz
        show qc_X _ _ _ _ _ _ (_, _, Value.int z :: _, _)
        refine qc_aload_n (qc_at (qkL_law nm) 221 rfl) rfl <| qc_aload_n (qc_at (qkL_law nm) 222 rfl) rfl <| qc_iload_n (qc_at (qkL_law nm) 223 rfl) rfl <| qc_iconst (qc_at (qkL_law nm) 224 rfl) <| qc_iadd (qc_at (qkL_law nm) 225 rfl) <| qc_sld (qc_at (qkL_law nm) 226 rfl) hi1 <| qc_aload_n (qc_at (qkL_law nm) 227 rfl) rfl <| qc_iload_n (qc_at (qkL_law nm) 228 rfl) rfl <| qc_iconst (qc_at (qkL_law nm) 229 rfl) <| qc_iadd (qc_at (qkL_law nm) 230 rfl) <| qc_sld (qc_at (qkL_law nm) 231 rfl) hi2 <| ?_
        refine qc_cV (ci := 10) (a0 := 291) (qc_at (qkL_law nm) 232 rfl) ql_13_47 qfX12_about (qc_kf hn1 rfl) rfl hV2 rfl rfl (Nat.le_of_ble_eq_true rfl) ⟨by show _ ≤ 2048; omega, by show 8 + (_ + 11) + _ ≤ 84000; simp only; omega⟩ ⟨by show _ ≤ 600000; omega, by show _ ≤ 7302250; omega⟩ (fun r w2 M2 hz => ?_)
        obtain ⟨rfl, hI2⟩ := hz
        show qc_X _ _ _ _ _ _ (_, _, Value.int z :: _, _)
        refine qc_icmp_eq (qc_at (qkL_law nm) 233 rfl) (fun h13 => ?_) (fun h13 => ?_)
        · exact qc_widen (by omega) (by omega) (hnext w2 M2 hI2)
        · exact absurd rfl h13
      · refine ⟨390, rfl, ?_⟩
        replace h6 := qc_i32 (c := (7)) h6 rfl
        refine qc_aload_n (qc_at (qkL_law nm) 236 rfl) rfl <| qc_aload_n (qc_at (qkL_law nm) 237 rfl) rfl <| qc_iload_n (qc_at (qkL_law nm) 238 rfl) rfl <| qc_iconst (qc_at (qkL_law nm) 239 rfl) <| qc_iadd (qc_at (qkL_law nm) 240 rfl) <| qc_sld (qc_at (qkL_law nm) 241 rfl) hi1 <| qc_aload_n (qc_at (qkL_law nm) 242 rfl) rfl <| qc_iload_n (qc_at (qkL_law nm) 243 rfl) rfl <| qc_iconst (qc_at (qkL_law nm) 244 rfl) <| qc_iadd (qc_at (qkL_law nm) 245 rfl) <| qc_sld (qc_at (qkL_law nm) 246 rfl) hi2 <| qc_aload_n (qc_at (qkL_law nm) 247 rfl) rfl <| qc_iload_n (qc_at (qkL_law nm) 248 rfl) rfl <| qc_iconst (qc_at (qkL_law nm) 249 rfl) <| qc_iadd (qc_at (qkL_law nm) 250 rfl) <| qc_sld (qc_at (qkL_law nm) 251 rfl) hi3 <| qc_aload_n (qc_at (qkL_law nm) 252 rfl) rfl <| qc_iload_n (qc_at (qkL_law nm) 253 rfl) rfl <| qc_iconst (qc_at (qkL_law nm) 254 rfl) <| qc_iadd (qc_at (qkL_law nm) 255 rfl) <| qc_sld (qc_at (qkL_law nm) 256 rfl) hi4 <| qc_aload_n (qc_at (qkL_law nm) 257 rfl) rfl <| qc_iload_n (qc_at (qkL_law nm) 258 rfl) rfl <| qc_iconst (qc_at (qkL_law nm) 259 rfl) <| qc_iadd (qc_at (qkL_law nm) 260 rfl) <| qc_sld (qc_at (qkL_law nm) 261 rfl) hi5 <| ?_
        obtain ⟨d, mc, ms, d2, hd1, hd2, hd3, hd4, hV⟩ := hp.2.2.2.2.2.2.2.2.1 (xs (x + 1).toNatClampNeg) (xs (x + 2).toNatClampNeg) (xs (x + 3).toNatClampNeg) (xs (x + 4).toNatClampNeg) (xs (x + 5).toNatClampNeg)
        refine qc_cV (ci := 9) (a0 := 256) (qc_at (qkL_law nm) 262 rfl) ql_13_48 qfX11_feed (qc_kf hp.1 rfl) rfl hV rfl rfl (Nat.le_of_ble_eq_true rfl) ⟨by show _ ≤ 2048; omega, by show 8 + (_ + 11) + _ ≤ 84000; simp only; omega⟩ ⟨by show _ ≤ 600000; omega, by show _ ≤ 7302250; omega⟩ (fun r w1 M1 hz => ?_)
        obtain ⟨y, rfl, ⟨z, rfl⟩, hn1, hV2⟩ := hz
        show qc_X _ _ _ _ _ _ (_, _, Value.int z :: _, _)
        refine qc_aload_n (qc_at (qkL_law nm) 263 rfl) rfl <| qc_aload_n (qc_at (qkL_law nm) 264 rfl) rfl <| qc_iload_n (qc_at (qkL_law nm) 265 rfl) rfl <| qc_iconst (qc_at (qkL_law nm) 266 rfl) <| qc_iadd (qc_at (qkL_law nm) 267 rfl) <| qc_sld (qc_at (qkL_law nm) 268 rfl) hi1 <| qc_aload_n (qc_at (qkL_law nm) 269 rfl) rfl <| qc_iload_n (qc_at (qkL_law nm) 270 rfl) rfl <| qc_iconst (qc_at (qkL_law nm) 271 rfl) <| qc_iadd (qc_at (qkL_law nm) 272 rfl) <| qc_sld (qc_at (qkL_law nm) 273 rfl) hi2 <| qc_aload_n (qc_at (qkL_law nm) 274 rfl) rfl <| qc_iload_n (qc_at (qkL_law nm) 275 rfl) rfl <| qc_iconst (qc_at (qkL_law nm) 276 rfl) <| qc_iadd (qc_at (qkL_law nm) 277 rfl) <| qc_sld (qc_at (qkL_law nm) 278 rfl) hi3 <| qc_aload_n (qc_at (qkL_law nm) 279 rfl) rfl <| qc_iload_n (qc_at (qkL_law nm) 280 rfl) rfl <| qc_iconst (qc_at (qkL_law nm) 281 rfl) <| qc_iadd (qc_at (qkL_law nm) 282 rfl) <| qc_sld (qc_at (qkL_law nm) 283 rfl) hi4 <| qc_aload_n (qc_at (qkL_law nm) 284 rfl) rfl <| qc_iload_n (qc_at (qkL_law nm) 285 rfl) rfl <| qc_iconst (qc_at (qkL_law nm) 286 rfl) <| qc_iadd (qc_at (qkL_law nm) 287 rfl) <| qc_sld (qc_at (qkL_law nm) 288 rfl) hi5 <| ?_
        refine qc_cV (ci := 10) (a0 := 291) (qc_at (qkL_law nm) 289 rfl) ql_13_52 qfX12_feed (qc_kf hn1 rfl) rfl hV2 rfl rfl (Nat.le_of_ble_eq_true rfl) ⟨by show _ ≤ 2048; omega, by show 8 + (_ + 11) + _ ≤ 84000; simp only; omega⟩ ⟨by show _ ≤ 600000; omega, by show _ ≤ 7302250; omega⟩ (fun r w2 M2 hz => ?_)
        obtain ⟨rfl, hI2⟩ := hz
        show qc_X _ _ _ _ _ _ (_, _, Value.int z :: _, _)
        refine qc_icmp_eq (qc_at (qkL_law nm) 290 rfl) (fun h14 => ?_) (fun h14 => ?_)
        · exact qc_widen (by omega) (by omega) (hnext w2 M2 hI2)
        · exact absurd rfl h14
      · refine ⟨453, rfl, ?_⟩
        replace h6 := qc_i32 (c := (8)) h6 rfl
        refine qc_aload_n (qc_at (qkL_law nm) 293 rfl) rfl <| qc_aload_n (qc_at (qkL_law nm) 294 rfl) rfl <| qc_iload_n (qc_at (qkL_law nm) 295 rfl) rfl <| qc_iconst (qc_at (qkL_law nm) 296 rfl) <| qc_iadd (qc_at (qkL_law nm) 297 rfl) <| qc_sld (qc_at (qkL_law nm) 298 rfl) hi1 <| ?_
        obtain ⟨d, mc, ms, d2, hd1, hd2, hd3, hd4, hV⟩ := hp.2.2.2.2.2.2.2.2.2.1 (xs (x + 1).toNatClampNeg)
        refine qc_cV (ci := 9) (a0 := 256) (qc_at (qkL_law nm) 299 rfl) ql_13_53 qfX11_end (qc_kf hp.1 rfl) rfl hV rfl rfl (Nat.le_of_ble_eq_true rfl) ⟨by show _ ≤ 2048; omega, by show 8 + (_ + 11) + _ ≤ 84000; simp only; omega⟩ ⟨by show _ ≤ 600000; omega, by show _ ≤ 7302250; omega⟩ (fun r w1 M1 hz => ?_)
        obtain ⟨y, rfl, ⟨z, rfl⟩, hn1, hV2⟩ := hz
        show qc_X _ _ _ _ _ _ (_, _, Value.int z :: _, _)
        refine qc_aload_n (qc_at (qkL_law nm) 300 rfl) rfl <| qc_aload_n (qc_at (qkL_law nm) 301 rfl) rfl <| qc_iload_n (qc_at (qkL_law nm) 302 rfl) rfl <| qc_iconst (qc_at (qkL_law nm) 303 rfl) <| qc_iadd (qc_at (qkL_law nm) 304 rfl) <| qc_sld (qc_at (qkL_law nm) 305 rfl) hi1 <| ?_
        refine qc_cV (ci := 10) (a0 := 291) (qc_at (qkL_law nm) 306 rfl) ql_13_56 qfX12_end (qc_kf hn1 rfl) rfl hV2 rfl rfl (Nat.le_of_ble_eq_true rfl) ⟨by show _ ≤ 2048; omega, by show 8 + (_ + 11) + _ ≤ 84000; simp only; omega⟩ ⟨by show _ ≤ 600000; omega, by show _ ≤ 7302250; omega⟩ (fun r w2 M2 hz => ?_)
        obtain ⟨rfl, hI2⟩ := hz
        show qc_X _ _ _ _ _ _ (_, _, Value.int z :: _, _)
        refine qc_icmp_eq (qc_at (qkL_law nm) 307 rfl) (fun h15 => ?_) (fun h15 => ?_)
        · exact qc_widen (by omega) (by omega) (hnext w2 M2 hI2)
        · exact absurd rfl h15
      · refine ⟨476, rfl, ?_⟩
        replace h6 := qc_i32 (c := (9)) h6 rfl
        refine qc_aload_n (qc_at (qkL_law nm) 310 rfl) rfl <| ?_
        obtain ⟨d, mc, ms, d2, hd1, hd2, hd3, hd4, hV⟩ := hp.2.2.2.2.2.2.2.2.2.2.1
        refine qc_cV (ci := 9) (a0 := 256) (qc_at (qkL_law nm) 311 rfl) ql_13_57 qfX11_query (qc_kf hp.1 rfl) rfl hV rfl rfl (Nat.le_of_ble_eq_true rfl) ⟨by show _ ≤ 2048; omega, by show 8 + (_ + 11) + _ ≤ 84000; simp only; omega⟩ ⟨by show _ ≤ 600000; omega, by show _ ≤ 7302250; omega⟩ (fun r w1 M1 hz => ?_)
        obtain ⟨y, rfl, ⟨z, rfl⟩, hn1, hV2⟩ := hz
        show qc_X _ _ _ _ _ _ (_, _, Value.int z :: _, _)
        refine qc_aload_n (qc_at (qkL_law nm) 312 rfl) rfl <| ?_
        refine qc_cV (ci := 10) (a0 := 291) (qc_at (qkL_law nm) 313 rfl) ql_13_61 qfX12_query (qc_kf hn1 rfl) rfl hV2 rfl rfl (Nat.le_of_ble_eq_true rfl) ⟨by show _ ≤ 2048; omega, by show 8 + (_ + 11) + _ ≤ 84000; simp only; omega⟩ ⟨by show _ ≤ 600000; omega, by show _ ≤ 7302250; omega⟩ (fun r w2 M2 hz => ?_)
        obtain ⟨rfl, hI2⟩ := hz
        show qc_X _ _ _ _ _ _ (_, _, Value.int z :: _, _)
        refine qc_icmp_eq (qc_at (qkL_law nm) 314 rfl) (fun h16 => ?_) (fun h16 => ?_)
        · exact qc_widen (by omega) (by omega) (hnext w2 M2 hI2)
        · exact absurd rfl h16
      · refine ⟨489, rfl, ?_⟩
        replace h6 := qc_i32 (c := (10)) h6 rfl
        refine qc_aload_n (qc_at (qkL_law nm) 317 rfl) rfl <| ?_
        obtain ⟨d, mc, ms, d2, hd1, hd2, hd3, hd4, hV⟩ := hp.2.2.2.2.2.2.2.2.2.2.2.1
        refine qc_cV (ci := 9) (a0 := 256) (qc_at (qkL_law nm) 318 rfl) ql_13_62 qfX11_fault (qc_kf hp.1 rfl) rfl hV rfl rfl (Nat.le_of_ble_eq_true rfl) ⟨by show _ ≤ 2048; omega, by show 8 + (_ + 11) + _ ≤ 84000; simp only; omega⟩ ⟨by show _ ≤ 600000; omega, by show _ ≤ 7302250; omega⟩ (fun r w1 M1 hz => ?_)
        obtain ⟨y, rfl, ⟨z, rfl⟩, hn1, hV2⟩ := hz
        show qc_X _ _ _ _ _ _ (_, _, Value.int z :: _, _)
        refine qc_aload_n (qc_at (qkL_law nm) 319 rfl) rfl <| ?_
        refine qc_cV (ci := 10) (a0 := 291) (qc_at (qkL_law nm) 320 rfl) ql_13_65 qfX12_fault (qc_kf hn1 rfl) rfl hV2 rfl rfl (Nat.le_of_ble_eq_true rfl) ⟨by show _ ≤ 2048; omega, by show 8 + (_ + 11) + _ ≤ 84000; simp only; omega⟩ ⟨by show _ ≤ 600000; omega, by show _ ≤ 7302250; omega⟩ (fun r w2 M2 hz => ?_)
        obtain ⟨rfl, hI2⟩ := hz
        show qc_X _ _ _ _ _ _ (_, _, Value.int z :: _, _)
        refine qc_icmp_eq (qc_at (qkL_law nm) 321 rfl) (fun h17 => ?_) (fun h17 => ?_)
        · exact qc_widen (by omega) (by omega) (hnext w2 M2 hI2)
        · exact absurd rfl h17
      · refine ⟨502, rfl, ?_⟩
        replace h6 := qc_i32 (c := (11)) h6 rfl
        refine qc_aload_n (qc_at (qkL_law nm) 324 rfl) rfl <| qc_aload_n (qc_at (qkL_law nm) 325 rfl) rfl <| qc_iload_n (qc_at (qkL_law nm) 326 rfl) rfl <| qc_iconst (qc_at (qkL_law nm) 327 rfl) <| qc_iadd (qc_at (qkL_law nm) 328 rfl) <| qc_sld (qc_at (qkL_law nm) 329 rfl) hi1 <| qc_aload_n (qc_at (qkL_law nm) 330 rfl) rfl <| qc_iload_n (qc_at (qkL_law nm) 331 rfl) rfl <| qc_iconst (qc_at (qkL_law nm) 332 rfl) <| qc_iadd (qc_at (qkL_law nm) 333 rfl) <| qc_sld (qc_at (qkL_law nm) 334 rfl) hi2 <| ?_
        obtain ⟨d, mc, ms, d2, hd1, hd2, hd3, hd4, hV⟩ := hp.2.2.2.2.2.2.2.2.2.2.2.2.1 (xs (x + 1).toNatClampNeg) (xs (x + 2).toNatClampNeg)
        refine qc_cV (ci := 9) (a0 := 256) (qc_at (qkL_law nm) 335 rfl) ql_13_66 qfX11_acts (qc_kf hp.1 rfl) rfl hV rfl rfl (Nat.le_of_ble_eq_true rfl) ⟨by show _ ≤ 2048; omega, by show 8 + (_ + 11) + _ ≤ 84000; simp only; omega⟩ ⟨by show _ ≤ 600000; omega, by show _ ≤ 7302250; omega⟩ (fun r w1 M1 hz => ?_)
        obtain ⟨y, rfl, ⟨z, rfl⟩, hn1, hV2⟩ := hz
        show qc_X _ _ _ _ _ _ (_, _, Value.int z :: _, _)
        refine qc_aload_n (qc_at (qkL_law nm) 336 rfl) rfl <| qc_aload_n (qc_at (qkL_law nm) 337 rfl) rfl <| qc_iload_n (qc_at (qkL_law nm) 338 rfl) rfl <| qc_iconst (qc_at (qkL_law nm) 339 rfl) <| qc_iadd (qc_at (qkL_law nm) 340 rfl) <| qc_sld (qc_at (qkL_law nm) 341 rfl) hi1 <| qc_aload_n (qc_at (qkL_law nm) 342 rfl) rfl <| qc_iload_n (qc_at (qkL_law nm) 343 rfl) rfl <| qc_iconst (qc_at (qkL_law nm) 344 rfl) <| qc_iadd (qc_at (qkL_law nm) 345 rfl) <| qc_sld (qc_at (qkL_law nm) 346 rfl) hi2 <| ?_
        refine qc_cV (ci := 10) (a0 := 291) (qc_at (qkL_law nm) 347 rfl) ql_13_69 qfX12_acts (qc_kf hn1 rfl) rfl hV2 rfl rfl (Nat.le_of_ble_eq_true rfl) ⟨by show _ ≤ 2048; omega, by show 8 + (_ + 11) + _ ≤ 84000; simp only; omega⟩ ⟨by show _ ≤ 600000; omega, by show _ ≤ 7302250; omega⟩ (fun r w2 M2 hz => ?_)
        obtain ⟨rfl, hI2⟩ := hz
        show qc_X _ _ _ _ _ _ (_, _, Value.int z :: _, _)
        refine qc_icmp_eq (qc_at (qkL_law nm) 348 rfl) (fun h18 => ?_) (fun h18 => ?_)
        · exact qc_widen (by omega) (by omega) (hnext w2 M2 hI2)
        · exact absurd rfl h18
      · refine ⟨535, rfl, ?_⟩
        replace h6 := qc_i32 (c := (12)) h6 rfl
        refine qc_aload_n (qc_at (qkL_law nm) 351 rfl) rfl <| qc_aload_n (qc_at (qkL_law nm) 352 rfl) rfl <| qc_iload_n (qc_at (qkL_law nm) 353 rfl) rfl <| qc_iconst (qc_at (qkL_law nm) 354 rfl) <| qc_iadd (qc_at (qkL_law nm) 355 rfl) <| qc_sld (qc_at (qkL_law nm) 356 rfl) hi1 <| qc_aload_n (qc_at (qkL_law nm) 357 rfl) rfl <| qc_iload_n (qc_at (qkL_law nm) 358 rfl) rfl <| qc_iconst (qc_at (qkL_law nm) 359 rfl) <| qc_iadd (qc_at (qkL_law nm) 360 rfl) <| qc_sld (qc_at (qkL_law nm) 361 rfl) hi2 <| qc_aload_n (qc_at (qkL_law nm) 362 rfl) rfl <| qc_iload_n (qc_at (qkL_law nm) 363 rfl) rfl <| qc_iconst (qc_at (qkL_law nm) 364 rfl) <| qc_iadd (qc_at (qkL_law nm) 365 rfl) <| qc_sld (qc_at (qkL_law nm) 366 rfl) hi3 <| qc_aload_n (qc_at (qkL_law nm) 367 rfl) rfl <| qc_iload_n (qc_at (qkL_law nm) 368 rfl) rfl <| qc_iconst (qc_at (qkL_law nm) 369 rfl) <| qc_iadd (qc_at (qkL_law nm) 370 rfl) <| qc_sld (qc_at (qkL_law nm) 371 rfl) hi4 <| ?_
        obtain ⟨d, mc, ms, d2, hd1, hd2, hd3, hd4, hV⟩ := hp.2.2.2.2.2.2.2.2.2.2.2.2.2.1 (xs (x + 1).toNatClampNeg) (xs (x + 2).toNatClampNeg) (xs (x + 3).toNatClampNeg) (xs (x + 4).toNatClampNeg)
        refine qc_cV (ci := 9) (a0 := 256) (qc_at (qkL_law nm) 372 rfl) ql_13_70 qfX11_act (qc_kf hp.1 rfl) rfl hV rfl rfl (Nat.le_of_ble_eq_true rfl) ⟨by show _ ≤ 2048; omega, by show 8 + (_ + 11) + _ ≤ 84000; simp only; omega⟩ ⟨by show _ ≤ 600000; omega, by show _ ≤ 7302250; omega⟩ (fun r w1 M1 hz => ?_)
        obtain ⟨y, rfl, ⟨z, rfl⟩, hn1, hV2⟩ := hz
        show qc_X _ _ _ _ _ _ (_, _, Value.int z :: _, _)
        refine qc_aload_n (qc_at (qkL_law nm) 373 rfl) rfl <| qc_aload_n (qc_at (qkL_law nm) 374 rfl) rfl <| qc_iload_n (qc_at (qkL_law nm) 375 rfl) rfl <| qc_iconst (qc_at (qkL_law nm) 376 rfl) <| qc_iadd (qc_at (qkL_law nm) 377 rfl) <| qc_sld (qc_at (qkL_law nm) 378 rfl) hi1 <| qc_aload_n (qc_at (qkL_law nm) 379 rfl) rfl <| qc_iload_n (qc_at (qkL_law nm) 380 rfl) rfl <| qc_iconst (qc_at (qkL_law nm) 381 rfl) <| qc_iadd (qc_at (qkL_law nm) 382 rfl) <| qc_sld (qc_at (qkL_law nm) 383 rfl) hi2 <| qc_aload_n (qc_at (qkL_law nm) 384 rfl) rfl <| qc_iload_n (qc_at (qkL_law nm) 385 rfl) rfl <| qc_iconst (qc_at (qkL_law nm) 386 rfl) <| qc_iadd (qc_at (qkL_law nm) 387 rfl) <| qc_sld (qc_at (qkL_law nm) 388 rfl) hi3 <| qc_aload_n (qc_at (qkL_law nm) 389 rfl) rfl <| qc_iload_n (qc_at (qkL_law nm) 390 rfl) rfl <| qc_iconst (qc_at (qkL_law nm) 391 rfl) <| qc_iadd (qc_at (qkL_law nm) 392 rfl) <| qc_sld (qc_at (qkL_law nm) 393 rfl) hi4 <| ?_
        refine qc_cV (ci := 10) (a0 := 291) (qc_at (qkL_law nm) 394 rfl) ql_13_74 qfX12_act (qc_kf hn1 rfl) rfl hV2 rfl rfl (Nat.le_of_ble_eq_true rfl) ⟨by show _ ≤ 2048; omega, by show 8 + (_ + 11) + _ ≤ 84000; simp only; omega⟩ ⟨by show _ ≤ 600000; omega, by show _ ≤ 7302250; omega⟩ (fun r w2 M2 hz => ?_)
        obtain ⟨rfl, hI2⟩ := hz
        show qc_X _ _ _ _ _ _ (_, _, Value.int z :: _, _)
        refine qc_icmp_eq (qc_at (qkL_law nm) 395 rfl) (fun h19 => ?_) (fun h19 => ?_)
        · exact qc_widen (by omega) (by omega) (hnext w2 M2 hI2)
        · exact absurd rfl h19
      · refine ⟨588, rfl, ?_⟩
        replace h6 := qc_i32 (c := (13)) h6 rfl
        refine qc_aload_n (qc_at (qkL_law nm) 398 rfl) rfl <| qc_aload_n (qc_at (qkL_law nm) 399 rfl) rfl <| qc_iload_n (qc_at (qkL_law nm) 400 rfl) rfl <| qc_iconst (qc_at (qkL_law nm) 401 rfl) <| qc_iadd (qc_at (qkL_law nm) 402 rfl) <| qc_sld (qc_at (qkL_law nm) 403 rfl) hi1 <| ?_
        obtain ⟨d, mc, ms, d2, hd1, hd2, hd3, hd4, hV⟩ := hp.2.2.2.2.2.2.2.2.2.2.2.2.2.2.1 (xs (x + 1).toNatClampNeg)
        refine qc_cV (ci := 9) (a0 := 256) (qc_at (qkL_law nm) 404 rfl) ql_13_75 qfX11_run (qc_kf hp.1 rfl) rfl hV rfl rfl (Nat.le_of_ble_eq_true rfl) ⟨by show _ ≤ 2048; omega, by show 8 + (_ + 11) + _ ≤ 84000; simp only; omega⟩ ⟨by show _ ≤ 600000; omega, by show _ ≤ 7302250; omega⟩ (fun r w1 M1 hz => ?_)
        obtain ⟨y, rfl, ⟨z, rfl⟩, hn1, hV2⟩ := hz
        show qc_X _ _ _ _ _ _ (_, _, Value.int z :: _, _)
        refine qc_aload_n (qc_at (qkL_law nm) 405 rfl) rfl <| qc_aload_n (qc_at (qkL_law nm) 406 rfl) rfl <| qc_iload_n (qc_at (qkL_law nm) 407 rfl) rfl <| qc_iconst (qc_at (qkL_law nm) 408 rfl) <| qc_iadd (qc_at (qkL_law nm) 409 rfl) <| qc_sld (qc_at (qkL_law nm) 410 rfl) hi1 <| ?_
        refine qc_cV (ci := 10) (a0 := 291) (qc_at (qkL_law nm) 411 rfl) ql_13_78 qfX12_run (qc_kf hn1 rfl) rfl hV2 rfl rfl (Nat.le_of_ble_eq_true rfl) ⟨by show _ ≤ 2048; omega, by show 8 + (_ + 11) + _ ≤ 84000; simp only; omega⟩ ⟨by show _ ≤ 600000; omega, by show _ ≤ 7302250; omega⟩ (fun r w2 M2 hz => ?_)
        obtain ⟨rfl, hI2⟩ := hz
        show qc_X _ _ _ _ _ _ (_, _, Value.int z :: _, _)
        refine qc_icmp_eq (qc_at (qkL_law nm) 412 rfl) (fun h20 => ?_) (fun h20 => ?_)
        · exact qc_widen (by omega) (by omega) (hnext w2 M2 hI2)
        · exact absurd rfl h20
      · refine ⟨611, rfl, ?_⟩
        replace h6 := qc_i32 (c := (14)) h6 rfl
        refine qc_aload_n (qc_at (qkL_law nm) 415 rfl) rfl <| qc_aload_n (qc_at (qkL_law nm) 416 rfl) rfl <| qc_iload_n (qc_at (qkL_law nm) 417 rfl) rfl <| qc_iconst (qc_at (qkL_law nm) 418 rfl) <| qc_iadd (qc_at (qkL_law nm) 419 rfl) <| qc_sld (qc_at (qkL_law nm) 420 rfl) hi1 <| ?_
        obtain ⟨d, mc, ms, d2, hd1, hd2, hd3, hd4, hV⟩ := hp.2.2.2.2.2.2.2.2.2.2.2.2.2.2.2.1 (xs (x + 1).toNatClampNeg)
        refine qc_cV (ci := 9) (a0 := 256) (qc_at (qkL_law nm) 421 rfl) ql_13_79 qfX11_told (qc_kf hp.1 rfl) rfl hV rfl rfl (Nat.le_of_ble_eq_true rfl) ⟨by show _ ≤ 2048; omega, by show 8 + (_ + 11) + _ ≤ 84000; simp only; omega⟩ ⟨by show _ ≤ 600000; omega, by show _ ≤ 7302250; omega⟩ (fun r w1 M1 hz => ?_)
        obtain ⟨y, rfl, ⟨z, rfl⟩, hn1, hV2⟩ := hz
        show qc_X _ _ _ _ _ _ (_, _, Value.int z :: _, _)
        refine qc_aload_n (qc_at (qkL_law nm) 422 rfl) rfl <| qc_aload_n (qc_at (qkL_law nm) 423 rfl) rfl <| qc_iload_n (qc_at (qkL_law nm) 424 rfl) rfl <| qc_iconst (qc_at (qkL_law nm) 425 rfl) <| qc_iadd (qc_at (qkL_law nm) 426 rfl) <| qc_sld (qc_at (qkL_law nm) 427 rfl) hi1 <| ?_
        refine qc_cV (ci := 10) (a0 := 291) (qc_at (qkL_law nm) 428 rfl) ql_13_82 qfX12_told (qc_kf hn1 rfl) rfl hV2 rfl rfl (Nat.le_of_ble_eq_true rfl) ⟨by show _ ≤ 2048; omega, by show 8 + (_ + 11) + _ ≤ 84000; simp only; omega⟩ ⟨by show _ ≤ 600000; omega, by show _ ≤ 7302250; omega⟩ (fun r w2 M2 hz => ?_)
        obtain ⟨rfl, hI2⟩ := hz
        show qc_X _ _ _ _ _ _ (_, _, Value.int z :: _, _)
        refine qc_icmp_eq (qc_at (qkL_law nm) 429 rfl) (fun h21 => ?_) (fun h21 => ?_)
        · exact qc_widen (by omega) (by omega) (hnext w2 M2 hI2)
        · exact absurd rfl h21
      · refine ⟨634, rfl, ?_⟩
        replace h6 := qc_i32 (c := (15)) h6 rfl
        refine qc_aload_n (qc_at (qkL_law nm) 432 rfl) rfl <| qc_aload_n (qc_at (qkL_law nm) 433 rfl) rfl <| qc_iload_n (qc_at (qkL_law nm) 434 rfl) rfl <| qc_iconst (qc_at (qkL_law nm) 435 rfl) <| qc_iadd (qc_at (qkL_law nm) 436 rfl) <| qc_sld (qc_at (qkL_law nm) 437 rfl) hi1 <| ?_
        obtain ⟨d, mc, ms, d2, hd1, hd2, hd3, hd4, hV⟩ := hp.2.2.2.2.2.2.2.2.2.2.2.2.2.2.2.2.1 (xs (x + 1).toNatClampNeg)
        refine qc_cV (ci := 9) (a0 := 256) (qc_at (qkL_law nm) 438 rfl) ql_13_83 qfX11_hit (qc_kf hp.1 rfl) rfl hV rfl rfl (Nat.le_of_ble_eq_true rfl) ⟨by show _ ≤ 2048; omega, by show 8 + (_ + 11) + _ ≤ 84000; simp only; omega⟩ ⟨by show _ ≤ 600000; omega, by show _ ≤ 7302250; omega⟩ (fun r w1 M1 hz => ?_)
        obtain ⟨y, rfl, ⟨z, rfl⟩, hn1, hV2⟩ := hz
        show qc_X _ _ _ _ _ _ (_, _, Value.int z :: _, _)
        refine qc_aload_n (qc_at (qkL_law nm) 439 rfl) rfl <| qc_aload_n (qc_at (qkL_law nm) 440 rfl) rfl <| qc_iload_n (qc_at (qkL_law nm) 441 rfl) rfl <| qc_iconst (qc_at (qkL_law nm) 442 rfl) <| qc_iadd (qc_at (qkL_law nm) 443 rfl) <| qc_sld (qc_at (qkL_law nm) 444 rfl) hi1 <| ?_
        refine qc_cV (ci := 10) (a0 := 291) (qc_at (qkL_law nm) 445 rfl) ql_13_86 qfX12_hit_ (qc_kf hn1 rfl) rfl hV2 rfl rfl (Nat.le_of_ble_eq_true rfl) ⟨by show _ ≤ 2048; omega, by show 8 + (_ + 11) + _ ≤ 84000; simp only; omega⟩ ⟨by show _ ≤ 600000; omega, by show _ ≤ 7302250; omega⟩ (fun r w2 M2 hz => ?_)
        obtain ⟨rfl, hI2⟩ := hz
        show qc_X _ _ _ _ _ _ (_, _, Value.int z :: _, _)
        refine qc_icmp_eq (qc_at (qkL_law nm) 446 rfl) (fun h22 => ?_) (fun h22 => ?_)
        · exact qc_widen (by omega) (by omega) (hnext w2 M2 hI2)
        · exact absurd rfl h22
      · refine ⟨657, rfl, ?_⟩
        replace h6 := qc_i32 (c := (16)) h6 rfl
        refine qc_aload_n (qc_at (qkL_law nm) 449 rfl) rfl <| qc_aload_n (qc_at (qkL_law nm) 450 rfl) rfl <| qc_iload_n (qc_at (qkL_law nm) 451 rfl) rfl <| qc_iconst (qc_at (qkL_law nm) 452 rfl) <| qc_iadd (qc_at (qkL_law nm) 453 rfl) <| qc_sld (qc_at (qkL_law nm) 454 rfl) hi1 <| ?_
        obtain ⟨d, mc, ms, d2, hd1, hd2, hd3, hd4, hV⟩ := hp.2.2.2.2.2.2.2.2.2.2.2.2.2.2.2.2.2.1 (xs (x + 1).toNatClampNeg)
        refine qc_cV (ci := 9) (a0 := 256) (qc_at (qkL_law nm) 455 rfl) ql_13_87 qfX11_score (qc_kf hp.1 rfl) rfl hV rfl rfl (Nat.le_of_ble_eq_true rfl) ⟨by show _ ≤ 2048; omega, by show 8 + (_ + 11) + _ ≤ 84000; simp only; omega⟩ ⟨by show _ ≤ 600000; omega, by show _ ≤ 7302250; omega⟩ (fun r w1 M1 hz => ?_)
        obtain ⟨y, rfl, ⟨z, rfl⟩, hn1, hV2⟩ := hz
        show qc_X _ _ _ _ _ _ (_, _, Value.long z :: _, _)
        refine qc_aload_n (qc_at (qkL_law nm) 456 rfl) rfl <| qc_aload_n (qc_at (qkL_law nm) 457 rfl) rfl <| qc_iload_n (qc_at (qkL_law nm) 458 rfl) rfl <| qc_iconst (qc_at (qkL_law nm) 459 rfl) <| qc_iadd (qc_at (qkL_law nm) 460 rfl) <| qc_sld (qc_at (qkL_law nm) 461 rfl) hi1 <| ?_
        refine qc_cV (ci := 10) (a0 := 291) (qc_at (qkL_law nm) 462 rfl) ql_13_91 qfX12_score (qc_kf hn1 rfl) rfl hV2 rfl rfl (Nat.le_of_ble_eq_true rfl) ⟨by show _ ≤ 2048; omega, by show 8 + (_ + 11) + _ ≤ 84000; simp only; omega⟩ ⟨by show _ ≤ 600000; omega, by show _ ≤ 7302250; omega⟩ (fun r w2 M2 hz => ?_)
        obtain ⟨rfl, hI2⟩ := hz
        show qc_X _ _ _ _ _ _ (_, _, Value.long z :: _, _)
        refine qc_lcmp (qc_at (qkL_law nm) 463 rfl) <| ?_
        refine qc_if_eq (qc_at (qkL_law nm) 464 rfl) (fun h23 => ?_) (fun h23 => ?_)
        · exact qc_widen (by omega) (by omega) (hnext w2 M2 hI2)
        · exact absurd ((qc_lc_eq _ _).mpr rfl) h23
      · refine ⟨681, rfl, ?_⟩
        replace h6 := qc_i32 (c := (17)) h6 rfl
        refine qc_aload_n (qc_at (qkL_law nm) 467 rfl) rfl <| qc_aload_n (qc_at (qkL_law nm) 468 rfl) rfl <| qc_iload_n (qc_at (qkL_law nm) 469 rfl) rfl <| qc_iconst (qc_at (qkL_law nm) 470 rfl) <| qc_iadd (qc_at (qkL_law nm) 471 rfl) <| qc_sld (qc_at (qkL_law nm) 472 rfl) hi1 <| ?_
        obtain ⟨d, mc, ms, d2, hd1, hd2, hd3, hd4, hV⟩ := hp.2.2.2.2.2.2.2.2.2.2.2.2.2.2.2.2.2.2.1 (xs (x + 1).toNatClampNeg)
        refine qc_cV (ci := 9) (a0 := 256) (qc_at (qkL_law nm) 473 rfl) ql_13_92 qfX11_value (qc_kf hp.1 rfl) rfl hV rfl rfl (Nat.le_of_ble_eq_true rfl) ⟨by show _ ≤ 2048; omega, by show 8 + (_ + 11) + _ ≤ 84000; simp only; omega⟩ ⟨by show _ ≤ 600000; omega, by show _ ≤ 7302250; omega⟩ (fun r w1 M1 hz => ?_)
        obtain ⟨y, rfl, ⟨z, rfl⟩, hn1, hV2⟩ := hz
        show qc_X _ _ _ _ _ _ (_, _, Value.long z :: _, _)
        refine qc_aload_n (qc_at (qkL_law nm) 474 rfl) rfl <| qc_aload_n (qc_at (qkL_law nm) 475 rfl) rfl <| qc_iload_n (qc_at (qkL_law nm) 476 rfl) rfl <| qc_iconst (qc_at (qkL_law nm) 477 rfl) <| qc_iadd (qc_at (qkL_law nm) 478 rfl) <| qc_sld (qc_at (qkL_law nm) 479 rfl) hi1 <| ?_
        refine qc_cV (ci := 10) (a0 := 291) (qc_at (qkL_law nm) 480 rfl) ql_13_95 qfX12_value (qc_kf hn1 rfl) rfl hV2 rfl rfl (Nat.le_of_ble_eq_true rfl) ⟨by show _ ≤ 2048; omega, by show 8 + (_ + 11) + _ ≤ 84000; simp only; omega⟩ ⟨by show _ ≤ 600000; omega, by show _ ≤ 7302250; omega⟩ (fun r w2 M2 hz => ?_)
        obtain ⟨rfl, hI2⟩ := hz
        show qc_X _ _ _ _ _ _ (_, _, Value.long z :: _, _)
        refine qc_lcmp (qc_at (qkL_law nm) 481 rfl) <| ?_
        refine qc_if_eq (qc_at (qkL_law nm) 482 rfl) (fun h24 => ?_) (fun h24 => ?_)
        · exact qc_widen (by omega) (by omega) (hnext w2 M2 hI2)
        · exact absurd ((qc_lc_eq _ _).mpr rfl) h24
      · refine ⟨705, rfl, ?_⟩
        replace h6 := qc_i32 (c := (18)) h6 rfl
        refine qc_aload_n (qc_at (qkL_law nm) 485 rfl) rfl <| qc_aload_n (qc_at (qkL_law nm) 486 rfl) rfl <| qc_iload_n (qc_at (qkL_law nm) 487 rfl) rfl <| qc_iconst (qc_at (qkL_law nm) 488 rfl) <| qc_iadd (qc_at (qkL_law nm) 489 rfl) <| qc_sld (qc_at (qkL_law nm) 490 rfl) hi1 <| ?_
        obtain ⟨d, mc, ms, d2, hd1, hd2, hd3, hd4, hV⟩ := hp.2.2.2.2.2.2.2.2.2.2.2.2.2.2.2.2.2.2.2.1 (xs (x + 1).toNatClampNeg)
        refine qc_cV (ci := 9) (a0 := 256) (qc_at (qkL_law nm) 491 rfl) ql_13_96 qfX11_count (qc_kf hp.1 rfl) rfl hV rfl rfl (Nat.le_of_ble_eq_true rfl) ⟨by show _ ≤ 2048; omega, by show 8 + (_ + 11) + _ ≤ 84000; simp only; omega⟩ ⟨by show _ ≤ 600000; omega, by show _ ≤ 7302250; omega⟩ (fun r w1 M1 hz => ?_)
        obtain ⟨y, rfl, ⟨z, rfl⟩, hn1, hV2⟩ := hz
        show qc_X _ _ _ _ _ _ (_, _, Value.int z :: _, _)
        refine qc_aload_n (qc_at (qkL_law nm) 492 rfl) rfl <| qc_aload_n (qc_at (qkL_law nm) 493 rfl) rfl <| qc_iload_n (qc_at (qkL_law nm) 494 rfl) rfl <| qc_iconst (qc_at (qkL_law nm) 495 rfl) <| qc_iadd (qc_at (qkL_law nm) 496 rfl) <| qc_sld (qc_at (qkL_law nm) 497 rfl) hi1 <| ?_
        refine qc_cV (ci := 10) (a0 := 291) (qc_at (qkL_law nm) 498 rfl) ql_13_99 qfX12_count (qc_kf hn1 rfl) rfl hV2 rfl rfl (Nat.le_of_ble_eq_true rfl) ⟨by show _ ≤ 2048; omega, by show 8 + (_ + 11) + _ ≤ 84000; simp only; omega⟩ ⟨by show _ ≤ 600000; omega, by show _ ≤ 7302250; omega⟩ (fun r w2 M2 hz => ?_)
        obtain ⟨rfl, hI2⟩ := hz
        show qc_X _ _ _ _ _ _ (_, _, Value.int z :: _, _)
        refine qc_icmp_eq (qc_at (qkL_law nm) 499 rfl) (fun h25 => ?_) (fun h25 => ?_)
        · exact qc_widen (by omega) (by omega) (hnext w2 M2 hI2)
        · exact absurd rfl h25
      · refine ⟨728, rfl, ?_⟩
        replace h6 := qc_i32 (c := (19)) h6 rfl
        refine qc_aload_n (qc_at (qkL_law nm) 502 rfl) rfl <| ?_
        obtain ⟨d, mc, ms, d2, hd1, hd2, hd3, hd4, hV⟩ := hp.2.2.2.2.2.2.2.2.2.2.2.2.2.2.2.2.2.2.2.2
        refine qc_cV (ci := 9) (a0 := 256) (qc_at (qkL_law nm) 503 rfl) ql_13_100 qfX11_clear (qc_kf hp.1 rfl) rfl hV rfl rfl (Nat.le_of_ble_eq_true rfl) ⟨by show _ ≤ 2048; omega, by show 8 + (_ + 11) + _ ≤ 84000; simp only; omega⟩ ⟨by show _ ≤ 600000; omega, by show _ ≤ 7302250; omega⟩ (fun r w1 M1 hz => ?_)
        obtain ⟨y, rfl, ⟨z, rfl⟩, hn1, hV2⟩ := hz
        show qc_X _ _ _ _ _ _ (_, _, Value.int z :: _, _)
        refine qc_aload_n (qc_at (qkL_law nm) 504 rfl) rfl <| ?_
        refine qc_cV (ci := 10) (a0 := 291) (qc_at (qkL_law nm) 505 rfl) ql_13_103 qfX12_clear (qc_kf hn1 rfl) rfl hV2 rfl rfl (Nat.le_of_ble_eq_true rfl) ⟨by show _ ≤ 2048; omega, by show 8 + (_ + 11) + _ ≤ 84000; simp only; omega⟩ ⟨by show _ ≤ 600000; omega, by show _ ≤ 7302250; omega⟩ (fun r w2 M2 hz => ?_)
        obtain ⟨rfl, hI2⟩ := hz
        show qc_X _ _ _ _ _ _ (_, _, Value.int z :: _, _)
        refine qc_icmp_eq (qc_at (qkL_law nm) 506 rfl) (fun h26 => ?_) (fun h26 => ?_)
        · exact qc_widen (by omega) (by omega) (hnext w2 M2 hI2)
        · exact absurd rfl h26
    · refine ⟨741, rfl, ?_⟩
      exact qc_widen (by omega) (by omega) (hnext w M hI)
