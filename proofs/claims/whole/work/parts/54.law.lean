/-! The law: its rows, and its steps in one fixed context; vR 74 is the script. -/
def tL_law : List Row := [(0, 3, 0, .new 7), (3, 4, 0, .dup), (4, 7, 0, .invokespecial 9), (7, 8, 0, .astore_n 1), (8, 11, 0, .new 10), (11, 12, 0, .dup), (12, 15, 0, .invokespecial 12), (15, 16, 0, .astore_n 2), (16, 17, 0, .iconst 0), (17, 18, 0, .istore_n 3), (18, 19, 0, .iload_n 3), (19, 20, 0, .aload_n 0), (20, 21, 0, .arraylength), (21, 22, 0, .iconst 4), (22, 23, 0, .isub), (23, 26, 774, .if_icmp .gt 751), (26, 27, 0, .aload_n 0), (27, 28, 0, .iload_n 3), (28, 29, 0, .iaload), (29, 31, 0, .bipush 31), (31, 32, 0, .iand), (32, 136, 0, .tableswitch 736 0 21 #[104, 137, 160, 193, 226, 259, 298, 331, 354, 397, 420, 443, 466, 499, 532, 565, 598, 621, 644, 667, 690, 713]), (136, 137, 0, .aload_n 1), (137, 138, 0, .aload_n 0), (138, 139, 0, .iload_n 3), (139, 140, 0, .iconst 1), (140, 141, 0, .iadd), (141, 142, 0, .iaload), (142, 143, 0, .aload_n 0), (143, 144, 0, .iload_n 3), (144, 145, 0, .iconst 2), (145, 146, 0, .iadd), (146, 147, 0, .iaload), (147, 150, 0, .invokevirtual 13), (150, 151, 0, .aload_n 2), (151, 152, 0, .aload_n 0), (152, 153, 0, .iload_n 3), (153, 154, 0, .iconst 1), (154, 155, 0, .iadd), (155, 156, 0, .iaload), (156, 157, 0, .aload_n 0), (157, 158, 0, .iload_n 3), (158, 159, 0, .iconst 2), (159, 160, 0, .iadd), (160, 161, 0, .iaload), (161, 164, 0, .invokevirtual 17), (164, 167, 768, .if_icmp .eq 604), (167, 168, 0, .iconst 0), (168, 169, 0, .ireturn), (169, 170, 0, .aload_n 1), (170, 171, 0, .aload_n 0), (171, 172, 0, .iload_n 3), (172, 173, 0, .iconst 1), (173, 174, 0, .iadd), (174, 175, 0, .iaload), (175, 178, 0, .invokevirtual 18), (178, 179, 0, .aload_n 2), (179, 180, 0, .aload_n 0), (180, 181, 0, .iload_n 3), (181, 182, 0, .iconst 1), (182, 183, 0, .iadd), (183, 184, 0, .iaload), (184, 187, 0, .invokevirtual 22), (187, 190, 768, .if_icmp .eq 581), (190, 191, 0, .iconst 0), (191, 192, 0, .ireturn), (192, 193, 0, .aload_n 1), (193, 194, 0, .aload_n 0), (194, 195, 0, .iload_n 3), (195, 196, 0, .iconst 1), (196, 197, 0, .iadd), (197, 198, 0, .iaload), (198, 199, 0, .aload_n 0), (199, 200, 0, .iload_n 3), (200, 201, 0, .iconst 2), (201, 202, 0, .iadd), (202, 203, 0, .iaload), (203, 206, 0, .invokevirtual 23), (206, 207, 0, .aload_n 2), (207, 208, 0, .aload_n 0), (208, 209, 0, .iload_n 3), (209, 210, 0, .iconst 1), (210, 211, 0, .iadd), (211, 212, 0, .iaload), (212, 213, 0, .aload_n 0), (213, 214, 0, .iload_n 3), (214, 215, 0, .iconst 2), (215, 216, 0, .iadd), (216, 217, 0, .iaload), (217, 220, 0, .invokevirtual 26), (220, 223, 768, .if_icmp .eq 548), (223, 224, 0, .iconst 0), (224, 225, 0, .ireturn), (225, 226, 0, .aload_n 1), (226, 227, 0, .aload_n 0), (227, 228, 0, .iload_n 3), (228, 229, 0, .iconst 1), (229, 230, 0, .iadd), (230, 231, 0, .iaload), (231, 232, 0, .aload_n 0), (232, 233, 0, .iload_n 3), (233, 234, 0, .iconst 2), (234, 235, 0, .iadd), (235, 236, 0, .iaload), (236, 239, 0, .invokevirtual 27), (239, 240, 0, .aload_n 2), (240, 241, 0, .aload_n 0), (241, 242, 0, .iload_n 3), (242, 243, 0, .iconst 1), (243, 244, 0, .iadd), (244, 245, 0, .iaload), (245, 246, 0, .aload_n 0), (246, 247, 0, .iload_n 3), (247, 248, 0, .iconst 2), (248, 249, 0, .iadd), (249, 250, 0, .iaload), (250, 253, 0, .invokevirtual 30), (253, 256, 768, .if_icmp .eq 515), (256, 257, 0, .iconst 0), (257, 258, 0, .ireturn), (258, 259, 0, .aload_n 1), (259, 260, 0, .aload_n 0), (260, 261, 0, .iload_n 3), (261, 262, 0, .iconst 1), (262, 263, 0, .iadd), (263, 264, 0, .iaload), (264, 265, 0, .aload_n 0), (265, 266, 0, .iload_n 3), (266, 267, 0, .iconst 2), (267, 268, 0, .iadd), (268, 269, 0, .iaload), (269, 272, 0, .invokevirtual 31), (272, 273, 0, .aload_n 2), (273, 274, 0, .aload_n 0), (274, 275, 0, .iload_n 3), (275, 276, 0, .iconst 1), (276, 277, 0, .iadd), (277, 278, 0, .iaload), (278, 279, 0, .aload_n 0), (279, 280, 0, .iload_n 3), (280, 281, 0, .iconst 2), (281, 282, 0, .iadd), (282, 283, 0, .iaload), (283, 286, 0, .invokevirtual 34), (286, 289, 768, .if_icmp .eq 482), (289, 290, 0, .iconst 0), (290, 291, 0, .ireturn), (291, 292, 0, .aload_n 1), (292, 293, 0, .aload_n 0), (293, 294, 0, .iload_n 3), (294, 295, 0, .iconst 1), (295, 296, 0, .iadd), (296, 297, 0, .iaload), (297, 300, 304, .ifCond .eq 7), (300, 301, 0, .iconst 1), (301, 304, 305, .goto 4), (304, 305, 0, .iconst 0), (305, 308, 0, .invokevirtual 35), (308, 309, 0, .aload_n 2), (309, 310, 0, .aload_n 0), (310, 311, 0, .iload_n 3), (311, 312, 0, .iconst 1), (312, 313, 0, .iadd), (313, 314, 0, .iaload), (314, 317, 321, .ifCond .eq 7), (317, 318, 0, .iconst 1), (318, 321, 322, .goto 4), (321, 322, 0, .iconst 0), (322, 325, 0, .invokevirtual 39), (325, 328, 768, .if_icmp .eq 443), (328, 329, 0, .iconst 0), (329, 330, 0, .ireturn), (330, 331, 0, .aload_n 1), (331, 332, 0, .aload_n 0), (332, 333, 0, .iload_n 3), (333, 334, 0, .iconst 1), (334, 335, 0, .iadd), (335, 336, 0, .iaload), (336, 337, 0, .aload_n 0), (337, 338, 0, .iload_n 3), (338, 339, 0, .iconst 2), (339, 340, 0, .iadd), (340, 341, 0, .iaload), (341, 344, 0, .invokevirtual 40), (344, 345, 0, .aload_n 2), (345, 346, 0, .aload_n 0), (346, 347, 0, .iload_n 3), (347, 348, 0, .iconst 1), (348, 349, 0, .iadd), (349, 350, 0, .iaload), (350, 351, 0, .aload_n 0), (351, 352, 0, .iload_n 3), (352, 353, 0, .iconst 2), (353, 354, 0, .iadd), (354, 355, 0, .iaload), (355, 358, 0, .invokevirtual 43), (358, 361, 768, .if_icmp .eq 410), (361, 362, 0, .iconst 0), (362, 363, 0, .ireturn), (363, 364, 0, .aload_n 1), (364, 365, 0, .aload_n 0), (365, 366, 0, .iload_n 3), (366, 367, 0, .iconst 1), (367, 368, 0, .iadd), (368, 369, 0, .iaload), (369, 372, 0, .invokevirtual 44), (372, 373, 0, .aload_n 2), (373, 374, 0, .aload_n 0), (374, 375, 0, .iload_n 3), (375, 376, 0, .iconst 1), (376, 377, 0, .iadd), (377, 378, 0, .iaload), (378, 381, 0, .invokevirtual 47), (381, 384, 768, .if_icmp .eq 387), (384, 385, 0, .iconst 0), (385, 386, 0, .ireturn), (386, 387, 0, .aload_n 1), (387, 388, 0, .aload_n 0), (388, 389, 0, .iload_n 3), (389, 390, 0, .iconst 1), (390, 391, 0, .iadd), (391, 392, 0, .iaload), (392, 393, 0, .aload_n 0), (393, 394, 0, .iload_n 3), (394, 395, 0, .iconst 2), (395, 396, 0, .iadd), (396, 397, 0, .iaload), (397, 398, 0, .aload_n 0), (398, 399, 0, .iload_n 3), (399, 400, 0, .iconst 3), (400, 401, 0, .iadd), (401, 402, 0, .iaload), (402, 405, 0, .invokevirtual 48), (405, 406, 0, .aload_n 2), (406, 407, 0, .aload_n 0), (407, 408, 0, .iload_n 3), (408, 409, 0, .iconst 1), (409, 410, 0, .iadd), (410, 411, 0, .iaload), (411, 412, 0, .aload_n 0), (412, 413, 0, .iload_n 3), (413, 414, 0, .iconst 2), (414, 415, 0, .iadd), (415, 416, 0, .iaload), (416, 417, 0, .aload_n 0), (417, 418, 0, .iload_n 3), (418, 419, 0, .iconst 3), (419, 420, 0, .iadd), (420, 421, 0, .iaload), (421, 424, 0, .invokevirtual 52), (424, 427, 768, .if_icmp .eq 344), (427, 428, 0, .iconst 0), (428, 429, 0, .ireturn), (429, 430, 0, .aload_n 1), (430, 431, 0, .aload_n 0), (431, 432, 0, .iload_n 3), (432, 433, 0, .iconst 1), (433, 434, 0, .iadd), (434, 435, 0, .iaload), (435, 438, 0, .invokevirtual 53), (438, 439, 0, .aload_n 2), (439, 440, 0, .aload_n 0), (440, 441, 0, .iload_n 3), (441, 442, 0, .iconst 1), (442, 443, 0, .iadd), (443, 444, 0, .iaload), (444, 447, 0, .invokevirtual 56), (447, 450, 768, .if_icmp .eq 321), (450, 451, 0, .iconst 0), (451, 452, 0, .ireturn), (452, 453, 0, .aload_n 1), (453, 454, 0, .aload_n 0), (454, 455, 0, .iload_n 3), (455, 456, 0, .iconst 1), (456, 457, 0, .iadd), (457, 458, 0, .iaload), (458, 461, 0, .invokevirtual 57), (461, 462, 0, .aload_n 2), (462, 463, 0, .aload_n 0), (463, 464, 0, .iload_n 3), (464, 465, 0, .iconst 1), (465, 466, 0, .iadd), (466, 467, 0, .iaload), (467, 470, 0, .invokevirtual 60), (470, 473, 768, .if_icmp .eq 298), (473, 474, 0, .iconst 0), (474, 475, 0, .ireturn), (475, 476, 0, .aload_n 1), (476, 477, 0, .aload_n 0), (477, 478, 0, .iload_n 3), (478, 479, 0, .iconst 1), (479, 480, 0, .iadd), (480, 481, 0, .iaload), (481, 484, 0, .invokevirtual 61), (484, 485, 0, .aload_n 2), (485, 486, 0, .aload_n 0), (486, 487, 0, .iload_n 3), (487, 488, 0, .iconst 1), (488, 489, 0, .iadd), (489, 490, 0, .iaload), (490, 493, 0, .invokevirtual 64), (493, 496, 768, .if_icmp .eq 275), (496, 497, 0, .iconst 0), (497, 498, 0, .ireturn), (498, 499, 0, .aload_n 1), (499, 500, 0, .aload_n 0), (500, 501, 0, .iload_n 3), (501, 502, 0, .iconst 1), (502, 503, 0, .iadd), (503, 504, 0, .iaload), (504, 505, 0, .aload_n 0), (505, 506, 0, .iload_n 3), (506, 507, 0, .iconst 2), (507, 508, 0, .iadd), (508, 509, 0, .iaload), (509, 512, 0, .invokevirtual 65), (512, 513, 0, .aload_n 2), (513, 514, 0, .aload_n 0), (514, 515, 0, .iload_n 3), (515, 516, 0, .iconst 1), (516, 517, 0, .iadd), (517, 518, 0, .iaload), (518, 519, 0, .aload_n 0), (519, 520, 0, .iload_n 3), (520, 521, 0, .iconst 2), (521, 522, 0, .iadd), (522, 523, 0, .iaload), (523, 526, 0, .invokevirtual 68), (526, 529, 768, .if_icmp .eq 242), (529, 530, 0, .iconst 0), (530, 531, 0, .ireturn), (531, 532, 0, .aload_n 1), (532, 533, 0, .aload_n 0), (533, 534, 0, .iload_n 3), (534, 535, 0, .iconst 1), (535, 536, 0, .iadd), (536, 537, 0, .iaload), (537, 538, 0, .aload_n 0), (538, 539, 0, .iload_n 3), (539, 540, 0, .iconst 2), (540, 541, 0, .iadd), (541, 542, 0, .iaload), (542, 545, 0, .invokevirtual 69), (545, 546, 0, .aload_n 2), (546, 547, 0, .aload_n 0), (547, 548, 0, .iload_n 3), (548, 549, 0, .iconst 1), (549, 550, 0, .iadd), (550, 551, 0, .iaload), (551, 552, 0, .aload_n 0), (552, 553, 0, .iload_n 3), (553, 554, 0, .iconst 2), (554, 555, 0, .iadd), (555, 556, 0, .iaload), (556, 559, 0, .invokevirtual 72), (559, 562, 768, .if_icmp .eq 209), (562, 563, 0, .iconst 0), (563, 564, 0, .ireturn), (564, 565, 0, .aload_n 1), (565, 566, 0, .aload_n 0), (566, 567, 0, .iload_n 3), (567, 568, 0, .iconst 1), (568, 569, 0, .iadd), (569, 570, 0, .iaload), (570, 571, 0, .aload_n 0), (571, 572, 0, .iload_n 3), (572, 573, 0, .iconst 2), (573, 574, 0, .iadd), (574, 575, 0, .iaload), (575, 578, 0, .invokevirtual 73), (578, 579, 0, .aload_n 2), (579, 580, 0, .aload_n 0), (580, 581, 0, .iload_n 3), (581, 582, 0, .iconst 1), (582, 583, 0, .iadd), (583, 584, 0, .iaload), (584, 585, 0, .aload_n 0), (585, 586, 0, .iload_n 3), (586, 587, 0, .iconst 2), (587, 588, 0, .iadd), (588, 589, 0, .iaload), (589, 592, 0, .invokevirtual 76), (592, 595, 768, .if_icmp .eq 176), (595, 596, 0, .iconst 0), (596, 597, 0, .ireturn), (597, 598, 0, .aload_n 1), (598, 599, 0, .aload_n 0), (599, 600, 0, .iload_n 3), (600, 601, 0, .iconst 1), (601, 602, 0, .iadd), (602, 603, 0, .iaload), (603, 604, 0, .aload_n 0), (604, 605, 0, .iload_n 3), (605, 606, 0, .iconst 2), (606, 607, 0, .iadd), (607, 608, 0, .iaload), (608, 611, 0, .invokevirtual 77), (611, 612, 0, .aload_n 2), (612, 613, 0, .aload_n 0), (613, 614, 0, .iload_n 3), (614, 615, 0, .iconst 1), (615, 616, 0, .iadd), (616, 617, 0, .iaload), (617, 618, 0, .aload_n 0), (618, 619, 0, .iload_n 3), (619, 620, 0, .iconst 2), (620, 621, 0, .iadd), (621, 622, 0, .iaload), (622, 625, 0, .invokevirtual 80), (625, 628, 768, .if_icmp .eq 143), (628, 629, 0, .iconst 0), (629, 630, 0, .ireturn), (630, 631, 0, .aload_n 1), (631, 632, 0, .aload_n 0), (632, 633, 0, .iload_n 3), (633, 634, 0, .iconst 1), (634, 635, 0, .iadd), (635, 636, 0, .iaload), (636, 639, 0, .invokevirtual 81), (639, 640, 0, .aload_n 2), (640, 641, 0, .aload_n 0), (641, 642, 0, .iload_n 3), (642, 643, 0, .iconst 1), (643, 644, 0, .iadd), (644, 645, 0, .iaload), (645, 648, 0, .invokevirtual 84), (648, 651, 768, .if_icmp .eq 120), (651, 652, 0, .iconst 0), (652, 653, 0, .ireturn), (653, 654, 0, .aload_n 1), (654, 655, 0, .aload_n 0), (655, 656, 0, .iload_n 3), (656, 657, 0, .iconst 1), (657, 658, 0, .iadd), (658, 659, 0, .iaload), (659, 662, 0, .invokevirtual 85), (662, 663, 0, .aload_n 2), (663, 664, 0, .aload_n 0), (664, 665, 0, .iload_n 3), (665, 666, 0, .iconst 1), (666, 667, 0, .iadd), (667, 668, 0, .iaload), (668, 671, 0, .invokevirtual 88), (671, 674, 768, .if_icmp .eq 97), (674, 675, 0, .iconst 0), (675, 676, 0, .ireturn), (676, 677, 0, .aload_n 1), (677, 678, 0, .aload_n 0), (678, 679, 0, .iload_n 3), (679, 680, 0, .iconst 1), (680, 681, 0, .iadd), (681, 682, 0, .iaload), (682, 685, 0, .invokevirtual 89), (685, 686, 0, .aload_n 2), (686, 687, 0, .aload_n 0), (687, 688, 0, .iload_n 3), (688, 689, 0, .iconst 1), (689, 690, 0, .iadd), (690, 691, 0, .iaload), (691, 694, 0, .invokevirtual 92), (694, 697, 768, .if_icmp .eq 74), (697, 698, 0, .iconst 0), (698, 699, 0, .ireturn), (699, 700, 0, .aload_n 1), (700, 701, 0, .aload_n 0), (701, 702, 0, .iload_n 3), (702, 703, 0, .iconst 1), (703, 704, 0, .iadd), (704, 705, 0, .iaload), (705, 708, 0, .invokevirtual 93), (708, 709, 0, .aload_n 2), (709, 710, 0, .aload_n 0), (710, 711, 0, .iload_n 3), (711, 712, 0, .iconst 1), (712, 713, 0, .iadd), (713, 714, 0, .iaload), (714, 717, 0, .invokevirtual 96), (717, 720, 768, .if_icmp .eq 51), (720, 721, 0, .iconst 0), (721, 722, 0, .ireturn), (722, 723, 0, .aload_n 1), (723, 724, 0, .aload_n 0), (724, 725, 0, .iload_n 3), (725, 726, 0, .iconst 1), (726, 727, 0, .iadd), (727, 728, 0, .iaload), (728, 731, 0, .invokevirtual 97), (731, 732, 0, .aload_n 2), (732, 733, 0, .aload_n 0), (733, 734, 0, .iload_n 3), (734, 735, 0, .iconst 1), (735, 736, 0, .iadd), (736, 737, 0, .iaload), (737, 740, 0, .invokevirtual 100), (740, 743, 768, .if_icmp .eq 28), (743, 744, 0, .iconst 0), (744, 745, 0, .ireturn), (745, 746, 0, .aload_n 1), (746, 747, 0, .aload_n 0), (747, 748, 0, .iload_n 3), (748, 749, 0, .iconst 1), (749, 750, 0, .iadd), (750, 751, 0, .iaload), (751, 754, 0, .invokevirtual 101), (754, 755, 0, .aload_n 2), (755, 756, 0, .aload_n 0), (756, 757, 0, .iload_n 3), (757, 758, 0, .iconst 1), (758, 759, 0, .iadd), (759, 760, 0, .iaload), (760, 763, 0, .invokevirtual 104), (763, 766, 768, .if_icmp .eq 5), (766, 767, 0, .iconst 0), (767, 768, 0, .ireturn), (768, 771, 0, .iinc 3 4), (771, 774, 18, .goto (-753)), (774, 775, 0, .iconst 1), (775, 776, 0, .ireturn)]
theorem tL_law_ok : ∀ e ∈ tL_law, rowOk code e := by decide +kernel
theorem lrow {pc nx tg : Nat} {ins : Instr} (hl : lk pc tL_law = some (nx, tg, ins)) : decode code pc = .ok (ins, iln pc nx ins) ∧ nx = pc + iln pc nx ins ∧ jmp pc tg ins = true := by
  have h1 : rowOk code (pc, nx, tg, ins) := tL_law_ok (pc, nx, tg, ins) (lk_mem hl)
  unfold rowOk at h1
  exact h1
abbrev Cx : Type := Program × Launch × Env × Room × State × MethodId × Array Value × List Frame × Method × Code × Nat × Nat × (State → Prop) × va_G × (Nat → Nat) × (Nat → Prop) × Heap × Cs × Nat × (Nat → Int32)
def lC (X : Cx) : Prop := match X with
  | (p, _, _, R, s, m, args, _, _, c, cells, slots, _, D, ad, A, H0, cs, L, xs) => p.tables.exec = Jvm.exec ∧ c.code = code ∧ c.maxLocals = 4 ∧ s.vm.findClass RL = some m.cls ∧ (∀ w ∈ lw_g, w.before args s = true) ∧ va_K D vwCl (gTys cs) s ∧ (∀ M, va_D A (wld cs ad M)) ∧ (40 ≤ R.frames ∧ 40 * 40 ≤ R.locals ∧ cells ≤ R.cells ∧ slots ≤ R.slots) ∧ va_X (ad 74) L xs s H0 ∧ ad 74 < H0.size ∧ ¬ A (ad 74) ∧ L ≤ 2048
def lW (X : Cx) (pc : Nat) (lv st : List PV) (M : Mem) : Prop := match X with
  | (p, l, e, R, s, m, args, below, meth, c, cells, slots, Q, D, ad, A, H0, cs, _, _) => ∀ (H : Heap) (locs : List Loc) (ls : Array Slot), va_P D vwCl (wld cs ad M) H → va_S A H0 H locs → gL ad ls 4 lv → W p l e R s m args below meth c H locs cells slots Q (F0 m pc ls (st.map (cv ad)))
section LW
variable {X : Cx} {pc nx tg : Nat} {lv st rest : List PV} {M : Mem}
theorem lW_iload_n {k : Fin 4} {x : Int} (C : lC X) (hl : lk pc tL_law = some (nx, tg, .iload_n k)) (hn : nth lv k = vI x) (kk : lW X nx lv (vI x :: st) M) : lW X pc lv st M := by
  obtain ⟨p, l, e, R, s, m, args, below, meth, c, cells, slots, Q, D, ad, A, H0, cs, L, xs⟩ := X
  intro H locs ls hP hS hL
  obtain ⟨c1, c2, c3, c4, c5, c6, c7, c8, x1, x2, x3, x4⟩ := C
  obtain ⟨r1, r2, r3⟩ := lrow hl
  dsimp only [iln] at r1 r2
  subst r2
  exact lv_iload_n c1 c2 r1 rfl (gL_int hL hn) (kk H locs ls hP hS hL)
theorem lW_aload_n {k : Fin 4} {r : Nat} (C : lC X) (hl : lk pc tL_law = some (nx, tg, .aload_n k)) (hn : nth lv k = vR r) (kk : lW X nx lv (vR r :: st) M) : lW X pc lv st M := by
  obtain ⟨p, l, e, R, s, m, args, below, meth, c, cells, slots, Q, D, ad, A, H0, cs, L, xs⟩ := X
  intro H locs ls hP hS hL
  obtain ⟨c1, c2, c3, c4, c5, c6, c7, c8, x1, x2, x3, x4⟩ := C
  obtain ⟨r1, r2, r3⟩ := lrow hl
  dsimp only [iln] at r1 r2
  subst r2
  exact lv_aload_n c1 c2 r1 rfl (gL_ref hL hn) (kk H locs ls hP hS hL)
theorem lW_iconst {n : Int} (C : lC X) (hl : lk pc tL_law = some (nx, tg, .iconst n)) (kk : lW X nx lv (vI n :: st) M) : lW X pc lv st M := by
  obtain ⟨p, l, e, R, s, m, args, below, meth, c, cells, slots, Q, D, ad, A, H0, cs, L, xs⟩ := X
  intro H locs ls hP hS hL
  obtain ⟨c1, c2, c3, c4, c5, c6, c7, c8, x1, x2, x3, x4⟩ := C
  obtain ⟨r1, r2, r3⟩ := lrow hl
  dsimp only [iln] at r1 r2
  subst r2
  exact lv_iconst c1 c2 r1 rfl (kk H locs ls hP hS hL)
theorem lW_istore_n {k : Fin 4} {x : Int} (C : lC X) (hl : lk pc tL_law = some (nx, tg, .istore_n k)) (hk : (k : Nat) < lv.length) (kk : lW X nx (lv.set k (vI x)) rest M) : lW X pc lv (vI x :: rest) M := by
  obtain ⟨p, l, e, R, s, m, args, below, meth, c, cells, slots, Q, D, ad, A, H0, cs, L, xs⟩ := X
  intro H locs ls hP hS hL
  obtain ⟨c1, c2, c3, c4, c5, c6, c7, c8, x1, x2, x3, x4⟩ := C
  obtain ⟨r1, r2, r3⟩ := lrow hl
  dsimp only [iln] at r1 r2
  subst r2
  exact lv_istore_n c1 c2 r1 rfl hL.2 (Nat.lt_of_lt_of_le hk hL.1) rfl (fun ls' h' => kk H locs ls' hP hS (gL_set hL hk h'))
theorem lW_iinc {k : Nat} {x n : Int} (C : lC X) (hl : lk pc tL_law = some (nx, tg, .iinc k n)) (hn : nth lv k = vI x) (hk : (k : Nat) < lv.length) (kk : lW X nx (lv.set k (vI (x + n))) st M) : lW X pc lv st M := by
  obtain ⟨p, l, e, R, s, m, args, below, meth, c, cells, slots, Q, D, ad, A, H0, cs, L, xs⟩ := X
  intro H locs ls hP hS hL
  obtain ⟨c1, c2, c3, c4, c5, c6, c7, c8, x1, x2, x3, x4⟩ := C
  obtain ⟨r1, r2, r3⟩ := lrow hl
  dsimp only [iln] at r1 r2
  subst r2
  obtain ⟨j, hj⟩ := List.getElem?_of_mem (lal_mem (ad := ad).mpr (Or.inl ⟨x, nth_eq _ _ _ hn, rfl⟩))
  exact lv_iinc c1 c2 r1 hL.2 hj (Int32.ofInt_add x n).symm (Nat.lt_of_lt_of_le hk hL.1) rfl (fun ls' h' => kk H locs ls' hP hS (gL_set hL hk h'))
theorem lW_goto {o : Int} (C : lC X) (hl : lk pc tL_law = some (nx, tg, .goto o)) (kk : lW X tg lv st M) : lW X pc lv st M := by
  obtain ⟨p, l, e, R, s, m, args, below, meth, c, cells, slots, Q, D, ad, A, H0, cs, L, xs⟩ := X
  intro H locs ls hP hS hL
  obtain ⟨c1, c2, c3, c4, c5, c6, c7, c8, x1, x2, x3, x4⟩ := C
  obtain ⟨r1, r2, r3⟩ := lrow hl
  exact lv_goto c1 c2 r1 (of_decide_eq_true r3) (kk H locs ls hP hS hL)
theorem lW_iadd {x y : Int} (C : lC X) (hl : lk pc tL_law = some (nx, tg, .iadd)) (kk : lW X nx lv (vI (x + y) :: rest) M) : lW X pc lv (vI y :: vI x :: rest) M := by
  obtain ⟨p, l, e, R, s, m, args, below, meth, c, cells, slots, Q, D, ad, A, H0, cs, L, xs⟩ := X
  intro H locs ls hP hS hL
  obtain ⟨c1, c2, c3, c4, c5, c6, c7, c8, x1, x2, x3, x4⟩ := C
  obtain ⟨r1, r2, r3⟩ := lrow hl
  dsimp only [iln] at r1 r2
  subst r2
  have k1 := kk H locs ls hP hS hL
  have e1 : cv ad (vI (x + y)) = .int (Int32.ofInt x + Int32.ofInt y) := by simp [cv, Int32.ofInt_add]
  simp only [List.map_cons, e1] at k1
  exact lv_iadd c1 c2 r1 k1
theorem lW_isub {x y : Int} (C : lC X) (hl : lk pc tL_law = some (nx, tg, .isub)) (kk : lW X nx lv (vI (x - y) :: rest) M) : lW X pc lv (vI y :: vI x :: rest) M := by
  obtain ⟨p, l, e, R, s, m, args, below, meth, c, cells, slots, Q, D, ad, A, H0, cs, L, xs⟩ := X
  intro H locs ls hP hS hL
  obtain ⟨c1, c2, c3, c4, c5, c6, c7, c8, x1, x2, x3, x4⟩ := C
  obtain ⟨r1, r2, r3⟩ := lrow hl
  dsimp only [iln] at r1 r2
  subst r2
  have k1 := kk H locs ls hP hS hL
  have e1 : cv ad (vI (x - y)) = .int (Int32.ofInt x - Int32.ofInt y) := by simp [cv, Int32.ofInt_sub]
  simp only [List.map_cons, e1] at k1
  exact lv_isub c1 c2 r1 k1
theorem lW_gt {o : Int} {x y : Int} (C : lC X) (hl : lk pc tL_law = some (nx, tg, .if_icmp .gt o)) (hx : rng x) (hy : rng y) (kt : y < x → lW X tg lv rest M) (kf : ¬ y < x → lW X nx lv rest M) : lW X pc lv (vI y :: vI x :: rest) M := by
  obtain ⟨p, l, e, R, s, m, args, below, meth, c, cells, slots, Q, D, ad, A, H0, cs, L, xs⟩ := X
  intro H locs ls hP hS hL
  obtain ⟨c1, c2, c3, c4, c5, c6, c7, c8, x1, x2, x3, x4⟩ := C
  obtain ⟨r1, r2, r3⟩ := lrow hl
  dsimp only [iln] at r1 r2
  subst r2
  have r4 := of_decide_eq_true r3
  exact lv_icmp_gt c1 c2 r1 r4 (fun q => kt ((i32_lt hy hx).mp q) H locs ls hP hS hL) (fun q => kf (fun z => q ((i32_lt hy hx).mpr z)) H locs ls hP hS hL)
theorem lW_same {o : Int} {x : Int} (C : lC X) (hl : lk pc tL_law = some (nx, tg, .if_icmp .eq o)) (kt : lW X tg lv rest M) : lW X pc lv (vI x :: vI x :: rest) M := by
  obtain ⟨p, l, e, R, s, m, args, below, meth, c, cells, slots, Q, D, ad, A, H0, cs, L, xs⟩ := X
  intro H locs ls hP hS hL
  obtain ⟨c1, c2, c3, c4, c5, c6, c7, c8, x1, x2, x3, x4⟩ := C
  obtain ⟨r1, r2, r3⟩ := lrow hl
  dsimp only [iln] at r1 r2
  subst r2
  have r4 := of_decide_eq_true r3
  exact lv_icmp_eq c1 c2 r1 r4 (fun _ => kt H locs ls hP hS hL) (fun q => absurd rfl q)
theorem lW_eq0 {o : Int} {x : Int} (C : lC X) (hl : lk pc tL_law = some (nx, tg, .ifCond .eq o)) (hx : rng x) (kt : x = 0 → lW X tg lv rest M) (kf : ¬ x = 0 → lW X nx lv rest M) : lW X pc lv (vI x :: rest) M := by
  obtain ⟨p, l, e, R, s, m, args, below, meth, c, cells, slots, Q, D, ad, A, H0, cs, L, xs⟩ := X
  intro H locs ls hP hS hL
  obtain ⟨c1, c2, c3, c4, c5, c6, c7, c8, x1, x2, x3, x4⟩ := C
  obtain ⟨r1, r2, r3⟩ := lrow hl
  dsimp only [iln] at r1 r2
  subst r2
  have r4 := of_decide_eq_true r3
  exact lv_if_eq c1 c2 r1 r4 (fun q => kt ((i32_eq hx rng_0).mp q) H locs ls hP hS hL) (fun q => kf (fun z => q ((i32_eq hx rng_0).mpr z)) H locs ls hP hS hL)
/-- the script's number at a place -/
def sx (X : Cx) (i : Int) : Int := match X with
  | (_, _, _, _, _, _, _, _, _, _, _, _, _, _, _, _, _, _, _, xs) => (xs i.toNat).toInt
def sL (X : Cx) : Nat := match X with
  | (_, _, _, _, _, _, _, _, _, _, _, _, _, _, _, _, _, _, L, _) => L
theorem lW_len (C : lC X) (hl : lk pc tL_law = some (nx, tg, .arraylength)) (kk : lW X nx lv (vI (sL X) :: rest) M) : lW X pc lv (vR 74 :: rest) M := by
  obtain ⟨p, l, e, R, s, m, args, below, meth, c, cells, slots, Q, D, ad, A, H0, cs, L, xs⟩ := X
  intro H locs ls hP hS hL
  obtain ⟨c1, c2, c3, c4, c5, c6, c7, c8, x1, x2, x3, x4⟩ := C
  obtain ⟨r1, r2, r3⟩ := lrow hl
  dsimp only [iln] at r1 r2
  subst r2
  have k1 := kk H locs ls hP hS hL
  exact va_slen c1 c2 x1 x2 x3 hS r1 k1
theorem lW_sld {i : Int} (C : lC X) (hl : lk pc tL_law = some (nx, tg, .iaload)) (hi : 0 ≤ i ∧ i < sL X) (kk : lW X nx lv (vI (sx X i) :: rest) M) : lW X pc lv (vI i :: vR 74 :: rest) M := by
  obtain ⟨p, l, e, R, s, m, args, below, meth, c, cells, slots, Q, D, ad, A, H0, cs, L, xs⟩ := X
  intro H locs ls hP hS hL
  obtain ⟨c1, c2, c3, c4, c5, c6, c7, c8, x1, x2, x3, x4⟩ := C
  obtain ⟨r1, r2, r3⟩ := lrow hl
  dsimp only [iln] at r1 r2
  subst r2
  have hi2 : 0 ≤ i ∧ i < (L : Int) := hi
  have k1 := kk H locs ls hP hS hL
  have e1 : cv ad (vI ((xs i.toNat).toInt)) = .int (xs (Int32.ofInt i).toNatClampNeg) := by
    simp only [cv]
    rw [i32_clamp hi2.1 (by omega), Int32.ofInt_toInt]
  have k2 : W p l e R s m args below meth c H locs cells slots Q (F0 m (pc + 1) ls (cv ad (vI ((xs i.toNat).toInt)) :: rest.map (cv ad))) := k1
  rw [e1] at k2
  exact va_sld c1 c2 x1 x2 x3 hS (i32_in hi2.1 hi2.2 (by omega)) r1 k2
theorem sx_rng (X : Cx) (i : Int) : rng (sx X i) := by
  obtain ⟨p, l, e, R, s, m, args, below, meth, c, cells, slots, Q, D, ad, A, H0, cs, L, xs⟩ := X
  show rng (xs i.toNat).toInt
  have h1 := Int32.toInt_lt (xs i.toNat)
  have h2 := Int32.le_toInt (xs i.toNat)
  unfold rng
  omega
end LW
