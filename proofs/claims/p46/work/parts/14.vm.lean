def tx_L_law : ev_X := fun pc _ => bif List.elem pc [4, 12, 20] then none else some none
noncomputable def tb_L_law_c0 (X : ev_E) : List (Nat × (ev_S → ev_N)) := [(0, i_nw 10 7 [.null, .null, .null, .null, .null, .int 0, .int 0] 3), (3, i_dup 4), (4, i_cI 152 0 2 7), (7, i_as 1 8), (8, i_nw 13 5 [.int 0, .int 0, .int 0, .null, .null] 11), (11, i_dup 12), (12, i_cI 234 0 1 15), (15, i_as 2 16), (16, i_nw 11 2 [.long 0, .null] 19), (19, i_dup 20), (20, i_cI 60 0 1 23), (23, i_as 3 24), (24, i_psh (.int (0)) 25), (25, i_is 4 27), (27, i_il 4 29), (29, i_al 0 30), (30, i_len X 31), (31, i_psh (.int (4)) 32), (32, i_ii (fun a b => a - b) 33), (33, i_icgt 1720 36), (36, i_al 0 37), (37, i_il 4 39), (39, i_ald X ev_tI 40), (40, i_psh (.int (63)) 42), (42, i_ii (fun a b => a &&& b) 43), (43, i_sw (0) [236, 304, 356, 408, 448, 500, 540, 568, 620, 660, 700, 728, 768, 808, 848, 888, 916, 944, 984, 1024, 1064, 1092, 1120, 1148, 1176, 1204, 1232, 1284, 1297, 1310, 1335, 1360, 1388, 1401, 1429, 1469, 1509, 1537, 1565, 1593, 1618, 1646, 1674, 1687, 1700] 1714), (236, i_al 1 237), (237, i_al 0 238), (238, i_il 4 240), (240, i_psh (.int (1)) 241), (241, i_ii (fun a b => a + b) 242), (242, i_ald X ev_tI 243), (243, i_al 0 244), (244, i_il 4 246), (246, i_psh (.int (2)) 247), (247, i_ii (fun a b => a + b) 248), (248, i_ald X ev_tI 249), (249, i_ifeq 256 252), (252, i_psh (.int (1)) 253), (253, i_goto 257), (256, i_psh (.int (0)) 257), (257, i_al 0 258), (258, i_il 4 260), (260, i_psh (.int (3)) 261), (261, i_ii (fun a b => a + b) 262), (262, i_ald X ev_tI 263), (263, i_al 3 264), (264, i_cS 188 5 6 267), (267, i_is 5 269), (269, i_al 2 270), (270, i_al 0 271), (271, i_il 4 273), (273, i_psh (.int (1)) 274), (274, i_ii (fun a b => a + b) 275), (275, i_ald X ev_tI 276), (276, i_al 0 277), (277, i_il 4 279), (279, i_psh (.int (2)) 280), (280, i_ii (fun a b => a + b) 281), (281, i_ald X ev_tI 282)]
noncomputable def tb_L_law_c1 (X : ev_E) : List (Nat × (ev_S → ev_N)) := [(282, i_ifeq 289 285), (285, i_psh (.int (1)) 286), (286, i_goto 290), (289, i_psh (.int (0)) 290), (290, i_al 0 291), (291, i_il 4 293), (293, i_psh (.int (3)) 294), (294, i_ii (fun a b => a + b) 295), (295, i_ald X ev_tI 296), (296, i_cV X 167 3 13 6 299), (299, i_is 6 301), (301, i_goto 1714), (304, i_al 1 305), (305, i_al 0 306), (306, i_il 4 308), (308, i_psh (.int (1)) 309), (309, i_ii (fun a b => a + b) 310), (310, i_ald X ev_tI 311), (311, i_al 0 312), (312, i_il 4 314), (314, i_psh (.int (2)) 315), (315, i_ii (fun a b => a + b) 316), (316, i_ald X ev_tI 317), (317, i_al 0 318), (318, i_il 4 320), (320, i_psh (.int (3)) 321), (321, i_ii (fun a b => a + b) 322), (322, i_ald X ev_tI 323), (323, i_al 3 324), (324, i_cS 251 5 6 327), (327, i_is 5 329), (329, i_al 2 330), (330, i_al 0 331), (331, i_il 4 333), (333, i_psh (.int (1)) 334), (334, i_ii (fun a b => a + b) 335), (335, i_ald X ev_tI 336), (336, i_al 0 337), (337, i_il 4 339), (339, i_psh (.int (2)) 340), (340, i_ii (fun a b => a + b) 341), (341, i_ald X ev_tI 342), (342, i_al 0 343), (343, i_il 4 345), (345, i_psh (.int (3)) 346), (346, i_ii (fun a b => a + b) 347), (347, i_ald X ev_tI 348), (348, i_cV X 293 3 13 7 351), (351, i_is 6 353), (353, i_goto 1714), (356, i_al 1 357), (357, i_al 0 358), (358, i_il 4 360), (360, i_psh (.int (1)) 361), (361, i_ii (fun a b => a + b) 362), (362, i_ald X ev_tI 363), (363, i_al 0 364), (364, i_il 4 366), (366, i_psh (.int (2)) 367), (367, i_ii (fun a b => a + b) 368)]
noncomputable def tb_L_law_c2 (X : ev_E) : List (Nat × (ev_S → ev_N)) := [(368, i_ald X ev_tI 369), (369, i_al 0 370), (370, i_il 4 372), (372, i_psh (.int (3)) 373), (373, i_ii (fun a b => a + b) 374), (374, i_ald X ev_tI 375), (375, i_al 3 376), (376, i_cS 262 5 6 379), (379, i_is 5 381), (381, i_al 2 382), (382, i_al 0 383), (383, i_il 4 385), (385, i_psh (.int (1)) 386), (386, i_ii (fun a b => a + b) 387), (387, i_ald X ev_tI 388), (388, i_al 0 389), (389, i_il 4 391), (391, i_psh (.int (2)) 392), (392, i_ii (fun a b => a + b) 393), (393, i_ald X ev_tI 394), (394, i_al 0 395), (395, i_il 4 397), (397, i_psh (.int (3)) 398), (398, i_ii (fun a b => a + b) 399), (399, i_ald X ev_tI 400), (400, i_cV X 294 3 13 7 403), (403, i_is 6 405), (405, i_goto 1714), (408, i_al 1 409), (409, i_al 0 410), (410, i_il 4 412), (412, i_psh (.int (1)) 413), (413, i_ii (fun a b => a + b) 414), (414, i_ald X ev_tI 415), (415, i_al 0 416), (416, i_il 4 418), (418, i_psh (.int (2)) 419), (419, i_ii (fun a b => a + b) 420), (420, i_ald X ev_tI 421), (421, i_al 3 422), (422, i_cS 249 4 5 425), (425, i_is 5 427), (427, i_al 2 428), (428, i_al 0 429), (429, i_il 4 431), (431, i_psh (.int (1)) 432), (432, i_ii (fun a b => a + b) 433), (433, i_ald X ev_tI 434), (434, i_al 0 435), (435, i_il 4 437), (437, i_psh (.int (2)) 438), (438, i_ii (fun a b => a + b) 439), (439, i_ald X ev_tI 440), (440, i_cV X 302 2 13 3 443), (443, i_is 6 445), (445, i_goto 1714), (448, i_al 1 449), (449, i_al 0 450), (450, i_il 4 452), (452, i_psh (.int (1)) 453)]
noncomputable def tb_L_law_c3 (X : ev_E) : List (Nat × (ev_S → ev_N)) := [(453, i_ii (fun a b => a + b) 454), (454, i_ald X ev_tI 455), (455, i_al 0 456), (456, i_il 4 458), (458, i_psh (.int (2)) 459), (459, i_ii (fun a b => a + b) 460), (460, i_ald X ev_tI 461), (461, i_al 0 462), (462, i_il 4 464), (464, i_psh (.int (3)) 465), (465, i_ii (fun a b => a + b) 466), (466, i_ald X ev_tI 467), (467, i_al 3 468), (468, i_cS 250 5 6 471), (471, i_is 5 473), (473, i_al 2 474), (474, i_al 0 475), (475, i_il 4 477), (477, i_psh (.int (1)) 478), (478, i_ii (fun a b => a + b) 479), (479, i_ald X ev_tI 480), (480, i_al 0 481), (481, i_il 4 483), (483, i_psh (.int (2)) 484), (484, i_ii (fun a b => a + b) 485), (485, i_ald X ev_tI 486), (486, i_al 0 487), (487, i_il 4 489), (489, i_psh (.int (3)) 490), (490, i_ii (fun a b => a + b) 491), (491, i_ald X ev_tI 492), (492, i_cV X 303 3 13 4 495), (495, i_is 6 497), (497, i_goto 1714), (500, i_al 1 501), (501, i_al 0 502), (502, i_il 4 504), (504, i_psh (.int (1)) 505), (505, i_ii (fun a b => a + b) 506), (506, i_ald X ev_tI 507), (507, i_al 0 508), (508, i_il 4 510), (510, i_psh (.int (2)) 511), (511, i_ii (fun a b => a + b) 512), (512, i_ald X ev_tI 513), (513, i_al 3 514), (514, i_cS 222 4 5 517), (517, i_is 5 519), (519, i_al 2 520), (520, i_al 0 521), (521, i_il 4 523), (523, i_psh (.int (1)) 524), (524, i_ii (fun a b => a + b) 525), (525, i_ald X ev_tI 526), (526, i_al 0 527), (527, i_il 4 529), (529, i_psh (.int (2)) 530), (530, i_ii (fun a b => a + b) 531), (531, i_ald X ev_tI 532), (532, i_cV X 239 2 13 5 535)]
noncomputable def tb_L_law_c4 (X : ev_E) : List (Nat × (ev_S → ev_N)) := [(535, i_is 6 537), (537, i_goto 1714), (540, i_al 1 541), (541, i_al 0 542), (542, i_il 4 544), (544, i_psh (.int (1)) 545), (545, i_ii (fun a b => a + b) 546), (546, i_ald X ev_tI 547), (547, i_al 3 548), (548, i_cS 131 3 4 551), (551, i_is 5 553), (553, i_al 2 554), (554, i_al 0 555), (555, i_il 4 557), (557, i_psh (.int (1)) 558), (558, i_ii (fun a b => a + b) 559), (559, i_ald X ev_tI 560), (560, i_cV X 163 1 13 3 563), (563, i_is 6 565), (565, i_goto 1714), (568, i_al 1 569), (569, i_al 0 570), (570, i_il 4 572), (572, i_psh (.int (1)) 573), (573, i_ii (fun a b => a + b) 574), (574, i_ald X ev_tI 575), (575, i_al 0 576), (576, i_il 4 578), (578, i_psh (.int (2)) 579), (579, i_ii (fun a b => a + b) 580), (580, i_ald X ev_tI 581), (581, i_al 0 582), (582, i_il 4 584), (584, i_psh (.int (3)) 585), (585, i_ii (fun a b => a + b) 586), (586, i_ald X ev_tI 587), (587, i_al 3 588), (588, i_cS 191 5 6 591), (591, i_is 5 593), (593, i_al 2 594), (594, i_al 0 595), (595, i_il 4 597), (597, i_psh (.int (1)) 598), (598, i_ii (fun a b => a + b) 599), (599, i_ald X ev_tI 600), (600, i_al 0 601), (601, i_il 4 603), (603, i_psh (.int (2)) 604), (604, i_ii (fun a b => a + b) 605), (605, i_ald X ev_tI 606), (606, i_al 0 607), (607, i_il 4 609), (609, i_psh (.int (3)) 610), (610, i_ii (fun a b => a + b) 611), (611, i_ald X ev_tI 612), (612, i_cV X 213 3 13 5 615), (615, i_is 6 617), (617, i_goto 1714), (620, i_al 1 621), (621, i_al 0 622)]
noncomputable def tb_L_law_c5 (X : ev_E) : List (Nat × (ev_S → ev_N)) := [(622, i_il 4 624), (624, i_psh (.int (1)) 625), (625, i_ii (fun a b => a + b) 626), (626, i_ald X ev_tI 627), (627, i_al 0 628), (628, i_il 4 630), (630, i_psh (.int (2)) 631), (631, i_ii (fun a b => a + b) 632), (632, i_ald X ev_tI 633), (633, i_al 3 634), (634, i_cS 220 4 5 637), (637, i_is 5 639), (639, i_al 2 640), (640, i_al 0 641), (641, i_il 4 643), (643, i_psh (.int (1)) 644), (644, i_ii (fun a b => a + b) 645), (645, i_ald X ev_tI 646), (646, i_al 0 647), (647, i_il 4 649), (649, i_psh (.int (2)) 650), (650, i_ii (fun a b => a + b) 651), (651, i_ald X ev_tI 652), (652, i_cV X 279 2 13 7 655), (655, i_is 6 657), (657, i_goto 1714), (660, i_al 1 661), (661, i_al 0 662), (662, i_il 4 664), (664, i_psh (.int (1)) 665), (665, i_ii (fun a b => a + b) 666), (666, i_ald X ev_tI 667), (667, i_al 0 668), (668, i_il 4 670), (670, i_psh (.int (2)) 671), (671, i_ii (fun a b => a + b) 672), (672, i_ald X ev_tI 673), (673, i_al 3 674), (674, i_cS 132 4 5 677), (677, i_is 5 679), (679, i_al 2 680), (680, i_al 0 681), (681, i_il 4 683), (683, i_psh (.int (1)) 684), (684, i_ii (fun a b => a + b) 685), (685, i_ald X ev_tI 686), (686, i_al 0 687), (687, i_il 4 689), (689, i_psh (.int (2)) 690), (690, i_ii (fun a b => a + b) 691), (691, i_ald X ev_tI 692), (692, i_cV X 233 2 13 3 695), (695, i_is 6 697), (697, i_goto 1714), (700, i_al 1 701), (701, i_al 0 702), (702, i_il 4 704), (704, i_psh (.int (1)) 705), (705, i_ii (fun a b => a + b) 706), (706, i_ald X ev_tI 707)]
noncomputable def tb_L_law_c6 (X : ev_E) : List (Nat × (ev_S → ev_N)) := [(707, i_al 3 708), (708, i_cS 137 3 4 711), (711, i_is 5 713), (713, i_al 2 714), (714, i_al 0 715), (715, i_il 4 717), (717, i_psh (.int (1)) 718), (718, i_ii (fun a b => a + b) 719), (719, i_ald X ev_tI 720), (720, i_cV X 168 1 13 2 723), (723, i_is 6 725), (725, i_goto 1714), (728, i_al 1 729), (729, i_al 0 730), (730, i_il 4 732), (732, i_psh (.int (1)) 733), (733, i_ii (fun a b => a + b) 734), (734, i_ald X ev_tI 735), (735, i_al 0 736), (736, i_il 4 738), (738, i_psh (.int (2)) 739), (739, i_ii (fun a b => a + b) 740), (740, i_ald X ev_tI 741), (741, i_al 3 742), (742, i_cS 185 4 5 745), (745, i_is 5 747), (747, i_al 2 748), (748, i_al 0 749), (749, i_il 4 751), (751, i_psh (.int (1)) 752), (752, i_ii (fun a b => a + b) 753), (753, i_ald X ev_tI 754), (754, i_al 0 755), (755, i_il 4 757), (757, i_psh (.int (2)) 758), (758, i_ii (fun a b => a + b) 759), (759, i_ald X ev_tI 760), (760, i_cV X 235 2 13 3 763), (763, i_is 6 765), (765, i_goto 1714), (768, i_al 1 769), (769, i_al 0 770), (770, i_il 4 772), (772, i_psh (.int (1)) 773), (773, i_ii (fun a b => a + b) 774), (774, i_ald X ev_tI 775), (775, i_al 0 776), (776, i_il 4 778), (778, i_psh (.int (2)) 779), (779, i_ii (fun a b => a + b) 780), (780, i_ald X ev_tI 781), (781, i_al 3 782), (782, i_cS 193 4 5 785), (785, i_is 5 787), (787, i_al 2 788), (788, i_al 0 789), (789, i_il 4 791), (791, i_psh (.int (1)) 792), (792, i_ii (fun a b => a + b) 793), (793, i_ald X ev_tI 794)]
noncomputable def tb_L_law_c7 (X : ev_E) : List (Nat × (ev_S → ev_N)) := [(794, i_al 0 795), (795, i_il 4 797), (797, i_psh (.int (2)) 798), (798, i_ii (fun a b => a + b) 799), (799, i_ald X ev_tI 800), (800, i_cV X 243 2 13 3 803), (803, i_is 6 805), (805, i_goto 1714), (808, i_al 1 809), (809, i_al 0 810), (810, i_il 4 812), (812, i_psh (.int (1)) 813), (813, i_ii (fun a b => a + b) 814), (814, i_ald X ev_tI 815), (815, i_al 0 816), (816, i_il 4 818), (818, i_psh (.int (2)) 819), (819, i_ii (fun a b => a + b) 820), (820, i_ald X ev_tI 821), (821, i_al 3 822), (822, i_cS 190 4 5 825), (825, i_is 5 827), (827, i_al 2 828), (828, i_al 0 829), (829, i_il 4 831), (831, i_psh (.int (1)) 832), (832, i_ii (fun a b => a + b) 833), (833, i_ald X ev_tI 834), (834, i_al 0 835), (835, i_il 4 837), (837, i_psh (.int (2)) 838), (838, i_ii (fun a b => a + b) 839), (839, i_ald X ev_tI 840), (840, i_cV X 237 2 13 3 843), (843, i_is 6 845), (845, i_goto 1714), (848, i_al 1 849), (849, i_al 0 850), (850, i_il 4 852), (852, i_psh (.int (1)) 853), (853, i_ii (fun a b => a + b) 854), (854, i_ald X ev_tI 855), (855, i_al 0 856), (856, i_il 4 858), (858, i_psh (.int (2)) 859), (859, i_ii (fun a b => a + b) 860), (860, i_ald X ev_tI 861), (861, i_al 3 862), (862, i_cS 136 4 5 865), (865, i_is 5 867), (867, i_al 2 868), (868, i_al 0 869), (869, i_il 4 871), (871, i_psh (.int (1)) 872), (872, i_ii (fun a b => a + b) 873), (873, i_ald X ev_tI 874), (874, i_al 0 875), (875, i_il 4 877), (877, i_psh (.int (2)) 878), (878, i_ii (fun a b => a + b) 879)]
noncomputable def tb_L_law_c8 (X : ev_E) : List (Nat × (ev_S → ev_N)) := [(879, i_ald X ev_tI 880), (880, i_cV X 238 2 13 3 883), (883, i_is 6 885), (885, i_goto 1714), (888, i_al 1 889), (889, i_al 0 890), (890, i_il 4 892), (892, i_psh (.int (1)) 893), (893, i_ii (fun a b => a + b) 894), (894, i_ald X ev_tI 895), (895, i_al 3 896), (896, i_cS 181 3 4 899), (899, i_is 5 901), (901, i_al 2 902), (902, i_al 0 903), (903, i_il 4 905), (905, i_psh (.int (1)) 906), (906, i_ii (fun a b => a + b) 907), (907, i_ald X ev_tI 908), (908, i_cV X 232 1 13 2 911), (911, i_is 6 913), (913, i_goto 1714), (916, i_al 1 917), (917, i_al 0 918), (918, i_il 4 920), (920, i_psh (.int (1)) 921), (921, i_ii (fun a b => a + b) 922), (922, i_ald X ev_tI 923), (923, i_al 3 924), (924, i_cS 186 3 4 927), (927, i_is 5 929), (929, i_al 2 930), (930, i_al 0 931), (931, i_il 4 933), (933, i_psh (.int (1)) 934), (934, i_ii (fun a b => a + b) 935), (935, i_ald X ev_tI 936), (936, i_cV X 236 1 13 2 939), (939, i_is 6 941), (941, i_goto 1714), (944, i_al 1 945), (945, i_al 0 946), (946, i_il 4 948), (948, i_psh (.int (1)) 949), (949, i_ii (fun a b => a + b) 950), (950, i_ald X ev_tI 951), (951, i_al 0 952), (952, i_il 4 954), (954, i_psh (.int (2)) 955), (955, i_ii (fun a b => a + b) 956), (956, i_ald X ev_tI 957), (957, i_al 3 958), (958, i_cS 305 4 5 961), (961, i_is 5 963), (963, i_al 2 964), (964, i_al 0 965), (965, i_il 4 967), (967, i_psh (.int (1)) 968), (968, i_ii (fun a b => a + b) 969), (969, i_ald X ev_tI 970)]
noncomputable def tb_L_law_c9 (X : ev_E) : List (Nat × (ev_S → ev_N)) := [(970, i_al 0 971), (971, i_il 4 973), (973, i_psh (.int (2)) 974), (974, i_ii (fun a b => a + b) 975), (975, i_ald X ev_tI 976), (976, i_cV X 296 2 13 6 979), (979, i_as 6 981), (981, i_goto 1714), (984, i_al 1 985), (985, i_al 0 986), (986, i_il 4 988), (988, i_psh (.int (1)) 989), (989, i_ii (fun a b => a + b) 990), (990, i_ald X ev_tI 991), (991, i_al 0 992), (992, i_il 4 994), (994, i_psh (.int (2)) 995), (995, i_ii (fun a b => a + b) 996), (996, i_ald X ev_tI 997), (997, i_al 3 998), (998, i_cS 135 4 5 1001), (1001, i_is 5 1003), (1003, i_al 2 1004), (1004, i_al 0 1005), (1005, i_il 4 1007), (1007, i_psh (.int (1)) 1008), (1008, i_ii (fun a b => a + b) 1009), (1009, i_ald X ev_tI 1010), (1010, i_al 0 1011), (1011, i_il 4 1013), (1013, i_psh (.int (2)) 1014), (1014, i_ii (fun a b => a + b) 1015), (1015, i_ald X ev_tI 1016), (1016, i_cV X 212 2 13 3 1019), (1019, i_is 6 1021), (1021, i_goto 1714), (1024, i_al 1 1025), (1025, i_al 0 1026), (1026, i_il 4 1028), (1028, i_psh (.int (1)) 1029), (1029, i_ii (fun a b => a + b) 1030), (1030, i_ald X ev_tI 1031), (1031, i_al 0 1032), (1032, i_il 4 1034), (1034, i_psh (.int (2)) 1035), (1035, i_ii (fun a b => a + b) 1036), (1036, i_ald X ev_tI 1037), (1037, i_al 3 1038), (1038, i_cS 138 4 5 1041), (1041, i_is 5 1043), (1043, i_al 2 1044), (1044, i_al 0 1045), (1045, i_il 4 1047), (1047, i_psh (.int (1)) 1048), (1048, i_ii (fun a b => a + b) 1049), (1049, i_ald X ev_tI 1050), (1050, i_al 0 1051), (1051, i_il 4 1053), (1053, i_psh (.int (2)) 1054), (1054, i_ii (fun a b => a + b) 1055)]
noncomputable def tb_L_law_c10 (X : ev_E) : List (Nat × (ev_S → ev_N)) := [(1055, i_ald X ev_tI 1056), (1056, i_cV X 170 2 13 4 1059), (1059, i_is 6 1061), (1061, i_goto 1714), (1064, i_al 1 1065), (1065, i_al 0 1066), (1066, i_il 4 1068), (1068, i_psh (.int (1)) 1069), (1069, i_ii (fun a b => a + b) 1070), (1070, i_ald X ev_tI 1071), (1071, i_al 3 1072), (1072, i_cS 223 3 4 1075), (1075, i_is 5 1077), (1077, i_al 2 1078), (1078, i_al 0 1079), (1079, i_il 4 1081), (1081, i_psh (.int (1)) 1082), (1082, i_ii (fun a b => a + b) 1083), (1083, i_ald X ev_tI 1084), (1084, i_cV X 241 1 13 3 1087), (1087, i_is 6 1089), (1089, i_goto 1714), (1092, i_al 1 1093), (1093, i_al 0 1094), (1094, i_il 4 1096), (1096, i_psh (.int (1)) 1097), (1097, i_ii (fun a b => a + b) 1098), (1098, i_ald X ev_tI 1099), (1099, i_al 3 1100), (1100, i_cS 221 3 4 1103), (1103, i_is 5 1105), (1105, i_al 2 1106), (1106, i_al 0 1107), (1107, i_il 4 1109), (1109, i_psh (.int (1)) 1110), (1110, i_ii (fun a b => a + b) 1111), (1111, i_ald X ev_tI 1112), (1112, i_cV X 211 1 13 3 1115), (1115, i_is 6 1117), (1117, i_goto 1714), (1120, i_al 1 1121), (1121, i_al 0 1122), (1122, i_il 4 1124), (1124, i_psh (.int (1)) 1125), (1125, i_ii (fun a b => a + b) 1126), (1126, i_ald X ev_tI 1127), (1127, i_al 3 1128), (1128, i_cS 182 3 4 1131), (1131, i_is 5 1133), (1133, i_al 2 1134), (1134, i_al 0 1135), (1135, i_il 4 1137), (1137, i_psh (.int (1)) 1138), (1138, i_ii (fun a b => a + b) 1139), (1139, i_ald X ev_tI 1140), (1140, i_cV X 164 1 13 2 1143), (1143, i_is 6 1145), (1145, i_goto 1714), (1148, i_al 1 1149), (1149, i_al 0 1150)]
noncomputable def tb_L_law_c11 (X : ev_E) : List (Nat × (ev_S → ev_N)) := [(1150, i_il 4 1152), (1152, i_psh (.int (1)) 1153), (1153, i_ii (fun a b => a + b) 1154), (1154, i_ald X ev_tI 1155), (1155, i_al 3 1156), (1156, i_cS 134 3 4 1159), (1159, i_is 5 1161), (1161, i_al 2 1162), (1162, i_al 0 1163), (1163, i_il 4 1165), (1165, i_psh (.int (1)) 1166), (1166, i_ii (fun a b => a + b) 1167), (1167, i_ald X ev_tI 1168), (1168, i_cV X 166 1 13 2 1171), (1171, i_is 6 1173), (1173, i_goto 1714), (1176, i_al 1 1177), (1177, i_al 0 1178), (1178, i_il 4 1180), (1180, i_psh (.int (1)) 1181), (1181, i_ii (fun a b => a + b) 1182), (1182, i_ald X ev_tI 1183), (1183, i_al 3 1184), (1184, i_cS 252 3 4 1187), (1187, i_is 5 1189), (1189, i_al 2 1190), (1190, i_al 0 1191), (1191, i_il 4 1193), (1193, i_psh (.int (1)) 1194), (1194, i_ii (fun a b => a + b) 1195), (1195, i_ald X ev_tI 1196), (1196, i_cV X 240 1 13 4 1199), (1199, i_is 6 1201), (1201, i_goto 1714), (1204, i_al 1 1205), (1205, i_al 0 1206), (1206, i_il 4 1208), (1208, i_psh (.int (1)) 1209), (1209, i_ii (fun a b => a + b) 1210), (1210, i_ald X ev_tI 1211), (1211, i_al 3 1212), (1212, i_cS 275 3 4 1215), (1215, i_is 5 1217), (1217, i_al 2 1218), (1218, i_al 0 1219), (1219, i_il 4 1221), (1221, i_psh (.int (1)) 1222), (1222, i_ii (fun a b => a + b) 1223), (1223, i_ald X ev_tI 1224), (1224, i_cV X 287 1 13 2 1227), (1227, i_is 6 1229), (1229, i_goto 1714), (1232, i_al 1 1233), (1233, i_al 0 1234), (1234, i_il 4 1236), (1236, i_psh (.int (1)) 1237), (1237, i_ii (fun a b => a + b) 1238), (1238, i_ald X ev_tI 1239), (1239, i_al 0 1240), (1240, i_il 4 1242)]
noncomputable def tb_L_law_c12 (X : ev_E) : List (Nat × (ev_S → ev_N)) := [(1242, i_psh (.int (2)) 1243), (1243, i_ii (fun a b => a + b) 1244), (1244, i_ald X ev_tI 1245), (1245, i_al 0 1246), (1246, i_il 4 1248), (1248, i_psh (.int (3)) 1249), (1249, i_ii (fun a b => a + b) 1250), (1250, i_ald X ev_tI 1251), (1251, i_al 3 1252), (1252, i_cS 276 5 6 1255), (1255, i_is 5 1257), (1257, i_al 2 1258), (1258, i_al 0 1259), (1259, i_il 4 1261), (1261, i_psh (.int (1)) 1262), (1262, i_ii (fun a b => a + b) 1263), (1263, i_ald X ev_tI 1264), (1264, i_al 0 1265), (1265, i_il 4 1267), (1267, i_psh (.int (2)) 1268), (1268, i_ii (fun a b => a + b) 1269), (1269, i_ald X ev_tI 1270), (1270, i_al 0 1271), (1271, i_il 4 1273), (1273, i_psh (.int (3)) 1274), (1274, i_ii (fun a b => a + b) 1275), (1275, i_ald X ev_tI 1276), (1276, i_cV X 288 3 13 6 1279), (1279, i_is 6 1281), (1281, i_goto 1714), (1284, i_al 1 1285), (1285, i_cV X 200 0 10 6 1288), (1288, i_pop 1289), (1289, i_al 2 1290), (1290, i_cV X 116 0 13 2 1293), (1293, i_pop 1294), (1294, i_goto 1714), (1297, i_al 1 1298), (1298, i_cV X 47 0 10 1 1301), (1301, i_pop 1302), (1302, i_al 2 1303), (1303, i_cV X 115 0 13 1 1306), (1306, i_pop 1307), (1307, i_goto 1714), (1310, i_al 1 1311), (1311, i_al 0 1312), (1312, i_il 4 1314), (1314, i_psh (.int (1)) 1315), (1315, i_ii (fun a b => a + b) 1316), (1316, i_ald X ev_tI 1317), (1317, i_cV X 100 1 10 2 1320), (1320, i_pop 1321), (1321, i_al 2 1322), (1322, i_al 0 1323), (1323, i_il 4 1325), (1325, i_psh (.int (1)) 1326), (1326, i_ii (fun a b => a + b) 1327), (1327, i_ald X ev_tI 1328), (1328, i_cV X 209 1 13 2 1331), (1331, i_pop 1332)]
noncomputable def tb_L_law_c13 (X : ev_E) : List (Nat × (ev_S → ev_N)) := [(1332, i_goto 1714), (1335, i_al 1 1336), (1336, i_al 0 1337), (1337, i_il 4 1339), (1339, i_psh (.int (1)) 1340), (1340, i_ii (fun a b => a + b) 1341), (1341, i_ald X ev_tI 1342), (1342, i_cV X 102 1 10 2 1345), (1345, i_pop 1346), (1346, i_al 2 1347), (1347, i_al 0 1348), (1348, i_il 4 1350), (1350, i_psh (.int (1)) 1351), (1351, i_ii (fun a b => a + b) 1352), (1352, i_ald X ev_tI 1353), (1353, i_cV X 266 1 13 2 1356), (1356, i_pop 1357), (1357, i_goto 1714), (1360, i_al 1 1361), (1361, i_al 0 1362), (1362, i_il 4 1364), (1364, i_psh (.int (1)) 1365), (1365, i_ii (fun a b => a + b) 1366), (1366, i_ald X ev_tI 1367), (1367, i_al 3 1368), (1368, i_cS 180 3 4 1371), (1371, i_is 5 1373), (1373, i_al 2 1374), (1374, i_al 0 1375), (1375, i_il 4 1377), (1377, i_psh (.int (1)) 1378), (1378, i_ii (fun a b => a + b) 1379), (1379, i_ald X ev_tI 1380), (1380, i_cV X 265 1 13 2 1383), (1383, i_is 6 1385), (1385, i_goto 1714), (1388, i_al 1 1389), (1389, i_cV X 299 0 10 1 1392), (1392, i_pop 1393), (1393, i_al 2 1394), (1394, i_cV X 308 0 13 1 1397), (1397, i_pop 1398), (1398, i_goto 1714), (1401, i_al 1 1402), (1402, i_al 0 1403), (1403, i_il 4 1405), (1405, i_psh (.int (1)) 1406), (1406, i_ii (fun a b => a + b) 1407), (1407, i_ald X ev_tI 1408), (1408, i_al 3 1409), (1409, i_cS 304 3 4 1412), (1412, i_is 5 1414), (1414, i_al 2 1415), (1415, i_al 0 1416), (1416, i_il 4 1418), (1418, i_psh (.int (1)) 1419), (1419, i_ii (fun a b => a + b) 1420), (1420, i_ald X ev_tI 1421), (1421, i_cV X 307 1 13 2 1424), (1424, i_as 6 1426)]
noncomputable def tb_L_law_c14 (X : ev_E) : List (Nat × (ev_S → ev_N)) := [(1426, i_goto 1714), (1429, i_al 1 1430), (1430, i_al 0 1431), (1431, i_il 4 1433), (1433, i_psh (.int (1)) 1434), (1434, i_ii (fun a b => a + b) 1435), (1435, i_ald X ev_tI 1436), (1436, i_al 0 1437), (1437, i_il 4 1439), (1439, i_psh (.int (2)) 1440), (1440, i_ii (fun a b => a + b) 1441), (1441, i_ald X ev_tI 1442), (1442, i_al 3 1443), (1443, i_cS 184 4 5 1446), (1446, i_is 5 1448), (1448, i_al 2 1449), (1449, i_al 0 1450), (1450, i_il 4 1452), (1452, i_psh (.int (1)) 1453), (1453, i_ii (fun a b => a + b) 1454), (1454, i_ald X ev_tI 1455), (1455, i_al 0 1456), (1456, i_il 4 1458), (1458, i_psh (.int (2)) 1459), (1459, i_ii (fun a b => a + b) 1460), (1460, i_ald X ev_tI 1461), (1461, i_cV X 280 2 13 3 1464), (1464, i_is 6 1466), (1466, i_goto 1714), (1469, i_al 1 1470), (1470, i_al 0 1471), (1471, i_il 4 1473), (1473, i_psh (.int (1)) 1474), (1474, i_ii (fun a b => a + b) 1475), (1475, i_ald X ev_tI 1476), (1476, i_al 0 1477), (1477, i_il 4 1479), (1479, i_psh (.int (2)) 1480), (1480, i_ii (fun a b => a + b) 1481), (1481, i_ald X ev_tI 1482), (1482, i_al 3 1483), (1483, i_cS 192 4 5 1486), (1486, i_is 5 1488), (1488, i_al 2 1489), (1489, i_al 0 1490), (1490, i_il 4 1492), (1492, i_psh (.int (1)) 1493), (1493, i_ii (fun a b => a + b) 1494), (1494, i_ald X ev_tI 1495), (1495, i_al 0 1496), (1496, i_il 4 1498), (1498, i_psh (.int (2)) 1499), (1499, i_ii (fun a b => a + b) 1500), (1500, i_ald X ev_tI 1501), (1501, i_cV X 295 2 13 3 1504), (1504, i_is 6 1506), (1506, i_goto 1714), (1509, i_al 1 1510), (1510, i_al 0 1511), (1511, i_il 4 1513)]
noncomputable def tb_L_law_c15 (X : ev_E) : List (Nat × (ev_S → ev_N)) := [(1513, i_psh (.int (1)) 1514), (1514, i_ii (fun a b => a + b) 1515), (1515, i_ald X ev_tI 1516), (1516, i_al 3 1517), (1517, i_cS 189 3 4 1520), (1520, i_is 5 1522), (1522, i_al 2 1523), (1523, i_al 0 1524), (1524, i_il 4 1526), (1526, i_psh (.int (1)) 1527), (1527, i_ii (fun a b => a + b) 1528), (1528, i_ald X ev_tI 1529), (1529, i_cV X 292 1 13 2 1532), (1532, i_is 6 1534), (1534, i_goto 1714), (1537, i_al 1 1538), (1538, i_al 0 1539), (1539, i_il 4 1541), (1541, i_psh (.int (1)) 1542), (1542, i_ii (fun a b => a + b) 1543), (1543, i_ald X ev_tI 1544), (1544, i_al 3 1545), (1545, i_cS 183 3 4 1548), (1548, i_is 5 1550), (1550, i_al 2 1551), (1551, i_al 0 1552), (1552, i_il 4 1554), (1554, i_psh (.int (1)) 1555), (1555, i_ii (fun a b => a + b) 1556), (1556, i_ald X ev_tI 1557), (1557, i_cV X 290 1 13 2 1560), (1560, i_is 6 1562), (1562, i_goto 1714), (1565, i_al 1 1566), (1566, i_al 0 1567), (1567, i_il 4 1569), (1569, i_psh (.int (1)) 1570), (1570, i_ii (fun a b => a + b) 1571), (1571, i_ald X ev_tI 1572), (1572, i_al 3 1573), (1573, i_cS 187 3 4 1576), (1576, i_is 5 1578), (1578, i_al 2 1579), (1579, i_al 0 1580), (1580, i_il 4 1582), (1582, i_psh (.int (1)) 1583), (1583, i_ii (fun a b => a + b) 1584), (1584, i_ald X ev_tI 1585), (1585, i_cV X 291 1 13 2 1588), (1588, i_is 6 1590), (1590, i_goto 1714), (1593, i_al 1 1594), (1594, i_al 0 1595), (1595, i_il 4 1597), (1597, i_psh (.int (1)) 1598), (1598, i_ii (fun a b => a + b) 1599), (1599, i_ald X ev_tI 1600), (1600, i_cV X 113 1 10 2 1603), (1603, i_pop 1604), (1604, i_al 2 1605)]
noncomputable def tb_L_law_c16 (X : ev_E) : List (Nat × (ev_S → ev_N)) := [(1605, i_al 0 1606), (1606, i_il 4 1608), (1608, i_psh (.int (1)) 1609), (1609, i_ii (fun a b => a + b) 1610), (1610, i_ald X ev_tI 1611), (1611, i_cV X 271 1 13 4 1614), (1614, i_pop 1615), (1615, i_goto 1714), (1618, i_al 1 1619), (1619, i_al 0 1620), (1620, i_il 4 1622), (1622, i_psh (.int (1)) 1623), (1623, i_ii (fun a b => a + b) 1624), (1624, i_ald X ev_tI 1625), (1625, i_al 3 1626), (1626, i_cS 179 3 4 1629), (1629, i_is 5 1631), (1631, i_al 2 1632), (1632, i_al 0 1633), (1633, i_il 4 1635), (1635, i_psh (.int (1)) 1636), (1636, i_ii (fun a b => a + b) 1637), (1637, i_ald X ev_tI 1638), (1638, i_cV X 255 1 13 2 1641), (1641, i_is 6 1643), (1643, i_goto 1714), (1646, i_al 1 1647), (1647, i_al 0 1648), (1648, i_il 4 1650), (1650, i_psh (.int (1)) 1651), (1651, i_ii (fun a b => a + b) 1652), (1652, i_ald X ev_tI 1653), (1653, i_al 3 1654), (1654, i_cS 133 3 4 1657), (1657, i_is 5 1659), (1659, i_al 2 1660), (1660, i_al 0 1661), (1661, i_il 4 1663), (1663, i_psh (.int (1)) 1664), (1664, i_ii (fun a b => a + b) 1665), (1665, i_ald X ev_tI 1666), (1666, i_cV X 267 1 13 2 1669), (1669, i_is 6 1671), (1671, i_goto 1714), (1674, i_al 1 1675), (1675, i_cV X 55 0 10 1 1678), (1678, i_pop 1679), (1679, i_al 2 1680), (1680, i_cV X 68 0 13 1 1683), (1683, i_pop 1684), (1684, i_goto 1714), (1687, i_al 1 1688), (1688, i_cV X 201 0 10 2 1691), (1691, i_pop 1692), (1692, i_al 2 1693), (1693, i_cV X 66 0 13 1 1696), (1696, i_pop 1697), (1697, i_goto 1714), (1700, i_al 1 1701), (1701, i_cV X 226 0 10 4 1704)]
noncomputable def tb_L_law_c17 (X : ev_E) : List (Nat × (ev_S → ev_N)) := [(1704, i_al 2 1705), (1705, i_cV X 301 0 13 5 1708), (1708, i_lcmp 1709), (1709, i_ifeq 1714 1712), (1712, i_psh (.int (0)) 1713), (1713, i_ir (.boolean)), (1714, i_inc 4 (4) 1717), (1717, i_goto 27), (1720, i_psh (.int (1)) 1721), (1721, i_ir (.boolean))]
noncomputable def tb_L_law (X : ev_E) : List (Nat × (ev_S → ev_N)) := tb_L_law_c0 X ++ (tb_L_law_c1 X ++ (tb_L_law_c2 X ++ (tb_L_law_c3 X ++ (tb_L_law_c4 X ++ (tb_L_law_c5 X ++ (tb_L_law_c6 X ++ (tb_L_law_c7 X ++ (tb_L_law_c8 X ++ (tb_L_law_c9 X ++ (tb_L_law_c10 X ++ (tb_L_law_c11 X ++ (tb_L_law_c12 X ++ (tb_L_law_c13 X ++ (tb_L_law_c14 X ++ (tb_L_law_c15 X ++ (tb_L_law_c16 X ++ (tb_L_law_c17 X)))))))))))))))))
theorem s_L_law_0 {X : ev_E} {l : Launch} (hG : ev_Good X) (hl : l.stackTraces = false) : ev_Snd X l ev_ms x_L_law tx_L_law 0 (i_nw 10 7 [.null, .null, .null, .null, .null, .int 0, .int 0] 3) := s_new hG (ci := 10) (r := (RX5, TX5, 7)) rfl cw_10 tyX5 tyX5_ok (fun j hj => nw_10 j hj) w_82 rfl w_83 rfl w_49 rfl dL_law_0
theorem s_L_law_3 {X : ev_E} {l : Launch} (hG : ev_Good X) (hl : l.stackTraces = false) : ev_Snd X l ev_ms x_L_law tx_L_law 3 (i_dup 4) := s_dup dL_law_3
theorem s_L_law_4 {X : ev_E} {l : Launch} (hG : ev_Good X) (hl : l.stackTraces = false) : ev_Snd X l ev_ms x_L_law tx_L_law 4 (i_cI 152 0 2 7) := s_invokeinit hG (mi := 152) (n := 0) (cal_X5_init (Nat.le_of_ble_eq_true rfl)) rfl w_84 w_85 rfl (fun _ => rfl) dL_law_4
theorem s_L_law_7 {X : ev_E} {l : Launch} (hG : ev_Good X) (hl : l.stackTraces = false) : ev_Snd X l ev_ms x_L_law tx_L_law 7 (i_as 1 8) := s_astore_n dL_law_7 rfl (Nat.le_of_ble_eq_true rfl)
theorem s_L_law_8 {X : ev_E} {l : Launch} (hG : ev_Good X) (hl : l.stackTraces = false) : ev_Snd X l ev_ms x_L_law tx_L_law 8 (i_nw 13 5 [.int 0, .int 0, .int 0, .null, .null] 11) := s_new hG (ci := 13) (r := (RX8, TX8, 5)) rfl cw_13 tyX8 tyX8_ok (fun j hj => nw_13 j hj) w_1179 rfl w_1180 rfl w_55 rfl dL_law_8
theorem s_L_law_11 {X : ev_E} {l : Launch} (hG : ev_Good X) (hl : l.stackTraces = false) : ev_Snd X l ev_ms x_L_law tx_L_law 11 (i_dup 12) := s_dup dL_law_11
theorem s_L_law_12 {X : ev_E} {l : Launch} (hG : ev_Good X) (hl : l.stackTraces = false) : ev_Snd X l ev_ms x_L_law tx_L_law 12 (i_cI 234 0 1 15) := s_invokeinit hG (mi := 234) (n := 0) (cal_X8_init (Nat.le_of_ble_eq_true rfl)) rfl w_1181 w_1182 rfl (fun _ => rfl) dL_law_12
theorem s_L_law_15 {X : ev_E} {l : Launch} (hG : ev_Good X) (hl : l.stackTraces = false) : ev_Snd X l ev_ms x_L_law tx_L_law 15 (i_as 2 16) := s_astore_n dL_law_15 rfl (Nat.le_of_ble_eq_true rfl)
theorem s_L_law_16 {X : ev_E} {l : Launch} (hG : ev_Good X) (hl : l.stackTraces = false) : ev_Snd X l ev_ms x_L_law tx_L_law 16 (i_nw 11 2 [.long 0, .null] 19) := s_new hG (ci := 11) (r := (RX6, TX6, 2)) rfl cw_11 tyX6 tyX6_ok (fun j hj => nw_11 j hj) w_805 rfl w_806 rfl w_60 rfl dL_law_16
theorem s_L_law_19 {X : ev_E} {l : Launch} (hG : ev_Good X) (hl : l.stackTraces = false) : ev_Snd X l ev_ms x_L_law tx_L_law 19 (i_dup 20) := s_dup dL_law_19
theorem s_L_law_20 {X : ev_E} {l : Launch} (hG : ev_Good X) (hl : l.stackTraces = false) : ev_Snd X l ev_ms x_L_law tx_L_law 20 (i_cI 60 0 1 23) := s_invokeinitN hG (mi := 60) (n := 0) (cal_X6_init (Nat.le_of_ble_eq_true rfl)) rfl w_807 w_808 rfl (fun _ => rfl) dL_law_20
theorem s_L_law_23 {X : ev_E} {l : Launch} (hG : ev_Good X) (hl : l.stackTraces = false) : ev_Snd X l ev_ms x_L_law tx_L_law 23 (i_as 3 24) := s_astore_n dL_law_23 rfl (Nat.le_of_ble_eq_true rfl)
theorem s_L_law_24 {X : ev_E} {l : Launch} (hG : ev_Good X) (hl : l.stackTraces = false) : ev_Snd X l ev_ms x_L_law tx_L_law 24 (i_psh (.int (0)) 25) := s_iconst dL_law_24 rfl
theorem s_L_law_25 {X : ev_E} {l : Launch} (hG : ev_Good X) (hl : l.stackTraces = false) : ev_Snd X l ev_ms x_L_law tx_L_law 25 (i_is 4 27) := s_istore dL_law_25 (Nat.le_of_ble_eq_true rfl)
theorem s_L_law_27 {X : ev_E} {l : Launch} (hG : ev_Good X) (hl : l.stackTraces = false) : ev_Snd X l ev_ms x_L_law tx_L_law 27 (i_il 4 29) := s_iload dL_law_27
theorem s_L_law_29 {X : ev_E} {l : Launch} (hG : ev_Good X) (hl : l.stackTraces = false) : ev_Snd X l ev_ms x_L_law tx_L_law 29 (i_al 0 30) := s_aload_n dL_law_29 rfl
theorem s_L_law_30 {X : ev_E} {l : Launch} (hG : ev_Good X) (hl : l.stackTraces = false) : ev_Snd X l ev_ms x_L_law tx_L_law 30 (i_len X 31) := s_arraylength hG dL_law_30
theorem s_L_law_31 {X : ev_E} {l : Launch} (hG : ev_Good X) (hl : l.stackTraces = false) : ev_Snd X l ev_ms x_L_law tx_L_law 31 (i_psh (.int (4)) 32) := s_iconst dL_law_31 rfl
theorem s_L_law_32 {X : ev_E} {l : Launch} (hG : ev_Good X) (hl : l.stackTraces = false) : ev_Snd X l ev_ms x_L_law tx_L_law 32 (i_ii (fun a b => a - b) 33) := s_isub dL_law_32
theorem s_L_law_33 {X : ev_E} {l : Launch} (hG : ev_Good X) (hl : l.stackTraces = false) : ev_Snd X l ev_ms x_L_law tx_L_law 33 (i_icgt 1720 36) := s_icgt dL_law_33 rfl
theorem s_L_law_36 {X : ev_E} {l : Launch} (hG : ev_Good X) (hl : l.stackTraces = false) : ev_Snd X l ev_ms x_L_law tx_L_law 36 (i_al 0 37) := s_aload_n dL_law_36 rfl
theorem s_L_law_37 {X : ev_E} {l : Launch} (hG : ev_Good X) (hl : l.stackTraces = false) : ev_Snd X l ev_ms x_L_law tx_L_law 37 (i_il 4 39) := s_iload dL_law_37
theorem s_L_law_39 {X : ev_E} {l : Launch} (hG : ev_Good X) (hl : l.stackTraces = false) : ev_Snd X l ev_ms x_L_law tx_L_law 39 (i_ald X ev_tI 40) := s_iaload hG dL_law_39
theorem s_L_law_40 {X : ev_E} {l : Launch} (hG : ev_Good X) (hl : l.stackTraces = false) : ev_Snd X l ev_ms x_L_law tx_L_law 40 (i_psh (.int (63)) 42) := s_bipush dL_law_40 rfl
theorem s_L_law_42 {X : ev_E} {l : Launch} (hG : ev_Good X) (hl : l.stackTraces = false) : ev_Snd X l ev_ms x_L_law tx_L_law 42 (i_ii (fun a b => a &&& b) 43) := s_iand dL_law_42
theorem s_L_law_43 {X : ev_E} {l : Launch} (hG : ev_Good X) (hl : l.stackTraces = false) : ev_Snd X l ev_ms x_L_law tx_L_law 43 (i_sw (0) [236, 304, 356, 408, 448, 500, 540, 568, 620, 660, 700, 728, 768, 808, 848, 888, 916, 944, 984, 1024, 1064, 1092, 1120, 1148, 1176, 1204, 1232, 1284, 1297, 1310, 1335, 1360, 1388, 1401, 1429, 1469, 1509, 1537, 1565, 1593, 1618, 1646, 1674, 1687, 1700] 1714) := s_tableswitch dL_law_43 rfl rfl (by decide +kernel)
theorem s_L_law_236 {X : ev_E} {l : Launch} (hG : ev_Good X) (hl : l.stackTraces = false) : ev_Snd X l ev_ms x_L_law tx_L_law 236 (i_al 1 237) := s_aload_n dL_law_236 rfl
theorem s_L_law_237 {X : ev_E} {l : Launch} (hG : ev_Good X) (hl : l.stackTraces = false) : ev_Snd X l ev_ms x_L_law tx_L_law 237 (i_al 0 238) := s_aload_n dL_law_237 rfl
theorem s_L_law_238 {X : ev_E} {l : Launch} (hG : ev_Good X) (hl : l.stackTraces = false) : ev_Snd X l ev_ms x_L_law tx_L_law 238 (i_il 4 240) := s_iload dL_law_238
theorem s_L_law_240 {X : ev_E} {l : Launch} (hG : ev_Good X) (hl : l.stackTraces = false) : ev_Snd X l ev_ms x_L_law tx_L_law 240 (i_psh (.int (1)) 241) := s_iconst dL_law_240 rfl
theorem s_L_law_241 {X : ev_E} {l : Launch} (hG : ev_Good X) (hl : l.stackTraces = false) : ev_Snd X l ev_ms x_L_law tx_L_law 241 (i_ii (fun a b => a + b) 242) := s_iadd dL_law_241
theorem s_L_law_242 {X : ev_E} {l : Launch} (hG : ev_Good X) (hl : l.stackTraces = false) : ev_Snd X l ev_ms x_L_law tx_L_law 242 (i_ald X ev_tI 243) := s_iaload hG dL_law_242
theorem s_L_law_243 {X : ev_E} {l : Launch} (hG : ev_Good X) (hl : l.stackTraces = false) : ev_Snd X l ev_ms x_L_law tx_L_law 243 (i_al 0 244) := s_aload_n dL_law_243 rfl
theorem s_L_law_244 {X : ev_E} {l : Launch} (hG : ev_Good X) (hl : l.stackTraces = false) : ev_Snd X l ev_ms x_L_law tx_L_law 244 (i_il 4 246) := s_iload dL_law_244
theorem s_L_law_246 {X : ev_E} {l : Launch} (hG : ev_Good X) (hl : l.stackTraces = false) : ev_Snd X l ev_ms x_L_law tx_L_law 246 (i_psh (.int (2)) 247) := s_iconst dL_law_246 rfl
theorem s_L_law_247 {X : ev_E} {l : Launch} (hG : ev_Good X) (hl : l.stackTraces = false) : ev_Snd X l ev_ms x_L_law tx_L_law 247 (i_ii (fun a b => a + b) 248) := s_iadd dL_law_247
theorem s_L_law_248 {X : ev_E} {l : Launch} (hG : ev_Good X) (hl : l.stackTraces = false) : ev_Snd X l ev_ms x_L_law tx_L_law 248 (i_ald X ev_tI 249) := s_iaload hG dL_law_248
theorem s_L_law_249 {X : ev_E} {l : Launch} (hG : ev_Good X) (hl : l.stackTraces = false) : ev_Snd X l ev_ms x_L_law tx_L_law 249 (i_ifeq 256 252) := s_ifeq dL_law_249 rfl
theorem s_L_law_252 {X : ev_E} {l : Launch} (hG : ev_Good X) (hl : l.stackTraces = false) : ev_Snd X l ev_ms x_L_law tx_L_law 252 (i_psh (.int (1)) 253) := s_iconst dL_law_252 rfl
theorem s_L_law_253 {X : ev_E} {l : Launch} (hG : ev_Good X) (hl : l.stackTraces = false) : ev_Snd X l ev_ms x_L_law tx_L_law 253 (i_goto 257) := s_goto dL_law_253 rfl
theorem s_L_law_256 {X : ev_E} {l : Launch} (hG : ev_Good X) (hl : l.stackTraces = false) : ev_Snd X l ev_ms x_L_law tx_L_law 256 (i_psh (.int (0)) 257) := s_iconst dL_law_256 rfl
theorem s_L_law_257 {X : ev_E} {l : Launch} (hG : ev_Good X) (hl : l.stackTraces = false) : ev_Snd X l ev_ms x_L_law tx_L_law 257 (i_al 0 258) := s_aload_n dL_law_257 rfl
theorem s_L_law_258 {X : ev_E} {l : Launch} (hG : ev_Good X) (hl : l.stackTraces = false) : ev_Snd X l ev_ms x_L_law tx_L_law 258 (i_il 4 260) := s_iload dL_law_258
theorem s_L_law_260 {X : ev_E} {l : Launch} (hG : ev_Good X) (hl : l.stackTraces = false) : ev_Snd X l ev_ms x_L_law tx_L_law 260 (i_psh (.int (3)) 261) := s_iconst dL_law_260 rfl
theorem s_L_law_261 {X : ev_E} {l : Launch} (hG : ev_Good X) (hl : l.stackTraces = false) : ev_Snd X l ev_ms x_L_law tx_L_law 261 (i_ii (fun a b => a + b) 262) := s_iadd dL_law_261
theorem s_L_law_262 {X : ev_E} {l : Launch} (hG : ev_Good X) (hl : l.stackTraces = false) : ev_Snd X l ev_ms x_L_law tx_L_law 262 (i_ald X ev_tI 263) := s_iaload hG dL_law_262
theorem s_L_law_263 {X : ev_E} {l : Launch} (hG : ev_Good X) (hl : l.stackTraces = false) : ev_Snd X l ev_ms x_L_law tx_L_law 263 (i_al 3 264) := s_aload_n dL_law_263 rfl
theorem s_L_law_264 {X : ev_E} {l : Launch} (hG : ev_Good X) (hl : l.stackTraces = false) : ev_Snd X l ev_ms x_L_law tx_L_law 264 (i_cS 188 5 6 267) := s_invokestaticW hG (mi := 188) (n := 5) (cal_L_make (Nat.le_of_ble_eq_true rfl)) w_818 w_819 dL_law_264
theorem s_L_law_267 {X : ev_E} {l : Launch} (hG : ev_Good X) (hl : l.stackTraces = false) : ev_Snd X l ev_ms x_L_law tx_L_law 267 (i_is 5 269) := s_istore dL_law_267 (Nat.le_of_ble_eq_true rfl)
theorem s_L_law_269 {X : ev_E} {l : Launch} (hG : ev_Good X) (hl : l.stackTraces = false) : ev_Snd X l ev_ms x_L_law tx_L_law 269 (i_al 2 270) := s_aload_n dL_law_269 rfl
theorem s_L_law_270 {X : ev_E} {l : Launch} (hG : ev_Good X) (hl : l.stackTraces = false) : ev_Snd X l ev_ms x_L_law tx_L_law 270 (i_al 0 271) := s_aload_n dL_law_270 rfl
theorem s_L_law_271 {X : ev_E} {l : Launch} (hG : ev_Good X) (hl : l.stackTraces = false) : ev_Snd X l ev_ms x_L_law tx_L_law 271 (i_il 4 273) := s_iload dL_law_271
theorem s_L_law_273 {X : ev_E} {l : Launch} (hG : ev_Good X) (hl : l.stackTraces = false) : ev_Snd X l ev_ms x_L_law tx_L_law 273 (i_psh (.int (1)) 274) := s_iconst dL_law_273 rfl
theorem s_L_law_274 {X : ev_E} {l : Launch} (hG : ev_Good X) (hl : l.stackTraces = false) : ev_Snd X l ev_ms x_L_law tx_L_law 274 (i_ii (fun a b => a + b) 275) := s_iadd dL_law_274
theorem s_L_law_275 {X : ev_E} {l : Launch} (hG : ev_Good X) (hl : l.stackTraces = false) : ev_Snd X l ev_ms x_L_law tx_L_law 275 (i_ald X ev_tI 276) := s_iaload hG dL_law_275
theorem s_L_law_276 {X : ev_E} {l : Launch} (hG : ev_Good X) (hl : l.stackTraces = false) : ev_Snd X l ev_ms x_L_law tx_L_law 276 (i_al 0 277) := s_aload_n dL_law_276 rfl
theorem s_L_law_277 {X : ev_E} {l : Launch} (hG : ev_Good X) (hl : l.stackTraces = false) : ev_Snd X l ev_ms x_L_law tx_L_law 277 (i_il 4 279) := s_iload dL_law_277
theorem s_L_law_279 {X : ev_E} {l : Launch} (hG : ev_Good X) (hl : l.stackTraces = false) : ev_Snd X l ev_ms x_L_law tx_L_law 279 (i_psh (.int (2)) 280) := s_iconst dL_law_279 rfl
theorem s_L_law_280 {X : ev_E} {l : Launch} (hG : ev_Good X) (hl : l.stackTraces = false) : ev_Snd X l ev_ms x_L_law tx_L_law 280 (i_ii (fun a b => a + b) 281) := s_iadd dL_law_280
theorem s_L_law_281 {X : ev_E} {l : Launch} (hG : ev_Good X) (hl : l.stackTraces = false) : ev_Snd X l ev_ms x_L_law tx_L_law 281 (i_ald X ev_tI 282) := s_iaload hG dL_law_281
theorem s_L_law_282 {X : ev_E} {l : Launch} (hG : ev_Good X) (hl : l.stackTraces = false) : ev_Snd X l ev_ms x_L_law tx_L_law 282 (i_ifeq 289 285) := s_ifeq dL_law_282 rfl
theorem s_L_law_285 {X : ev_E} {l : Launch} (hG : ev_Good X) (hl : l.stackTraces = false) : ev_Snd X l ev_ms x_L_law tx_L_law 285 (i_psh (.int (1)) 286) := s_iconst dL_law_285 rfl
theorem s_L_law_286 {X : ev_E} {l : Launch} (hG : ev_Good X) (hl : l.stackTraces = false) : ev_Snd X l ev_ms x_L_law tx_L_law 286 (i_goto 290) := s_goto dL_law_286 rfl
theorem s_L_law_289 {X : ev_E} {l : Launch} (hG : ev_Good X) (hl : l.stackTraces = false) : ev_Snd X l ev_ms x_L_law tx_L_law 289 (i_psh (.int (0)) 290) := s_iconst dL_law_289 rfl
theorem s_L_law_290 {X : ev_E} {l : Launch} (hG : ev_Good X) (hl : l.stackTraces = false) : ev_Snd X l ev_ms x_L_law tx_L_law 290 (i_al 0 291) := s_aload_n dL_law_290 rfl
theorem s_L_law_291 {X : ev_E} {l : Launch} (hG : ev_Good X) (hl : l.stackTraces = false) : ev_Snd X l ev_ms x_L_law tx_L_law 291 (i_il 4 293) := s_iload dL_law_291
theorem s_L_law_293 {X : ev_E} {l : Launch} (hG : ev_Good X) (hl : l.stackTraces = false) : ev_Snd X l ev_ms x_L_law tx_L_law 293 (i_psh (.int (3)) 294) := s_iconst dL_law_293 rfl
theorem s_L_law_294 {X : ev_E} {l : Launch} (hG : ev_Good X) (hl : l.stackTraces = false) : ev_Snd X l ev_ms x_L_law tx_L_law 294 (i_ii (fun a b => a + b) 295) := s_iadd dL_law_294
theorem s_L_law_295 {X : ev_E} {l : Launch} (hG : ev_Good X) (hl : l.stackTraces = false) : ev_Snd X l ev_ms x_L_law tx_L_law 295 (i_ald X ev_tI 296) := s_iaload hG dL_law_295
theorem s_L_law_296 {X : ev_E} {l : Launch} (hG : ev_Good X) (hl : l.stackTraces = false) : ev_Snd X l ev_ms x_L_law tx_L_law 296 (i_cV X 167 3 13 6 299) := s_invokevirtual hG (mi := 167) (n := 3) (ci := 13) (r := (RX8, TX8, 5)) rfl (cal_X8_make (Nat.le_of_ble_eq_true rfl)) w_1276 w_1277 w_1278 dL_law_296
theorem s_L_law_299 {X : ev_E} {l : Launch} (hG : ev_Good X) (hl : l.stackTraces = false) : ev_Snd X l ev_ms x_L_law tx_L_law 299 (i_is 6 301) := s_istore dL_law_299 (Nat.le_of_ble_eq_true rfl)
theorem s_L_law_301 {X : ev_E} {l : Launch} (hG : ev_Good X) (hl : l.stackTraces = false) : ev_Snd X l ev_ms x_L_law tx_L_law 301 (i_goto 1714) := s_goto dL_law_301 rfl
theorem s_L_law_304 {X : ev_E} {l : Launch} (hG : ev_Good X) (hl : l.stackTraces = false) : ev_Snd X l ev_ms x_L_law tx_L_law 304 (i_al 1 305) := s_aload_n dL_law_304 rfl
theorem s_L_law_305 {X : ev_E} {l : Launch} (hG : ev_Good X) (hl : l.stackTraces = false) : ev_Snd X l ev_ms x_L_law tx_L_law 305 (i_al 0 306) := s_aload_n dL_law_305 rfl
theorem s_L_law_306 {X : ev_E} {l : Launch} (hG : ev_Good X) (hl : l.stackTraces = false) : ev_Snd X l ev_ms x_L_law tx_L_law 306 (i_il 4 308) := s_iload dL_law_306
theorem s_L_law_308 {X : ev_E} {l : Launch} (hG : ev_Good X) (hl : l.stackTraces = false) : ev_Snd X l ev_ms x_L_law tx_L_law 308 (i_psh (.int (1)) 309) := s_iconst dL_law_308 rfl
theorem s_L_law_309 {X : ev_E} {l : Launch} (hG : ev_Good X) (hl : l.stackTraces = false) : ev_Snd X l ev_ms x_L_law tx_L_law 309 (i_ii (fun a b => a + b) 310) := s_iadd dL_law_309
theorem s_L_law_310 {X : ev_E} {l : Launch} (hG : ev_Good X) (hl : l.stackTraces = false) : ev_Snd X l ev_ms x_L_law tx_L_law 310 (i_ald X ev_tI 311) := s_iaload hG dL_law_310
theorem s_L_law_311 {X : ev_E} {l : Launch} (hG : ev_Good X) (hl : l.stackTraces = false) : ev_Snd X l ev_ms x_L_law tx_L_law 311 (i_al 0 312) := s_aload_n dL_law_311 rfl
theorem s_L_law_312 {X : ev_E} {l : Launch} (hG : ev_Good X) (hl : l.stackTraces = false) : ev_Snd X l ev_ms x_L_law tx_L_law 312 (i_il 4 314) := s_iload dL_law_312
theorem s_L_law_314 {X : ev_E} {l : Launch} (hG : ev_Good X) (hl : l.stackTraces = false) : ev_Snd X l ev_ms x_L_law tx_L_law 314 (i_psh (.int (2)) 315) := s_iconst dL_law_314 rfl
theorem s_L_law_315 {X : ev_E} {l : Launch} (hG : ev_Good X) (hl : l.stackTraces = false) : ev_Snd X l ev_ms x_L_law tx_L_law 315 (i_ii (fun a b => a + b) 316) := s_iadd dL_law_315
theorem s_L_law_316 {X : ev_E} {l : Launch} (hG : ev_Good X) (hl : l.stackTraces = false) : ev_Snd X l ev_ms x_L_law tx_L_law 316 (i_ald X ev_tI 317) := s_iaload hG dL_law_316
theorem s_L_law_317 {X : ev_E} {l : Launch} (hG : ev_Good X) (hl : l.stackTraces = false) : ev_Snd X l ev_ms x_L_law tx_L_law 317 (i_al 0 318) := s_aload_n dL_law_317 rfl
theorem s_L_law_318 {X : ev_E} {l : Launch} (hG : ev_Good X) (hl : l.stackTraces = false) : ev_Snd X l ev_ms x_L_law tx_L_law 318 (i_il 4 320) := s_iload dL_law_318
theorem s_L_law_320 {X : ev_E} {l : Launch} (hG : ev_Good X) (hl : l.stackTraces = false) : ev_Snd X l ev_ms x_L_law tx_L_law 320 (i_psh (.int (3)) 321) := s_iconst dL_law_320 rfl
theorem s_L_law_321 {X : ev_E} {l : Launch} (hG : ev_Good X) (hl : l.stackTraces = false) : ev_Snd X l ev_ms x_L_law tx_L_law 321 (i_ii (fun a b => a + b) 322) := s_iadd dL_law_321
theorem s_L_law_322 {X : ev_E} {l : Launch} (hG : ev_Good X) (hl : l.stackTraces = false) : ev_Snd X l ev_ms x_L_law tx_L_law 322 (i_ald X ev_tI 323) := s_iaload hG dL_law_322
theorem s_L_law_323 {X : ev_E} {l : Launch} (hG : ev_Good X) (hl : l.stackTraces = false) : ev_Snd X l ev_ms x_L_law tx_L_law 323 (i_al 3 324) := s_aload_n dL_law_323 rfl
theorem s_L_law_324 {X : ev_E} {l : Launch} (hG : ev_Good X) (hl : l.stackTraces = false) : ev_Snd X l ev_ms x_L_law tx_L_law 324 (i_cS 251 5 6 327) := s_invokestaticW hG (mi := 251) (n := 5) (cal_L_put (Nat.le_of_ble_eq_true rfl)) w_832 w_833 dL_law_324
theorem s_L_law_327 {X : ev_E} {l : Launch} (hG : ev_Good X) (hl : l.stackTraces = false) : ev_Snd X l ev_ms x_L_law tx_L_law 327 (i_is 5 329) := s_istore dL_law_327 (Nat.le_of_ble_eq_true rfl)
theorem s_L_law_329 {X : ev_E} {l : Launch} (hG : ev_Good X) (hl : l.stackTraces = false) : ev_Snd X l ev_ms x_L_law tx_L_law 329 (i_al 2 330) := s_aload_n dL_law_329 rfl
theorem s_L_law_330 {X : ev_E} {l : Launch} (hG : ev_Good X) (hl : l.stackTraces = false) : ev_Snd X l ev_ms x_L_law tx_L_law 330 (i_al 0 331) := s_aload_n dL_law_330 rfl
theorem s_L_law_331 {X : ev_E} {l : Launch} (hG : ev_Good X) (hl : l.stackTraces = false) : ev_Snd X l ev_ms x_L_law tx_L_law 331 (i_il 4 333) := s_iload dL_law_331
theorem s_L_law_333 {X : ev_E} {l : Launch} (hG : ev_Good X) (hl : l.stackTraces = false) : ev_Snd X l ev_ms x_L_law tx_L_law 333 (i_psh (.int (1)) 334) := s_iconst dL_law_333 rfl
theorem s_L_law_334 {X : ev_E} {l : Launch} (hG : ev_Good X) (hl : l.stackTraces = false) : ev_Snd X l ev_ms x_L_law tx_L_law 334 (i_ii (fun a b => a + b) 335) := s_iadd dL_law_334
theorem s_L_law_335 {X : ev_E} {l : Launch} (hG : ev_Good X) (hl : l.stackTraces = false) : ev_Snd X l ev_ms x_L_law tx_L_law 335 (i_ald X ev_tI 336) := s_iaload hG dL_law_335
theorem s_L_law_336 {X : ev_E} {l : Launch} (hG : ev_Good X) (hl : l.stackTraces = false) : ev_Snd X l ev_ms x_L_law tx_L_law 336 (i_al 0 337) := s_aload_n dL_law_336 rfl
theorem s_L_law_337 {X : ev_E} {l : Launch} (hG : ev_Good X) (hl : l.stackTraces = false) : ev_Snd X l ev_ms x_L_law tx_L_law 337 (i_il 4 339) := s_iload dL_law_337
theorem s_L_law_339 {X : ev_E} {l : Launch} (hG : ev_Good X) (hl : l.stackTraces = false) : ev_Snd X l ev_ms x_L_law tx_L_law 339 (i_psh (.int (2)) 340) := s_iconst dL_law_339 rfl
theorem s_L_law_340 {X : ev_E} {l : Launch} (hG : ev_Good X) (hl : l.stackTraces = false) : ev_Snd X l ev_ms x_L_law tx_L_law 340 (i_ii (fun a b => a + b) 341) := s_iadd dL_law_340
theorem s_L_law_341 {X : ev_E} {l : Launch} (hG : ev_Good X) (hl : l.stackTraces = false) : ev_Snd X l ev_ms x_L_law tx_L_law 341 (i_ald X ev_tI 342) := s_iaload hG dL_law_341
theorem s_L_law_342 {X : ev_E} {l : Launch} (hG : ev_Good X) (hl : l.stackTraces = false) : ev_Snd X l ev_ms x_L_law tx_L_law 342 (i_al 0 343) := s_aload_n dL_law_342 rfl
theorem s_L_law_343 {X : ev_E} {l : Launch} (hG : ev_Good X) (hl : l.stackTraces = false) : ev_Snd X l ev_ms x_L_law tx_L_law 343 (i_il 4 345) := s_iload dL_law_343
theorem s_L_law_345 {X : ev_E} {l : Launch} (hG : ev_Good X) (hl : l.stackTraces = false) : ev_Snd X l ev_ms x_L_law tx_L_law 345 (i_psh (.int (3)) 346) := s_iconst dL_law_345 rfl
theorem s_L_law_346 {X : ev_E} {l : Launch} (hG : ev_Good X) (hl : l.stackTraces = false) : ev_Snd X l ev_ms x_L_law tx_L_law 346 (i_ii (fun a b => a + b) 347) := s_iadd dL_law_346
theorem s_L_law_347 {X : ev_E} {l : Launch} (hG : ev_Good X) (hl : l.stackTraces = false) : ev_Snd X l ev_ms x_L_law tx_L_law 347 (i_ald X ev_tI 348) := s_iaload hG dL_law_347
theorem s_L_law_348 {X : ev_E} {l : Launch} (hG : ev_Good X) (hl : l.stackTraces = false) : ev_Snd X l ev_ms x_L_law tx_L_law 348 (i_cV X 293 3 13 7 351) := s_invokevirtual hG (mi := 293) (n := 3) (ci := 13) (r := (RX8, TX8, 5)) rfl (cal_X8_put (Nat.le_of_ble_eq_true rfl)) w_1302 w_1303 w_1304 dL_law_348
theorem s_L_law_351 {X : ev_E} {l : Launch} (hG : ev_Good X) (hl : l.stackTraces = false) : ev_Snd X l ev_ms x_L_law tx_L_law 351 (i_is 6 353) := s_istore dL_law_351 (Nat.le_of_ble_eq_true rfl)
theorem s_L_law_353 {X : ev_E} {l : Launch} (hG : ev_Good X) (hl : l.stackTraces = false) : ev_Snd X l ev_ms x_L_law tx_L_law 353 (i_goto 1714) := s_goto dL_law_353 rfl
theorem s_L_law_356 {X : ev_E} {l : Launch} (hG : ev_Good X) (hl : l.stackTraces = false) : ev_Snd X l ev_ms x_L_law tx_L_law 356 (i_al 1 357) := s_aload_n dL_law_356 rfl
theorem s_L_law_357 {X : ev_E} {l : Launch} (hG : ev_Good X) (hl : l.stackTraces = false) : ev_Snd X l ev_ms x_L_law tx_L_law 357 (i_al 0 358) := s_aload_n dL_law_357 rfl
theorem s_L_law_358 {X : ev_E} {l : Launch} (hG : ev_Good X) (hl : l.stackTraces = false) : ev_Snd X l ev_ms x_L_law tx_L_law 358 (i_il 4 360) := s_iload dL_law_358
theorem s_L_law_360 {X : ev_E} {l : Launch} (hG : ev_Good X) (hl : l.stackTraces = false) : ev_Snd X l ev_ms x_L_law tx_L_law 360 (i_psh (.int (1)) 361) := s_iconst dL_law_360 rfl
theorem s_L_law_361 {X : ev_E} {l : Launch} (hG : ev_Good X) (hl : l.stackTraces = false) : ev_Snd X l ev_ms x_L_law tx_L_law 361 (i_ii (fun a b => a + b) 362) := s_iadd dL_law_361
theorem s_L_law_362 {X : ev_E} {l : Launch} (hG : ev_Good X) (hl : l.stackTraces = false) : ev_Snd X l ev_ms x_L_law tx_L_law 362 (i_ald X ev_tI 363) := s_iaload hG dL_law_362
theorem s_L_law_363 {X : ev_E} {l : Launch} (hG : ev_Good X) (hl : l.stackTraces = false) : ev_Snd X l ev_ms x_L_law tx_L_law 363 (i_al 0 364) := s_aload_n dL_law_363 rfl
theorem s_L_law_364 {X : ev_E} {l : Launch} (hG : ev_Good X) (hl : l.stackTraces = false) : ev_Snd X l ev_ms x_L_law tx_L_law 364 (i_il 4 366) := s_iload dL_law_364
theorem s_L_law_366 {X : ev_E} {l : Launch} (hG : ev_Good X) (hl : l.stackTraces = false) : ev_Snd X l ev_ms x_L_law tx_L_law 366 (i_psh (.int (2)) 367) := s_iconst dL_law_366 rfl
theorem s_L_law_367 {X : ev_E} {l : Launch} (hG : ev_Good X) (hl : l.stackTraces = false) : ev_Snd X l ev_ms x_L_law tx_L_law 367 (i_ii (fun a b => a + b) 368) := s_iadd dL_law_367
theorem s_L_law_368 {X : ev_E} {l : Launch} (hG : ev_Good X) (hl : l.stackTraces = false) : ev_Snd X l ev_ms x_L_law tx_L_law 368 (i_ald X ev_tI 369) := s_iaload hG dL_law_368
theorem s_L_law_369 {X : ev_E} {l : Launch} (hG : ev_Good X) (hl : l.stackTraces = false) : ev_Snd X l ev_ms x_L_law tx_L_law 369 (i_al 0 370) := s_aload_n dL_law_369 rfl
theorem s_L_law_370 {X : ev_E} {l : Launch} (hG : ev_Good X) (hl : l.stackTraces = false) : ev_Snd X l ev_ms x_L_law tx_L_law 370 (i_il 4 372) := s_iload dL_law_370
theorem s_L_law_372 {X : ev_E} {l : Launch} (hG : ev_Good X) (hl : l.stackTraces = false) : ev_Snd X l ev_ms x_L_law tx_L_law 372 (i_psh (.int (3)) 373) := s_iconst dL_law_372 rfl
theorem s_L_law_373 {X : ev_E} {l : Launch} (hG : ev_Good X) (hl : l.stackTraces = false) : ev_Snd X l ev_ms x_L_law tx_L_law 373 (i_ii (fun a b => a + b) 374) := s_iadd dL_law_373
theorem s_L_law_374 {X : ev_E} {l : Launch} (hG : ev_Good X) (hl : l.stackTraces = false) : ev_Snd X l ev_ms x_L_law tx_L_law 374 (i_ald X ev_tI 375) := s_iaload hG dL_law_374
theorem s_L_law_375 {X : ev_E} {l : Launch} (hG : ev_Good X) (hl : l.stackTraces = false) : ev_Snd X l ev_ms x_L_law tx_L_law 375 (i_al 3 376) := s_aload_n dL_law_375 rfl
theorem s_L_law_376 {X : ev_E} {l : Launch} (hG : ev_Good X) (hl : l.stackTraces = false) : ev_Snd X l ev_ms x_L_law tx_L_law 376 (i_cS 262 5 6 379) := s_invokestaticW hG (mi := 262) (n := 5) (cal_L_putIfAbsent (Nat.le_of_ble_eq_true rfl)) w_869 w_870 dL_law_376
theorem s_L_law_379 {X : ev_E} {l : Launch} (hG : ev_Good X) (hl : l.stackTraces = false) : ev_Snd X l ev_ms x_L_law tx_L_law 379 (i_is 5 381) := s_istore dL_law_379 (Nat.le_of_ble_eq_true rfl)
theorem s_L_law_381 {X : ev_E} {l : Launch} (hG : ev_Good X) (hl : l.stackTraces = false) : ev_Snd X l ev_ms x_L_law tx_L_law 381 (i_al 2 382) := s_aload_n dL_law_381 rfl
theorem s_L_law_382 {X : ev_E} {l : Launch} (hG : ev_Good X) (hl : l.stackTraces = false) : ev_Snd X l ev_ms x_L_law tx_L_law 382 (i_al 0 383) := s_aload_n dL_law_382 rfl
theorem s_L_law_383 {X : ev_E} {l : Launch} (hG : ev_Good X) (hl : l.stackTraces = false) : ev_Snd X l ev_ms x_L_law tx_L_law 383 (i_il 4 385) := s_iload dL_law_383
theorem s_L_law_385 {X : ev_E} {l : Launch} (hG : ev_Good X) (hl : l.stackTraces = false) : ev_Snd X l ev_ms x_L_law tx_L_law 385 (i_psh (.int (1)) 386) := s_iconst dL_law_385 rfl
theorem s_L_law_386 {X : ev_E} {l : Launch} (hG : ev_Good X) (hl : l.stackTraces = false) : ev_Snd X l ev_ms x_L_law tx_L_law 386 (i_ii (fun a b => a + b) 387) := s_iadd dL_law_386
theorem s_L_law_387 {X : ev_E} {l : Launch} (hG : ev_Good X) (hl : l.stackTraces = false) : ev_Snd X l ev_ms x_L_law tx_L_law 387 (i_ald X ev_tI 388) := s_iaload hG dL_law_387
theorem s_L_law_388 {X : ev_E} {l : Launch} (hG : ev_Good X) (hl : l.stackTraces = false) : ev_Snd X l ev_ms x_L_law tx_L_law 388 (i_al 0 389) := s_aload_n dL_law_388 rfl
theorem s_L_law_389 {X : ev_E} {l : Launch} (hG : ev_Good X) (hl : l.stackTraces = false) : ev_Snd X l ev_ms x_L_law tx_L_law 389 (i_il 4 391) := s_iload dL_law_389
theorem s_L_law_391 {X : ev_E} {l : Launch} (hG : ev_Good X) (hl : l.stackTraces = false) : ev_Snd X l ev_ms x_L_law tx_L_law 391 (i_psh (.int (2)) 392) := s_iconst dL_law_391 rfl
theorem s_L_law_392 {X : ev_E} {l : Launch} (hG : ev_Good X) (hl : l.stackTraces = false) : ev_Snd X l ev_ms x_L_law tx_L_law 392 (i_ii (fun a b => a + b) 393) := s_iadd dL_law_392
theorem s_L_law_393 {X : ev_E} {l : Launch} (hG : ev_Good X) (hl : l.stackTraces = false) : ev_Snd X l ev_ms x_L_law tx_L_law 393 (i_ald X ev_tI 394) := s_iaload hG dL_law_393
theorem s_L_law_394 {X : ev_E} {l : Launch} (hG : ev_Good X) (hl : l.stackTraces = false) : ev_Snd X l ev_ms x_L_law tx_L_law 394 (i_al 0 395) := s_aload_n dL_law_394 rfl
theorem s_L_law_395 {X : ev_E} {l : Launch} (hG : ev_Good X) (hl : l.stackTraces = false) : ev_Snd X l ev_ms x_L_law tx_L_law 395 (i_il 4 397) := s_iload dL_law_395
theorem s_L_law_397 {X : ev_E} {l : Launch} (hG : ev_Good X) (hl : l.stackTraces = false) : ev_Snd X l ev_ms x_L_law tx_L_law 397 (i_psh (.int (3)) 398) := s_iconst dL_law_397 rfl
theorem s_L_law_398 {X : ev_E} {l : Launch} (hG : ev_Good X) (hl : l.stackTraces = false) : ev_Snd X l ev_ms x_L_law tx_L_law 398 (i_ii (fun a b => a + b) 399) := s_iadd dL_law_398
theorem s_L_law_399 {X : ev_E} {l : Launch} (hG : ev_Good X) (hl : l.stackTraces = false) : ev_Snd X l ev_ms x_L_law tx_L_law 399 (i_ald X ev_tI 400) := s_iaload hG dL_law_399
theorem s_L_law_400 {X : ev_E} {l : Launch} (hG : ev_Good X) (hl : l.stackTraces = false) : ev_Snd X l ev_ms x_L_law tx_L_law 400 (i_cV X 294 3 13 7 403) := s_invokevirtual hG (mi := 294) (n := 3) (ci := 13) (r := (RX8, TX8, 5)) rfl (cal_X8_putIfAbsent (Nat.le_of_ble_eq_true rfl)) w_1390 w_1391 w_1392 dL_law_400
theorem s_L_law_403 {X : ev_E} {l : Launch} (hG : ev_Good X) (hl : l.stackTraces = false) : ev_Snd X l ev_ms x_L_law tx_L_law 403 (i_is 6 405) := s_istore dL_law_403 (Nat.le_of_ble_eq_true rfl)
theorem s_L_law_405 {X : ev_E} {l : Launch} (hG : ev_Good X) (hl : l.stackTraces = false) : ev_Snd X l ev_ms x_L_law tx_L_law 405 (i_goto 1714) := s_goto dL_law_405 rfl
theorem s_L_law_408 {X : ev_E} {l : Launch} (hG : ev_Good X) (hl : l.stackTraces = false) : ev_Snd X l ev_ms x_L_law tx_L_law 408 (i_al 1 409) := s_aload_n dL_law_408 rfl
theorem s_L_law_409 {X : ev_E} {l : Launch} (hG : ev_Good X) (hl : l.stackTraces = false) : ev_Snd X l ev_ms x_L_law tx_L_law 409 (i_al 0 410) := s_aload_n dL_law_409 rfl
theorem s_L_law_410 {X : ev_E} {l : Launch} (hG : ev_Good X) (hl : l.stackTraces = false) : ev_Snd X l ev_ms x_L_law tx_L_law 410 (i_il 4 412) := s_iload dL_law_410
theorem s_L_law_412 {X : ev_E} {l : Launch} (hG : ev_Good X) (hl : l.stackTraces = false) : ev_Snd X l ev_ms x_L_law tx_L_law 412 (i_psh (.int (1)) 413) := s_iconst dL_law_412 rfl
theorem s_L_law_413 {X : ev_E} {l : Launch} (hG : ev_Good X) (hl : l.stackTraces = false) : ev_Snd X l ev_ms x_L_law tx_L_law 413 (i_ii (fun a b => a + b) 414) := s_iadd dL_law_413
theorem s_L_law_414 {X : ev_E} {l : Launch} (hG : ev_Good X) (hl : l.stackTraces = false) : ev_Snd X l ev_ms x_L_law tx_L_law 414 (i_ald X ev_tI 415) := s_iaload hG dL_law_414
theorem s_L_law_415 {X : ev_E} {l : Launch} (hG : ev_Good X) (hl : l.stackTraces = false) : ev_Snd X l ev_ms x_L_law tx_L_law 415 (i_al 0 416) := s_aload_n dL_law_415 rfl
theorem s_L_law_416 {X : ev_E} {l : Launch} (hG : ev_Good X) (hl : l.stackTraces = false) : ev_Snd X l ev_ms x_L_law tx_L_law 416 (i_il 4 418) := s_iload dL_law_416
theorem s_L_law_418 {X : ev_E} {l : Launch} (hG : ev_Good X) (hl : l.stackTraces = false) : ev_Snd X l ev_ms x_L_law tx_L_law 418 (i_psh (.int (2)) 419) := s_iconst dL_law_418 rfl
theorem s_L_law_419 {X : ev_E} {l : Launch} (hG : ev_Good X) (hl : l.stackTraces = false) : ev_Snd X l ev_ms x_L_law tx_L_law 419 (i_ii (fun a b => a + b) 420) := s_iadd dL_law_419
theorem s_L_law_420 {X : ev_E} {l : Launch} (hG : ev_Good X) (hl : l.stackTraces = false) : ev_Snd X l ev_ms x_L_law tx_L_law 420 (i_ald X ev_tI 421) := s_iaload hG dL_law_420
theorem s_L_law_421 {X : ev_E} {l : Launch} (hG : ev_Good X) (hl : l.stackTraces = false) : ev_Snd X l ev_ms x_L_law tx_L_law 421 (i_al 3 422) := s_aload_n dL_law_421 rfl
theorem s_L_law_422 {X : ev_E} {l : Launch} (hG : ev_Good X) (hl : l.stackTraces = false) : ev_Snd X l ev_ms x_L_law tx_L_law 422 (i_cS 249 4 5 425) := s_invokestaticW hG (mi := 249) (n := 4) (cal_L_get (Nat.le_of_ble_eq_true rfl)) w_901 w_902 dL_law_422
theorem s_L_law_425 {X : ev_E} {l : Launch} (hG : ev_Good X) (hl : l.stackTraces = false) : ev_Snd X l ev_ms x_L_law tx_L_law 425 (i_is 5 427) := s_istore dL_law_425 (Nat.le_of_ble_eq_true rfl)
theorem s_L_law_427 {X : ev_E} {l : Launch} (hG : ev_Good X) (hl : l.stackTraces = false) : ev_Snd X l ev_ms x_L_law tx_L_law 427 (i_al 2 428) := s_aload_n dL_law_427 rfl
theorem s_L_law_428 {X : ev_E} {l : Launch} (hG : ev_Good X) (hl : l.stackTraces = false) : ev_Snd X l ev_ms x_L_law tx_L_law 428 (i_al 0 429) := s_aload_n dL_law_428 rfl
theorem s_L_law_429 {X : ev_E} {l : Launch} (hG : ev_Good X) (hl : l.stackTraces = false) : ev_Snd X l ev_ms x_L_law tx_L_law 429 (i_il 4 431) := s_iload dL_law_429
theorem s_L_law_431 {X : ev_E} {l : Launch} (hG : ev_Good X) (hl : l.stackTraces = false) : ev_Snd X l ev_ms x_L_law tx_L_law 431 (i_psh (.int (1)) 432) := s_iconst dL_law_431 rfl
theorem s_L_law_432 {X : ev_E} {l : Launch} (hG : ev_Good X) (hl : l.stackTraces = false) : ev_Snd X l ev_ms x_L_law tx_L_law 432 (i_ii (fun a b => a + b) 433) := s_iadd dL_law_432
theorem s_L_law_433 {X : ev_E} {l : Launch} (hG : ev_Good X) (hl : l.stackTraces = false) : ev_Snd X l ev_ms x_L_law tx_L_law 433 (i_ald X ev_tI 434) := s_iaload hG dL_law_433
theorem s_L_law_434 {X : ev_E} {l : Launch} (hG : ev_Good X) (hl : l.stackTraces = false) : ev_Snd X l ev_ms x_L_law tx_L_law 434 (i_al 0 435) := s_aload_n dL_law_434 rfl
theorem s_L_law_435 {X : ev_E} {l : Launch} (hG : ev_Good X) (hl : l.stackTraces = false) : ev_Snd X l ev_ms x_L_law tx_L_law 435 (i_il 4 437) := s_iload dL_law_435
theorem s_L_law_437 {X : ev_E} {l : Launch} (hG : ev_Good X) (hl : l.stackTraces = false) : ev_Snd X l ev_ms x_L_law tx_L_law 437 (i_psh (.int (2)) 438) := s_iconst dL_law_437 rfl
theorem s_L_law_438 {X : ev_E} {l : Launch} (hG : ev_Good X) (hl : l.stackTraces = false) : ev_Snd X l ev_ms x_L_law tx_L_law 438 (i_ii (fun a b => a + b) 439) := s_iadd dL_law_438
theorem s_L_law_439 {X : ev_E} {l : Launch} (hG : ev_Good X) (hl : l.stackTraces = false) : ev_Snd X l ev_ms x_L_law tx_L_law 439 (i_ald X ev_tI 440) := s_iaload hG dL_law_439
theorem s_L_law_440 {X : ev_E} {l : Launch} (hG : ev_Good X) (hl : l.stackTraces = false) : ev_Snd X l ev_ms x_L_law tx_L_law 440 (i_cV X 302 2 13 3 443) := s_invokevirtual hG (mi := 302) (n := 2) (ci := 13) (r := (RX8, TX8, 5)) rfl (cal_X8_get (Nat.le_of_ble_eq_true rfl)) w_1394 w_1395 w_1396 dL_law_440
theorem s_L_law_443 {X : ev_E} {l : Launch} (hG : ev_Good X) (hl : l.stackTraces = false) : ev_Snd X l ev_ms x_L_law tx_L_law 443 (i_is 6 445) := s_istore dL_law_443 (Nat.le_of_ble_eq_true rfl)
theorem s_L_law_445 {X : ev_E} {l : Launch} (hG : ev_Good X) (hl : l.stackTraces = false) : ev_Snd X l ev_ms x_L_law tx_L_law 445 (i_goto 1714) := s_goto dL_law_445 rfl
theorem s_L_law_448 {X : ev_E} {l : Launch} (hG : ev_Good X) (hl : l.stackTraces = false) : ev_Snd X l ev_ms x_L_law tx_L_law 448 (i_al 1 449) := s_aload_n dL_law_448 rfl
theorem s_L_law_449 {X : ev_E} {l : Launch} (hG : ev_Good X) (hl : l.stackTraces = false) : ev_Snd X l ev_ms x_L_law tx_L_law 449 (i_al 0 450) := s_aload_n dL_law_449 rfl
theorem s_L_law_450 {X : ev_E} {l : Launch} (hG : ev_Good X) (hl : l.stackTraces = false) : ev_Snd X l ev_ms x_L_law tx_L_law 450 (i_il 4 452) := s_iload dL_law_450
theorem s_L_law_452 {X : ev_E} {l : Launch} (hG : ev_Good X) (hl : l.stackTraces = false) : ev_Snd X l ev_ms x_L_law tx_L_law 452 (i_psh (.int (1)) 453) := s_iconst dL_law_452 rfl
theorem s_L_law_453 {X : ev_E} {l : Launch} (hG : ev_Good X) (hl : l.stackTraces = false) : ev_Snd X l ev_ms x_L_law tx_L_law 453 (i_ii (fun a b => a + b) 454) := s_iadd dL_law_453
theorem s_L_law_454 {X : ev_E} {l : Launch} (hG : ev_Good X) (hl : l.stackTraces = false) : ev_Snd X l ev_ms x_L_law tx_L_law 454 (i_ald X ev_tI 455) := s_iaload hG dL_law_454
theorem s_L_law_455 {X : ev_E} {l : Launch} (hG : ev_Good X) (hl : l.stackTraces = false) : ev_Snd X l ev_ms x_L_law tx_L_law 455 (i_al 0 456) := s_aload_n dL_law_455 rfl
theorem s_L_law_456 {X : ev_E} {l : Launch} (hG : ev_Good X) (hl : l.stackTraces = false) : ev_Snd X l ev_ms x_L_law tx_L_law 456 (i_il 4 458) := s_iload dL_law_456
theorem s_L_law_458 {X : ev_E} {l : Launch} (hG : ev_Good X) (hl : l.stackTraces = false) : ev_Snd X l ev_ms x_L_law tx_L_law 458 (i_psh (.int (2)) 459) := s_iconst dL_law_458 rfl
theorem s_L_law_459 {X : ev_E} {l : Launch} (hG : ev_Good X) (hl : l.stackTraces = false) : ev_Snd X l ev_ms x_L_law tx_L_law 459 (i_ii (fun a b => a + b) 460) := s_iadd dL_law_459
theorem s_L_law_460 {X : ev_E} {l : Launch} (hG : ev_Good X) (hl : l.stackTraces = false) : ev_Snd X l ev_ms x_L_law tx_L_law 460 (i_ald X ev_tI 461) := s_iaload hG dL_law_460
theorem s_L_law_461 {X : ev_E} {l : Launch} (hG : ev_Good X) (hl : l.stackTraces = false) : ev_Snd X l ev_ms x_L_law tx_L_law 461 (i_al 0 462) := s_aload_n dL_law_461 rfl
theorem s_L_law_462 {X : ev_E} {l : Launch} (hG : ev_Good X) (hl : l.stackTraces = false) : ev_Snd X l ev_ms x_L_law tx_L_law 462 (i_il 4 464) := s_iload dL_law_462
theorem s_L_law_464 {X : ev_E} {l : Launch} (hG : ev_Good X) (hl : l.stackTraces = false) : ev_Snd X l ev_ms x_L_law tx_L_law 464 (i_psh (.int (3)) 465) := s_iconst dL_law_464 rfl
theorem s_L_law_465 {X : ev_E} {l : Launch} (hG : ev_Good X) (hl : l.stackTraces = false) : ev_Snd X l ev_ms x_L_law tx_L_law 465 (i_ii (fun a b => a + b) 466) := s_iadd dL_law_465
theorem s_L_law_466 {X : ev_E} {l : Launch} (hG : ev_Good X) (hl : l.stackTraces = false) : ev_Snd X l ev_ms x_L_law tx_L_law 466 (i_ald X ev_tI 467) := s_iaload hG dL_law_466
theorem s_L_law_467 {X : ev_E} {l : Launch} (hG : ev_Good X) (hl : l.stackTraces = false) : ev_Snd X l ev_ms x_L_law tx_L_law 467 (i_al 3 468) := s_aload_n dL_law_467 rfl
theorem s_L_law_468 {X : ev_E} {l : Launch} (hG : ev_Good X) (hl : l.stackTraces = false) : ev_Snd X l ev_ms x_L_law tx_L_law 468 (i_cS 250 5 6 471) := s_invokestaticW hG (mi := 250) (n := 5) (cal_L_getOr (Nat.le_of_ble_eq_true rfl)) w_909 w_910 dL_law_468
theorem s_L_law_471 {X : ev_E} {l : Launch} (hG : ev_Good X) (hl : l.stackTraces = false) : ev_Snd X l ev_ms x_L_law tx_L_law 471 (i_is 5 473) := s_istore dL_law_471 (Nat.le_of_ble_eq_true rfl)
theorem s_L_law_473 {X : ev_E} {l : Launch} (hG : ev_Good X) (hl : l.stackTraces = false) : ev_Snd X l ev_ms x_L_law tx_L_law 473 (i_al 2 474) := s_aload_n dL_law_473 rfl
theorem s_L_law_474 {X : ev_E} {l : Launch} (hG : ev_Good X) (hl : l.stackTraces = false) : ev_Snd X l ev_ms x_L_law tx_L_law 474 (i_al 0 475) := s_aload_n dL_law_474 rfl
theorem s_L_law_475 {X : ev_E} {l : Launch} (hG : ev_Good X) (hl : l.stackTraces = false) : ev_Snd X l ev_ms x_L_law tx_L_law 475 (i_il 4 477) := s_iload dL_law_475
theorem s_L_law_477 {X : ev_E} {l : Launch} (hG : ev_Good X) (hl : l.stackTraces = false) : ev_Snd X l ev_ms x_L_law tx_L_law 477 (i_psh (.int (1)) 478) := s_iconst dL_law_477 rfl
theorem s_L_law_478 {X : ev_E} {l : Launch} (hG : ev_Good X) (hl : l.stackTraces = false) : ev_Snd X l ev_ms x_L_law tx_L_law 478 (i_ii (fun a b => a + b) 479) := s_iadd dL_law_478
theorem s_L_law_479 {X : ev_E} {l : Launch} (hG : ev_Good X) (hl : l.stackTraces = false) : ev_Snd X l ev_ms x_L_law tx_L_law 479 (i_ald X ev_tI 480) := s_iaload hG dL_law_479
theorem s_L_law_480 {X : ev_E} {l : Launch} (hG : ev_Good X) (hl : l.stackTraces = false) : ev_Snd X l ev_ms x_L_law tx_L_law 480 (i_al 0 481) := s_aload_n dL_law_480 rfl
theorem s_L_law_481 {X : ev_E} {l : Launch} (hG : ev_Good X) (hl : l.stackTraces = false) : ev_Snd X l ev_ms x_L_law tx_L_law 481 (i_il 4 483) := s_iload dL_law_481
theorem s_L_law_483 {X : ev_E} {l : Launch} (hG : ev_Good X) (hl : l.stackTraces = false) : ev_Snd X l ev_ms x_L_law tx_L_law 483 (i_psh (.int (2)) 484) := s_iconst dL_law_483 rfl
theorem s_L_law_484 {X : ev_E} {l : Launch} (hG : ev_Good X) (hl : l.stackTraces = false) : ev_Snd X l ev_ms x_L_law tx_L_law 484 (i_ii (fun a b => a + b) 485) := s_iadd dL_law_484
theorem s_L_law_485 {X : ev_E} {l : Launch} (hG : ev_Good X) (hl : l.stackTraces = false) : ev_Snd X l ev_ms x_L_law tx_L_law 485 (i_ald X ev_tI 486) := s_iaload hG dL_law_485
theorem s_L_law_486 {X : ev_E} {l : Launch} (hG : ev_Good X) (hl : l.stackTraces = false) : ev_Snd X l ev_ms x_L_law tx_L_law 486 (i_al 0 487) := s_aload_n dL_law_486 rfl
theorem s_L_law_487 {X : ev_E} {l : Launch} (hG : ev_Good X) (hl : l.stackTraces = false) : ev_Snd X l ev_ms x_L_law tx_L_law 487 (i_il 4 489) := s_iload dL_law_487
theorem s_L_law_489 {X : ev_E} {l : Launch} (hG : ev_Good X) (hl : l.stackTraces = false) : ev_Snd X l ev_ms x_L_law tx_L_law 489 (i_psh (.int (3)) 490) := s_iconst dL_law_489 rfl
theorem s_L_law_490 {X : ev_E} {l : Launch} (hG : ev_Good X) (hl : l.stackTraces = false) : ev_Snd X l ev_ms x_L_law tx_L_law 490 (i_ii (fun a b => a + b) 491) := s_iadd dL_law_490
theorem s_L_law_491 {X : ev_E} {l : Launch} (hG : ev_Good X) (hl : l.stackTraces = false) : ev_Snd X l ev_ms x_L_law tx_L_law 491 (i_ald X ev_tI 492) := s_iaload hG dL_law_491
theorem s_L_law_492 {X : ev_E} {l : Launch} (hG : ev_Good X) (hl : l.stackTraces = false) : ev_Snd X l ev_ms x_L_law tx_L_law 492 (i_cV X 303 3 13 4 495) := s_invokevirtual hG (mi := 303) (n := 3) (ci := 13) (r := (RX8, TX8, 5)) rfl (cal_X8_getOr (Nat.le_of_ble_eq_true rfl)) w_1406 w_1407 w_1408 dL_law_492
theorem s_L_law_495 {X : ev_E} {l : Launch} (hG : ev_Good X) (hl : l.stackTraces = false) : ev_Snd X l ev_ms x_L_law tx_L_law 495 (i_is 6 497) := s_istore dL_law_495 (Nat.le_of_ble_eq_true rfl)
theorem s_L_law_497 {X : ev_E} {l : Launch} (hG : ev_Good X) (hl : l.stackTraces = false) : ev_Snd X l ev_ms x_L_law tx_L_law 497 (i_goto 1714) := s_goto dL_law_497 rfl
theorem s_L_law_500 {X : ev_E} {l : Launch} (hG : ev_Good X) (hl : l.stackTraces = false) : ev_Snd X l ev_ms x_L_law tx_L_law 500 (i_al 1 501) := s_aload_n dL_law_500 rfl
theorem s_L_law_501 {X : ev_E} {l : Launch} (hG : ev_Good X) (hl : l.stackTraces = false) : ev_Snd X l ev_ms x_L_law tx_L_law 501 (i_al 0 502) := s_aload_n dL_law_501 rfl
theorem s_L_law_502 {X : ev_E} {l : Launch} (hG : ev_Good X) (hl : l.stackTraces = false) : ev_Snd X l ev_ms x_L_law tx_L_law 502 (i_il 4 504) := s_iload dL_law_502
theorem s_L_law_504 {X : ev_E} {l : Launch} (hG : ev_Good X) (hl : l.stackTraces = false) : ev_Snd X l ev_ms x_L_law tx_L_law 504 (i_psh (.int (1)) 505) := s_iconst dL_law_504 rfl
theorem s_L_law_505 {X : ev_E} {l : Launch} (hG : ev_Good X) (hl : l.stackTraces = false) : ev_Snd X l ev_ms x_L_law tx_L_law 505 (i_ii (fun a b => a + b) 506) := s_iadd dL_law_505
theorem s_L_law_506 {X : ev_E} {l : Launch} (hG : ev_Good X) (hl : l.stackTraces = false) : ev_Snd X l ev_ms x_L_law tx_L_law 506 (i_ald X ev_tI 507) := s_iaload hG dL_law_506
theorem s_L_law_507 {X : ev_E} {l : Launch} (hG : ev_Good X) (hl : l.stackTraces = false) : ev_Snd X l ev_ms x_L_law tx_L_law 507 (i_al 0 508) := s_aload_n dL_law_507 rfl
theorem s_L_law_508 {X : ev_E} {l : Launch} (hG : ev_Good X) (hl : l.stackTraces = false) : ev_Snd X l ev_ms x_L_law tx_L_law 508 (i_il 4 510) := s_iload dL_law_508
theorem s_L_law_510 {X : ev_E} {l : Launch} (hG : ev_Good X) (hl : l.stackTraces = false) : ev_Snd X l ev_ms x_L_law tx_L_law 510 (i_psh (.int (2)) 511) := s_iconst dL_law_510 rfl
theorem s_L_law_511 {X : ev_E} {l : Launch} (hG : ev_Good X) (hl : l.stackTraces = false) : ev_Snd X l ev_ms x_L_law tx_L_law 511 (i_ii (fun a b => a + b) 512) := s_iadd dL_law_511
theorem s_L_law_512 {X : ev_E} {l : Launch} (hG : ev_Good X) (hl : l.stackTraces = false) : ev_Snd X l ev_ms x_L_law tx_L_law 512 (i_ald X ev_tI 513) := s_iaload hG dL_law_512
theorem s_L_law_513 {X : ev_E} {l : Launch} (hG : ev_Good X) (hl : l.stackTraces = false) : ev_Snd X l ev_ms x_L_law tx_L_law 513 (i_al 3 514) := s_aload_n dL_law_513 rfl
theorem s_L_law_514 {X : ev_E} {l : Launch} (hG : ev_Good X) (hl : l.stackTraces = false) : ev_Snd X l ev_ms x_L_law tx_L_law 514 (i_cS 222 4 5 517) := s_invokestaticW hG (mi := 222) (n := 4) (cal_L_remove (Nat.le_of_ble_eq_true rfl)) w_916 w_917 dL_law_514
theorem s_L_law_517 {X : ev_E} {l : Launch} (hG : ev_Good X) (hl : l.stackTraces = false) : ev_Snd X l ev_ms x_L_law tx_L_law 517 (i_is 5 519) := s_istore dL_law_517 (Nat.le_of_ble_eq_true rfl)
theorem s_L_law_519 {X : ev_E} {l : Launch} (hG : ev_Good X) (hl : l.stackTraces = false) : ev_Snd X l ev_ms x_L_law tx_L_law 519 (i_al 2 520) := s_aload_n dL_law_519 rfl
theorem s_L_law_520 {X : ev_E} {l : Launch} (hG : ev_Good X) (hl : l.stackTraces = false) : ev_Snd X l ev_ms x_L_law tx_L_law 520 (i_al 0 521) := s_aload_n dL_law_520 rfl
theorem s_L_law_521 {X : ev_E} {l : Launch} (hG : ev_Good X) (hl : l.stackTraces = false) : ev_Snd X l ev_ms x_L_law tx_L_law 521 (i_il 4 523) := s_iload dL_law_521
theorem s_L_law_523 {X : ev_E} {l : Launch} (hG : ev_Good X) (hl : l.stackTraces = false) : ev_Snd X l ev_ms x_L_law tx_L_law 523 (i_psh (.int (1)) 524) := s_iconst dL_law_523 rfl
theorem s_L_law_524 {X : ev_E} {l : Launch} (hG : ev_Good X) (hl : l.stackTraces = false) : ev_Snd X l ev_ms x_L_law tx_L_law 524 (i_ii (fun a b => a + b) 525) := s_iadd dL_law_524
theorem s_L_law_525 {X : ev_E} {l : Launch} (hG : ev_Good X) (hl : l.stackTraces = false) : ev_Snd X l ev_ms x_L_law tx_L_law 525 (i_ald X ev_tI 526) := s_iaload hG dL_law_525
theorem s_L_law_526 {X : ev_E} {l : Launch} (hG : ev_Good X) (hl : l.stackTraces = false) : ev_Snd X l ev_ms x_L_law tx_L_law 526 (i_al 0 527) := s_aload_n dL_law_526 rfl
theorem s_L_law_527 {X : ev_E} {l : Launch} (hG : ev_Good X) (hl : l.stackTraces = false) : ev_Snd X l ev_ms x_L_law tx_L_law 527 (i_il 4 529) := s_iload dL_law_527
theorem s_L_law_529 {X : ev_E} {l : Launch} (hG : ev_Good X) (hl : l.stackTraces = false) : ev_Snd X l ev_ms x_L_law tx_L_law 529 (i_psh (.int (2)) 530) := s_iconst dL_law_529 rfl
theorem s_L_law_530 {X : ev_E} {l : Launch} (hG : ev_Good X) (hl : l.stackTraces = false) : ev_Snd X l ev_ms x_L_law tx_L_law 530 (i_ii (fun a b => a + b) 531) := s_iadd dL_law_530
theorem s_L_law_531 {X : ev_E} {l : Launch} (hG : ev_Good X) (hl : l.stackTraces = false) : ev_Snd X l ev_ms x_L_law tx_L_law 531 (i_ald X ev_tI 532) := s_iaload hG dL_law_531
theorem s_L_law_532 {X : ev_E} {l : Launch} (hG : ev_Good X) (hl : l.stackTraces = false) : ev_Snd X l ev_ms x_L_law tx_L_law 532 (i_cV X 239 2 13 5 535) := s_invokevirtual hG (mi := 239) (n := 2) (ci := 13) (r := (RX8, TX8, 5)) rfl (cal_X8_remove (Nat.le_of_ble_eq_true rfl)) w_1410 w_1411 w_1412 dL_law_532
theorem s_L_law_535 {X : ev_E} {l : Launch} (hG : ev_Good X) (hl : l.stackTraces = false) : ev_Snd X l ev_ms x_L_law tx_L_law 535 (i_is 6 537) := s_istore dL_law_535 (Nat.le_of_ble_eq_true rfl)
theorem s_L_law_537 {X : ev_E} {l : Launch} (hG : ev_Good X) (hl : l.stackTraces = false) : ev_Snd X l ev_ms x_L_law tx_L_law 537 (i_goto 1714) := s_goto dL_law_537 rfl
theorem s_L_law_540 {X : ev_E} {l : Launch} (hG : ev_Good X) (hl : l.stackTraces = false) : ev_Snd X l ev_ms x_L_law tx_L_law 540 (i_al 1 541) := s_aload_n dL_law_540 rfl
theorem s_L_law_541 {X : ev_E} {l : Launch} (hG : ev_Good X) (hl : l.stackTraces = false) : ev_Snd X l ev_ms x_L_law tx_L_law 541 (i_al 0 542) := s_aload_n dL_law_541 rfl
theorem s_L_law_542 {X : ev_E} {l : Launch} (hG : ev_Good X) (hl : l.stackTraces = false) : ev_Snd X l ev_ms x_L_law tx_L_law 542 (i_il 4 544) := s_iload dL_law_542
theorem s_L_law_544 {X : ev_E} {l : Launch} (hG : ev_Good X) (hl : l.stackTraces = false) : ev_Snd X l ev_ms x_L_law tx_L_law 544 (i_psh (.int (1)) 545) := s_iconst dL_law_544 rfl
theorem s_L_law_545 {X : ev_E} {l : Launch} (hG : ev_Good X) (hl : l.stackTraces = false) : ev_Snd X l ev_ms x_L_law tx_L_law 545 (i_ii (fun a b => a + b) 546) := s_iadd dL_law_545
theorem s_L_law_546 {X : ev_E} {l : Launch} (hG : ev_Good X) (hl : l.stackTraces = false) : ev_Snd X l ev_ms x_L_law tx_L_law 546 (i_ald X ev_tI 547) := s_iaload hG dL_law_546
theorem s_L_law_547 {X : ev_E} {l : Launch} (hG : ev_Good X) (hl : l.stackTraces = false) : ev_Snd X l ev_ms x_L_law tx_L_law 547 (i_al 3 548) := s_aload_n dL_law_547 rfl
theorem s_L_law_548 {X : ev_E} {l : Launch} (hG : ev_Good X) (hl : l.stackTraces = false) : ev_Snd X l ev_ms x_L_law tx_L_law 548 (i_cS 131 3 4 551) := s_invokestaticW hG (mi := 131) (n := 3) (cal_L_clear (Nat.le_of_ble_eq_true rfl)) w_927 w_928 dL_law_548
theorem s_L_law_551 {X : ev_E} {l : Launch} (hG : ev_Good X) (hl : l.stackTraces = false) : ev_Snd X l ev_ms x_L_law tx_L_law 551 (i_is 5 553) := s_istore dL_law_551 (Nat.le_of_ble_eq_true rfl)
theorem s_L_law_553 {X : ev_E} {l : Launch} (hG : ev_Good X) (hl : l.stackTraces = false) : ev_Snd X l ev_ms x_L_law tx_L_law 553 (i_al 2 554) := s_aload_n dL_law_553 rfl
theorem s_L_law_554 {X : ev_E} {l : Launch} (hG : ev_Good X) (hl : l.stackTraces = false) : ev_Snd X l ev_ms x_L_law tx_L_law 554 (i_al 0 555) := s_aload_n dL_law_554 rfl
theorem s_L_law_555 {X : ev_E} {l : Launch} (hG : ev_Good X) (hl : l.stackTraces = false) : ev_Snd X l ev_ms x_L_law tx_L_law 555 (i_il 4 557) := s_iload dL_law_555
theorem s_L_law_557 {X : ev_E} {l : Launch} (hG : ev_Good X) (hl : l.stackTraces = false) : ev_Snd X l ev_ms x_L_law tx_L_law 557 (i_psh (.int (1)) 558) := s_iconst dL_law_557 rfl
theorem s_L_law_558 {X : ev_E} {l : Launch} (hG : ev_Good X) (hl : l.stackTraces = false) : ev_Snd X l ev_ms x_L_law tx_L_law 558 (i_ii (fun a b => a + b) 559) := s_iadd dL_law_558
theorem s_L_law_559 {X : ev_E} {l : Launch} (hG : ev_Good X) (hl : l.stackTraces = false) : ev_Snd X l ev_ms x_L_law tx_L_law 559 (i_ald X ev_tI 560) := s_iaload hG dL_law_559
theorem s_L_law_560 {X : ev_E} {l : Launch} (hG : ev_Good X) (hl : l.stackTraces = false) : ev_Snd X l ev_ms x_L_law tx_L_law 560 (i_cV X 163 1 13 3 563) := s_invokevirtual hG (mi := 163) (n := 1) (ci := 13) (r := (RX8, TX8, 5)) rfl (cal_X8_clear (Nat.le_of_ble_eq_true rfl)) w_1414 w_1415 w_1416 dL_law_560
theorem s_L_law_563 {X : ev_E} {l : Launch} (hG : ev_Good X) (hl : l.stackTraces = false) : ev_Snd X l ev_ms x_L_law tx_L_law 563 (i_is 6 565) := s_istore dL_law_563 (Nat.le_of_ble_eq_true rfl)
theorem s_L_law_565 {X : ev_E} {l : Launch} (hG : ev_Good X) (hl : l.stackTraces = false) : ev_Snd X l ev_ms x_L_law tx_L_law 565 (i_goto 1714) := s_goto dL_law_565 rfl
theorem s_L_law_568 {X : ev_E} {l : Launch} (hG : ev_Good X) (hl : l.stackTraces = false) : ev_Snd X l ev_ms x_L_law tx_L_law 568 (i_al 1 569) := s_aload_n dL_law_568 rfl
theorem s_L_law_569 {X : ev_E} {l : Launch} (hG : ev_Good X) (hl : l.stackTraces = false) : ev_Snd X l ev_ms x_L_law tx_L_law 569 (i_al 0 570) := s_aload_n dL_law_569 rfl
theorem s_L_law_570 {X : ev_E} {l : Launch} (hG : ev_Good X) (hl : l.stackTraces = false) : ev_Snd X l ev_ms x_L_law tx_L_law 570 (i_il 4 572) := s_iload dL_law_570
theorem s_L_law_572 {X : ev_E} {l : Launch} (hG : ev_Good X) (hl : l.stackTraces = false) : ev_Snd X l ev_ms x_L_law tx_L_law 572 (i_psh (.int (1)) 573) := s_iconst dL_law_572 rfl
theorem s_L_law_573 {X : ev_E} {l : Launch} (hG : ev_Good X) (hl : l.stackTraces = false) : ev_Snd X l ev_ms x_L_law tx_L_law 573 (i_ii (fun a b => a + b) 574) := s_iadd dL_law_573
theorem s_L_law_574 {X : ev_E} {l : Launch} (hG : ev_Good X) (hl : l.stackTraces = false) : ev_Snd X l ev_ms x_L_law tx_L_law 574 (i_ald X ev_tI 575) := s_iaload hG dL_law_574
theorem s_L_law_575 {X : ev_E} {l : Launch} (hG : ev_Good X) (hl : l.stackTraces = false) : ev_Snd X l ev_ms x_L_law tx_L_law 575 (i_al 0 576) := s_aload_n dL_law_575 rfl
theorem s_L_law_576 {X : ev_E} {l : Launch} (hG : ev_Good X) (hl : l.stackTraces = false) : ev_Snd X l ev_ms x_L_law tx_L_law 576 (i_il 4 578) := s_iload dL_law_576
theorem s_L_law_578 {X : ev_E} {l : Launch} (hG : ev_Good X) (hl : l.stackTraces = false) : ev_Snd X l ev_ms x_L_law tx_L_law 578 (i_psh (.int (2)) 579) := s_iconst dL_law_578 rfl
theorem s_L_law_579 {X : ev_E} {l : Launch} (hG : ev_Good X) (hl : l.stackTraces = false) : ev_Snd X l ev_ms x_L_law tx_L_law 579 (i_ii (fun a b => a + b) 580) := s_iadd dL_law_579
theorem s_L_law_580 {X : ev_E} {l : Launch} (hG : ev_Good X) (hl : l.stackTraces = false) : ev_Snd X l ev_ms x_L_law tx_L_law 580 (i_ald X ev_tI 581) := s_iaload hG dL_law_580
theorem s_L_law_581 {X : ev_E} {l : Launch} (hG : ev_Good X) (hl : l.stackTraces = false) : ev_Snd X l ev_ms x_L_law tx_L_law 581 (i_al 0 582) := s_aload_n dL_law_581 rfl
theorem s_L_law_582 {X : ev_E} {l : Launch} (hG : ev_Good X) (hl : l.stackTraces = false) : ev_Snd X l ev_ms x_L_law tx_L_law 582 (i_il 4 584) := s_iload dL_law_582
theorem s_L_law_584 {X : ev_E} {l : Launch} (hG : ev_Good X) (hl : l.stackTraces = false) : ev_Snd X l ev_ms x_L_law tx_L_law 584 (i_psh (.int (3)) 585) := s_iconst dL_law_584 rfl
theorem s_L_law_585 {X : ev_E} {l : Launch} (hG : ev_Good X) (hl : l.stackTraces = false) : ev_Snd X l ev_ms x_L_law tx_L_law 585 (i_ii (fun a b => a + b) 586) := s_iadd dL_law_585
theorem s_L_law_586 {X : ev_E} {l : Launch} (hG : ev_Good X) (hl : l.stackTraces = false) : ev_Snd X l ev_ms x_L_law tx_L_law 586 (i_ald X ev_tI 587) := s_iaload hG dL_law_586
theorem s_L_law_587 {X : ev_E} {l : Launch} (hG : ev_Good X) (hl : l.stackTraces = false) : ev_Snd X l ev_ms x_L_law tx_L_law 587 (i_al 3 588) := s_aload_n dL_law_587 rfl
theorem s_L_law_588 {X : ev_E} {l : Launch} (hG : ev_Good X) (hl : l.stackTraces = false) : ev_Snd X l ev_ms x_L_law tx_L_law 588 (i_cS 191 5 6 591) := s_invokestaticW hG (mi := 191) (n := 5) (cal_L_set (Nat.le_of_ble_eq_true rfl)) w_935 w_936 dL_law_588
theorem s_L_law_591 {X : ev_E} {l : Launch} (hG : ev_Good X) (hl : l.stackTraces = false) : ev_Snd X l ev_ms x_L_law tx_L_law 591 (i_is 5 593) := s_istore dL_law_591 (Nat.le_of_ble_eq_true rfl)
theorem s_L_law_593 {X : ev_E} {l : Launch} (hG : ev_Good X) (hl : l.stackTraces = false) : ev_Snd X l ev_ms x_L_law tx_L_law 593 (i_al 2 594) := s_aload_n dL_law_593 rfl
theorem s_L_law_594 {X : ev_E} {l : Launch} (hG : ev_Good X) (hl : l.stackTraces = false) : ev_Snd X l ev_ms x_L_law tx_L_law 594 (i_al 0 595) := s_aload_n dL_law_594 rfl
theorem s_L_law_595 {X : ev_E} {l : Launch} (hG : ev_Good X) (hl : l.stackTraces = false) : ev_Snd X l ev_ms x_L_law tx_L_law 595 (i_il 4 597) := s_iload dL_law_595
theorem s_L_law_597 {X : ev_E} {l : Launch} (hG : ev_Good X) (hl : l.stackTraces = false) : ev_Snd X l ev_ms x_L_law tx_L_law 597 (i_psh (.int (1)) 598) := s_iconst dL_law_597 rfl
theorem s_L_law_598 {X : ev_E} {l : Launch} (hG : ev_Good X) (hl : l.stackTraces = false) : ev_Snd X l ev_ms x_L_law tx_L_law 598 (i_ii (fun a b => a + b) 599) := s_iadd dL_law_598
theorem s_L_law_599 {X : ev_E} {l : Launch} (hG : ev_Good X) (hl : l.stackTraces = false) : ev_Snd X l ev_ms x_L_law tx_L_law 599 (i_ald X ev_tI 600) := s_iaload hG dL_law_599
theorem s_L_law_600 {X : ev_E} {l : Launch} (hG : ev_Good X) (hl : l.stackTraces = false) : ev_Snd X l ev_ms x_L_law tx_L_law 600 (i_al 0 601) := s_aload_n dL_law_600 rfl
theorem s_L_law_601 {X : ev_E} {l : Launch} (hG : ev_Good X) (hl : l.stackTraces = false) : ev_Snd X l ev_ms x_L_law tx_L_law 601 (i_il 4 603) := s_iload dL_law_601
theorem s_L_law_603 {X : ev_E} {l : Launch} (hG : ev_Good X) (hl : l.stackTraces = false) : ev_Snd X l ev_ms x_L_law tx_L_law 603 (i_psh (.int (2)) 604) := s_iconst dL_law_603 rfl
theorem s_L_law_604 {X : ev_E} {l : Launch} (hG : ev_Good X) (hl : l.stackTraces = false) : ev_Snd X l ev_ms x_L_law tx_L_law 604 (i_ii (fun a b => a + b) 605) := s_iadd dL_law_604
theorem s_L_law_605 {X : ev_E} {l : Launch} (hG : ev_Good X) (hl : l.stackTraces = false) : ev_Snd X l ev_ms x_L_law tx_L_law 605 (i_ald X ev_tI 606) := s_iaload hG dL_law_605
theorem s_L_law_606 {X : ev_E} {l : Launch} (hG : ev_Good X) (hl : l.stackTraces = false) : ev_Snd X l ev_ms x_L_law tx_L_law 606 (i_al 0 607) := s_aload_n dL_law_606 rfl
theorem s_L_law_607 {X : ev_E} {l : Launch} (hG : ev_Good X) (hl : l.stackTraces = false) : ev_Snd X l ev_ms x_L_law tx_L_law 607 (i_il 4 609) := s_iload dL_law_607
theorem s_L_law_609 {X : ev_E} {l : Launch} (hG : ev_Good X) (hl : l.stackTraces = false) : ev_Snd X l ev_ms x_L_law tx_L_law 609 (i_psh (.int (3)) 610) := s_iconst dL_law_609 rfl
theorem s_L_law_610 {X : ev_E} {l : Launch} (hG : ev_Good X) (hl : l.stackTraces = false) : ev_Snd X l ev_ms x_L_law tx_L_law 610 (i_ii (fun a b => a + b) 611) := s_iadd dL_law_610
theorem s_L_law_611 {X : ev_E} {l : Launch} (hG : ev_Good X) (hl : l.stackTraces = false) : ev_Snd X l ev_ms x_L_law tx_L_law 611 (i_ald X ev_tI 612) := s_iaload hG dL_law_611
theorem s_L_law_612 {X : ev_E} {l : Launch} (hG : ev_Good X) (hl : l.stackTraces = false) : ev_Snd X l ev_ms x_L_law tx_L_law 612 (i_cV X 213 3 13 5 615) := s_invokevirtual hG (mi := 213) (n := 3) (ci := 13) (r := (RX8, TX8, 5)) rfl (cal_X8_set (Nat.le_of_ble_eq_true rfl)) w_1418 w_1419 w_1420 dL_law_612
theorem s_L_law_615 {X : ev_E} {l : Launch} (hG : ev_Good X) (hl : l.stackTraces = false) : ev_Snd X l ev_ms x_L_law tx_L_law 615 (i_is 6 617) := s_istore dL_law_615 (Nat.le_of_ble_eq_true rfl)
theorem s_L_law_617 {X : ev_E} {l : Launch} (hG : ev_Good X) (hl : l.stackTraces = false) : ev_Snd X l ev_ms x_L_law tx_L_law 617 (i_goto 1714) := s_goto dL_law_617 rfl
theorem s_L_law_620 {X : ev_E} {l : Launch} (hG : ev_Good X) (hl : l.stackTraces = false) : ev_Snd X l ev_ms x_L_law tx_L_law 620 (i_al 1 621) := s_aload_n dL_law_620 rfl
theorem s_L_law_621 {X : ev_E} {l : Launch} (hG : ev_Good X) (hl : l.stackTraces = false) : ev_Snd X l ev_ms x_L_law tx_L_law 621 (i_al 0 622) := s_aload_n dL_law_621 rfl
theorem s_L_law_622 {X : ev_E} {l : Launch} (hG : ev_Good X) (hl : l.stackTraces = false) : ev_Snd X l ev_ms x_L_law tx_L_law 622 (i_il 4 624) := s_iload dL_law_622
theorem s_L_law_624 {X : ev_E} {l : Launch} (hG : ev_Good X) (hl : l.stackTraces = false) : ev_Snd X l ev_ms x_L_law tx_L_law 624 (i_psh (.int (1)) 625) := s_iconst dL_law_624 rfl
theorem s_L_law_625 {X : ev_E} {l : Launch} (hG : ev_Good X) (hl : l.stackTraces = false) : ev_Snd X l ev_ms x_L_law tx_L_law 625 (i_ii (fun a b => a + b) 626) := s_iadd dL_law_625
theorem s_L_law_626 {X : ev_E} {l : Launch} (hG : ev_Good X) (hl : l.stackTraces = false) : ev_Snd X l ev_ms x_L_law tx_L_law 626 (i_ald X ev_tI 627) := s_iaload hG dL_law_626
theorem s_L_law_627 {X : ev_E} {l : Launch} (hG : ev_Good X) (hl : l.stackTraces = false) : ev_Snd X l ev_ms x_L_law tx_L_law 627 (i_al 0 628) := s_aload_n dL_law_627 rfl
theorem s_L_law_628 {X : ev_E} {l : Launch} (hG : ev_Good X) (hl : l.stackTraces = false) : ev_Snd X l ev_ms x_L_law tx_L_law 628 (i_il 4 630) := s_iload dL_law_628
theorem s_L_law_630 {X : ev_E} {l : Launch} (hG : ev_Good X) (hl : l.stackTraces = false) : ev_Snd X l ev_ms x_L_law tx_L_law 630 (i_psh (.int (2)) 631) := s_iconst dL_law_630 rfl
theorem s_L_law_631 {X : ev_E} {l : Launch} (hG : ev_Good X) (hl : l.stackTraces = false) : ev_Snd X l ev_ms x_L_law tx_L_law 631 (i_ii (fun a b => a + b) 632) := s_iadd dL_law_631
theorem s_L_law_632 {X : ev_E} {l : Launch} (hG : ev_Good X) (hl : l.stackTraces = false) : ev_Snd X l ev_ms x_L_law tx_L_law 632 (i_ald X ev_tI 633) := s_iaload hG dL_law_632
theorem s_L_law_633 {X : ev_E} {l : Launch} (hG : ev_Good X) (hl : l.stackTraces = false) : ev_Snd X l ev_ms x_L_law tx_L_law 633 (i_al 3 634) := s_aload_n dL_law_633 rfl
theorem s_L_law_634 {X : ev_E} {l : Launch} (hG : ev_Good X) (hl : l.stackTraces = false) : ev_Snd X l ev_ms x_L_law tx_L_law 634 (i_cS 220 4 5 637) := s_invokestaticW hG (mi := 220) (n := 4) (cal_L_copy (Nat.le_of_ble_eq_true rfl)) w_948 w_949 dL_law_634
theorem s_L_law_637 {X : ev_E} {l : Launch} (hG : ev_Good X) (hl : l.stackTraces = false) : ev_Snd X l ev_ms x_L_law tx_L_law 637 (i_is 5 639) := s_istore dL_law_637 (Nat.le_of_ble_eq_true rfl)
theorem s_L_law_639 {X : ev_E} {l : Launch} (hG : ev_Good X) (hl : l.stackTraces = false) : ev_Snd X l ev_ms x_L_law tx_L_law 639 (i_al 2 640) := s_aload_n dL_law_639 rfl
theorem s_L_law_640 {X : ev_E} {l : Launch} (hG : ev_Good X) (hl : l.stackTraces = false) : ev_Snd X l ev_ms x_L_law tx_L_law 640 (i_al 0 641) := s_aload_n dL_law_640 rfl
theorem s_L_law_641 {X : ev_E} {l : Launch} (hG : ev_Good X) (hl : l.stackTraces = false) : ev_Snd X l ev_ms x_L_law tx_L_law 641 (i_il 4 643) := s_iload dL_law_641
theorem s_L_law_643 {X : ev_E} {l : Launch} (hG : ev_Good X) (hl : l.stackTraces = false) : ev_Snd X l ev_ms x_L_law tx_L_law 643 (i_psh (.int (1)) 644) := s_iconst dL_law_643 rfl
theorem s_L_law_644 {X : ev_E} {l : Launch} (hG : ev_Good X) (hl : l.stackTraces = false) : ev_Snd X l ev_ms x_L_law tx_L_law 644 (i_ii (fun a b => a + b) 645) := s_iadd dL_law_644
theorem s_L_law_645 {X : ev_E} {l : Launch} (hG : ev_Good X) (hl : l.stackTraces = false) : ev_Snd X l ev_ms x_L_law tx_L_law 645 (i_ald X ev_tI 646) := s_iaload hG dL_law_645
theorem s_L_law_646 {X : ev_E} {l : Launch} (hG : ev_Good X) (hl : l.stackTraces = false) : ev_Snd X l ev_ms x_L_law tx_L_law 646 (i_al 0 647) := s_aload_n dL_law_646 rfl
theorem s_L_law_647 {X : ev_E} {l : Launch} (hG : ev_Good X) (hl : l.stackTraces = false) : ev_Snd X l ev_ms x_L_law tx_L_law 647 (i_il 4 649) := s_iload dL_law_647
theorem s_L_law_649 {X : ev_E} {l : Launch} (hG : ev_Good X) (hl : l.stackTraces = false) : ev_Snd X l ev_ms x_L_law tx_L_law 649 (i_psh (.int (2)) 650) := s_iconst dL_law_649 rfl
theorem s_L_law_650 {X : ev_E} {l : Launch} (hG : ev_Good X) (hl : l.stackTraces = false) : ev_Snd X l ev_ms x_L_law tx_L_law 650 (i_ii (fun a b => a + b) 651) := s_iadd dL_law_650
theorem s_L_law_651 {X : ev_E} {l : Launch} (hG : ev_Good X) (hl : l.stackTraces = false) : ev_Snd X l ev_ms x_L_law tx_L_law 651 (i_ald X ev_tI 652) := s_iaload hG dL_law_651
theorem s_L_law_652 {X : ev_E} {l : Launch} (hG : ev_Good X) (hl : l.stackTraces = false) : ev_Snd X l ev_ms x_L_law tx_L_law 652 (i_cV X 279 2 13 7 655) := s_invokevirtual hG (mi := 279) (n := 2) (ci := 13) (r := (RX8, TX8, 5)) rfl (cal_X8_copy (Nat.le_of_ble_eq_true rfl)) w_1426 w_1427 w_1428 dL_law_652
theorem s_L_law_655 {X : ev_E} {l : Launch} (hG : ev_Good X) (hl : l.stackTraces = false) : ev_Snd X l ev_ms x_L_law tx_L_law 655 (i_is 6 657) := s_istore dL_law_655 (Nat.le_of_ble_eq_true rfl)
theorem s_L_law_657 {X : ev_E} {l : Launch} (hG : ev_Good X) (hl : l.stackTraces = false) : ev_Snd X l ev_ms x_L_law tx_L_law 657 (i_goto 1714) := s_goto dL_law_657 rfl
theorem s_L_law_660 {X : ev_E} {l : Launch} (hG : ev_Good X) (hl : l.stackTraces = false) : ev_Snd X l ev_ms x_L_law tx_L_law 660 (i_al 1 661) := s_aload_n dL_law_660 rfl
theorem s_L_law_661 {X : ev_E} {l : Launch} (hG : ev_Good X) (hl : l.stackTraces = false) : ev_Snd X l ev_ms x_L_law tx_L_law 661 (i_al 0 662) := s_aload_n dL_law_661 rfl
theorem s_L_law_662 {X : ev_E} {l : Launch} (hG : ev_Good X) (hl : l.stackTraces = false) : ev_Snd X l ev_ms x_L_law tx_L_law 662 (i_il 4 664) := s_iload dL_law_662
theorem s_L_law_664 {X : ev_E} {l : Launch} (hG : ev_Good X) (hl : l.stackTraces = false) : ev_Snd X l ev_ms x_L_law tx_L_law 664 (i_psh (.int (1)) 665) := s_iconst dL_law_664 rfl
theorem s_L_law_665 {X : ev_E} {l : Launch} (hG : ev_Good X) (hl : l.stackTraces = false) : ev_Snd X l ev_ms x_L_law tx_L_law 665 (i_ii (fun a b => a + b) 666) := s_iadd dL_law_665
theorem s_L_law_666 {X : ev_E} {l : Launch} (hG : ev_Good X) (hl : l.stackTraces = false) : ev_Snd X l ev_ms x_L_law tx_L_law 666 (i_ald X ev_tI 667) := s_iaload hG dL_law_666
theorem s_L_law_667 {X : ev_E} {l : Launch} (hG : ev_Good X) (hl : l.stackTraces = false) : ev_Snd X l ev_ms x_L_law tx_L_law 667 (i_al 0 668) := s_aload_n dL_law_667 rfl
theorem s_L_law_668 {X : ev_E} {l : Launch} (hG : ev_Good X) (hl : l.stackTraces = false) : ev_Snd X l ev_ms x_L_law tx_L_law 668 (i_il 4 670) := s_iload dL_law_668
theorem s_L_law_670 {X : ev_E} {l : Launch} (hG : ev_Good X) (hl : l.stackTraces = false) : ev_Snd X l ev_ms x_L_law tx_L_law 670 (i_psh (.int (2)) 671) := s_iconst dL_law_670 rfl
theorem s_L_law_671 {X : ev_E} {l : Launch} (hG : ev_Good X) (hl : l.stackTraces = false) : ev_Snd X l ev_ms x_L_law tx_L_law 671 (i_ii (fun a b => a + b) 672) := s_iadd dL_law_671
theorem s_L_law_672 {X : ev_E} {l : Launch} (hG : ev_Good X) (hl : l.stackTraces = false) : ev_Snd X l ev_ms x_L_law tx_L_law 672 (i_ald X ev_tI 673) := s_iaload hG dL_law_672
theorem s_L_law_673 {X : ev_E} {l : Launch} (hG : ev_Good X) (hl : l.stackTraces = false) : ev_Snd X l ev_ms x_L_law tx_L_law 673 (i_al 3 674) := s_aload_n dL_law_673 rfl
theorem s_L_law_674 {X : ev_E} {l : Launch} (hG : ev_Good X) (hl : l.stackTraces = false) : ev_Snd X l ev_ms x_L_law tx_L_law 674 (i_cS 132 4 5 677) := s_invokestaticW hG (mi := 132) (n := 4) (cal_L_has (Nat.le_of_ble_eq_true rfl)) w_960 w_961 dL_law_674
theorem s_L_law_677 {X : ev_E} {l : Launch} (hG : ev_Good X) (hl : l.stackTraces = false) : ev_Snd X l ev_ms x_L_law tx_L_law 677 (i_is 5 679) := s_istore dL_law_677 (Nat.le_of_ble_eq_true rfl)
theorem s_L_law_679 {X : ev_E} {l : Launch} (hG : ev_Good X) (hl : l.stackTraces = false) : ev_Snd X l ev_ms x_L_law tx_L_law 679 (i_al 2 680) := s_aload_n dL_law_679 rfl
theorem s_L_law_680 {X : ev_E} {l : Launch} (hG : ev_Good X) (hl : l.stackTraces = false) : ev_Snd X l ev_ms x_L_law tx_L_law 680 (i_al 0 681) := s_aload_n dL_law_680 rfl
theorem s_L_law_681 {X : ev_E} {l : Launch} (hG : ev_Good X) (hl : l.stackTraces = false) : ev_Snd X l ev_ms x_L_law tx_L_law 681 (i_il 4 683) := s_iload dL_law_681
theorem s_L_law_683 {X : ev_E} {l : Launch} (hG : ev_Good X) (hl : l.stackTraces = false) : ev_Snd X l ev_ms x_L_law tx_L_law 683 (i_psh (.int (1)) 684) := s_iconst dL_law_683 rfl
theorem s_L_law_684 {X : ev_E} {l : Launch} (hG : ev_Good X) (hl : l.stackTraces = false) : ev_Snd X l ev_ms x_L_law tx_L_law 684 (i_ii (fun a b => a + b) 685) := s_iadd dL_law_684
theorem s_L_law_685 {X : ev_E} {l : Launch} (hG : ev_Good X) (hl : l.stackTraces = false) : ev_Snd X l ev_ms x_L_law tx_L_law 685 (i_ald X ev_tI 686) := s_iaload hG dL_law_685
theorem s_L_law_686 {X : ev_E} {l : Launch} (hG : ev_Good X) (hl : l.stackTraces = false) : ev_Snd X l ev_ms x_L_law tx_L_law 686 (i_al 0 687) := s_aload_n dL_law_686 rfl
theorem s_L_law_687 {X : ev_E} {l : Launch} (hG : ev_Good X) (hl : l.stackTraces = false) : ev_Snd X l ev_ms x_L_law tx_L_law 687 (i_il 4 689) := s_iload dL_law_687
theorem s_L_law_689 {X : ev_E} {l : Launch} (hG : ev_Good X) (hl : l.stackTraces = false) : ev_Snd X l ev_ms x_L_law tx_L_law 689 (i_psh (.int (2)) 690) := s_iconst dL_law_689 rfl
theorem s_L_law_690 {X : ev_E} {l : Launch} (hG : ev_Good X) (hl : l.stackTraces = false) : ev_Snd X l ev_ms x_L_law tx_L_law 690 (i_ii (fun a b => a + b) 691) := s_iadd dL_law_690
theorem s_L_law_691 {X : ev_E} {l : Launch} (hG : ev_Good X) (hl : l.stackTraces = false) : ev_Snd X l ev_ms x_L_law tx_L_law 691 (i_ald X ev_tI 692) := s_iaload hG dL_law_691
theorem s_L_law_692 {X : ev_E} {l : Launch} (hG : ev_Good X) (hl : l.stackTraces = false) : ev_Snd X l ev_ms x_L_law tx_L_law 692 (i_cV X 233 2 13 3 695) := s_invokevirtual hG (mi := 233) (n := 2) (ci := 13) (r := (RX8, TX8, 5)) rfl (cal_X8_has (Nat.le_of_ble_eq_true rfl)) w_1476 w_1477 w_1478 dL_law_692
theorem s_L_law_695 {X : ev_E} {l : Launch} (hG : ev_Good X) (hl : l.stackTraces = false) : ev_Snd X l ev_ms x_L_law tx_L_law 695 (i_is 6 697) := s_istore dL_law_695 (Nat.le_of_ble_eq_true rfl)
theorem s_L_law_697 {X : ev_E} {l : Launch} (hG : ev_Good X) (hl : l.stackTraces = false) : ev_Snd X l ev_ms x_L_law tx_L_law 697 (i_goto 1714) := s_goto dL_law_697 rfl
theorem s_L_law_700 {X : ev_E} {l : Launch} (hG : ev_Good X) (hl : l.stackTraces = false) : ev_Snd X l ev_ms x_L_law tx_L_law 700 (i_al 1 701) := s_aload_n dL_law_700 rfl
theorem s_L_law_701 {X : ev_E} {l : Launch} (hG : ev_Good X) (hl : l.stackTraces = false) : ev_Snd X l ev_ms x_L_law tx_L_law 701 (i_al 0 702) := s_aload_n dL_law_701 rfl
theorem s_L_law_702 {X : ev_E} {l : Launch} (hG : ev_Good X) (hl : l.stackTraces = false) : ev_Snd X l ev_ms x_L_law tx_L_law 702 (i_il 4 704) := s_iload dL_law_702
theorem s_L_law_704 {X : ev_E} {l : Launch} (hG : ev_Good X) (hl : l.stackTraces = false) : ev_Snd X l ev_ms x_L_law tx_L_law 704 (i_psh (.int (1)) 705) := s_iconst dL_law_704 rfl
theorem s_L_law_705 {X : ev_E} {l : Launch} (hG : ev_Good X) (hl : l.stackTraces = false) : ev_Snd X l ev_ms x_L_law tx_L_law 705 (i_ii (fun a b => a + b) 706) := s_iadd dL_law_705
theorem s_L_law_706 {X : ev_E} {l : Launch} (hG : ev_Good X) (hl : l.stackTraces = false) : ev_Snd X l ev_ms x_L_law tx_L_law 706 (i_ald X ev_tI 707) := s_iaload hG dL_law_706
theorem s_L_law_707 {X : ev_E} {l : Launch} (hG : ev_Good X) (hl : l.stackTraces = false) : ev_Snd X l ev_ms x_L_law tx_L_law 707 (i_al 3 708) := s_aload_n dL_law_707 rfl
theorem s_L_law_708 {X : ev_E} {l : Launch} (hG : ev_Good X) (hl : l.stackTraces = false) : ev_Snd X l ev_ms x_L_law tx_L_law 708 (i_cS 137 3 4 711) := s_invokestaticW hG (mi := 137) (n := 3) (cal_L_size (Nat.le_of_ble_eq_true rfl)) w_967 w_968 dL_law_708
theorem s_L_law_711 {X : ev_E} {l : Launch} (hG : ev_Good X) (hl : l.stackTraces = false) : ev_Snd X l ev_ms x_L_law tx_L_law 711 (i_is 5 713) := s_istore dL_law_711 (Nat.le_of_ble_eq_true rfl)
theorem s_L_law_713 {X : ev_E} {l : Launch} (hG : ev_Good X) (hl : l.stackTraces = false) : ev_Snd X l ev_ms x_L_law tx_L_law 713 (i_al 2 714) := s_aload_n dL_law_713 rfl
theorem s_L_law_714 {X : ev_E} {l : Launch} (hG : ev_Good X) (hl : l.stackTraces = false) : ev_Snd X l ev_ms x_L_law tx_L_law 714 (i_al 0 715) := s_aload_n dL_law_714 rfl
theorem s_L_law_715 {X : ev_E} {l : Launch} (hG : ev_Good X) (hl : l.stackTraces = false) : ev_Snd X l ev_ms x_L_law tx_L_law 715 (i_il 4 717) := s_iload dL_law_715
theorem s_L_law_717 {X : ev_E} {l : Launch} (hG : ev_Good X) (hl : l.stackTraces = false) : ev_Snd X l ev_ms x_L_law tx_L_law 717 (i_psh (.int (1)) 718) := s_iconst dL_law_717 rfl
theorem s_L_law_718 {X : ev_E} {l : Launch} (hG : ev_Good X) (hl : l.stackTraces = false) : ev_Snd X l ev_ms x_L_law tx_L_law 718 (i_ii (fun a b => a + b) 719) := s_iadd dL_law_718
theorem s_L_law_719 {X : ev_E} {l : Launch} (hG : ev_Good X) (hl : l.stackTraces = false) : ev_Snd X l ev_ms x_L_law tx_L_law 719 (i_ald X ev_tI 720) := s_iaload hG dL_law_719
theorem s_L_law_720 {X : ev_E} {l : Launch} (hG : ev_Good X) (hl : l.stackTraces = false) : ev_Snd X l ev_ms x_L_law tx_L_law 720 (i_cV X 168 1 13 2 723) := s_invokevirtual hG (mi := 168) (n := 1) (ci := 13) (r := (RX8, TX8, 5)) rfl (cal_X8_size (Nat.le_of_ble_eq_true rfl)) w_1480 w_1481 w_1482 dL_law_720
theorem s_L_law_723 {X : ev_E} {l : Launch} (hG : ev_Good X) (hl : l.stackTraces = false) : ev_Snd X l ev_ms x_L_law tx_L_law 723 (i_is 6 725) := s_istore dL_law_723 (Nat.le_of_ble_eq_true rfl)
theorem s_L_law_725 {X : ev_E} {l : Launch} (hG : ev_Good X) (hl : l.stackTraces = false) : ev_Snd X l ev_ms x_L_law tx_L_law 725 (i_goto 1714) := s_goto dL_law_725 rfl
theorem s_L_law_728 {X : ev_E} {l : Launch} (hG : ev_Good X) (hl : l.stackTraces = false) : ev_Snd X l ev_ms x_L_law tx_L_law 728 (i_al 1 729) := s_aload_n dL_law_728 rfl
theorem s_L_law_729 {X : ev_E} {l : Launch} (hG : ev_Good X) (hl : l.stackTraces = false) : ev_Snd X l ev_ms x_L_law tx_L_law 729 (i_al 0 730) := s_aload_n dL_law_729 rfl
theorem s_L_law_730 {X : ev_E} {l : Launch} (hG : ev_Good X) (hl : l.stackTraces = false) : ev_Snd X l ev_ms x_L_law tx_L_law 730 (i_il 4 732) := s_iload dL_law_730
theorem s_L_law_732 {X : ev_E} {l : Launch} (hG : ev_Good X) (hl : l.stackTraces = false) : ev_Snd X l ev_ms x_L_law tx_L_law 732 (i_psh (.int (1)) 733) := s_iconst dL_law_732 rfl
theorem s_L_law_733 {X : ev_E} {l : Launch} (hG : ev_Good X) (hl : l.stackTraces = false) : ev_Snd X l ev_ms x_L_law tx_L_law 733 (i_ii (fun a b => a + b) 734) := s_iadd dL_law_733
theorem s_L_law_734 {X : ev_E} {l : Launch} (hG : ev_Good X) (hl : l.stackTraces = false) : ev_Snd X l ev_ms x_L_law tx_L_law 734 (i_ald X ev_tI 735) := s_iaload hG dL_law_734
theorem s_L_law_735 {X : ev_E} {l : Launch} (hG : ev_Good X) (hl : l.stackTraces = false) : ev_Snd X l ev_ms x_L_law tx_L_law 735 (i_al 0 736) := s_aload_n dL_law_735 rfl
theorem s_L_law_736 {X : ev_E} {l : Launch} (hG : ev_Good X) (hl : l.stackTraces = false) : ev_Snd X l ev_ms x_L_law tx_L_law 736 (i_il 4 738) := s_iload dL_law_736
theorem s_L_law_738 {X : ev_E} {l : Launch} (hG : ev_Good X) (hl : l.stackTraces = false) : ev_Snd X l ev_ms x_L_law tx_L_law 738 (i_psh (.int (2)) 739) := s_iconst dL_law_738 rfl
theorem s_L_law_739 {X : ev_E} {l : Launch} (hG : ev_Good X) (hl : l.stackTraces = false) : ev_Snd X l ev_ms x_L_law tx_L_law 739 (i_ii (fun a b => a + b) 740) := s_iadd dL_law_739
theorem s_L_law_740 {X : ev_E} {l : Launch} (hG : ev_Good X) (hl : l.stackTraces = false) : ev_Snd X l ev_ms x_L_law tx_L_law 740 (i_ald X ev_tI 741) := s_iaload hG dL_law_740
theorem s_L_law_741 {X : ev_E} {l : Launch} (hG : ev_Good X) (hl : l.stackTraces = false) : ev_Snd X l ev_ms x_L_law tx_L_law 741 (i_al 3 742) := s_aload_n dL_law_741 rfl
theorem s_L_law_742 {X : ev_E} {l : Launch} (hG : ev_Good X) (hl : l.stackTraces = false) : ev_Snd X l ev_ms x_L_law tx_L_law 742 (i_cS 185 4 5 745) := s_invokestaticW hG (mi := 185) (n := 4) (cal_L_keyAt (Nat.le_of_ble_eq_true rfl)) w_971 w_972 dL_law_742
theorem s_L_law_745 {X : ev_E} {l : Launch} (hG : ev_Good X) (hl : l.stackTraces = false) : ev_Snd X l ev_ms x_L_law tx_L_law 745 (i_is 5 747) := s_istore dL_law_745 (Nat.le_of_ble_eq_true rfl)
theorem s_L_law_747 {X : ev_E} {l : Launch} (hG : ev_Good X) (hl : l.stackTraces = false) : ev_Snd X l ev_ms x_L_law tx_L_law 747 (i_al 2 748) := s_aload_n dL_law_747 rfl
theorem s_L_law_748 {X : ev_E} {l : Launch} (hG : ev_Good X) (hl : l.stackTraces = false) : ev_Snd X l ev_ms x_L_law tx_L_law 748 (i_al 0 749) := s_aload_n dL_law_748 rfl
theorem s_L_law_749 {X : ev_E} {l : Launch} (hG : ev_Good X) (hl : l.stackTraces = false) : ev_Snd X l ev_ms x_L_law tx_L_law 749 (i_il 4 751) := s_iload dL_law_749
theorem s_L_law_751 {X : ev_E} {l : Launch} (hG : ev_Good X) (hl : l.stackTraces = false) : ev_Snd X l ev_ms x_L_law tx_L_law 751 (i_psh (.int (1)) 752) := s_iconst dL_law_751 rfl
theorem s_L_law_752 {X : ev_E} {l : Launch} (hG : ev_Good X) (hl : l.stackTraces = false) : ev_Snd X l ev_ms x_L_law tx_L_law 752 (i_ii (fun a b => a + b) 753) := s_iadd dL_law_752
theorem s_L_law_753 {X : ev_E} {l : Launch} (hG : ev_Good X) (hl : l.stackTraces = false) : ev_Snd X l ev_ms x_L_law tx_L_law 753 (i_ald X ev_tI 754) := s_iaload hG dL_law_753
theorem s_L_law_754 {X : ev_E} {l : Launch} (hG : ev_Good X) (hl : l.stackTraces = false) : ev_Snd X l ev_ms x_L_law tx_L_law 754 (i_al 0 755) := s_aload_n dL_law_754 rfl
theorem s_L_law_755 {X : ev_E} {l : Launch} (hG : ev_Good X) (hl : l.stackTraces = false) : ev_Snd X l ev_ms x_L_law tx_L_law 755 (i_il 4 757) := s_iload dL_law_755
theorem s_L_law_757 {X : ev_E} {l : Launch} (hG : ev_Good X) (hl : l.stackTraces = false) : ev_Snd X l ev_ms x_L_law tx_L_law 757 (i_psh (.int (2)) 758) := s_iconst dL_law_757 rfl
theorem s_L_law_758 {X : ev_E} {l : Launch} (hG : ev_Good X) (hl : l.stackTraces = false) : ev_Snd X l ev_ms x_L_law tx_L_law 758 (i_ii (fun a b => a + b) 759) := s_iadd dL_law_758
theorem s_L_law_759 {X : ev_E} {l : Launch} (hG : ev_Good X) (hl : l.stackTraces = false) : ev_Snd X l ev_ms x_L_law tx_L_law 759 (i_ald X ev_tI 760) := s_iaload hG dL_law_759
theorem s_L_law_760 {X : ev_E} {l : Launch} (hG : ev_Good X) (hl : l.stackTraces = false) : ev_Snd X l ev_ms x_L_law tx_L_law 760 (i_cV X 235 2 13 3 763) := s_invokevirtual hG (mi := 235) (n := 2) (ci := 13) (r := (RX8, TX8, 5)) rfl (cal_X8_keyAt (Nat.le_of_ble_eq_true rfl)) w_1484 w_1485 w_1486 dL_law_760
theorem s_L_law_763 {X : ev_E} {l : Launch} (hG : ev_Good X) (hl : l.stackTraces = false) : ev_Snd X l ev_ms x_L_law tx_L_law 763 (i_is 6 765) := s_istore dL_law_763 (Nat.le_of_ble_eq_true rfl)
theorem s_L_law_765 {X : ev_E} {l : Launch} (hG : ev_Good X) (hl : l.stackTraces = false) : ev_Snd X l ev_ms x_L_law tx_L_law 765 (i_goto 1714) := s_goto dL_law_765 rfl
theorem s_L_law_768 {X : ev_E} {l : Launch} (hG : ev_Good X) (hl : l.stackTraces = false) : ev_Snd X l ev_ms x_L_law tx_L_law 768 (i_al 1 769) := s_aload_n dL_law_768 rfl
theorem s_L_law_769 {X : ev_E} {l : Launch} (hG : ev_Good X) (hl : l.stackTraces = false) : ev_Snd X l ev_ms x_L_law tx_L_law 769 (i_al 0 770) := s_aload_n dL_law_769 rfl
theorem s_L_law_770 {X : ev_E} {l : Launch} (hG : ev_Good X) (hl : l.stackTraces = false) : ev_Snd X l ev_ms x_L_law tx_L_law 770 (i_il 4 772) := s_iload dL_law_770
theorem s_L_law_772 {X : ev_E} {l : Launch} (hG : ev_Good X) (hl : l.stackTraces = false) : ev_Snd X l ev_ms x_L_law tx_L_law 772 (i_psh (.int (1)) 773) := s_iconst dL_law_772 rfl
theorem s_L_law_773 {X : ev_E} {l : Launch} (hG : ev_Good X) (hl : l.stackTraces = false) : ev_Snd X l ev_ms x_L_law tx_L_law 773 (i_ii (fun a b => a + b) 774) := s_iadd dL_law_773
theorem s_L_law_774 {X : ev_E} {l : Launch} (hG : ev_Good X) (hl : l.stackTraces = false) : ev_Snd X l ev_ms x_L_law tx_L_law 774 (i_ald X ev_tI 775) := s_iaload hG dL_law_774
theorem s_L_law_775 {X : ev_E} {l : Launch} (hG : ev_Good X) (hl : l.stackTraces = false) : ev_Snd X l ev_ms x_L_law tx_L_law 775 (i_al 0 776) := s_aload_n dL_law_775 rfl
theorem s_L_law_776 {X : ev_E} {l : Launch} (hG : ev_Good X) (hl : l.stackTraces = false) : ev_Snd X l ev_ms x_L_law tx_L_law 776 (i_il 4 778) := s_iload dL_law_776
theorem s_L_law_778 {X : ev_E} {l : Launch} (hG : ev_Good X) (hl : l.stackTraces = false) : ev_Snd X l ev_ms x_L_law tx_L_law 778 (i_psh (.int (2)) 779) := s_iconst dL_law_778 rfl
theorem s_L_law_779 {X : ev_E} {l : Launch} (hG : ev_Good X) (hl : l.stackTraces = false) : ev_Snd X l ev_ms x_L_law tx_L_law 779 (i_ii (fun a b => a + b) 780) := s_iadd dL_law_779
theorem s_L_law_780 {X : ev_E} {l : Launch} (hG : ev_Good X) (hl : l.stackTraces = false) : ev_Snd X l ev_ms x_L_law tx_L_law 780 (i_ald X ev_tI 781) := s_iaload hG dL_law_780
theorem s_L_law_781 {X : ev_E} {l : Launch} (hG : ev_Good X) (hl : l.stackTraces = false) : ev_Snd X l ev_ms x_L_law tx_L_law 781 (i_al 3 782) := s_aload_n dL_law_781 rfl
theorem s_L_law_782 {X : ev_E} {l : Launch} (hG : ev_Good X) (hl : l.stackTraces = false) : ev_Snd X l ev_ms x_L_law tx_L_law 782 (i_cS 193 4 5 785) := s_invokestaticW hG (mi := 193) (n := 4) (cal_L_valueAt (Nat.le_of_ble_eq_true rfl)) w_978 w_979 dL_law_782
theorem s_L_law_785 {X : ev_E} {l : Launch} (hG : ev_Good X) (hl : l.stackTraces = false) : ev_Snd X l ev_ms x_L_law tx_L_law 785 (i_is 5 787) := s_istore dL_law_785 (Nat.le_of_ble_eq_true rfl)
theorem s_L_law_787 {X : ev_E} {l : Launch} (hG : ev_Good X) (hl : l.stackTraces = false) : ev_Snd X l ev_ms x_L_law tx_L_law 787 (i_al 2 788) := s_aload_n dL_law_787 rfl
theorem s_L_law_788 {X : ev_E} {l : Launch} (hG : ev_Good X) (hl : l.stackTraces = false) : ev_Snd X l ev_ms x_L_law tx_L_law 788 (i_al 0 789) := s_aload_n dL_law_788 rfl
theorem s_L_law_789 {X : ev_E} {l : Launch} (hG : ev_Good X) (hl : l.stackTraces = false) : ev_Snd X l ev_ms x_L_law tx_L_law 789 (i_il 4 791) := s_iload dL_law_789
theorem s_L_law_791 {X : ev_E} {l : Launch} (hG : ev_Good X) (hl : l.stackTraces = false) : ev_Snd X l ev_ms x_L_law tx_L_law 791 (i_psh (.int (1)) 792) := s_iconst dL_law_791 rfl
theorem s_L_law_792 {X : ev_E} {l : Launch} (hG : ev_Good X) (hl : l.stackTraces = false) : ev_Snd X l ev_ms x_L_law tx_L_law 792 (i_ii (fun a b => a + b) 793) := s_iadd dL_law_792
theorem s_L_law_793 {X : ev_E} {l : Launch} (hG : ev_Good X) (hl : l.stackTraces = false) : ev_Snd X l ev_ms x_L_law tx_L_law 793 (i_ald X ev_tI 794) := s_iaload hG dL_law_793
theorem s_L_law_794 {X : ev_E} {l : Launch} (hG : ev_Good X) (hl : l.stackTraces = false) : ev_Snd X l ev_ms x_L_law tx_L_law 794 (i_al 0 795) := s_aload_n dL_law_794 rfl
theorem s_L_law_795 {X : ev_E} {l : Launch} (hG : ev_Good X) (hl : l.stackTraces = false) : ev_Snd X l ev_ms x_L_law tx_L_law 795 (i_il 4 797) := s_iload dL_law_795
theorem s_L_law_797 {X : ev_E} {l : Launch} (hG : ev_Good X) (hl : l.stackTraces = false) : ev_Snd X l ev_ms x_L_law tx_L_law 797 (i_psh (.int (2)) 798) := s_iconst dL_law_797 rfl
theorem s_L_law_798 {X : ev_E} {l : Launch} (hG : ev_Good X) (hl : l.stackTraces = false) : ev_Snd X l ev_ms x_L_law tx_L_law 798 (i_ii (fun a b => a + b) 799) := s_iadd dL_law_798
theorem s_L_law_799 {X : ev_E} {l : Launch} (hG : ev_Good X) (hl : l.stackTraces = false) : ev_Snd X l ev_ms x_L_law tx_L_law 799 (i_ald X ev_tI 800) := s_iaload hG dL_law_799
theorem s_L_law_800 {X : ev_E} {l : Launch} (hG : ev_Good X) (hl : l.stackTraces = false) : ev_Snd X l ev_ms x_L_law tx_L_law 800 (i_cV X 243 2 13 3 803) := s_invokevirtual hG (mi := 243) (n := 2) (ci := 13) (r := (RX8, TX8, 5)) rfl (cal_X8_valueAt (Nat.le_of_ble_eq_true rfl)) w_1492 w_1493 w_1494 dL_law_800
theorem s_L_law_803 {X : ev_E} {l : Launch} (hG : ev_Good X) (hl : l.stackTraces = false) : ev_Snd X l ev_ms x_L_law tx_L_law 803 (i_is 6 805) := s_istore dL_law_803 (Nat.le_of_ble_eq_true rfl)
theorem s_L_law_805 {X : ev_E} {l : Launch} (hG : ev_Good X) (hl : l.stackTraces = false) : ev_Snd X l ev_ms x_L_law tx_L_law 805 (i_goto 1714) := s_goto dL_law_805 rfl
theorem s_L_law_808 {X : ev_E} {l : Launch} (hG : ev_Good X) (hl : l.stackTraces = false) : ev_Snd X l ev_ms x_L_law tx_L_law 808 (i_al 1 809) := s_aload_n dL_law_808 rfl
theorem s_L_law_809 {X : ev_E} {l : Launch} (hG : ev_Good X) (hl : l.stackTraces = false) : ev_Snd X l ev_ms x_L_law tx_L_law 809 (i_al 0 810) := s_aload_n dL_law_809 rfl
theorem s_L_law_810 {X : ev_E} {l : Launch} (hG : ev_Good X) (hl : l.stackTraces = false) : ev_Snd X l ev_ms x_L_law tx_L_law 810 (i_il 4 812) := s_iload dL_law_810
theorem s_L_law_812 {X : ev_E} {l : Launch} (hG : ev_Good X) (hl : l.stackTraces = false) : ev_Snd X l ev_ms x_L_law tx_L_law 812 (i_psh (.int (1)) 813) := s_iconst dL_law_812 rfl
theorem s_L_law_813 {X : ev_E} {l : Launch} (hG : ev_Good X) (hl : l.stackTraces = false) : ev_Snd X l ev_ms x_L_law tx_L_law 813 (i_ii (fun a b => a + b) 814) := s_iadd dL_law_813
theorem s_L_law_814 {X : ev_E} {l : Launch} (hG : ev_Good X) (hl : l.stackTraces = false) : ev_Snd X l ev_ms x_L_law tx_L_law 814 (i_ald X ev_tI 815) := s_iaload hG dL_law_814
theorem s_L_law_815 {X : ev_E} {l : Launch} (hG : ev_Good X) (hl : l.stackTraces = false) : ev_Snd X l ev_ms x_L_law tx_L_law 815 (i_al 0 816) := s_aload_n dL_law_815 rfl
theorem s_L_law_816 {X : ev_E} {l : Launch} (hG : ev_Good X) (hl : l.stackTraces = false) : ev_Snd X l ev_ms x_L_law tx_L_law 816 (i_il 4 818) := s_iload dL_law_816
theorem s_L_law_818 {X : ev_E} {l : Launch} (hG : ev_Good X) (hl : l.stackTraces = false) : ev_Snd X l ev_ms x_L_law tx_L_law 818 (i_psh (.int (2)) 819) := s_iconst dL_law_818 rfl
theorem s_L_law_819 {X : ev_E} {l : Launch} (hG : ev_Good X) (hl : l.stackTraces = false) : ev_Snd X l ev_ms x_L_law tx_L_law 819 (i_ii (fun a b => a + b) 820) := s_iadd dL_law_819
theorem s_L_law_820 {X : ev_E} {l : Launch} (hG : ev_Good X) (hl : l.stackTraces = false) : ev_Snd X l ev_ms x_L_law tx_L_law 820 (i_ald X ev_tI 821) := s_iaload hG dL_law_820
theorem s_L_law_821 {X : ev_E} {l : Launch} (hG : ev_Good X) (hl : l.stackTraces = false) : ev_Snd X l ev_ms x_L_law tx_L_law 821 (i_al 3 822) := s_aload_n dL_law_821 rfl
theorem s_L_law_822 {X : ev_E} {l : Launch} (hG : ev_Good X) (hl : l.stackTraces = false) : ev_Snd X l ev_ms x_L_law tx_L_law 822 (i_cS 190 4 5 825) := s_invokestaticW hG (mi := 190) (n := 4) (cal_L_pairAt (Nat.le_of_ble_eq_true rfl)) w_985 w_986 dL_law_822
theorem s_L_law_825 {X : ev_E} {l : Launch} (hG : ev_Good X) (hl : l.stackTraces = false) : ev_Snd X l ev_ms x_L_law tx_L_law 825 (i_is 5 827) := s_istore dL_law_825 (Nat.le_of_ble_eq_true rfl)
theorem s_L_law_827 {X : ev_E} {l : Launch} (hG : ev_Good X) (hl : l.stackTraces = false) : ev_Snd X l ev_ms x_L_law tx_L_law 827 (i_al 2 828) := s_aload_n dL_law_827 rfl
theorem s_L_law_828 {X : ev_E} {l : Launch} (hG : ev_Good X) (hl : l.stackTraces = false) : ev_Snd X l ev_ms x_L_law tx_L_law 828 (i_al 0 829) := s_aload_n dL_law_828 rfl
theorem s_L_law_829 {X : ev_E} {l : Launch} (hG : ev_Good X) (hl : l.stackTraces = false) : ev_Snd X l ev_ms x_L_law tx_L_law 829 (i_il 4 831) := s_iload dL_law_829
theorem s_L_law_831 {X : ev_E} {l : Launch} (hG : ev_Good X) (hl : l.stackTraces = false) : ev_Snd X l ev_ms x_L_law tx_L_law 831 (i_psh (.int (1)) 832) := s_iconst dL_law_831 rfl
theorem s_L_law_832 {X : ev_E} {l : Launch} (hG : ev_Good X) (hl : l.stackTraces = false) : ev_Snd X l ev_ms x_L_law tx_L_law 832 (i_ii (fun a b => a + b) 833) := s_iadd dL_law_832
theorem s_L_law_833 {X : ev_E} {l : Launch} (hG : ev_Good X) (hl : l.stackTraces = false) : ev_Snd X l ev_ms x_L_law tx_L_law 833 (i_ald X ev_tI 834) := s_iaload hG dL_law_833
theorem s_L_law_834 {X : ev_E} {l : Launch} (hG : ev_Good X) (hl : l.stackTraces = false) : ev_Snd X l ev_ms x_L_law tx_L_law 834 (i_al 0 835) := s_aload_n dL_law_834 rfl
theorem s_L_law_835 {X : ev_E} {l : Launch} (hG : ev_Good X) (hl : l.stackTraces = false) : ev_Snd X l ev_ms x_L_law tx_L_law 835 (i_il 4 837) := s_iload dL_law_835
theorem s_L_law_837 {X : ev_E} {l : Launch} (hG : ev_Good X) (hl : l.stackTraces = false) : ev_Snd X l ev_ms x_L_law tx_L_law 837 (i_psh (.int (2)) 838) := s_iconst dL_law_837 rfl
theorem s_L_law_838 {X : ev_E} {l : Launch} (hG : ev_Good X) (hl : l.stackTraces = false) : ev_Snd X l ev_ms x_L_law tx_L_law 838 (i_ii (fun a b => a + b) 839) := s_iadd dL_law_838
theorem s_L_law_839 {X : ev_E} {l : Launch} (hG : ev_Good X) (hl : l.stackTraces = false) : ev_Snd X l ev_ms x_L_law tx_L_law 839 (i_ald X ev_tI 840) := s_iaload hG dL_law_839
theorem s_L_law_840 {X : ev_E} {l : Launch} (hG : ev_Good X) (hl : l.stackTraces = false) : ev_Snd X l ev_ms x_L_law tx_L_law 840 (i_cV X 237 2 13 3 843) := s_invokevirtual hG (mi := 237) (n := 2) (ci := 13) (r := (RX8, TX8, 5)) rfl (cal_X8_pairAt (Nat.le_of_ble_eq_true rfl)) w_1496 w_1497 w_1498 dL_law_840
theorem s_L_law_843 {X : ev_E} {l : Launch} (hG : ev_Good X) (hl : l.stackTraces = false) : ev_Snd X l ev_ms x_L_law tx_L_law 843 (i_is 6 845) := s_istore dL_law_843 (Nat.le_of_ble_eq_true rfl)
theorem s_L_law_845 {X : ev_E} {l : Launch} (hG : ev_Good X) (hl : l.stackTraces = false) : ev_Snd X l ev_ms x_L_law tx_L_law 845 (i_goto 1714) := s_goto dL_law_845 rfl
theorem s_L_law_848 {X : ev_E} {l : Launch} (hG : ev_Good X) (hl : l.stackTraces = false) : ev_Snd X l ev_ms x_L_law tx_L_law 848 (i_al 1 849) := s_aload_n dL_law_848 rfl
theorem s_L_law_849 {X : ev_E} {l : Launch} (hG : ev_Good X) (hl : l.stackTraces = false) : ev_Snd X l ev_ms x_L_law tx_L_law 849 (i_al 0 850) := s_aload_n dL_law_849 rfl
theorem s_L_law_850 {X : ev_E} {l : Launch} (hG : ev_Good X) (hl : l.stackTraces = false) : ev_Snd X l ev_ms x_L_law tx_L_law 850 (i_il 4 852) := s_iload dL_law_850
theorem s_L_law_852 {X : ev_E} {l : Launch} (hG : ev_Good X) (hl : l.stackTraces = false) : ev_Snd X l ev_ms x_L_law tx_L_law 852 (i_psh (.int (1)) 853) := s_iconst dL_law_852 rfl
theorem s_L_law_853 {X : ev_E} {l : Launch} (hG : ev_Good X) (hl : l.stackTraces = false) : ev_Snd X l ev_ms x_L_law tx_L_law 853 (i_ii (fun a b => a + b) 854) := s_iadd dL_law_853
theorem s_L_law_854 {X : ev_E} {l : Launch} (hG : ev_Good X) (hl : l.stackTraces = false) : ev_Snd X l ev_ms x_L_law tx_L_law 854 (i_ald X ev_tI 855) := s_iaload hG dL_law_854
theorem s_L_law_855 {X : ev_E} {l : Launch} (hG : ev_Good X) (hl : l.stackTraces = false) : ev_Snd X l ev_ms x_L_law tx_L_law 855 (i_al 0 856) := s_aload_n dL_law_855 rfl
theorem s_L_law_856 {X : ev_E} {l : Launch} (hG : ev_Good X) (hl : l.stackTraces = false) : ev_Snd X l ev_ms x_L_law tx_L_law 856 (i_il 4 858) := s_iload dL_law_856
theorem s_L_law_858 {X : ev_E} {l : Launch} (hG : ev_Good X) (hl : l.stackTraces = false) : ev_Snd X l ev_ms x_L_law tx_L_law 858 (i_psh (.int (2)) 859) := s_iconst dL_law_858 rfl
theorem s_L_law_859 {X : ev_E} {l : Launch} (hG : ev_Good X) (hl : l.stackTraces = false) : ev_Snd X l ev_ms x_L_law tx_L_law 859 (i_ii (fun a b => a + b) 860) := s_iadd dL_law_859
theorem s_L_law_860 {X : ev_E} {l : Launch} (hG : ev_Good X) (hl : l.stackTraces = false) : ev_Snd X l ev_ms x_L_law tx_L_law 860 (i_ald X ev_tI 861) := s_iaload hG dL_law_860
theorem s_L_law_861 {X : ev_E} {l : Launch} (hG : ev_Good X) (hl : l.stackTraces = false) : ev_Snd X l ev_ms x_L_law tx_L_law 861 (i_al 3 862) := s_aload_n dL_law_861 rfl
theorem s_L_law_862 {X : ev_E} {l : Launch} (hG : ev_Good X) (hl : l.stackTraces = false) : ev_Snd X l ev_ms x_L_law tx_L_law 862 (i_cS 136 4 5 865) := s_invokestaticW hG (mi := 136) (n := 4) (cal_L_placeOf (Nat.le_of_ble_eq_true rfl)) w_989 w_990 dL_law_862
theorem s_L_law_865 {X : ev_E} {l : Launch} (hG : ev_Good X) (hl : l.stackTraces = false) : ev_Snd X l ev_ms x_L_law tx_L_law 865 (i_is 5 867) := s_istore dL_law_865 (Nat.le_of_ble_eq_true rfl)
theorem s_L_law_867 {X : ev_E} {l : Launch} (hG : ev_Good X) (hl : l.stackTraces = false) : ev_Snd X l ev_ms x_L_law tx_L_law 867 (i_al 2 868) := s_aload_n dL_law_867 rfl
theorem s_L_law_868 {X : ev_E} {l : Launch} (hG : ev_Good X) (hl : l.stackTraces = false) : ev_Snd X l ev_ms x_L_law tx_L_law 868 (i_al 0 869) := s_aload_n dL_law_868 rfl
theorem s_L_law_869 {X : ev_E} {l : Launch} (hG : ev_Good X) (hl : l.stackTraces = false) : ev_Snd X l ev_ms x_L_law tx_L_law 869 (i_il 4 871) := s_iload dL_law_869
theorem s_L_law_871 {X : ev_E} {l : Launch} (hG : ev_Good X) (hl : l.stackTraces = false) : ev_Snd X l ev_ms x_L_law tx_L_law 871 (i_psh (.int (1)) 872) := s_iconst dL_law_871 rfl
theorem s_L_law_872 {X : ev_E} {l : Launch} (hG : ev_Good X) (hl : l.stackTraces = false) : ev_Snd X l ev_ms x_L_law tx_L_law 872 (i_ii (fun a b => a + b) 873) := s_iadd dL_law_872
theorem s_L_law_873 {X : ev_E} {l : Launch} (hG : ev_Good X) (hl : l.stackTraces = false) : ev_Snd X l ev_ms x_L_law tx_L_law 873 (i_ald X ev_tI 874) := s_iaload hG dL_law_873
theorem s_L_law_874 {X : ev_E} {l : Launch} (hG : ev_Good X) (hl : l.stackTraces = false) : ev_Snd X l ev_ms x_L_law tx_L_law 874 (i_al 0 875) := s_aload_n dL_law_874 rfl
theorem s_L_law_875 {X : ev_E} {l : Launch} (hG : ev_Good X) (hl : l.stackTraces = false) : ev_Snd X l ev_ms x_L_law tx_L_law 875 (i_il 4 877) := s_iload dL_law_875
theorem s_L_law_877 {X : ev_E} {l : Launch} (hG : ev_Good X) (hl : l.stackTraces = false) : ev_Snd X l ev_ms x_L_law tx_L_law 877 (i_psh (.int (2)) 878) := s_iconst dL_law_877 rfl
theorem s_L_law_878 {X : ev_E} {l : Launch} (hG : ev_Good X) (hl : l.stackTraces = false) : ev_Snd X l ev_ms x_L_law tx_L_law 878 (i_ii (fun a b => a + b) 879) := s_iadd dL_law_878
theorem s_L_law_879 {X : ev_E} {l : Launch} (hG : ev_Good X) (hl : l.stackTraces = false) : ev_Snd X l ev_ms x_L_law tx_L_law 879 (i_ald X ev_tI 880) := s_iaload hG dL_law_879
theorem s_L_law_880 {X : ev_E} {l : Launch} (hG : ev_Good X) (hl : l.stackTraces = false) : ev_Snd X l ev_ms x_L_law tx_L_law 880 (i_cV X 238 2 13 3 883) := s_invokevirtual hG (mi := 238) (n := 2) (ci := 13) (r := (RX8, TX8, 5)) rfl (cal_X8_placeOf (Nat.le_of_ble_eq_true rfl)) w_1500 w_1501 w_1502 dL_law_880
theorem s_L_law_883 {X : ev_E} {l : Launch} (hG : ev_Good X) (hl : l.stackTraces = false) : ev_Snd X l ev_ms x_L_law tx_L_law 883 (i_is 6 885) := s_istore dL_law_883 (Nat.le_of_ble_eq_true rfl)
theorem s_L_law_885 {X : ev_E} {l : Launch} (hG : ev_Good X) (hl : l.stackTraces = false) : ev_Snd X l ev_ms x_L_law tx_L_law 885 (i_goto 1714) := s_goto dL_law_885 rfl
theorem s_L_law_888 {X : ev_E} {l : Launch} (hG : ev_Good X) (hl : l.stackTraces = false) : ev_Snd X l ev_ms x_L_law tx_L_law 888 (i_al 1 889) := s_aload_n dL_law_888 rfl
theorem s_L_law_889 {X : ev_E} {l : Launch} (hG : ev_Good X) (hl : l.stackTraces = false) : ev_Snd X l ev_ms x_L_law tx_L_law 889 (i_al 0 890) := s_aload_n dL_law_889 rfl
theorem s_L_law_890 {X : ev_E} {l : Launch} (hG : ev_Good X) (hl : l.stackTraces = false) : ev_Snd X l ev_ms x_L_law tx_L_law 890 (i_il 4 892) := s_iload dL_law_890
theorem s_L_law_892 {X : ev_E} {l : Launch} (hG : ev_Good X) (hl : l.stackTraces = false) : ev_Snd X l ev_ms x_L_law tx_L_law 892 (i_psh (.int (1)) 893) := s_iconst dL_law_892 rfl
theorem s_L_law_893 {X : ev_E} {l : Launch} (hG : ev_Good X) (hl : l.stackTraces = false) : ev_Snd X l ev_ms x_L_law tx_L_law 893 (i_ii (fun a b => a + b) 894) := s_iadd dL_law_893
theorem s_L_law_894 {X : ev_E} {l : Launch} (hG : ev_Good X) (hl : l.stackTraces = false) : ev_Snd X l ev_ms x_L_law tx_L_law 894 (i_ald X ev_tI 895) := s_iaload hG dL_law_894
theorem s_L_law_895 {X : ev_E} {l : Launch} (hG : ev_Good X) (hl : l.stackTraces = false) : ev_Snd X l ev_ms x_L_law tx_L_law 895 (i_al 3 896) := s_aload_n dL_law_895 rfl
theorem s_L_law_896 {X : ev_E} {l : Launch} (hG : ev_Good X) (hl : l.stackTraces = false) : ev_Snd X l ev_ms x_L_law tx_L_law 896 (i_cS 181 3 4 899) := s_invokestaticW hG (mi := 181) (n := 3) (cal_L_eldest (Nat.le_of_ble_eq_true rfl)) w_996 w_997 dL_law_896
theorem s_L_law_899 {X : ev_E} {l : Launch} (hG : ev_Good X) (hl : l.stackTraces = false) : ev_Snd X l ev_ms x_L_law tx_L_law 899 (i_is 5 901) := s_istore dL_law_899 (Nat.le_of_ble_eq_true rfl)
theorem s_L_law_901 {X : ev_E} {l : Launch} (hG : ev_Good X) (hl : l.stackTraces = false) : ev_Snd X l ev_ms x_L_law tx_L_law 901 (i_al 2 902) := s_aload_n dL_law_901 rfl
theorem s_L_law_902 {X : ev_E} {l : Launch} (hG : ev_Good X) (hl : l.stackTraces = false) : ev_Snd X l ev_ms x_L_law tx_L_law 902 (i_al 0 903) := s_aload_n dL_law_902 rfl
theorem s_L_law_903 {X : ev_E} {l : Launch} (hG : ev_Good X) (hl : l.stackTraces = false) : ev_Snd X l ev_ms x_L_law tx_L_law 903 (i_il 4 905) := s_iload dL_law_903
theorem s_L_law_905 {X : ev_E} {l : Launch} (hG : ev_Good X) (hl : l.stackTraces = false) : ev_Snd X l ev_ms x_L_law tx_L_law 905 (i_psh (.int (1)) 906) := s_iconst dL_law_905 rfl
theorem s_L_law_906 {X : ev_E} {l : Launch} (hG : ev_Good X) (hl : l.stackTraces = false) : ev_Snd X l ev_ms x_L_law tx_L_law 906 (i_ii (fun a b => a + b) 907) := s_iadd dL_law_906
theorem s_L_law_907 {X : ev_E} {l : Launch} (hG : ev_Good X) (hl : l.stackTraces = false) : ev_Snd X l ev_ms x_L_law tx_L_law 907 (i_ald X ev_tI 908) := s_iaload hG dL_law_907
theorem s_L_law_908 {X : ev_E} {l : Launch} (hG : ev_Good X) (hl : l.stackTraces = false) : ev_Snd X l ev_ms x_L_law tx_L_law 908 (i_cV X 232 1 13 2 911) := s_invokevirtual hG (mi := 232) (n := 1) (ci := 13) (r := (RX8, TX8, 5)) rfl (cal_X8_eldest (Nat.le_of_ble_eq_true rfl)) w_1504 w_1505 w_1506 dL_law_908
theorem s_L_law_911 {X : ev_E} {l : Launch} (hG : ev_Good X) (hl : l.stackTraces = false) : ev_Snd X l ev_ms x_L_law tx_L_law 911 (i_is 6 913) := s_istore dL_law_911 (Nat.le_of_ble_eq_true rfl)
theorem s_L_law_913 {X : ev_E} {l : Launch} (hG : ev_Good X) (hl : l.stackTraces = false) : ev_Snd X l ev_ms x_L_law tx_L_law 913 (i_goto 1714) := s_goto dL_law_913 rfl
theorem s_L_law_916 {X : ev_E} {l : Launch} (hG : ev_Good X) (hl : l.stackTraces = false) : ev_Snd X l ev_ms x_L_law tx_L_law 916 (i_al 1 917) := s_aload_n dL_law_916 rfl
theorem s_L_law_917 {X : ev_E} {l : Launch} (hG : ev_Good X) (hl : l.stackTraces = false) : ev_Snd X l ev_ms x_L_law tx_L_law 917 (i_al 0 918) := s_aload_n dL_law_917 rfl
theorem s_L_law_918 {X : ev_E} {l : Launch} (hG : ev_Good X) (hl : l.stackTraces = false) : ev_Snd X l ev_ms x_L_law tx_L_law 918 (i_il 4 920) := s_iload dL_law_918
theorem s_L_law_920 {X : ev_E} {l : Launch} (hG : ev_Good X) (hl : l.stackTraces = false) : ev_Snd X l ev_ms x_L_law tx_L_law 920 (i_psh (.int (1)) 921) := s_iconst dL_law_920 rfl
theorem s_L_law_921 {X : ev_E} {l : Launch} (hG : ev_Good X) (hl : l.stackTraces = false) : ev_Snd X l ev_ms x_L_law tx_L_law 921 (i_ii (fun a b => a + b) 922) := s_iadd dL_law_921
theorem s_L_law_922 {X : ev_E} {l : Launch} (hG : ev_Good X) (hl : l.stackTraces = false) : ev_Snd X l ev_ms x_L_law tx_L_law 922 (i_ald X ev_tI 923) := s_iaload hG dL_law_922
theorem s_L_law_923 {X : ev_E} {l : Launch} (hG : ev_Good X) (hl : l.stackTraces = false) : ev_Snd X l ev_ms x_L_law tx_L_law 923 (i_al 3 924) := s_aload_n dL_law_923 rfl
theorem s_L_law_924 {X : ev_E} {l : Launch} (hG : ev_Good X) (hl : l.stackTraces = false) : ev_Snd X l ev_ms x_L_law tx_L_law 924 (i_cS 186 3 4 927) := s_invokestaticW hG (mi := 186) (n := 3) (cal_L_latest (Nat.le_of_ble_eq_true rfl)) w_1003 w_1004 dL_law_924
theorem s_L_law_927 {X : ev_E} {l : Launch} (hG : ev_Good X) (hl : l.stackTraces = false) : ev_Snd X l ev_ms x_L_law tx_L_law 927 (i_is 5 929) := s_istore dL_law_927 (Nat.le_of_ble_eq_true rfl)
theorem s_L_law_929 {X : ev_E} {l : Launch} (hG : ev_Good X) (hl : l.stackTraces = false) : ev_Snd X l ev_ms x_L_law tx_L_law 929 (i_al 2 930) := s_aload_n dL_law_929 rfl
theorem s_L_law_930 {X : ev_E} {l : Launch} (hG : ev_Good X) (hl : l.stackTraces = false) : ev_Snd X l ev_ms x_L_law tx_L_law 930 (i_al 0 931) := s_aload_n dL_law_930 rfl
theorem s_L_law_931 {X : ev_E} {l : Launch} (hG : ev_Good X) (hl : l.stackTraces = false) : ev_Snd X l ev_ms x_L_law tx_L_law 931 (i_il 4 933) := s_iload dL_law_931
theorem s_L_law_933 {X : ev_E} {l : Launch} (hG : ev_Good X) (hl : l.stackTraces = false) : ev_Snd X l ev_ms x_L_law tx_L_law 933 (i_psh (.int (1)) 934) := s_iconst dL_law_933 rfl
theorem s_L_law_934 {X : ev_E} {l : Launch} (hG : ev_Good X) (hl : l.stackTraces = false) : ev_Snd X l ev_ms x_L_law tx_L_law 934 (i_ii (fun a b => a + b) 935) := s_iadd dL_law_934
theorem s_L_law_935 {X : ev_E} {l : Launch} (hG : ev_Good X) (hl : l.stackTraces = false) : ev_Snd X l ev_ms x_L_law tx_L_law 935 (i_ald X ev_tI 936) := s_iaload hG dL_law_935
theorem s_L_law_936 {X : ev_E} {l : Launch} (hG : ev_Good X) (hl : l.stackTraces = false) : ev_Snd X l ev_ms x_L_law tx_L_law 936 (i_cV X 236 1 13 2 939) := s_invokevirtual hG (mi := 236) (n := 1) (ci := 13) (r := (RX8, TX8, 5)) rfl (cal_X8_latest (Nat.le_of_ble_eq_true rfl)) w_1508 w_1509 w_1510 dL_law_936
theorem s_L_law_939 {X : ev_E} {l : Launch} (hG : ev_Good X) (hl : l.stackTraces = false) : ev_Snd X l ev_ms x_L_law tx_L_law 939 (i_is 6 941) := s_istore dL_law_939 (Nat.le_of_ble_eq_true rfl)
theorem s_L_law_941 {X : ev_E} {l : Launch} (hG : ev_Good X) (hl : l.stackTraces = false) : ev_Snd X l ev_ms x_L_law tx_L_law 941 (i_goto 1714) := s_goto dL_law_941 rfl
theorem s_L_law_944 {X : ev_E} {l : Launch} (hG : ev_Good X) (hl : l.stackTraces = false) : ev_Snd X l ev_ms x_L_law tx_L_law 944 (i_al 1 945) := s_aload_n dL_law_944 rfl
theorem s_L_law_945 {X : ev_E} {l : Launch} (hG : ev_Good X) (hl : l.stackTraces = false) : ev_Snd X l ev_ms x_L_law tx_L_law 945 (i_al 0 946) := s_aload_n dL_law_945 rfl
theorem s_L_law_946 {X : ev_E} {l : Launch} (hG : ev_Good X) (hl : l.stackTraces = false) : ev_Snd X l ev_ms x_L_law tx_L_law 946 (i_il 4 948) := s_iload dL_law_946
theorem s_L_law_948 {X : ev_E} {l : Launch} (hG : ev_Good X) (hl : l.stackTraces = false) : ev_Snd X l ev_ms x_L_law tx_L_law 948 (i_psh (.int (1)) 949) := s_iconst dL_law_948 rfl
theorem s_L_law_949 {X : ev_E} {l : Launch} (hG : ev_Good X) (hl : l.stackTraces = false) : ev_Snd X l ev_ms x_L_law tx_L_law 949 (i_ii (fun a b => a + b) 950) := s_iadd dL_law_949
theorem s_L_law_950 {X : ev_E} {l : Launch} (hG : ev_Good X) (hl : l.stackTraces = false) : ev_Snd X l ev_ms x_L_law tx_L_law 950 (i_ald X ev_tI 951) := s_iaload hG dL_law_950
theorem s_L_law_951 {X : ev_E} {l : Launch} (hG : ev_Good X) (hl : l.stackTraces = false) : ev_Snd X l ev_ms x_L_law tx_L_law 951 (i_al 0 952) := s_aload_n dL_law_951 rfl
theorem s_L_law_952 {X : ev_E} {l : Launch} (hG : ev_Good X) (hl : l.stackTraces = false) : ev_Snd X l ev_ms x_L_law tx_L_law 952 (i_il 4 954) := s_iload dL_law_952
theorem s_L_law_954 {X : ev_E} {l : Launch} (hG : ev_Good X) (hl : l.stackTraces = false) : ev_Snd X l ev_ms x_L_law tx_L_law 954 (i_psh (.int (2)) 955) := s_iconst dL_law_954 rfl
theorem s_L_law_955 {X : ev_E} {l : Launch} (hG : ev_Good X) (hl : l.stackTraces = false) : ev_Snd X l ev_ms x_L_law tx_L_law 955 (i_ii (fun a b => a + b) 956) := s_iadd dL_law_955
theorem s_L_law_956 {X : ev_E} {l : Launch} (hG : ev_Good X) (hl : l.stackTraces = false) : ev_Snd X l ev_ms x_L_law tx_L_law 956 (i_ald X ev_tI 957) := s_iaload hG dL_law_956
theorem s_L_law_957 {X : ev_E} {l : Launch} (hG : ev_Good X) (hl : l.stackTraces = false) : ev_Snd X l ev_ms x_L_law tx_L_law 957 (i_al 3 958) := s_aload_n dL_law_957 rfl
theorem s_L_law_958 {X : ev_E} {l : Launch} (hG : ev_Good X) (hl : l.stackTraces = false) : ev_Snd X l ev_ms x_L_law tx_L_law 958 (i_cS 305 4 5 961) := s_invokestaticW hG (mi := 305) (n := 4) (cal_L_text (Nat.le_of_ble_eq_true rfl)) w_1010 w_1011 dL_law_958
theorem s_L_law_961 {X : ev_E} {l : Launch} (hG : ev_Good X) (hl : l.stackTraces = false) : ev_Snd X l ev_ms x_L_law tx_L_law 961 (i_is 5 963) := s_istore dL_law_961 (Nat.le_of_ble_eq_true rfl)
theorem s_L_law_963 {X : ev_E} {l : Launch} (hG : ev_Good X) (hl : l.stackTraces = false) : ev_Snd X l ev_ms x_L_law tx_L_law 963 (i_al 2 964) := s_aload_n dL_law_963 rfl
theorem s_L_law_964 {X : ev_E} {l : Launch} (hG : ev_Good X) (hl : l.stackTraces = false) : ev_Snd X l ev_ms x_L_law tx_L_law 964 (i_al 0 965) := s_aload_n dL_law_964 rfl
theorem s_L_law_965 {X : ev_E} {l : Launch} (hG : ev_Good X) (hl : l.stackTraces = false) : ev_Snd X l ev_ms x_L_law tx_L_law 965 (i_il 4 967) := s_iload dL_law_965
theorem s_L_law_967 {X : ev_E} {l : Launch} (hG : ev_Good X) (hl : l.stackTraces = false) : ev_Snd X l ev_ms x_L_law tx_L_law 967 (i_psh (.int (1)) 968) := s_iconst dL_law_967 rfl
theorem s_L_law_968 {X : ev_E} {l : Launch} (hG : ev_Good X) (hl : l.stackTraces = false) : ev_Snd X l ev_ms x_L_law tx_L_law 968 (i_ii (fun a b => a + b) 969) := s_iadd dL_law_968
theorem s_L_law_969 {X : ev_E} {l : Launch} (hG : ev_Good X) (hl : l.stackTraces = false) : ev_Snd X l ev_ms x_L_law tx_L_law 969 (i_ald X ev_tI 970) := s_iaload hG dL_law_969
theorem s_L_law_970 {X : ev_E} {l : Launch} (hG : ev_Good X) (hl : l.stackTraces = false) : ev_Snd X l ev_ms x_L_law tx_L_law 970 (i_al 0 971) := s_aload_n dL_law_970 rfl
theorem s_L_law_971 {X : ev_E} {l : Launch} (hG : ev_Good X) (hl : l.stackTraces = false) : ev_Snd X l ev_ms x_L_law tx_L_law 971 (i_il 4 973) := s_iload dL_law_971
theorem s_L_law_973 {X : ev_E} {l : Launch} (hG : ev_Good X) (hl : l.stackTraces = false) : ev_Snd X l ev_ms x_L_law tx_L_law 973 (i_psh (.int (2)) 974) := s_iconst dL_law_973 rfl
theorem s_L_law_974 {X : ev_E} {l : Launch} (hG : ev_Good X) (hl : l.stackTraces = false) : ev_Snd X l ev_ms x_L_law tx_L_law 974 (i_ii (fun a b => a + b) 975) := s_iadd dL_law_974
theorem s_L_law_975 {X : ev_E} {l : Launch} (hG : ev_Good X) (hl : l.stackTraces = false) : ev_Snd X l ev_ms x_L_law tx_L_law 975 (i_ald X ev_tI 976) := s_iaload hG dL_law_975
theorem s_L_law_976 {X : ev_E} {l : Launch} (hG : ev_Good X) (hl : l.stackTraces = false) : ev_Snd X l ev_ms x_L_law tx_L_law 976 (i_cV X 296 2 13 6 979) := s_invokevirtual hG (mi := 296) (n := 2) (ci := 13) (r := (RX8, TX8, 5)) rfl (cal_X8_text (Nat.le_of_ble_eq_true rfl)) w_1512 w_1513 w_1514 dL_law_976
theorem s_L_law_979 {X : ev_E} {l : Launch} (hG : ev_Good X) (hl : l.stackTraces = false) : ev_Snd X l ev_ms x_L_law tx_L_law 979 (i_as 6 981) := s_astore dL_law_979 (Nat.le_of_ble_eq_true rfl)
theorem s_L_law_981 {X : ev_E} {l : Launch} (hG : ev_Good X) (hl : l.stackTraces = false) : ev_Snd X l ev_ms x_L_law tx_L_law 981 (i_goto 1714) := s_goto dL_law_981 rfl
theorem s_L_law_984 {X : ev_E} {l : Launch} (hG : ev_Good X) (hl : l.stackTraces = false) : ev_Snd X l ev_ms x_L_law tx_L_law 984 (i_al 1 985) := s_aload_n dL_law_984 rfl
theorem s_L_law_985 {X : ev_E} {l : Launch} (hG : ev_Good X) (hl : l.stackTraces = false) : ev_Snd X l ev_ms x_L_law tx_L_law 985 (i_al 0 986) := s_aload_n dL_law_985 rfl
theorem s_L_law_986 {X : ev_E} {l : Launch} (hG : ev_Good X) (hl : l.stackTraces = false) : ev_Snd X l ev_ms x_L_law tx_L_law 986 (i_il 4 988) := s_iload dL_law_986
theorem s_L_law_988 {X : ev_E} {l : Launch} (hG : ev_Good X) (hl : l.stackTraces = false) : ev_Snd X l ev_ms x_L_law tx_L_law 988 (i_psh (.int (1)) 989) := s_iconst dL_law_988 rfl
theorem s_L_law_989 {X : ev_E} {l : Launch} (hG : ev_Good X) (hl : l.stackTraces = false) : ev_Snd X l ev_ms x_L_law tx_L_law 989 (i_ii (fun a b => a + b) 990) := s_iadd dL_law_989
theorem s_L_law_990 {X : ev_E} {l : Launch} (hG : ev_Good X) (hl : l.stackTraces = false) : ev_Snd X l ev_ms x_L_law tx_L_law 990 (i_ald X ev_tI 991) := s_iaload hG dL_law_990
theorem s_L_law_991 {X : ev_E} {l : Launch} (hG : ev_Good X) (hl : l.stackTraces = false) : ev_Snd X l ev_ms x_L_law tx_L_law 991 (i_al 0 992) := s_aload_n dL_law_991 rfl
theorem s_L_law_992 {X : ev_E} {l : Launch} (hG : ev_Good X) (hl : l.stackTraces = false) : ev_Snd X l ev_ms x_L_law tx_L_law 992 (i_il 4 994) := s_iload dL_law_992
theorem s_L_law_994 {X : ev_E} {l : Launch} (hG : ev_Good X) (hl : l.stackTraces = false) : ev_Snd X l ev_ms x_L_law tx_L_law 994 (i_psh (.int (2)) 995) := s_iconst dL_law_994 rfl
theorem s_L_law_995 {X : ev_E} {l : Launch} (hG : ev_Good X) (hl : l.stackTraces = false) : ev_Snd X l ev_ms x_L_law tx_L_law 995 (i_ii (fun a b => a + b) 996) := s_iadd dL_law_995
theorem s_L_law_996 {X : ev_E} {l : Launch} (hG : ev_Good X) (hl : l.stackTraces = false) : ev_Snd X l ev_ms x_L_law tx_L_law 996 (i_ald X ev_tI 997) := s_iaload hG dL_law_996
theorem s_L_law_997 {X : ev_E} {l : Launch} (hG : ev_Good X) (hl : l.stackTraces = false) : ev_Snd X l ev_ms x_L_law tx_L_law 997 (i_al 3 998) := s_aload_n dL_law_997 rfl
theorem s_L_law_998 {X : ev_E} {l : Launch} (hG : ev_Good X) (hl : l.stackTraces = false) : ev_Snd X l ev_ms x_L_law tx_L_law 998 (i_cS 135 4 5 1001) := s_invokestaticW hG (mi := 135) (n := 4) (cal_L_ofTable (Nat.le_of_ble_eq_true rfl)) w_1021 w_1022 dL_law_998
theorem s_L_law_1001 {X : ev_E} {l : Launch} (hG : ev_Good X) (hl : l.stackTraces = false) : ev_Snd X l ev_ms x_L_law tx_L_law 1001 (i_is 5 1003) := s_istore dL_law_1001 (Nat.le_of_ble_eq_true rfl)
theorem s_L_law_1003 {X : ev_E} {l : Launch} (hG : ev_Good X) (hl : l.stackTraces = false) : ev_Snd X l ev_ms x_L_law tx_L_law 1003 (i_al 2 1004) := s_aload_n dL_law_1003 rfl
theorem s_L_law_1004 {X : ev_E} {l : Launch} (hG : ev_Good X) (hl : l.stackTraces = false) : ev_Snd X l ev_ms x_L_law tx_L_law 1004 (i_al 0 1005) := s_aload_n dL_law_1004 rfl
theorem s_L_law_1005 {X : ev_E} {l : Launch} (hG : ev_Good X) (hl : l.stackTraces = false) : ev_Snd X l ev_ms x_L_law tx_L_law 1005 (i_il 4 1007) := s_iload dL_law_1005
theorem s_L_law_1007 {X : ev_E} {l : Launch} (hG : ev_Good X) (hl : l.stackTraces = false) : ev_Snd X l ev_ms x_L_law tx_L_law 1007 (i_psh (.int (1)) 1008) := s_iconst dL_law_1007 rfl
theorem s_L_law_1008 {X : ev_E} {l : Launch} (hG : ev_Good X) (hl : l.stackTraces = false) : ev_Snd X l ev_ms x_L_law tx_L_law 1008 (i_ii (fun a b => a + b) 1009) := s_iadd dL_law_1008
theorem s_L_law_1009 {X : ev_E} {l : Launch} (hG : ev_Good X) (hl : l.stackTraces = false) : ev_Snd X l ev_ms x_L_law tx_L_law 1009 (i_ald X ev_tI 1010) := s_iaload hG dL_law_1009
theorem s_L_law_1010 {X : ev_E} {l : Launch} (hG : ev_Good X) (hl : l.stackTraces = false) : ev_Snd X l ev_ms x_L_law tx_L_law 1010 (i_al 0 1011) := s_aload_n dL_law_1010 rfl
theorem s_L_law_1011 {X : ev_E} {l : Launch} (hG : ev_Good X) (hl : l.stackTraces = false) : ev_Snd X l ev_ms x_L_law tx_L_law 1011 (i_il 4 1013) := s_iload dL_law_1011
theorem s_L_law_1013 {X : ev_E} {l : Launch} (hG : ev_Good X) (hl : l.stackTraces = false) : ev_Snd X l ev_ms x_L_law tx_L_law 1013 (i_psh (.int (2)) 1014) := s_iconst dL_law_1013 rfl
theorem s_L_law_1014 {X : ev_E} {l : Launch} (hG : ev_Good X) (hl : l.stackTraces = false) : ev_Snd X l ev_ms x_L_law tx_L_law 1014 (i_ii (fun a b => a + b) 1015) := s_iadd dL_law_1014
theorem s_L_law_1015 {X : ev_E} {l : Launch} (hG : ev_Good X) (hl : l.stackTraces = false) : ev_Snd X l ev_ms x_L_law tx_L_law 1015 (i_ald X ev_tI 1016) := s_iaload hG dL_law_1015
theorem s_L_law_1016 {X : ev_E} {l : Launch} (hG : ev_Good X) (hl : l.stackTraces = false) : ev_Snd X l ev_ms x_L_law tx_L_law 1016 (i_cV X 212 2 13 3 1019) := s_invokevirtual hG (mi := 212) (n := 2) (ci := 13) (r := (RX8, TX8, 5)) rfl (cal_X8_ofTable (Nat.le_of_ble_eq_true rfl)) w_1523 w_1524 w_1525 dL_law_1016
theorem s_L_law_1019 {X : ev_E} {l : Launch} (hG : ev_Good X) (hl : l.stackTraces = false) : ev_Snd X l ev_ms x_L_law tx_L_law 1019 (i_is 6 1021) := s_istore dL_law_1019 (Nat.le_of_ble_eq_true rfl)
theorem s_L_law_1021 {X : ev_E} {l : Launch} (hG : ev_Good X) (hl : l.stackTraces = false) : ev_Snd X l ev_ms x_L_law tx_L_law 1021 (i_goto 1714) := s_goto dL_law_1021 rfl
theorem s_L_law_1024 {X : ev_E} {l : Launch} (hG : ev_Good X) (hl : l.stackTraces = false) : ev_Snd X l ev_ms x_L_law tx_L_law 1024 (i_al 1 1025) := s_aload_n dL_law_1024 rfl
theorem s_L_law_1025 {X : ev_E} {l : Launch} (hG : ev_Good X) (hl : l.stackTraces = false) : ev_Snd X l ev_ms x_L_law tx_L_law 1025 (i_al 0 1026) := s_aload_n dL_law_1025 rfl
theorem s_L_law_1026 {X : ev_E} {l : Launch} (hG : ev_Good X) (hl : l.stackTraces = false) : ev_Snd X l ev_ms x_L_law tx_L_law 1026 (i_il 4 1028) := s_iload dL_law_1026
theorem s_L_law_1028 {X : ev_E} {l : Launch} (hG : ev_Good X) (hl : l.stackTraces = false) : ev_Snd X l ev_ms x_L_law tx_L_law 1028 (i_psh (.int (1)) 1029) := s_iconst dL_law_1028 rfl
theorem s_L_law_1029 {X : ev_E} {l : Launch} (hG : ev_Good X) (hl : l.stackTraces = false) : ev_Snd X l ev_ms x_L_law tx_L_law 1029 (i_ii (fun a b => a + b) 1030) := s_iadd dL_law_1029
theorem s_L_law_1030 {X : ev_E} {l : Launch} (hG : ev_Good X) (hl : l.stackTraces = false) : ev_Snd X l ev_ms x_L_law tx_L_law 1030 (i_ald X ev_tI 1031) := s_iaload hG dL_law_1030
theorem s_L_law_1031 {X : ev_E} {l : Launch} (hG : ev_Good X) (hl : l.stackTraces = false) : ev_Snd X l ev_ms x_L_law tx_L_law 1031 (i_al 0 1032) := s_aload_n dL_law_1031 rfl
theorem s_L_law_1032 {X : ev_E} {l : Launch} (hG : ev_Good X) (hl : l.stackTraces = false) : ev_Snd X l ev_ms x_L_law tx_L_law 1032 (i_il 4 1034) := s_iload dL_law_1032
theorem s_L_law_1034 {X : ev_E} {l : Launch} (hG : ev_Good X) (hl : l.stackTraces = false) : ev_Snd X l ev_ms x_L_law tx_L_law 1034 (i_psh (.int (2)) 1035) := s_iconst dL_law_1034 rfl
theorem s_L_law_1035 {X : ev_E} {l : Launch} (hG : ev_Good X) (hl : l.stackTraces = false) : ev_Snd X l ev_ms x_L_law tx_L_law 1035 (i_ii (fun a b => a + b) 1036) := s_iadd dL_law_1035
theorem s_L_law_1036 {X : ev_E} {l : Launch} (hG : ev_Good X) (hl : l.stackTraces = false) : ev_Snd X l ev_ms x_L_law tx_L_law 1036 (i_ald X ev_tI 1037) := s_iaload hG dL_law_1036
theorem s_L_law_1037 {X : ev_E} {l : Launch} (hG : ev_Good X) (hl : l.stackTraces = false) : ev_Snd X l ev_ms x_L_law tx_L_law 1037 (i_al 3 1038) := s_aload_n dL_law_1037 rfl
theorem s_L_law_1038 {X : ev_E} {l : Launch} (hG : ev_Good X) (hl : l.stackTraces = false) : ev_Snd X l ev_ms x_L_law tx_L_law 1038 (i_cS 138 4 5 1041) := s_invokestaticW hG (mi := 138) (n := 4) (cal_L_walk (Nat.le_of_ble_eq_true rfl)) w_1025 w_1026 dL_law_1038
theorem s_L_law_1041 {X : ev_E} {l : Launch} (hG : ev_Good X) (hl : l.stackTraces = false) : ev_Snd X l ev_ms x_L_law tx_L_law 1041 (i_is 5 1043) := s_istore dL_law_1041 (Nat.le_of_ble_eq_true rfl)
theorem s_L_law_1043 {X : ev_E} {l : Launch} (hG : ev_Good X) (hl : l.stackTraces = false) : ev_Snd X l ev_ms x_L_law tx_L_law 1043 (i_al 2 1044) := s_aload_n dL_law_1043 rfl
theorem s_L_law_1044 {X : ev_E} {l : Launch} (hG : ev_Good X) (hl : l.stackTraces = false) : ev_Snd X l ev_ms x_L_law tx_L_law 1044 (i_al 0 1045) := s_aload_n dL_law_1044 rfl
theorem s_L_law_1045 {X : ev_E} {l : Launch} (hG : ev_Good X) (hl : l.stackTraces = false) : ev_Snd X l ev_ms x_L_law tx_L_law 1045 (i_il 4 1047) := s_iload dL_law_1045
theorem s_L_law_1047 {X : ev_E} {l : Launch} (hG : ev_Good X) (hl : l.stackTraces = false) : ev_Snd X l ev_ms x_L_law tx_L_law 1047 (i_psh (.int (1)) 1048) := s_iconst dL_law_1047 rfl
theorem s_L_law_1048 {X : ev_E} {l : Launch} (hG : ev_Good X) (hl : l.stackTraces = false) : ev_Snd X l ev_ms x_L_law tx_L_law 1048 (i_ii (fun a b => a + b) 1049) := s_iadd dL_law_1048
theorem s_L_law_1049 {X : ev_E} {l : Launch} (hG : ev_Good X) (hl : l.stackTraces = false) : ev_Snd X l ev_ms x_L_law tx_L_law 1049 (i_ald X ev_tI 1050) := s_iaload hG dL_law_1049
theorem s_L_law_1050 {X : ev_E} {l : Launch} (hG : ev_Good X) (hl : l.stackTraces = false) : ev_Snd X l ev_ms x_L_law tx_L_law 1050 (i_al 0 1051) := s_aload_n dL_law_1050 rfl
theorem s_L_law_1051 {X : ev_E} {l : Launch} (hG : ev_Good X) (hl : l.stackTraces = false) : ev_Snd X l ev_ms x_L_law tx_L_law 1051 (i_il 4 1053) := s_iload dL_law_1051
theorem s_L_law_1053 {X : ev_E} {l : Launch} (hG : ev_Good X) (hl : l.stackTraces = false) : ev_Snd X l ev_ms x_L_law tx_L_law 1053 (i_psh (.int (2)) 1054) := s_iconst dL_law_1053 rfl
theorem s_L_law_1054 {X : ev_E} {l : Launch} (hG : ev_Good X) (hl : l.stackTraces = false) : ev_Snd X l ev_ms x_L_law tx_L_law 1054 (i_ii (fun a b => a + b) 1055) := s_iadd dL_law_1054
theorem s_L_law_1055 {X : ev_E} {l : Launch} (hG : ev_Good X) (hl : l.stackTraces = false) : ev_Snd X l ev_ms x_L_law tx_L_law 1055 (i_ald X ev_tI 1056) := s_iaload hG dL_law_1055
theorem s_L_law_1056 {X : ev_E} {l : Launch} (hG : ev_Good X) (hl : l.stackTraces = false) : ev_Snd X l ev_ms x_L_law tx_L_law 1056 (i_cV X 170 2 13 4 1059) := s_invokevirtual hG (mi := 170) (n := 2) (ci := 13) (r := (RX8, TX8, 5)) rfl (cal_X8_walk (Nat.le_of_ble_eq_true rfl)) w_1534 w_1535 w_1536 dL_law_1056
theorem s_L_law_1059 {X : ev_E} {l : Launch} (hG : ev_Good X) (hl : l.stackTraces = false) : ev_Snd X l ev_ms x_L_law tx_L_law 1059 (i_is 6 1061) := s_istore dL_law_1059 (Nat.le_of_ble_eq_true rfl)
theorem s_L_law_1061 {X : ev_E} {l : Launch} (hG : ev_Good X) (hl : l.stackTraces = false) : ev_Snd X l ev_ms x_L_law tx_L_law 1061 (i_goto 1714) := s_goto dL_law_1061 rfl
theorem s_L_law_1064 {X : ev_E} {l : Launch} (hG : ev_Good X) (hl : l.stackTraces = false) : ev_Snd X l ev_ms x_L_law tx_L_law 1064 (i_al 1 1065) := s_aload_n dL_law_1064 rfl
theorem s_L_law_1065 {X : ev_E} {l : Launch} (hG : ev_Good X) (hl : l.stackTraces = false) : ev_Snd X l ev_ms x_L_law tx_L_law 1065 (i_al 0 1066) := s_aload_n dL_law_1065 rfl
theorem s_L_law_1066 {X : ev_E} {l : Launch} (hG : ev_Good X) (hl : l.stackTraces = false) : ev_Snd X l ev_ms x_L_law tx_L_law 1066 (i_il 4 1068) := s_iload dL_law_1066
theorem s_L_law_1068 {X : ev_E} {l : Launch} (hG : ev_Good X) (hl : l.stackTraces = false) : ev_Snd X l ev_ms x_L_law tx_L_law 1068 (i_psh (.int (1)) 1069) := s_iconst dL_law_1068 rfl
theorem s_L_law_1069 {X : ev_E} {l : Launch} (hG : ev_Good X) (hl : l.stackTraces = false) : ev_Snd X l ev_ms x_L_law tx_L_law 1069 (i_ii (fun a b => a + b) 1070) := s_iadd dL_law_1069
theorem s_L_law_1070 {X : ev_E} {l : Launch} (hG : ev_Good X) (hl : l.stackTraces = false) : ev_Snd X l ev_ms x_L_law tx_L_law 1070 (i_ald X ev_tI 1071) := s_iaload hG dL_law_1070
theorem s_L_law_1071 {X : ev_E} {l : Launch} (hG : ev_Good X) (hl : l.stackTraces = false) : ev_Snd X l ev_ms x_L_law tx_L_law 1071 (i_al 3 1072) := s_aload_n dL_law_1071 rfl
theorem s_L_law_1072 {X : ev_E} {l : Launch} (hG : ev_Good X) (hl : l.stackTraces = false) : ev_Snd X l ev_ms x_L_law tx_L_law 1072 (i_cS 223 3 4 1075) := s_invokestaticW hG (mi := 223) (n := 3) (cal_L_step (Nat.le_of_ble_eq_true rfl)) w_1036 w_1037 dL_law_1072
theorem s_L_law_1075 {X : ev_E} {l : Launch} (hG : ev_Good X) (hl : l.stackTraces = false) : ev_Snd X l ev_ms x_L_law tx_L_law 1075 (i_is 5 1077) := s_istore dL_law_1075 (Nat.le_of_ble_eq_true rfl)
theorem s_L_law_1077 {X : ev_E} {l : Launch} (hG : ev_Good X) (hl : l.stackTraces = false) : ev_Snd X l ev_ms x_L_law tx_L_law 1077 (i_al 2 1078) := s_aload_n dL_law_1077 rfl
theorem s_L_law_1078 {X : ev_E} {l : Launch} (hG : ev_Good X) (hl : l.stackTraces = false) : ev_Snd X l ev_ms x_L_law tx_L_law 1078 (i_al 0 1079) := s_aload_n dL_law_1078 rfl
theorem s_L_law_1079 {X : ev_E} {l : Launch} (hG : ev_Good X) (hl : l.stackTraces = false) : ev_Snd X l ev_ms x_L_law tx_L_law 1079 (i_il 4 1081) := s_iload dL_law_1079
theorem s_L_law_1081 {X : ev_E} {l : Launch} (hG : ev_Good X) (hl : l.stackTraces = false) : ev_Snd X l ev_ms x_L_law tx_L_law 1081 (i_psh (.int (1)) 1082) := s_iconst dL_law_1081 rfl
theorem s_L_law_1082 {X : ev_E} {l : Launch} (hG : ev_Good X) (hl : l.stackTraces = false) : ev_Snd X l ev_ms x_L_law tx_L_law 1082 (i_ii (fun a b => a + b) 1083) := s_iadd dL_law_1082
theorem s_L_law_1083 {X : ev_E} {l : Launch} (hG : ev_Good X) (hl : l.stackTraces = false) : ev_Snd X l ev_ms x_L_law tx_L_law 1083 (i_ald X ev_tI 1084) := s_iaload hG dL_law_1083
theorem s_L_law_1084 {X : ev_E} {l : Launch} (hG : ev_Good X) (hl : l.stackTraces = false) : ev_Snd X l ev_ms x_L_law tx_L_law 1084 (i_cV X 241 1 13 3 1087) := s_invokevirtual hG (mi := 241) (n := 1) (ci := 13) (r := (RX8, TX8, 5)) rfl (cal_X8_step (Nat.le_of_ble_eq_true rfl)) w_1538 w_1539 w_1540 dL_law_1084
theorem s_L_law_1087 {X : ev_E} {l : Launch} (hG : ev_Good X) (hl : l.stackTraces = false) : ev_Snd X l ev_ms x_L_law tx_L_law 1087 (i_is 6 1089) := s_istore dL_law_1087 (Nat.le_of_ble_eq_true rfl)
theorem s_L_law_1089 {X : ev_E} {l : Launch} (hG : ev_Good X) (hl : l.stackTraces = false) : ev_Snd X l ev_ms x_L_law tx_L_law 1089 (i_goto 1714) := s_goto dL_law_1089 rfl
theorem s_L_law_1092 {X : ev_E} {l : Launch} (hG : ev_Good X) (hl : l.stackTraces = false) : ev_Snd X l ev_ms x_L_law tx_L_law 1092 (i_al 1 1093) := s_aload_n dL_law_1092 rfl
theorem s_L_law_1093 {X : ev_E} {l : Launch} (hG : ev_Good X) (hl : l.stackTraces = false) : ev_Snd X l ev_ms x_L_law tx_L_law 1093 (i_al 0 1094) := s_aload_n dL_law_1093 rfl
theorem s_L_law_1094 {X : ev_E} {l : Launch} (hG : ev_Good X) (hl : l.stackTraces = false) : ev_Snd X l ev_ms x_L_law tx_L_law 1094 (i_il 4 1096) := s_iload dL_law_1094
theorem s_L_law_1096 {X : ev_E} {l : Launch} (hG : ev_Good X) (hl : l.stackTraces = false) : ev_Snd X l ev_ms x_L_law tx_L_law 1096 (i_psh (.int (1)) 1097) := s_iconst dL_law_1096 rfl
theorem s_L_law_1097 {X : ev_E} {l : Launch} (hG : ev_Good X) (hl : l.stackTraces = false) : ev_Snd X l ev_ms x_L_law tx_L_law 1097 (i_ii (fun a b => a + b) 1098) := s_iadd dL_law_1097
theorem s_L_law_1098 {X : ev_E} {l : Launch} (hG : ev_Good X) (hl : l.stackTraces = false) : ev_Snd X l ev_ms x_L_law tx_L_law 1098 (i_ald X ev_tI 1099) := s_iaload hG dL_law_1098
theorem s_L_law_1099 {X : ev_E} {l : Launch} (hG : ev_Good X) (hl : l.stackTraces = false) : ev_Snd X l ev_ms x_L_law tx_L_law 1099 (i_al 3 1100) := s_aload_n dL_law_1099 rfl
theorem s_L_law_1100 {X : ev_E} {l : Launch} (hG : ev_Good X) (hl : l.stackTraces = false) : ev_Snd X l ev_ms x_L_law tx_L_law 1100 (i_cS 221 3 4 1103) := s_invokestaticW hG (mi := 221) (n := 3) (cal_L_cut (Nat.le_of_ble_eq_true rfl)) w_1049 w_1050 dL_law_1100
theorem s_L_law_1103 {X : ev_E} {l : Launch} (hG : ev_Good X) (hl : l.stackTraces = false) : ev_Snd X l ev_ms x_L_law tx_L_law 1103 (i_is 5 1105) := s_istore dL_law_1103 (Nat.le_of_ble_eq_true rfl)
theorem s_L_law_1105 {X : ev_E} {l : Launch} (hG : ev_Good X) (hl : l.stackTraces = false) : ev_Snd X l ev_ms x_L_law tx_L_law 1105 (i_al 2 1106) := s_aload_n dL_law_1105 rfl
theorem s_L_law_1106 {X : ev_E} {l : Launch} (hG : ev_Good X) (hl : l.stackTraces = false) : ev_Snd X l ev_ms x_L_law tx_L_law 1106 (i_al 0 1107) := s_aload_n dL_law_1106 rfl
theorem s_L_law_1107 {X : ev_E} {l : Launch} (hG : ev_Good X) (hl : l.stackTraces = false) : ev_Snd X l ev_ms x_L_law tx_L_law 1107 (i_il 4 1109) := s_iload dL_law_1107
theorem s_L_law_1109 {X : ev_E} {l : Launch} (hG : ev_Good X) (hl : l.stackTraces = false) : ev_Snd X l ev_ms x_L_law tx_L_law 1109 (i_psh (.int (1)) 1110) := s_iconst dL_law_1109 rfl
theorem s_L_law_1110 {X : ev_E} {l : Launch} (hG : ev_Good X) (hl : l.stackTraces = false) : ev_Snd X l ev_ms x_L_law tx_L_law 1110 (i_ii (fun a b => a + b) 1111) := s_iadd dL_law_1110
theorem s_L_law_1111 {X : ev_E} {l : Launch} (hG : ev_Good X) (hl : l.stackTraces = false) : ev_Snd X l ev_ms x_L_law tx_L_law 1111 (i_ald X ev_tI 1112) := s_iaload hG dL_law_1111
theorem s_L_law_1112 {X : ev_E} {l : Launch} (hG : ev_Good X) (hl : l.stackTraces = false) : ev_Snd X l ev_ms x_L_law tx_L_law 1112 (i_cV X 211 1 13 3 1115) := s_invokevirtual hG (mi := 211) (n := 1) (ci := 13) (r := (RX8, TX8, 5)) rfl (cal_X8_cut (Nat.le_of_ble_eq_true rfl)) w_1555 w_1556 w_1557 dL_law_1112
theorem s_L_law_1115 {X : ev_E} {l : Launch} (hG : ev_Good X) (hl : l.stackTraces = false) : ev_Snd X l ev_ms x_L_law tx_L_law 1115 (i_is 6 1117) := s_istore dL_law_1115 (Nat.le_of_ble_eq_true rfl)
theorem s_L_law_1117 {X : ev_E} {l : Launch} (hG : ev_Good X) (hl : l.stackTraces = false) : ev_Snd X l ev_ms x_L_law tx_L_law 1117 (i_goto 1714) := s_goto dL_law_1117 rfl
theorem s_L_law_1120 {X : ev_E} {l : Launch} (hG : ev_Good X) (hl : l.stackTraces = false) : ev_Snd X l ev_ms x_L_law tx_L_law 1120 (i_al 1 1121) := s_aload_n dL_law_1120 rfl
theorem s_L_law_1121 {X : ev_E} {l : Launch} (hG : ev_Good X) (hl : l.stackTraces = false) : ev_Snd X l ev_ms x_L_law tx_L_law 1121 (i_al 0 1122) := s_aload_n dL_law_1121 rfl
theorem s_L_law_1122 {X : ev_E} {l : Launch} (hG : ev_Good X) (hl : l.stackTraces = false) : ev_Snd X l ev_ms x_L_law tx_L_law 1122 (i_il 4 1124) := s_iload dL_law_1122
theorem s_L_law_1124 {X : ev_E} {l : Launch} (hG : ev_Good X) (hl : l.stackTraces = false) : ev_Snd X l ev_ms x_L_law tx_L_law 1124 (i_psh (.int (1)) 1125) := s_iconst dL_law_1124 rfl
theorem s_L_law_1125 {X : ev_E} {l : Launch} (hG : ev_Good X) (hl : l.stackTraces = false) : ev_Snd X l ev_ms x_L_law tx_L_law 1125 (i_ii (fun a b => a + b) 1126) := s_iadd dL_law_1125
theorem s_L_law_1126 {X : ev_E} {l : Launch} (hG : ev_Good X) (hl : l.stackTraces = false) : ev_Snd X l ev_ms x_L_law tx_L_law 1126 (i_ald X ev_tI 1127) := s_iaload hG dL_law_1126
theorem s_L_law_1127 {X : ev_E} {l : Launch} (hG : ev_Good X) (hl : l.stackTraces = false) : ev_Snd X l ev_ms x_L_law tx_L_law 1127 (i_al 3 1128) := s_aload_n dL_law_1127 rfl
theorem s_L_law_1128 {X : ev_E} {l : Launch} (hG : ev_Good X) (hl : l.stackTraces = false) : ev_Snd X l ev_ms x_L_law tx_L_law 1128 (i_cS 182 3 4 1131) := s_invokestaticW hG (mi := 182) (n := 3) (cal_L_hasMore (Nat.le_of_ble_eq_true rfl)) w_1065 w_1066 dL_law_1128
theorem s_L_law_1131 {X : ev_E} {l : Launch} (hG : ev_Good X) (hl : l.stackTraces = false) : ev_Snd X l ev_ms x_L_law tx_L_law 1131 (i_is 5 1133) := s_istore dL_law_1131 (Nat.le_of_ble_eq_true rfl)
theorem s_L_law_1133 {X : ev_E} {l : Launch} (hG : ev_Good X) (hl : l.stackTraces = false) : ev_Snd X l ev_ms x_L_law tx_L_law 1133 (i_al 2 1134) := s_aload_n dL_law_1133 rfl
theorem s_L_law_1134 {X : ev_E} {l : Launch} (hG : ev_Good X) (hl : l.stackTraces = false) : ev_Snd X l ev_ms x_L_law tx_L_law 1134 (i_al 0 1135) := s_aload_n dL_law_1134 rfl
theorem s_L_law_1135 {X : ev_E} {l : Launch} (hG : ev_Good X) (hl : l.stackTraces = false) : ev_Snd X l ev_ms x_L_law tx_L_law 1135 (i_il 4 1137) := s_iload dL_law_1135
theorem s_L_law_1137 {X : ev_E} {l : Launch} (hG : ev_Good X) (hl : l.stackTraces = false) : ev_Snd X l ev_ms x_L_law tx_L_law 1137 (i_psh (.int (1)) 1138) := s_iconst dL_law_1137 rfl
theorem s_L_law_1138 {X : ev_E} {l : Launch} (hG : ev_Good X) (hl : l.stackTraces = false) : ev_Snd X l ev_ms x_L_law tx_L_law 1138 (i_ii (fun a b => a + b) 1139) := s_iadd dL_law_1138
theorem s_L_law_1139 {X : ev_E} {l : Launch} (hG : ev_Good X) (hl : l.stackTraces = false) : ev_Snd X l ev_ms x_L_law tx_L_law 1139 (i_ald X ev_tI 1140) := s_iaload hG dL_law_1139
theorem s_L_law_1140 {X : ev_E} {l : Launch} (hG : ev_Good X) (hl : l.stackTraces = false) : ev_Snd X l ev_ms x_L_law tx_L_law 1140 (i_cV X 164 1 13 2 1143) := s_invokevirtual hG (mi := 164) (n := 1) (ci := 13) (r := (RX8, TX8, 5)) rfl (cal_X8_hasMore (Nat.le_of_ble_eq_true rfl)) w_1559 w_1560 w_1561 dL_law_1140
theorem s_L_law_1143 {X : ev_E} {l : Launch} (hG : ev_Good X) (hl : l.stackTraces = false) : ev_Snd X l ev_ms x_L_law tx_L_law 1143 (i_is 6 1145) := s_istore dL_law_1143 (Nat.le_of_ble_eq_true rfl)
theorem s_L_law_1145 {X : ev_E} {l : Launch} (hG : ev_Good X) (hl : l.stackTraces = false) : ev_Snd X l ev_ms x_L_law tx_L_law 1145 (i_goto 1714) := s_goto dL_law_1145 rfl
theorem s_L_law_1148 {X : ev_E} {l : Launch} (hG : ev_Good X) (hl : l.stackTraces = false) : ev_Snd X l ev_ms x_L_law tx_L_law 1148 (i_al 1 1149) := s_aload_n dL_law_1148 rfl
theorem s_L_law_1149 {X : ev_E} {l : Launch} (hG : ev_Good X) (hl : l.stackTraces = false) : ev_Snd X l ev_ms x_L_law tx_L_law 1149 (i_al 0 1150) := s_aload_n dL_law_1149 rfl
theorem s_L_law_1150 {X : ev_E} {l : Launch} (hG : ev_Good X) (hl : l.stackTraces = false) : ev_Snd X l ev_ms x_L_law tx_L_law 1150 (i_il 4 1152) := s_iload dL_law_1150
theorem s_L_law_1152 {X : ev_E} {l : Launch} (hG : ev_Good X) (hl : l.stackTraces = false) : ev_Snd X l ev_ms x_L_law tx_L_law 1152 (i_psh (.int (1)) 1153) := s_iconst dL_law_1152 rfl
theorem s_L_law_1153 {X : ev_E} {l : Launch} (hG : ev_Good X) (hl : l.stackTraces = false) : ev_Snd X l ev_ms x_L_law tx_L_law 1153 (i_ii (fun a b => a + b) 1154) := s_iadd dL_law_1153
theorem s_L_law_1154 {X : ev_E} {l : Launch} (hG : ev_Good X) (hl : l.stackTraces = false) : ev_Snd X l ev_ms x_L_law tx_L_law 1154 (i_ald X ev_tI 1155) := s_iaload hG dL_law_1154
theorem s_L_law_1155 {X : ev_E} {l : Launch} (hG : ev_Good X) (hl : l.stackTraces = false) : ev_Snd X l ev_ms x_L_law tx_L_law 1155 (i_al 3 1156) := s_aload_n dL_law_1155 rfl
theorem s_L_law_1156 {X : ev_E} {l : Launch} (hG : ev_Good X) (hl : l.stackTraces = false) : ev_Snd X l ev_ms x_L_law tx_L_law 1156 (i_cS 134 3 4 1159) := s_invokestaticW hG (mi := 134) (n := 3) (cal_L_isStale (Nat.le_of_ble_eq_true rfl)) w_1069 w_1070 dL_law_1156
theorem s_L_law_1159 {X : ev_E} {l : Launch} (hG : ev_Good X) (hl : l.stackTraces = false) : ev_Snd X l ev_ms x_L_law tx_L_law 1159 (i_is 5 1161) := s_istore dL_law_1159 (Nat.le_of_ble_eq_true rfl)
theorem s_L_law_1161 {X : ev_E} {l : Launch} (hG : ev_Good X) (hl : l.stackTraces = false) : ev_Snd X l ev_ms x_L_law tx_L_law 1161 (i_al 2 1162) := s_aload_n dL_law_1161 rfl
theorem s_L_law_1162 {X : ev_E} {l : Launch} (hG : ev_Good X) (hl : l.stackTraces = false) : ev_Snd X l ev_ms x_L_law tx_L_law 1162 (i_al 0 1163) := s_aload_n dL_law_1162 rfl
theorem s_L_law_1163 {X : ev_E} {l : Launch} (hG : ev_Good X) (hl : l.stackTraces = false) : ev_Snd X l ev_ms x_L_law tx_L_law 1163 (i_il 4 1165) := s_iload dL_law_1163
theorem s_L_law_1165 {X : ev_E} {l : Launch} (hG : ev_Good X) (hl : l.stackTraces = false) : ev_Snd X l ev_ms x_L_law tx_L_law 1165 (i_psh (.int (1)) 1166) := s_iconst dL_law_1165 rfl
theorem s_L_law_1166 {X : ev_E} {l : Launch} (hG : ev_Good X) (hl : l.stackTraces = false) : ev_Snd X l ev_ms x_L_law tx_L_law 1166 (i_ii (fun a b => a + b) 1167) := s_iadd dL_law_1166
theorem s_L_law_1167 {X : ev_E} {l : Launch} (hG : ev_Good X) (hl : l.stackTraces = false) : ev_Snd X l ev_ms x_L_law tx_L_law 1167 (i_ald X ev_tI 1168) := s_iaload hG dL_law_1167
theorem s_L_law_1168 {X : ev_E} {l : Launch} (hG : ev_Good X) (hl : l.stackTraces = false) : ev_Snd X l ev_ms x_L_law tx_L_law 1168 (i_cV X 166 1 13 2 1171) := s_invokevirtual hG (mi := 166) (n := 1) (ci := 13) (r := (RX8, TX8, 5)) rfl (cal_X8_isStale (Nat.le_of_ble_eq_true rfl)) w_1563 w_1564 w_1565 dL_law_1168
theorem s_L_law_1171 {X : ev_E} {l : Launch} (hG : ev_Good X) (hl : l.stackTraces = false) : ev_Snd X l ev_ms x_L_law tx_L_law 1171 (i_is 6 1173) := s_istore dL_law_1171 (Nat.le_of_ble_eq_true rfl)
theorem s_L_law_1173 {X : ev_E} {l : Launch} (hG : ev_Good X) (hl : l.stackTraces = false) : ev_Snd X l ev_ms x_L_law tx_L_law 1173 (i_goto 1714) := s_goto dL_law_1173 rfl
theorem s_L_law_1176 {X : ev_E} {l : Launch} (hG : ev_Good X) (hl : l.stackTraces = false) : ev_Snd X l ev_ms x_L_law tx_L_law 1176 (i_al 1 1177) := s_aload_n dL_law_1176 rfl
theorem s_L_law_1177 {X : ev_E} {l : Launch} (hG : ev_Good X) (hl : l.stackTraces = false) : ev_Snd X l ev_ms x_L_law tx_L_law 1177 (i_al 0 1178) := s_aload_n dL_law_1177 rfl
theorem s_L_law_1178 {X : ev_E} {l : Launch} (hG : ev_Good X) (hl : l.stackTraces = false) : ev_Snd X l ev_ms x_L_law tx_L_law 1178 (i_il 4 1180) := s_iload dL_law_1178
theorem s_L_law_1180 {X : ev_E} {l : Launch} (hG : ev_Good X) (hl : l.stackTraces = false) : ev_Snd X l ev_ms x_L_law tx_L_law 1180 (i_psh (.int (1)) 1181) := s_iconst dL_law_1180 rfl
theorem s_L_law_1181 {X : ev_E} {l : Launch} (hG : ev_Good X) (hl : l.stackTraces = false) : ev_Snd X l ev_ms x_L_law tx_L_law 1181 (i_ii (fun a b => a + b) 1182) := s_iadd dL_law_1181
theorem s_L_law_1182 {X : ev_E} {l : Launch} (hG : ev_Good X) (hl : l.stackTraces = false) : ev_Snd X l ev_ms x_L_law tx_L_law 1182 (i_ald X ev_tI 1183) := s_iaload hG dL_law_1182
theorem s_L_law_1183 {X : ev_E} {l : Launch} (hG : ev_Good X) (hl : l.stackTraces = false) : ev_Snd X l ev_ms x_L_law tx_L_law 1183 (i_al 3 1184) := s_aload_n dL_law_1183 rfl
theorem s_L_law_1184 {X : ev_E} {l : Launch} (hG : ev_Good X) (hl : l.stackTraces = false) : ev_Snd X l ev_ms x_L_law tx_L_law 1184 (i_cS 252 3 4 1187) := s_invokestaticW hG (mi := 252) (n := 3) (cal_L_rest (Nat.le_of_ble_eq_true rfl)) w_1073 w_1074 dL_law_1184
theorem s_L_law_1187 {X : ev_E} {l : Launch} (hG : ev_Good X) (hl : l.stackTraces = false) : ev_Snd X l ev_ms x_L_law tx_L_law 1187 (i_is 5 1189) := s_istore dL_law_1187 (Nat.le_of_ble_eq_true rfl)
theorem s_L_law_1189 {X : ev_E} {l : Launch} (hG : ev_Good X) (hl : l.stackTraces = false) : ev_Snd X l ev_ms x_L_law tx_L_law 1189 (i_al 2 1190) := s_aload_n dL_law_1189 rfl
theorem s_L_law_1190 {X : ev_E} {l : Launch} (hG : ev_Good X) (hl : l.stackTraces = false) : ev_Snd X l ev_ms x_L_law tx_L_law 1190 (i_al 0 1191) := s_aload_n dL_law_1190 rfl
theorem s_L_law_1191 {X : ev_E} {l : Launch} (hG : ev_Good X) (hl : l.stackTraces = false) : ev_Snd X l ev_ms x_L_law tx_L_law 1191 (i_il 4 1193) := s_iload dL_law_1191
theorem s_L_law_1193 {X : ev_E} {l : Launch} (hG : ev_Good X) (hl : l.stackTraces = false) : ev_Snd X l ev_ms x_L_law tx_L_law 1193 (i_psh (.int (1)) 1194) := s_iconst dL_law_1193 rfl
theorem s_L_law_1194 {X : ev_E} {l : Launch} (hG : ev_Good X) (hl : l.stackTraces = false) : ev_Snd X l ev_ms x_L_law tx_L_law 1194 (i_ii (fun a b => a + b) 1195) := s_iadd dL_law_1194
theorem s_L_law_1195 {X : ev_E} {l : Launch} (hG : ev_Good X) (hl : l.stackTraces = false) : ev_Snd X l ev_ms x_L_law tx_L_law 1195 (i_ald X ev_tI 1196) := s_iaload hG dL_law_1195
theorem s_L_law_1196 {X : ev_E} {l : Launch} (hG : ev_Good X) (hl : l.stackTraces = false) : ev_Snd X l ev_ms x_L_law tx_L_law 1196 (i_cV X 240 1 13 4 1199) := s_invokevirtual hG (mi := 240) (n := 1) (ci := 13) (r := (RX8, TX8, 5)) rfl (cal_X8_rest (Nat.le_of_ble_eq_true rfl)) w_1571 w_1572 w_1573 dL_law_1196
theorem s_L_law_1199 {X : ev_E} {l : Launch} (hG : ev_Good X) (hl : l.stackTraces = false) : ev_Snd X l ev_ms x_L_law tx_L_law 1199 (i_is 6 1201) := s_istore dL_law_1199 (Nat.le_of_ble_eq_true rfl)
theorem s_L_law_1201 {X : ev_E} {l : Launch} (hG : ev_Good X) (hl : l.stackTraces = false) : ev_Snd X l ev_ms x_L_law tx_L_law 1201 (i_goto 1714) := s_goto dL_law_1201 rfl
theorem s_L_law_1204 {X : ev_E} {l : Launch} (hG : ev_Good X) (hl : l.stackTraces = false) : ev_Snd X l ev_ms x_L_law tx_L_law 1204 (i_al 1 1205) := s_aload_n dL_law_1204 rfl
theorem s_L_law_1205 {X : ev_E} {l : Launch} (hG : ev_Good X) (hl : l.stackTraces = false) : ev_Snd X l ev_ms x_L_law tx_L_law 1205 (i_al 0 1206) := s_aload_n dL_law_1205 rfl
theorem s_L_law_1206 {X : ev_E} {l : Launch} (hG : ev_Good X) (hl : l.stackTraces = false) : ev_Snd X l ev_ms x_L_law tx_L_law 1206 (i_il 4 1208) := s_iload dL_law_1206
theorem s_L_law_1208 {X : ev_E} {l : Launch} (hG : ev_Good X) (hl : l.stackTraces = false) : ev_Snd X l ev_ms x_L_law tx_L_law 1208 (i_psh (.int (1)) 1209) := s_iconst dL_law_1208 rfl
theorem s_L_law_1209 {X : ev_E} {l : Launch} (hG : ev_Good X) (hl : l.stackTraces = false) : ev_Snd X l ev_ms x_L_law tx_L_law 1209 (i_ii (fun a b => a + b) 1210) := s_iadd dL_law_1209
theorem s_L_law_1210 {X : ev_E} {l : Launch} (hG : ev_Good X) (hl : l.stackTraces = false) : ev_Snd X l ev_ms x_L_law tx_L_law 1210 (i_ald X ev_tI 1211) := s_iaload hG dL_law_1210
theorem s_L_law_1211 {X : ev_E} {l : Launch} (hG : ev_Good X) (hl : l.stackTraces = false) : ev_Snd X l ev_ms x_L_law tx_L_law 1211 (i_al 3 1212) := s_aload_n dL_law_1211 rfl
theorem s_L_law_1212 {X : ev_E} {l : Launch} (hG : ev_Good X) (hl : l.stackTraces = false) : ev_Snd X l ev_ms x_L_law tx_L_law 1212 (i_cS 275 3 4 1215) := s_invokestaticW hG (mi := 275) (n := 3) (cal_L_ask (Nat.le_of_ble_eq_true rfl)) w_1085 w_1086 dL_law_1212
theorem s_L_law_1215 {X : ev_E} {l : Launch} (hG : ev_Good X) (hl : l.stackTraces = false) : ev_Snd X l ev_ms x_L_law tx_L_law 1215 (i_is 5 1217) := s_istore dL_law_1215 (Nat.le_of_ble_eq_true rfl)
theorem s_L_law_1217 {X : ev_E} {l : Launch} (hG : ev_Good X) (hl : l.stackTraces = false) : ev_Snd X l ev_ms x_L_law tx_L_law 1217 (i_al 2 1218) := s_aload_n dL_law_1217 rfl
theorem s_L_law_1218 {X : ev_E} {l : Launch} (hG : ev_Good X) (hl : l.stackTraces = false) : ev_Snd X l ev_ms x_L_law tx_L_law 1218 (i_al 0 1219) := s_aload_n dL_law_1218 rfl
theorem s_L_law_1219 {X : ev_E} {l : Launch} (hG : ev_Good X) (hl : l.stackTraces = false) : ev_Snd X l ev_ms x_L_law tx_L_law 1219 (i_il 4 1221) := s_iload dL_law_1219
theorem s_L_law_1221 {X : ev_E} {l : Launch} (hG : ev_Good X) (hl : l.stackTraces = false) : ev_Snd X l ev_ms x_L_law tx_L_law 1221 (i_psh (.int (1)) 1222) := s_iconst dL_law_1221 rfl
theorem s_L_law_1222 {X : ev_E} {l : Launch} (hG : ev_Good X) (hl : l.stackTraces = false) : ev_Snd X l ev_ms x_L_law tx_L_law 1222 (i_ii (fun a b => a + b) 1223) := s_iadd dL_law_1222
theorem s_L_law_1223 {X : ev_E} {l : Launch} (hG : ev_Good X) (hl : l.stackTraces = false) : ev_Snd X l ev_ms x_L_law tx_L_law 1223 (i_ald X ev_tI 1224) := s_iaload hG dL_law_1223
theorem s_L_law_1224 {X : ev_E} {l : Launch} (hG : ev_Good X) (hl : l.stackTraces = false) : ev_Snd X l ev_ms x_L_law tx_L_law 1224 (i_cV X 287 1 13 2 1227) := s_invokevirtual hG (mi := 287) (n := 1) (ci := 13) (r := (RX8, TX8, 5)) rfl (cal_X8_ask (Nat.le_of_ble_eq_true rfl)) w_1575 w_1576 w_1577 dL_law_1224
theorem s_L_law_1227 {X : ev_E} {l : Launch} (hG : ev_Good X) (hl : l.stackTraces = false) : ev_Snd X l ev_ms x_L_law tx_L_law 1227 (i_is 6 1229) := s_istore dL_law_1227 (Nat.le_of_ble_eq_true rfl)
theorem s_L_law_1229 {X : ev_E} {l : Launch} (hG : ev_Good X) (hl : l.stackTraces = false) : ev_Snd X l ev_ms x_L_law tx_L_law 1229 (i_goto 1714) := s_goto dL_law_1229 rfl
theorem s_L_law_1232 {X : ev_E} {l : Launch} (hG : ev_Good X) (hl : l.stackTraces = false) : ev_Snd X l ev_ms x_L_law tx_L_law 1232 (i_al 1 1233) := s_aload_n dL_law_1232 rfl
theorem s_L_law_1233 {X : ev_E} {l : Launch} (hG : ev_Good X) (hl : l.stackTraces = false) : ev_Snd X l ev_ms x_L_law tx_L_law 1233 (i_al 0 1234) := s_aload_n dL_law_1233 rfl
theorem s_L_law_1234 {X : ev_E} {l : Launch} (hG : ev_Good X) (hl : l.stackTraces = false) : ev_Snd X l ev_ms x_L_law tx_L_law 1234 (i_il 4 1236) := s_iload dL_law_1234
theorem s_L_law_1236 {X : ev_E} {l : Launch} (hG : ev_Good X) (hl : l.stackTraces = false) : ev_Snd X l ev_ms x_L_law tx_L_law 1236 (i_psh (.int (1)) 1237) := s_iconst dL_law_1236 rfl
theorem s_L_law_1237 {X : ev_E} {l : Launch} (hG : ev_Good X) (hl : l.stackTraces = false) : ev_Snd X l ev_ms x_L_law tx_L_law 1237 (i_ii (fun a b => a + b) 1238) := s_iadd dL_law_1237
theorem s_L_law_1238 {X : ev_E} {l : Launch} (hG : ev_Good X) (hl : l.stackTraces = false) : ev_Snd X l ev_ms x_L_law tx_L_law 1238 (i_ald X ev_tI 1239) := s_iaload hG dL_law_1238
theorem s_L_law_1239 {X : ev_E} {l : Launch} (hG : ev_Good X) (hl : l.stackTraces = false) : ev_Snd X l ev_ms x_L_law tx_L_law 1239 (i_al 0 1240) := s_aload_n dL_law_1239 rfl
theorem s_L_law_1240 {X : ev_E} {l : Launch} (hG : ev_Good X) (hl : l.stackTraces = false) : ev_Snd X l ev_ms x_L_law tx_L_law 1240 (i_il 4 1242) := s_iload dL_law_1240
theorem s_L_law_1242 {X : ev_E} {l : Launch} (hG : ev_Good X) (hl : l.stackTraces = false) : ev_Snd X l ev_ms x_L_law tx_L_law 1242 (i_psh (.int (2)) 1243) := s_iconst dL_law_1242 rfl
theorem s_L_law_1243 {X : ev_E} {l : Launch} (hG : ev_Good X) (hl : l.stackTraces = false) : ev_Snd X l ev_ms x_L_law tx_L_law 1243 (i_ii (fun a b => a + b) 1244) := s_iadd dL_law_1243
theorem s_L_law_1244 {X : ev_E} {l : Launch} (hG : ev_Good X) (hl : l.stackTraces = false) : ev_Snd X l ev_ms x_L_law tx_L_law 1244 (i_ald X ev_tI 1245) := s_iaload hG dL_law_1244
theorem s_L_law_1245 {X : ev_E} {l : Launch} (hG : ev_Good X) (hl : l.stackTraces = false) : ev_Snd X l ev_ms x_L_law tx_L_law 1245 (i_al 0 1246) := s_aload_n dL_law_1245 rfl
theorem s_L_law_1246 {X : ev_E} {l : Launch} (hG : ev_Good X) (hl : l.stackTraces = false) : ev_Snd X l ev_ms x_L_law tx_L_law 1246 (i_il 4 1248) := s_iload dL_law_1246
theorem s_L_law_1248 {X : ev_E} {l : Launch} (hG : ev_Good X) (hl : l.stackTraces = false) : ev_Snd X l ev_ms x_L_law tx_L_law 1248 (i_psh (.int (3)) 1249) := s_iconst dL_law_1248 rfl
theorem s_L_law_1249 {X : ev_E} {l : Launch} (hG : ev_Good X) (hl : l.stackTraces = false) : ev_Snd X l ev_ms x_L_law tx_L_law 1249 (i_ii (fun a b => a + b) 1250) := s_iadd dL_law_1249
theorem s_L_law_1250 {X : ev_E} {l : Launch} (hG : ev_Good X) (hl : l.stackTraces = false) : ev_Snd X l ev_ms x_L_law tx_L_law 1250 (i_ald X ev_tI 1251) := s_iaload hG dL_law_1250
theorem s_L_law_1251 {X : ev_E} {l : Launch} (hG : ev_Good X) (hl : l.stackTraces = false) : ev_Snd X l ev_ms x_L_law tx_L_law 1251 (i_al 3 1252) := s_aload_n dL_law_1251 rfl
theorem s_L_law_1252 {X : ev_E} {l : Launch} (hG : ev_Good X) (hl : l.stackTraces = false) : ev_Snd X l ev_ms x_L_law tx_L_law 1252 (i_cS 276 5 6 1255) := s_invokestaticW hG (mi := 276) (n := 5) (cal_L_askRow (Nat.le_of_ble_eq_true rfl)) w_1122 w_1123 dL_law_1252
theorem s_L_law_1255 {X : ev_E} {l : Launch} (hG : ev_Good X) (hl : l.stackTraces = false) : ev_Snd X l ev_ms x_L_law tx_L_law 1255 (i_is 5 1257) := s_istore dL_law_1255 (Nat.le_of_ble_eq_true rfl)
theorem s_L_law_1257 {X : ev_E} {l : Launch} (hG : ev_Good X) (hl : l.stackTraces = false) : ev_Snd X l ev_ms x_L_law tx_L_law 1257 (i_al 2 1258) := s_aload_n dL_law_1257 rfl
theorem s_L_law_1258 {X : ev_E} {l : Launch} (hG : ev_Good X) (hl : l.stackTraces = false) : ev_Snd X l ev_ms x_L_law tx_L_law 1258 (i_al 0 1259) := s_aload_n dL_law_1258 rfl
theorem s_L_law_1259 {X : ev_E} {l : Launch} (hG : ev_Good X) (hl : l.stackTraces = false) : ev_Snd X l ev_ms x_L_law tx_L_law 1259 (i_il 4 1261) := s_iload dL_law_1259
theorem s_L_law_1261 {X : ev_E} {l : Launch} (hG : ev_Good X) (hl : l.stackTraces = false) : ev_Snd X l ev_ms x_L_law tx_L_law 1261 (i_psh (.int (1)) 1262) := s_iconst dL_law_1261 rfl
theorem s_L_law_1262 {X : ev_E} {l : Launch} (hG : ev_Good X) (hl : l.stackTraces = false) : ev_Snd X l ev_ms x_L_law tx_L_law 1262 (i_ii (fun a b => a + b) 1263) := s_iadd dL_law_1262
theorem s_L_law_1263 {X : ev_E} {l : Launch} (hG : ev_Good X) (hl : l.stackTraces = false) : ev_Snd X l ev_ms x_L_law tx_L_law 1263 (i_ald X ev_tI 1264) := s_iaload hG dL_law_1263
theorem s_L_law_1264 {X : ev_E} {l : Launch} (hG : ev_Good X) (hl : l.stackTraces = false) : ev_Snd X l ev_ms x_L_law tx_L_law 1264 (i_al 0 1265) := s_aload_n dL_law_1264 rfl
theorem s_L_law_1265 {X : ev_E} {l : Launch} (hG : ev_Good X) (hl : l.stackTraces = false) : ev_Snd X l ev_ms x_L_law tx_L_law 1265 (i_il 4 1267) := s_iload dL_law_1265
theorem s_L_law_1267 {X : ev_E} {l : Launch} (hG : ev_Good X) (hl : l.stackTraces = false) : ev_Snd X l ev_ms x_L_law tx_L_law 1267 (i_psh (.int (2)) 1268) := s_iconst dL_law_1267 rfl
theorem s_L_law_1268 {X : ev_E} {l : Launch} (hG : ev_Good X) (hl : l.stackTraces = false) : ev_Snd X l ev_ms x_L_law tx_L_law 1268 (i_ii (fun a b => a + b) 1269) := s_iadd dL_law_1268
theorem s_L_law_1269 {X : ev_E} {l : Launch} (hG : ev_Good X) (hl : l.stackTraces = false) : ev_Snd X l ev_ms x_L_law tx_L_law 1269 (i_ald X ev_tI 1270) := s_iaload hG dL_law_1269
theorem s_L_law_1270 {X : ev_E} {l : Launch} (hG : ev_Good X) (hl : l.stackTraces = false) : ev_Snd X l ev_ms x_L_law tx_L_law 1270 (i_al 0 1271) := s_aload_n dL_law_1270 rfl
theorem s_L_law_1271 {X : ev_E} {l : Launch} (hG : ev_Good X) (hl : l.stackTraces = false) : ev_Snd X l ev_ms x_L_law tx_L_law 1271 (i_il 4 1273) := s_iload dL_law_1271
theorem s_L_law_1273 {X : ev_E} {l : Launch} (hG : ev_Good X) (hl : l.stackTraces = false) : ev_Snd X l ev_ms x_L_law tx_L_law 1273 (i_psh (.int (3)) 1274) := s_iconst dL_law_1273 rfl
theorem s_L_law_1274 {X : ev_E} {l : Launch} (hG : ev_Good X) (hl : l.stackTraces = false) : ev_Snd X l ev_ms x_L_law tx_L_law 1274 (i_ii (fun a b => a + b) 1275) := s_iadd dL_law_1274
theorem s_L_law_1275 {X : ev_E} {l : Launch} (hG : ev_Good X) (hl : l.stackTraces = false) : ev_Snd X l ev_ms x_L_law tx_L_law 1275 (i_ald X ev_tI 1276) := s_iaload hG dL_law_1275
theorem s_L_law_1276 {X : ev_E} {l : Launch} (hG : ev_Good X) (hl : l.stackTraces = false) : ev_Snd X l ev_ms x_L_law tx_L_law 1276 (i_cV X 288 3 13 6 1279) := s_invokevirtual hG (mi := 288) (n := 3) (ci := 13) (r := (RX8, TX8, 5)) rfl (cal_X8_askRow (Nat.le_of_ble_eq_true rfl)) w_1624 w_1625 w_1626 dL_law_1276
theorem s_L_law_1279 {X : ev_E} {l : Launch} (hG : ev_Good X) (hl : l.stackTraces = false) : ev_Snd X l ev_ms x_L_law tx_L_law 1279 (i_is 6 1281) := s_istore dL_law_1279 (Nat.le_of_ble_eq_true rfl)
theorem s_L_law_1281 {X : ev_E} {l : Launch} (hG : ev_Good X) (hl : l.stackTraces = false) : ev_Snd X l ev_ms x_L_law tx_L_law 1281 (i_goto 1714) := s_goto dL_law_1281 rfl
theorem s_L_law_1284 {X : ev_E} {l : Launch} (hG : ev_Good X) (hl : l.stackTraces = false) : ev_Snd X l ev_ms x_L_law tx_L_law 1284 (i_al 1 1285) := s_aload_n dL_law_1284 rfl
theorem s_L_law_1285 {X : ev_E} {l : Launch} (hG : ev_Good X) (hl : l.stackTraces = false) : ev_Snd X l ev_ms x_L_law tx_L_law 1285 (i_cV X 200 0 10 6 1288) := s_invokevirtual hG (mi := 200) (n := 0) (ci := 10) (r := (RX5, TX5, 7)) rfl (cal_X5_forget (Nat.le_of_ble_eq_true rfl)) w_239 w_240 w_241 dL_law_1285
theorem s_L_law_1288 {X : ev_E} {l : Launch} (hG : ev_Good X) (hl : l.stackTraces = false) : ev_Snd X l ev_ms x_L_law tx_L_law 1288 (i_pop 1289) := s_pop dL_law_1288
theorem s_L_law_1289 {X : ev_E} {l : Launch} (hG : ev_Good X) (hl : l.stackTraces = false) : ev_Snd X l ev_ms x_L_law tx_L_law 1289 (i_al 2 1290) := s_aload_n dL_law_1289 rfl
theorem s_L_law_1290 {X : ev_E} {l : Launch} (hG : ev_Good X) (hl : l.stackTraces = false) : ev_Snd X l ev_ms x_L_law tx_L_law 1290 (i_cV X 116 0 13 2 1293) := s_invokevirtual hG (mi := 116) (n := 0) (ci := 13) (r := (RX8, TX8, 5)) rfl (cal_X8_forget (Nat.le_of_ble_eq_true rfl)) w_1628 w_1629 w_1630 dL_law_1290
theorem s_L_law_1293 {X : ev_E} {l : Launch} (hG : ev_Good X) (hl : l.stackTraces = false) : ev_Snd X l ev_ms x_L_law tx_L_law 1293 (i_pop 1294) := s_pop dL_law_1293
theorem s_L_law_1294 {X : ev_E} {l : Launch} (hG : ev_Good X) (hl : l.stackTraces = false) : ev_Snd X l ev_ms x_L_law tx_L_law 1294 (i_goto 1714) := s_goto dL_law_1294 rfl
theorem s_L_law_1297 {X : ev_E} {l : Launch} (hG : ev_Good X) (hl : l.stackTraces = false) : ev_Snd X l ev_ms x_L_law tx_L_law 1297 (i_al 1 1298) := s_aload_n dL_law_1297 rfl
theorem s_L_law_1298 {X : ev_E} {l : Launch} (hG : ev_Good X) (hl : l.stackTraces = false) : ev_Snd X l ev_ms x_L_law tx_L_law 1298 (i_cV X 47 0 10 1 1301) := s_invokevirtual hG (mi := 47) (n := 0) (ci := 10) (r := (RX5, TX5, 7)) rfl (cal_X5_asked (Nat.le_of_ble_eq_true rfl)) w_256 w_257 w_258 dL_law_1298
theorem s_L_law_1301 {X : ev_E} {l : Launch} (hG : ev_Good X) (hl : l.stackTraces = false) : ev_Snd X l ev_ms x_L_law tx_L_law 1301 (i_pop 1302) := s_pop dL_law_1301
theorem s_L_law_1302 {X : ev_E} {l : Launch} (hG : ev_Good X) (hl : l.stackTraces = false) : ev_Snd X l ev_ms x_L_law tx_L_law 1302 (i_al 2 1303) := s_aload_n dL_law_1302 rfl
theorem s_L_law_1303 {X : ev_E} {l : Launch} (hG : ev_Good X) (hl : l.stackTraces = false) : ev_Snd X l ev_ms x_L_law tx_L_law 1303 (i_cV X 115 0 13 1 1306) := s_invokevirtual hG (mi := 115) (n := 0) (ci := 13) (r := (RX8, TX8, 5)) rfl (cal_X8_asked (Nat.le_of_ble_eq_true rfl)) w_1632 w_1633 w_1634 dL_law_1303
theorem s_L_law_1306 {X : ev_E} {l : Launch} (hG : ev_Good X) (hl : l.stackTraces = false) : ev_Snd X l ev_ms x_L_law tx_L_law 1306 (i_pop 1307) := s_pop dL_law_1306
theorem s_L_law_1307 {X : ev_E} {l : Launch} (hG : ev_Good X) (hl : l.stackTraces = false) : ev_Snd X l ev_ms x_L_law tx_L_law 1307 (i_goto 1714) := s_goto dL_law_1307 rfl
theorem s_L_law_1310 {X : ev_E} {l : Launch} (hG : ev_Good X) (hl : l.stackTraces = false) : ev_Snd X l ev_ms x_L_law tx_L_law 1310 (i_al 1 1311) := s_aload_n dL_law_1310 rfl
theorem s_L_law_1311 {X : ev_E} {l : Launch} (hG : ev_Good X) (hl : l.stackTraces = false) : ev_Snd X l ev_ms x_L_law tx_L_law 1311 (i_al 0 1312) := s_aload_n dL_law_1311 rfl
theorem s_L_law_1312 {X : ev_E} {l : Launch} (hG : ev_Good X) (hl : l.stackTraces = false) : ev_Snd X l ev_ms x_L_law tx_L_law 1312 (i_il 4 1314) := s_iload dL_law_1312
theorem s_L_law_1314 {X : ev_E} {l : Launch} (hG : ev_Good X) (hl : l.stackTraces = false) : ev_Snd X l ev_ms x_L_law tx_L_law 1314 (i_psh (.int (1)) 1315) := s_iconst dL_law_1314 rfl
theorem s_L_law_1315 {X : ev_E} {l : Launch} (hG : ev_Good X) (hl : l.stackTraces = false) : ev_Snd X l ev_ms x_L_law tx_L_law 1315 (i_ii (fun a b => a + b) 1316) := s_iadd dL_law_1315
theorem s_L_law_1316 {X : ev_E} {l : Launch} (hG : ev_Good X) (hl : l.stackTraces = false) : ev_Snd X l ev_ms x_L_law tx_L_law 1316 (i_ald X ev_tI 1317) := s_iaload hG dL_law_1316
theorem s_L_law_1317 {X : ev_E} {l : Launch} (hG : ev_Good X) (hl : l.stackTraces = false) : ev_Snd X l ev_ms x_L_law tx_L_law 1317 (i_cV X 100 1 10 2 1320) := s_invokevirtual hG (mi := 100) (n := 1) (ci := 10) (r := (RX5, TX5, 7)) rfl (cal_X5_askedAt (Nat.le_of_ble_eq_true rfl)) w_260 w_261 w_262 dL_law_1317
theorem s_L_law_1320 {X : ev_E} {l : Launch} (hG : ev_Good X) (hl : l.stackTraces = false) : ev_Snd X l ev_ms x_L_law tx_L_law 1320 (i_pop 1321) := s_pop dL_law_1320
theorem s_L_law_1321 {X : ev_E} {l : Launch} (hG : ev_Good X) (hl : l.stackTraces = false) : ev_Snd X l ev_ms x_L_law tx_L_law 1321 (i_al 2 1322) := s_aload_n dL_law_1321 rfl
theorem s_L_law_1322 {X : ev_E} {l : Launch} (hG : ev_Good X) (hl : l.stackTraces = false) : ev_Snd X l ev_ms x_L_law tx_L_law 1322 (i_al 0 1323) := s_aload_n dL_law_1322 rfl
theorem s_L_law_1323 {X : ev_E} {l : Launch} (hG : ev_Good X) (hl : l.stackTraces = false) : ev_Snd X l ev_ms x_L_law tx_L_law 1323 (i_il 4 1325) := s_iload dL_law_1323
theorem s_L_law_1325 {X : ev_E} {l : Launch} (hG : ev_Good X) (hl : l.stackTraces = false) : ev_Snd X l ev_ms x_L_law tx_L_law 1325 (i_psh (.int (1)) 1326) := s_iconst dL_law_1325 rfl
theorem s_L_law_1326 {X : ev_E} {l : Launch} (hG : ev_Good X) (hl : l.stackTraces = false) : ev_Snd X l ev_ms x_L_law tx_L_law 1326 (i_ii (fun a b => a + b) 1327) := s_iadd dL_law_1326
theorem s_L_law_1327 {X : ev_E} {l : Launch} (hG : ev_Good X) (hl : l.stackTraces = false) : ev_Snd X l ev_ms x_L_law tx_L_law 1327 (i_ald X ev_tI 1328) := s_iaload hG dL_law_1327
theorem s_L_law_1328 {X : ev_E} {l : Launch} (hG : ev_Good X) (hl : l.stackTraces = false) : ev_Snd X l ev_ms x_L_law tx_L_law 1328 (i_cV X 209 1 13 2 1331) := s_invokevirtual hG (mi := 209) (n := 1) (ci := 13) (r := (RX8, TX8, 5)) rfl (cal_X8_askedAt (Nat.le_of_ble_eq_true rfl)) w_1636 w_1637 w_1638 dL_law_1328
theorem s_L_law_1331 {X : ev_E} {l : Launch} (hG : ev_Good X) (hl : l.stackTraces = false) : ev_Snd X l ev_ms x_L_law tx_L_law 1331 (i_pop 1332) := s_pop dL_law_1331
theorem s_L_law_1332 {X : ev_E} {l : Launch} (hG : ev_Good X) (hl : l.stackTraces = false) : ev_Snd X l ev_ms x_L_law tx_L_law 1332 (i_goto 1714) := s_goto dL_law_1332 rfl
theorem s_L_law_1335 {X : ev_E} {l : Launch} (hG : ev_Good X) (hl : l.stackTraces = false) : ev_Snd X l ev_ms x_L_law tx_L_law 1335 (i_al 1 1336) := s_aload_n dL_law_1335 rfl
theorem s_L_law_1336 {X : ev_E} {l : Launch} (hG : ev_Good X) (hl : l.stackTraces = false) : ev_Snd X l ev_ms x_L_law tx_L_law 1336 (i_al 0 1337) := s_aload_n dL_law_1336 rfl
theorem s_L_law_1337 {X : ev_E} {l : Launch} (hG : ev_Good X) (hl : l.stackTraces = false) : ev_Snd X l ev_ms x_L_law tx_L_law 1337 (i_il 4 1339) := s_iload dL_law_1337
theorem s_L_law_1339 {X : ev_E} {l : Launch} (hG : ev_Good X) (hl : l.stackTraces = false) : ev_Snd X l ev_ms x_L_law tx_L_law 1339 (i_psh (.int (1)) 1340) := s_iconst dL_law_1339 rfl
theorem s_L_law_1340 {X : ev_E} {l : Launch} (hG : ev_Good X) (hl : l.stackTraces = false) : ev_Snd X l ev_ms x_L_law tx_L_law 1340 (i_ii (fun a b => a + b) 1341) := s_iadd dL_law_1340
theorem s_L_law_1341 {X : ev_E} {l : Launch} (hG : ev_Good X) (hl : l.stackTraces = false) : ev_Snd X l ev_ms x_L_law tx_L_law 1341 (i_ald X ev_tI 1342) := s_iaload hG dL_law_1341
theorem s_L_law_1342 {X : ev_E} {l : Launch} (hG : ev_Good X) (hl : l.stackTraces = false) : ev_Snd X l ev_ms x_L_law tx_L_law 1342 (i_cV X 102 1 10 2 1345) := s_invokevirtual hG (mi := 102) (n := 1) (ci := 10) (r := (RX5, TX5, 7)) rfl (cal_X5_depthAt (Nat.le_of_ble_eq_true rfl)) w_268 w_269 w_270 dL_law_1342
theorem s_L_law_1345 {X : ev_E} {l : Launch} (hG : ev_Good X) (hl : l.stackTraces = false) : ev_Snd X l ev_ms x_L_law tx_L_law 1345 (i_pop 1346) := s_pop dL_law_1345
theorem s_L_law_1346 {X : ev_E} {l : Launch} (hG : ev_Good X) (hl : l.stackTraces = false) : ev_Snd X l ev_ms x_L_law tx_L_law 1346 (i_al 2 1347) := s_aload_n dL_law_1346 rfl
theorem s_L_law_1347 {X : ev_E} {l : Launch} (hG : ev_Good X) (hl : l.stackTraces = false) : ev_Snd X l ev_ms x_L_law tx_L_law 1347 (i_al 0 1348) := s_aload_n dL_law_1347 rfl
theorem s_L_law_1348 {X : ev_E} {l : Launch} (hG : ev_Good X) (hl : l.stackTraces = false) : ev_Snd X l ev_ms x_L_law tx_L_law 1348 (i_il 4 1350) := s_iload dL_law_1348
theorem s_L_law_1350 {X : ev_E} {l : Launch} (hG : ev_Good X) (hl : l.stackTraces = false) : ev_Snd X l ev_ms x_L_law tx_L_law 1350 (i_psh (.int (1)) 1351) := s_iconst dL_law_1350 rfl
theorem s_L_law_1351 {X : ev_E} {l : Launch} (hG : ev_Good X) (hl : l.stackTraces = false) : ev_Snd X l ev_ms x_L_law tx_L_law 1351 (i_ii (fun a b => a + b) 1352) := s_iadd dL_law_1351
theorem s_L_law_1352 {X : ev_E} {l : Launch} (hG : ev_Good X) (hl : l.stackTraces = false) : ev_Snd X l ev_ms x_L_law tx_L_law 1352 (i_ald X ev_tI 1353) := s_iaload hG dL_law_1352
theorem s_L_law_1353 {X : ev_E} {l : Launch} (hG : ev_Good X) (hl : l.stackTraces = false) : ev_Snd X l ev_ms x_L_law tx_L_law 1353 (i_cV X 266 1 13 2 1356) := s_invokevirtual hG (mi := 266) (n := 1) (ci := 13) (r := (RX8, TX8, 5)) rfl (cal_X8_depthAt (Nat.le_of_ble_eq_true rfl)) w_1640 w_1641 w_1642 dL_law_1353
theorem s_L_law_1356 {X : ev_E} {l : Launch} (hG : ev_Good X) (hl : l.stackTraces = false) : ev_Snd X l ev_ms x_L_law tx_L_law 1356 (i_pop 1357) := s_pop dL_law_1356
theorem s_L_law_1357 {X : ev_E} {l : Launch} (hG : ev_Good X) (hl : l.stackTraces = false) : ev_Snd X l ev_ms x_L_law tx_L_law 1357 (i_goto 1714) := s_goto dL_law_1357 rfl
theorem s_L_law_1360 {X : ev_E} {l : Launch} (hG : ev_Good X) (hl : l.stackTraces = false) : ev_Snd X l ev_ms x_L_law tx_L_law 1360 (i_al 1 1361) := s_aload_n dL_law_1360 rfl
theorem s_L_law_1361 {X : ev_E} {l : Launch} (hG : ev_Good X) (hl : l.stackTraces = false) : ev_Snd X l ev_ms x_L_law tx_L_law 1361 (i_al 0 1362) := s_aload_n dL_law_1361 rfl
theorem s_L_law_1362 {X : ev_E} {l : Launch} (hG : ev_Good X) (hl : l.stackTraces = false) : ev_Snd X l ev_ms x_L_law tx_L_law 1362 (i_il 4 1364) := s_iload dL_law_1362
theorem s_L_law_1364 {X : ev_E} {l : Launch} (hG : ev_Good X) (hl : l.stackTraces = false) : ev_Snd X l ev_ms x_L_law tx_L_law 1364 (i_psh (.int (1)) 1365) := s_iconst dL_law_1364 rfl
theorem s_L_law_1365 {X : ev_E} {l : Launch} (hG : ev_Good X) (hl : l.stackTraces = false) : ev_Snd X l ev_ms x_L_law tx_L_law 1365 (i_ii (fun a b => a + b) 1366) := s_iadd dL_law_1365
theorem s_L_law_1366 {X : ev_E} {l : Launch} (hG : ev_Good X) (hl : l.stackTraces = false) : ev_Snd X l ev_ms x_L_law tx_L_law 1366 (i_ald X ev_tI 1367) := s_iaload hG dL_law_1366
theorem s_L_law_1367 {X : ev_E} {l : Launch} (hG : ev_Good X) (hl : l.stackTraces = false) : ev_Snd X l ev_ms x_L_law tx_L_law 1367 (i_al 3 1368) := s_aload_n dL_law_1367 rfl
theorem s_L_law_1368 {X : ev_E} {l : Launch} (hG : ev_Good X) (hl : l.stackTraces = false) : ev_Snd X l ev_ms x_L_law tx_L_law 1368 (i_cS 180 3 4 1371) := s_invokestaticW hG (mi := 180) (n := 3) (cal_L_depth (Nat.le_of_ble_eq_true rfl)) w_1131 w_1132 dL_law_1368
theorem s_L_law_1371 {X : ev_E} {l : Launch} (hG : ev_Good X) (hl : l.stackTraces = false) : ev_Snd X l ev_ms x_L_law tx_L_law 1371 (i_is 5 1373) := s_istore dL_law_1371 (Nat.le_of_ble_eq_true rfl)
theorem s_L_law_1373 {X : ev_E} {l : Launch} (hG : ev_Good X) (hl : l.stackTraces = false) : ev_Snd X l ev_ms x_L_law tx_L_law 1373 (i_al 2 1374) := s_aload_n dL_law_1373 rfl
theorem s_L_law_1374 {X : ev_E} {l : Launch} (hG : ev_Good X) (hl : l.stackTraces = false) : ev_Snd X l ev_ms x_L_law tx_L_law 1374 (i_al 0 1375) := s_aload_n dL_law_1374 rfl
theorem s_L_law_1375 {X : ev_E} {l : Launch} (hG : ev_Good X) (hl : l.stackTraces = false) : ev_Snd X l ev_ms x_L_law tx_L_law 1375 (i_il 4 1377) := s_iload dL_law_1375
theorem s_L_law_1377 {X : ev_E} {l : Launch} (hG : ev_Good X) (hl : l.stackTraces = false) : ev_Snd X l ev_ms x_L_law tx_L_law 1377 (i_psh (.int (1)) 1378) := s_iconst dL_law_1377 rfl
theorem s_L_law_1378 {X : ev_E} {l : Launch} (hG : ev_Good X) (hl : l.stackTraces = false) : ev_Snd X l ev_ms x_L_law tx_L_law 1378 (i_ii (fun a b => a + b) 1379) := s_iadd dL_law_1378
theorem s_L_law_1379 {X : ev_E} {l : Launch} (hG : ev_Good X) (hl : l.stackTraces = false) : ev_Snd X l ev_ms x_L_law tx_L_law 1379 (i_ald X ev_tI 1380) := s_iaload hG dL_law_1379
theorem s_L_law_1380 {X : ev_E} {l : Launch} (hG : ev_Good X) (hl : l.stackTraces = false) : ev_Snd X l ev_ms x_L_law tx_L_law 1380 (i_cV X 265 1 13 2 1383) := s_invokevirtual hG (mi := 265) (n := 1) (ci := 13) (r := (RX8, TX8, 5)) rfl (cal_X8_depth (Nat.le_of_ble_eq_true rfl)) w_1644 w_1645 w_1646 dL_law_1380
theorem s_L_law_1383 {X : ev_E} {l : Launch} (hG : ev_Good X) (hl : l.stackTraces = false) : ev_Snd X l ev_ms x_L_law tx_L_law 1383 (i_is 6 1385) := s_istore dL_law_1383 (Nat.le_of_ble_eq_true rfl)
theorem s_L_law_1385 {X : ev_E} {l : Launch} (hG : ev_Good X) (hl : l.stackTraces = false) : ev_Snd X l ev_ms x_L_law tx_L_law 1385 (i_goto 1714) := s_goto dL_law_1385 rfl
theorem s_L_law_1388 {X : ev_E} {l : Launch} (hG : ev_Good X) (hl : l.stackTraces = false) : ev_Snd X l ev_ms x_L_law tx_L_law 1388 (i_al 1 1389) := s_aload_n dL_law_1388 rfl
theorem s_L_law_1389 {X : ev_E} {l : Launch} (hG : ev_Good X) (hl : l.stackTraces = false) : ev_Snd X l ev_ms x_L_law tx_L_law 1389 (i_cV X 299 0 10 1 1392) := s_invokevirtual hG (mi := 299) (n := 0) (ci := 10) (r := (RX5, TX5, 7)) rfl (cal_X5_stack (Nat.le_of_ble_eq_true rfl)) w_272 w_273 w_274 dL_law_1389
theorem s_L_law_1392 {X : ev_E} {l : Launch} (hG : ev_Good X) (hl : l.stackTraces = false) : ev_Snd X l ev_ms x_L_law tx_L_law 1392 (i_pop 1393) := s_pop dL_law_1392
theorem s_L_law_1393 {X : ev_E} {l : Launch} (hG : ev_Good X) (hl : l.stackTraces = false) : ev_Snd X l ev_ms x_L_law tx_L_law 1393 (i_al 2 1394) := s_aload_n dL_law_1393 rfl
theorem s_L_law_1394 {X : ev_E} {l : Launch} (hG : ev_Good X) (hl : l.stackTraces = false) : ev_Snd X l ev_ms x_L_law tx_L_law 1394 (i_cV X 308 0 13 1 1397) := s_invokevirtual hG (mi := 308) (n := 0) (ci := 13) (r := (RX8, TX8, 5)) rfl (cal_X8_stack (Nat.le_of_ble_eq_true rfl)) w_1648 w_1649 w_1650 dL_law_1394
theorem s_L_law_1397 {X : ev_E} {l : Launch} (hG : ev_Good X) (hl : l.stackTraces = false) : ev_Snd X l ev_ms x_L_law tx_L_law 1397 (i_pop 1398) := s_pop dL_law_1397
theorem s_L_law_1398 {X : ev_E} {l : Launch} (hG : ev_Good X) (hl : l.stackTraces = false) : ev_Snd X l ev_ms x_L_law tx_L_law 1398 (i_goto 1714) := s_goto dL_law_1398 rfl
theorem s_L_law_1401 {X : ev_E} {l : Launch} (hG : ev_Good X) (hl : l.stackTraces = false) : ev_Snd X l ev_ms x_L_law tx_L_law 1401 (i_al 1 1402) := s_aload_n dL_law_1401 rfl
theorem s_L_law_1402 {X : ev_E} {l : Launch} (hG : ev_Good X) (hl : l.stackTraces = false) : ev_Snd X l ev_ms x_L_law tx_L_law 1402 (i_al 0 1403) := s_aload_n dL_law_1402 rfl
theorem s_L_law_1403 {X : ev_E} {l : Launch} (hG : ev_Good X) (hl : l.stackTraces = false) : ev_Snd X l ev_ms x_L_law tx_L_law 1403 (i_il 4 1405) := s_iload dL_law_1403
theorem s_L_law_1405 {X : ev_E} {l : Launch} (hG : ev_Good X) (hl : l.stackTraces = false) : ev_Snd X l ev_ms x_L_law tx_L_law 1405 (i_psh (.int (1)) 1406) := s_iconst dL_law_1405 rfl
theorem s_L_law_1406 {X : ev_E} {l : Launch} (hG : ev_Good X) (hl : l.stackTraces = false) : ev_Snd X l ev_ms x_L_law tx_L_law 1406 (i_ii (fun a b => a + b) 1407) := s_iadd dL_law_1406
theorem s_L_law_1407 {X : ev_E} {l : Launch} (hG : ev_Good X) (hl : l.stackTraces = false) : ev_Snd X l ev_ms x_L_law tx_L_law 1407 (i_ald X ev_tI 1408) := s_iaload hG dL_law_1407
theorem s_L_law_1408 {X : ev_E} {l : Launch} (hG : ev_Good X) (hl : l.stackTraces = false) : ev_Snd X l ev_ms x_L_law tx_L_law 1408 (i_al 3 1409) := s_aload_n dL_law_1408 rfl
theorem s_L_law_1409 {X : ev_E} {l : Launch} (hG : ev_Good X) (hl : l.stackTraces = false) : ev_Snd X l ev_ms x_L_law tx_L_law 1409 (i_cS 304 3 4 1412) := s_invokestaticW hG (mi := 304) (n := 3) (cal_L_kept (Nat.le_of_ble_eq_true rfl)) w_1138 w_1139 dL_law_1409
theorem s_L_law_1412 {X : ev_E} {l : Launch} (hG : ev_Good X) (hl : l.stackTraces = false) : ev_Snd X l ev_ms x_L_law tx_L_law 1412 (i_is 5 1414) := s_istore dL_law_1412 (Nat.le_of_ble_eq_true rfl)
theorem s_L_law_1414 {X : ev_E} {l : Launch} (hG : ev_Good X) (hl : l.stackTraces = false) : ev_Snd X l ev_ms x_L_law tx_L_law 1414 (i_al 2 1415) := s_aload_n dL_law_1414 rfl
theorem s_L_law_1415 {X : ev_E} {l : Launch} (hG : ev_Good X) (hl : l.stackTraces = false) : ev_Snd X l ev_ms x_L_law tx_L_law 1415 (i_al 0 1416) := s_aload_n dL_law_1415 rfl
theorem s_L_law_1416 {X : ev_E} {l : Launch} (hG : ev_Good X) (hl : l.stackTraces = false) : ev_Snd X l ev_ms x_L_law tx_L_law 1416 (i_il 4 1418) := s_iload dL_law_1416
theorem s_L_law_1418 {X : ev_E} {l : Launch} (hG : ev_Good X) (hl : l.stackTraces = false) : ev_Snd X l ev_ms x_L_law tx_L_law 1418 (i_psh (.int (1)) 1419) := s_iconst dL_law_1418 rfl
theorem s_L_law_1419 {X : ev_E} {l : Launch} (hG : ev_Good X) (hl : l.stackTraces = false) : ev_Snd X l ev_ms x_L_law tx_L_law 1419 (i_ii (fun a b => a + b) 1420) := s_iadd dL_law_1419
theorem s_L_law_1420 {X : ev_E} {l : Launch} (hG : ev_Good X) (hl : l.stackTraces = false) : ev_Snd X l ev_ms x_L_law tx_L_law 1420 (i_ald X ev_tI 1421) := s_iaload hG dL_law_1420
theorem s_L_law_1421 {X : ev_E} {l : Launch} (hG : ev_Good X) (hl : l.stackTraces = false) : ev_Snd X l ev_ms x_L_law tx_L_law 1421 (i_cV X 307 1 13 2 1424) := s_invokevirtual hG (mi := 307) (n := 1) (ci := 13) (r := (RX8, TX8, 5)) rfl (cal_X8_kept (Nat.le_of_ble_eq_true rfl)) w_1662 w_1663 w_1664 dL_law_1421
theorem s_L_law_1424 {X : ev_E} {l : Launch} (hG : ev_Good X) (hl : l.stackTraces = false) : ev_Snd X l ev_ms x_L_law tx_L_law 1424 (i_as 6 1426) := s_astore dL_law_1424 (Nat.le_of_ble_eq_true rfl)
theorem s_L_law_1426 {X : ev_E} {l : Launch} (hG : ev_Good X) (hl : l.stackTraces = false) : ev_Snd X l ev_ms x_L_law tx_L_law 1426 (i_goto 1714) := s_goto dL_law_1426 rfl
theorem s_L_law_1429 {X : ev_E} {l : Launch} (hG : ev_Good X) (hl : l.stackTraces = false) : ev_Snd X l ev_ms x_L_law tx_L_law 1429 (i_al 1 1430) := s_aload_n dL_law_1429 rfl
theorem s_L_law_1430 {X : ev_E} {l : Launch} (hG : ev_Good X) (hl : l.stackTraces = false) : ev_Snd X l ev_ms x_L_law tx_L_law 1430 (i_al 0 1431) := s_aload_n dL_law_1430 rfl
theorem s_L_law_1431 {X : ev_E} {l : Launch} (hG : ev_Good X) (hl : l.stackTraces = false) : ev_Snd X l ev_ms x_L_law tx_L_law 1431 (i_il 4 1433) := s_iload dL_law_1431
theorem s_L_law_1433 {X : ev_E} {l : Launch} (hG : ev_Good X) (hl : l.stackTraces = false) : ev_Snd X l ev_ms x_L_law tx_L_law 1433 (i_psh (.int (1)) 1434) := s_iconst dL_law_1433 rfl
theorem s_L_law_1434 {X : ev_E} {l : Launch} (hG : ev_Good X) (hl : l.stackTraces = false) : ev_Snd X l ev_ms x_L_law tx_L_law 1434 (i_ii (fun a b => a + b) 1435) := s_iadd dL_law_1434
theorem s_L_law_1435 {X : ev_E} {l : Launch} (hG : ev_Good X) (hl : l.stackTraces = false) : ev_Snd X l ev_ms x_L_law tx_L_law 1435 (i_ald X ev_tI 1436) := s_iaload hG dL_law_1435
theorem s_L_law_1436 {X : ev_E} {l : Launch} (hG : ev_Good X) (hl : l.stackTraces = false) : ev_Snd X l ev_ms x_L_law tx_L_law 1436 (i_al 0 1437) := s_aload_n dL_law_1436 rfl
theorem s_L_law_1437 {X : ev_E} {l : Launch} (hG : ev_Good X) (hl : l.stackTraces = false) : ev_Snd X l ev_ms x_L_law tx_L_law 1437 (i_il 4 1439) := s_iload dL_law_1437
theorem s_L_law_1439 {X : ev_E} {l : Launch} (hG : ev_Good X) (hl : l.stackTraces = false) : ev_Snd X l ev_ms x_L_law tx_L_law 1439 (i_psh (.int (2)) 1440) := s_iconst dL_law_1439 rfl
theorem s_L_law_1440 {X : ev_E} {l : Launch} (hG : ev_Good X) (hl : l.stackTraces = false) : ev_Snd X l ev_ms x_L_law tx_L_law 1440 (i_ii (fun a b => a + b) 1441) := s_iadd dL_law_1440
theorem s_L_law_1441 {X : ev_E} {l : Launch} (hG : ev_Good X) (hl : l.stackTraces = false) : ev_Snd X l ev_ms x_L_law tx_L_law 1441 (i_ald X ev_tI 1442) := s_iaload hG dL_law_1441
theorem s_L_law_1442 {X : ev_E} {l : Launch} (hG : ev_Good X) (hl : l.stackTraces = false) : ev_Snd X l ev_ms x_L_law tx_L_law 1442 (i_al 3 1443) := s_aload_n dL_law_1442 rfl
theorem s_L_law_1443 {X : ev_E} {l : Launch} (hG : ev_Good X) (hl : l.stackTraces = false) : ev_Snd X l ev_ms x_L_law tx_L_law 1443 (i_cS 184 4 5 1446) := s_invokestaticW hG (mi := 184) (n := 4) (cal_L_keeps (Nat.le_of_ble_eq_true rfl)) w_1145 w_1146 dL_law_1443
theorem s_L_law_1446 {X : ev_E} {l : Launch} (hG : ev_Good X) (hl : l.stackTraces = false) : ev_Snd X l ev_ms x_L_law tx_L_law 1446 (i_is 5 1448) := s_istore dL_law_1446 (Nat.le_of_ble_eq_true rfl)
theorem s_L_law_1448 {X : ev_E} {l : Launch} (hG : ev_Good X) (hl : l.stackTraces = false) : ev_Snd X l ev_ms x_L_law tx_L_law 1448 (i_al 2 1449) := s_aload_n dL_law_1448 rfl
theorem s_L_law_1449 {X : ev_E} {l : Launch} (hG : ev_Good X) (hl : l.stackTraces = false) : ev_Snd X l ev_ms x_L_law tx_L_law 1449 (i_al 0 1450) := s_aload_n dL_law_1449 rfl
theorem s_L_law_1450 {X : ev_E} {l : Launch} (hG : ev_Good X) (hl : l.stackTraces = false) : ev_Snd X l ev_ms x_L_law tx_L_law 1450 (i_il 4 1452) := s_iload dL_law_1450
theorem s_L_law_1452 {X : ev_E} {l : Launch} (hG : ev_Good X) (hl : l.stackTraces = false) : ev_Snd X l ev_ms x_L_law tx_L_law 1452 (i_psh (.int (1)) 1453) := s_iconst dL_law_1452 rfl
theorem s_L_law_1453 {X : ev_E} {l : Launch} (hG : ev_Good X) (hl : l.stackTraces = false) : ev_Snd X l ev_ms x_L_law tx_L_law 1453 (i_ii (fun a b => a + b) 1454) := s_iadd dL_law_1453
theorem s_L_law_1454 {X : ev_E} {l : Launch} (hG : ev_Good X) (hl : l.stackTraces = false) : ev_Snd X l ev_ms x_L_law tx_L_law 1454 (i_ald X ev_tI 1455) := s_iaload hG dL_law_1454
theorem s_L_law_1455 {X : ev_E} {l : Launch} (hG : ev_Good X) (hl : l.stackTraces = false) : ev_Snd X l ev_ms x_L_law tx_L_law 1455 (i_al 0 1456) := s_aload_n dL_law_1455 rfl
theorem s_L_law_1456 {X : ev_E} {l : Launch} (hG : ev_Good X) (hl : l.stackTraces = false) : ev_Snd X l ev_ms x_L_law tx_L_law 1456 (i_il 4 1458) := s_iload dL_law_1456
theorem s_L_law_1458 {X : ev_E} {l : Launch} (hG : ev_Good X) (hl : l.stackTraces = false) : ev_Snd X l ev_ms x_L_law tx_L_law 1458 (i_psh (.int (2)) 1459) := s_iconst dL_law_1458 rfl
theorem s_L_law_1459 {X : ev_E} {l : Launch} (hG : ev_Good X) (hl : l.stackTraces = false) : ev_Snd X l ev_ms x_L_law tx_L_law 1459 (i_ii (fun a b => a + b) 1460) := s_iadd dL_law_1459
theorem s_L_law_1460 {X : ev_E} {l : Launch} (hG : ev_Good X) (hl : l.stackTraces = false) : ev_Snd X l ev_ms x_L_law tx_L_law 1460 (i_ald X ev_tI 1461) := s_iaload hG dL_law_1460
theorem s_L_law_1461 {X : ev_E} {l : Launch} (hG : ev_Good X) (hl : l.stackTraces = false) : ev_Snd X l ev_ms x_L_law tx_L_law 1461 (i_cV X 280 2 13 3 1464) := s_invokevirtual hG (mi := 280) (n := 2) (ci := 13) (r := (RX8, TX8, 5)) rfl (cal_X8_keeps (Nat.le_of_ble_eq_true rfl)) w_1669 w_1670 w_1671 dL_law_1461
theorem s_L_law_1464 {X : ev_E} {l : Launch} (hG : ev_Good X) (hl : l.stackTraces = false) : ev_Snd X l ev_ms x_L_law tx_L_law 1464 (i_is 6 1466) := s_istore dL_law_1464 (Nat.le_of_ble_eq_true rfl)
theorem s_L_law_1466 {X : ev_E} {l : Launch} (hG : ev_Good X) (hl : l.stackTraces = false) : ev_Snd X l ev_ms x_L_law tx_L_law 1466 (i_goto 1714) := s_goto dL_law_1466 rfl
theorem s_L_law_1469 {X : ev_E} {l : Launch} (hG : ev_Good X) (hl : l.stackTraces = false) : ev_Snd X l ev_ms x_L_law tx_L_law 1469 (i_al 1 1470) := s_aload_n dL_law_1469 rfl
theorem s_L_law_1470 {X : ev_E} {l : Launch} (hG : ev_Good X) (hl : l.stackTraces = false) : ev_Snd X l ev_ms x_L_law tx_L_law 1470 (i_al 0 1471) := s_aload_n dL_law_1470 rfl
theorem s_L_law_1471 {X : ev_E} {l : Launch} (hG : ev_Good X) (hl : l.stackTraces = false) : ev_Snd X l ev_ms x_L_law tx_L_law 1471 (i_il 4 1473) := s_iload dL_law_1471
theorem s_L_law_1473 {X : ev_E} {l : Launch} (hG : ev_Good X) (hl : l.stackTraces = false) : ev_Snd X l ev_ms x_L_law tx_L_law 1473 (i_psh (.int (1)) 1474) := s_iconst dL_law_1473 rfl
theorem s_L_law_1474 {X : ev_E} {l : Launch} (hG : ev_Good X) (hl : l.stackTraces = false) : ev_Snd X l ev_ms x_L_law tx_L_law 1474 (i_ii (fun a b => a + b) 1475) := s_iadd dL_law_1474
theorem s_L_law_1475 {X : ev_E} {l : Launch} (hG : ev_Good X) (hl : l.stackTraces = false) : ev_Snd X l ev_ms x_L_law tx_L_law 1475 (i_ald X ev_tI 1476) := s_iaload hG dL_law_1475
theorem s_L_law_1476 {X : ev_E} {l : Launch} (hG : ev_Good X) (hl : l.stackTraces = false) : ev_Snd X l ev_ms x_L_law tx_L_law 1476 (i_al 0 1477) := s_aload_n dL_law_1476 rfl
theorem s_L_law_1477 {X : ev_E} {l : Launch} (hG : ev_Good X) (hl : l.stackTraces = false) : ev_Snd X l ev_ms x_L_law tx_L_law 1477 (i_il 4 1479) := s_iload dL_law_1477
theorem s_L_law_1479 {X : ev_E} {l : Launch} (hG : ev_Good X) (hl : l.stackTraces = false) : ev_Snd X l ev_ms x_L_law tx_L_law 1479 (i_psh (.int (2)) 1480) := s_iconst dL_law_1479 rfl
theorem s_L_law_1480 {X : ev_E} {l : Launch} (hG : ev_Good X) (hl : l.stackTraces = false) : ev_Snd X l ev_ms x_L_law tx_L_law 1480 (i_ii (fun a b => a + b) 1481) := s_iadd dL_law_1480
theorem s_L_law_1481 {X : ev_E} {l : Launch} (hG : ev_Good X) (hl : l.stackTraces = false) : ev_Snd X l ev_ms x_L_law tx_L_law 1481 (i_ald X ev_tI 1482) := s_iaload hG dL_law_1481
theorem s_L_law_1482 {X : ev_E} {l : Launch} (hG : ev_Good X) (hl : l.stackTraces = false) : ev_Snd X l ev_ms x_L_law tx_L_law 1482 (i_al 3 1483) := s_aload_n dL_law_1482 rfl
theorem s_L_law_1483 {X : ev_E} {l : Launch} (hG : ev_Good X) (hl : l.stackTraces = false) : ev_Snd X l ev_ms x_L_law tx_L_law 1483 (i_cS 192 4 5 1486) := s_invokestaticW hG (mi := 192) (n := 4) (cal_L_takenAt (Nat.le_of_ble_eq_true rfl)) w_1152 w_1153 dL_law_1483
theorem s_L_law_1486 {X : ev_E} {l : Launch} (hG : ev_Good X) (hl : l.stackTraces = false) : ev_Snd X l ev_ms x_L_law tx_L_law 1486 (i_is 5 1488) := s_istore dL_law_1486 (Nat.le_of_ble_eq_true rfl)
theorem s_L_law_1488 {X : ev_E} {l : Launch} (hG : ev_Good X) (hl : l.stackTraces = false) : ev_Snd X l ev_ms x_L_law tx_L_law 1488 (i_al 2 1489) := s_aload_n dL_law_1488 rfl
theorem s_L_law_1489 {X : ev_E} {l : Launch} (hG : ev_Good X) (hl : l.stackTraces = false) : ev_Snd X l ev_ms x_L_law tx_L_law 1489 (i_al 0 1490) := s_aload_n dL_law_1489 rfl
theorem s_L_law_1490 {X : ev_E} {l : Launch} (hG : ev_Good X) (hl : l.stackTraces = false) : ev_Snd X l ev_ms x_L_law tx_L_law 1490 (i_il 4 1492) := s_iload dL_law_1490
theorem s_L_law_1492 {X : ev_E} {l : Launch} (hG : ev_Good X) (hl : l.stackTraces = false) : ev_Snd X l ev_ms x_L_law tx_L_law 1492 (i_psh (.int (1)) 1493) := s_iconst dL_law_1492 rfl
theorem s_L_law_1493 {X : ev_E} {l : Launch} (hG : ev_Good X) (hl : l.stackTraces = false) : ev_Snd X l ev_ms x_L_law tx_L_law 1493 (i_ii (fun a b => a + b) 1494) := s_iadd dL_law_1493
theorem s_L_law_1494 {X : ev_E} {l : Launch} (hG : ev_Good X) (hl : l.stackTraces = false) : ev_Snd X l ev_ms x_L_law tx_L_law 1494 (i_ald X ev_tI 1495) := s_iaload hG dL_law_1494
theorem s_L_law_1495 {X : ev_E} {l : Launch} (hG : ev_Good X) (hl : l.stackTraces = false) : ev_Snd X l ev_ms x_L_law tx_L_law 1495 (i_al 0 1496) := s_aload_n dL_law_1495 rfl
theorem s_L_law_1496 {X : ev_E} {l : Launch} (hG : ev_Good X) (hl : l.stackTraces = false) : ev_Snd X l ev_ms x_L_law tx_L_law 1496 (i_il 4 1498) := s_iload dL_law_1496
theorem s_L_law_1498 {X : ev_E} {l : Launch} (hG : ev_Good X) (hl : l.stackTraces = false) : ev_Snd X l ev_ms x_L_law tx_L_law 1498 (i_psh (.int (2)) 1499) := s_iconst dL_law_1498 rfl
theorem s_L_law_1499 {X : ev_E} {l : Launch} (hG : ev_Good X) (hl : l.stackTraces = false) : ev_Snd X l ev_ms x_L_law tx_L_law 1499 (i_ii (fun a b => a + b) 1500) := s_iadd dL_law_1499
theorem s_L_law_1500 {X : ev_E} {l : Launch} (hG : ev_Good X) (hl : l.stackTraces = false) : ev_Snd X l ev_ms x_L_law tx_L_law 1500 (i_ald X ev_tI 1501) := s_iaload hG dL_law_1500
theorem s_L_law_1501 {X : ev_E} {l : Launch} (hG : ev_Good X) (hl : l.stackTraces = false) : ev_Snd X l ev_ms x_L_law tx_L_law 1501 (i_cV X 295 2 13 3 1504) := s_invokevirtual hG (mi := 295) (n := 2) (ci := 13) (r := (RX8, TX8, 5)) rfl (cal_X8_takenAt (Nat.le_of_ble_eq_true rfl)) w_1677 w_1678 w_1679 dL_law_1501
theorem s_L_law_1504 {X : ev_E} {l : Launch} (hG : ev_Good X) (hl : l.stackTraces = false) : ev_Snd X l ev_ms x_L_law tx_L_law 1504 (i_is 6 1506) := s_istore dL_law_1504 (Nat.le_of_ble_eq_true rfl)
theorem s_L_law_1506 {X : ev_E} {l : Launch} (hG : ev_Good X) (hl : l.stackTraces = false) : ev_Snd X l ev_ms x_L_law tx_L_law 1506 (i_goto 1714) := s_goto dL_law_1506 rfl
theorem s_L_law_1509 {X : ev_E} {l : Launch} (hG : ev_Good X) (hl : l.stackTraces = false) : ev_Snd X l ev_ms x_L_law tx_L_law 1509 (i_al 1 1510) := s_aload_n dL_law_1509 rfl
theorem s_L_law_1510 {X : ev_E} {l : Launch} (hG : ev_Good X) (hl : l.stackTraces = false) : ev_Snd X l ev_ms x_L_law tx_L_law 1510 (i_al 0 1511) := s_aload_n dL_law_1510 rfl
theorem s_L_law_1511 {X : ev_E} {l : Launch} (hG : ev_Good X) (hl : l.stackTraces = false) : ev_Snd X l ev_ms x_L_law tx_L_law 1511 (i_il 4 1513) := s_iload dL_law_1511
theorem s_L_law_1513 {X : ev_E} {l : Launch} (hG : ev_Good X) (hl : l.stackTraces = false) : ev_Snd X l ev_ms x_L_law tx_L_law 1513 (i_psh (.int (1)) 1514) := s_iconst dL_law_1513 rfl
theorem s_L_law_1514 {X : ev_E} {l : Launch} (hG : ev_Good X) (hl : l.stackTraces = false) : ev_Snd X l ev_ms x_L_law tx_L_law 1514 (i_ii (fun a b => a + b) 1515) := s_iadd dL_law_1514
theorem s_L_law_1515 {X : ev_E} {l : Launch} (hG : ev_Good X) (hl : l.stackTraces = false) : ev_Snd X l ev_ms x_L_law tx_L_law 1515 (i_ald X ev_tI 1516) := s_iaload hG dL_law_1515
theorem s_L_law_1516 {X : ev_E} {l : Launch} (hG : ev_Good X) (hl : l.stackTraces = false) : ev_Snd X l ev_ms x_L_law tx_L_law 1516 (i_al 3 1517) := s_aload_n dL_law_1516 rfl
theorem s_L_law_1517 {X : ev_E} {l : Launch} (hG : ev_Good X) (hl : l.stackTraces = false) : ev_Snd X l ev_ms x_L_law tx_L_law 1517 (i_cS 189 3 4 1520) := s_invokestaticW hG (mi := 189) (n := 3) (cal_L_misses (Nat.le_of_ble_eq_true rfl)) w_1156 w_1157 dL_law_1517
theorem s_L_law_1520 {X : ev_E} {l : Launch} (hG : ev_Good X) (hl : l.stackTraces = false) : ev_Snd X l ev_ms x_L_law tx_L_law 1520 (i_is 5 1522) := s_istore dL_law_1520 (Nat.le_of_ble_eq_true rfl)
theorem s_L_law_1522 {X : ev_E} {l : Launch} (hG : ev_Good X) (hl : l.stackTraces = false) : ev_Snd X l ev_ms x_L_law tx_L_law 1522 (i_al 2 1523) := s_aload_n dL_law_1522 rfl
theorem s_L_law_1523 {X : ev_E} {l : Launch} (hG : ev_Good X) (hl : l.stackTraces = false) : ev_Snd X l ev_ms x_L_law tx_L_law 1523 (i_al 0 1524) := s_aload_n dL_law_1523 rfl
theorem s_L_law_1524 {X : ev_E} {l : Launch} (hG : ev_Good X) (hl : l.stackTraces = false) : ev_Snd X l ev_ms x_L_law tx_L_law 1524 (i_il 4 1526) := s_iload dL_law_1524
theorem s_L_law_1526 {X : ev_E} {l : Launch} (hG : ev_Good X) (hl : l.stackTraces = false) : ev_Snd X l ev_ms x_L_law tx_L_law 1526 (i_psh (.int (1)) 1527) := s_iconst dL_law_1526 rfl
theorem s_L_law_1527 {X : ev_E} {l : Launch} (hG : ev_Good X) (hl : l.stackTraces = false) : ev_Snd X l ev_ms x_L_law tx_L_law 1527 (i_ii (fun a b => a + b) 1528) := s_iadd dL_law_1527
theorem s_L_law_1528 {X : ev_E} {l : Launch} (hG : ev_Good X) (hl : l.stackTraces = false) : ev_Snd X l ev_ms x_L_law tx_L_law 1528 (i_ald X ev_tI 1529) := s_iaload hG dL_law_1528
theorem s_L_law_1529 {X : ev_E} {l : Launch} (hG : ev_Good X) (hl : l.stackTraces = false) : ev_Snd X l ev_ms x_L_law tx_L_law 1529 (i_cV X 292 1 13 2 1532) := s_invokevirtual hG (mi := 292) (n := 1) (ci := 13) (r := (RX8, TX8, 5)) rfl (cal_X8_misses (Nat.le_of_ble_eq_true rfl)) w_1689 w_1690 w_1691 dL_law_1529
theorem s_L_law_1532 {X : ev_E} {l : Launch} (hG : ev_Good X) (hl : l.stackTraces = false) : ev_Snd X l ev_ms x_L_law tx_L_law 1532 (i_is 6 1534) := s_istore dL_law_1532 (Nat.le_of_ble_eq_true rfl)
theorem s_L_law_1534 {X : ev_E} {l : Launch} (hG : ev_Good X) (hl : l.stackTraces = false) : ev_Snd X l ev_ms x_L_law tx_L_law 1534 (i_goto 1714) := s_goto dL_law_1534 rfl
theorem s_L_law_1537 {X : ev_E} {l : Launch} (hG : ev_Good X) (hl : l.stackTraces = false) : ev_Snd X l ev_ms x_L_law tx_L_law 1537 (i_al 1 1538) := s_aload_n dL_law_1537 rfl
theorem s_L_law_1538 {X : ev_E} {l : Launch} (hG : ev_Good X) (hl : l.stackTraces = false) : ev_Snd X l ev_ms x_L_law tx_L_law 1538 (i_al 0 1539) := s_aload_n dL_law_1538 rfl
theorem s_L_law_1539 {X : ev_E} {l : Launch} (hG : ev_Good X) (hl : l.stackTraces = false) : ev_Snd X l ev_ms x_L_law tx_L_law 1539 (i_il 4 1541) := s_iload dL_law_1539
theorem s_L_law_1541 {X : ev_E} {l : Launch} (hG : ev_Good X) (hl : l.stackTraces = false) : ev_Snd X l ev_ms x_L_law tx_L_law 1541 (i_psh (.int (1)) 1542) := s_iconst dL_law_1541 rfl
theorem s_L_law_1542 {X : ev_E} {l : Launch} (hG : ev_Good X) (hl : l.stackTraces = false) : ev_Snd X l ev_ms x_L_law tx_L_law 1542 (i_ii (fun a b => a + b) 1543) := s_iadd dL_law_1542
theorem s_L_law_1543 {X : ev_E} {l : Launch} (hG : ev_Good X) (hl : l.stackTraces = false) : ev_Snd X l ev_ms x_L_law tx_L_law 1543 (i_ald X ev_tI 1544) := s_iaload hG dL_law_1543
theorem s_L_law_1544 {X : ev_E} {l : Launch} (hG : ev_Good X) (hl : l.stackTraces = false) : ev_Snd X l ev_ms x_L_law tx_L_law 1544 (i_al 3 1545) := s_aload_n dL_law_1544 rfl
theorem s_L_law_1545 {X : ev_E} {l : Launch} (hG : ev_Good X) (hl : l.stackTraces = false) : ev_Snd X l ev_ms x_L_law tx_L_law 1545 (i_cS 183 3 4 1548) := s_invokestaticW hG (mi := 183) (n := 3) (cal_L_hits (Nat.le_of_ble_eq_true rfl)) w_1160 w_1161 dL_law_1545
theorem s_L_law_1548 {X : ev_E} {l : Launch} (hG : ev_Good X) (hl : l.stackTraces = false) : ev_Snd X l ev_ms x_L_law tx_L_law 1548 (i_is 5 1550) := s_istore dL_law_1548 (Nat.le_of_ble_eq_true rfl)
theorem s_L_law_1550 {X : ev_E} {l : Launch} (hG : ev_Good X) (hl : l.stackTraces = false) : ev_Snd X l ev_ms x_L_law tx_L_law 1550 (i_al 2 1551) := s_aload_n dL_law_1550 rfl
theorem s_L_law_1551 {X : ev_E} {l : Launch} (hG : ev_Good X) (hl : l.stackTraces = false) : ev_Snd X l ev_ms x_L_law tx_L_law 1551 (i_al 0 1552) := s_aload_n dL_law_1551 rfl
theorem s_L_law_1552 {X : ev_E} {l : Launch} (hG : ev_Good X) (hl : l.stackTraces = false) : ev_Snd X l ev_ms x_L_law tx_L_law 1552 (i_il 4 1554) := s_iload dL_law_1552
theorem s_L_law_1554 {X : ev_E} {l : Launch} (hG : ev_Good X) (hl : l.stackTraces = false) : ev_Snd X l ev_ms x_L_law tx_L_law 1554 (i_psh (.int (1)) 1555) := s_iconst dL_law_1554 rfl
theorem s_L_law_1555 {X : ev_E} {l : Launch} (hG : ev_Good X) (hl : l.stackTraces = false) : ev_Snd X l ev_ms x_L_law tx_L_law 1555 (i_ii (fun a b => a + b) 1556) := s_iadd dL_law_1555
theorem s_L_law_1556 {X : ev_E} {l : Launch} (hG : ev_Good X) (hl : l.stackTraces = false) : ev_Snd X l ev_ms x_L_law tx_L_law 1556 (i_ald X ev_tI 1557) := s_iaload hG dL_law_1556
theorem s_L_law_1557 {X : ev_E} {l : Launch} (hG : ev_Good X) (hl : l.stackTraces = false) : ev_Snd X l ev_ms x_L_law tx_L_law 1557 (i_cV X 290 1 13 2 1560) := s_invokevirtual hG (mi := 290) (n := 1) (ci := 13) (r := (RX8, TX8, 5)) rfl (cal_X8_hits (Nat.le_of_ble_eq_true rfl)) w_1697 w_1698 w_1699 dL_law_1557
theorem s_L_law_1560 {X : ev_E} {l : Launch} (hG : ev_Good X) (hl : l.stackTraces = false) : ev_Snd X l ev_ms x_L_law tx_L_law 1560 (i_is 6 1562) := s_istore dL_law_1560 (Nat.le_of_ble_eq_true rfl)
theorem s_L_law_1562 {X : ev_E} {l : Launch} (hG : ev_Good X) (hl : l.stackTraces = false) : ev_Snd X l ev_ms x_L_law tx_L_law 1562 (i_goto 1714) := s_goto dL_law_1562 rfl
theorem s_L_law_1565 {X : ev_E} {l : Launch} (hG : ev_Good X) (hl : l.stackTraces = false) : ev_Snd X l ev_ms x_L_law tx_L_law 1565 (i_al 1 1566) := s_aload_n dL_law_1565 rfl
theorem s_L_law_1566 {X : ev_E} {l : Launch} (hG : ev_Good X) (hl : l.stackTraces = false) : ev_Snd X l ev_ms x_L_law tx_L_law 1566 (i_al 0 1567) := s_aload_n dL_law_1566 rfl
theorem s_L_law_1567 {X : ev_E} {l : Launch} (hG : ev_Good X) (hl : l.stackTraces = false) : ev_Snd X l ev_ms x_L_law tx_L_law 1567 (i_il 4 1569) := s_iload dL_law_1567
theorem s_L_law_1569 {X : ev_E} {l : Launch} (hG : ev_Good X) (hl : l.stackTraces = false) : ev_Snd X l ev_ms x_L_law tx_L_law 1569 (i_psh (.int (1)) 1570) := s_iconst dL_law_1569 rfl
theorem s_L_law_1570 {X : ev_E} {l : Launch} (hG : ev_Good X) (hl : l.stackTraces = false) : ev_Snd X l ev_ms x_L_law tx_L_law 1570 (i_ii (fun a b => a + b) 1571) := s_iadd dL_law_1570
theorem s_L_law_1571 {X : ev_E} {l : Launch} (hG : ev_Good X) (hl : l.stackTraces = false) : ev_Snd X l ev_ms x_L_law tx_L_law 1571 (i_ald X ev_tI 1572) := s_iaload hG dL_law_1571
theorem s_L_law_1572 {X : ev_E} {l : Launch} (hG : ev_Good X) (hl : l.stackTraces = false) : ev_Snd X l ev_ms x_L_law tx_L_law 1572 (i_al 3 1573) := s_aload_n dL_law_1572 rfl
theorem s_L_law_1573 {X : ev_E} {l : Launch} (hG : ev_Good X) (hl : l.stackTraces = false) : ev_Snd X l ev_ms x_L_law tx_L_law 1573 (i_cS 187 3 4 1576) := s_invokestaticW hG (mi := 187) (n := 3) (cal_L_lost (Nat.le_of_ble_eq_true rfl)) w_1167 w_1168 dL_law_1573
theorem s_L_law_1576 {X : ev_E} {l : Launch} (hG : ev_Good X) (hl : l.stackTraces = false) : ev_Snd X l ev_ms x_L_law tx_L_law 1576 (i_is 5 1578) := s_istore dL_law_1576 (Nat.le_of_ble_eq_true rfl)
theorem s_L_law_1578 {X : ev_E} {l : Launch} (hG : ev_Good X) (hl : l.stackTraces = false) : ev_Snd X l ev_ms x_L_law tx_L_law 1578 (i_al 2 1579) := s_aload_n dL_law_1578 rfl
theorem s_L_law_1579 {X : ev_E} {l : Launch} (hG : ev_Good X) (hl : l.stackTraces = false) : ev_Snd X l ev_ms x_L_law tx_L_law 1579 (i_al 0 1580) := s_aload_n dL_law_1579 rfl
theorem s_L_law_1580 {X : ev_E} {l : Launch} (hG : ev_Good X) (hl : l.stackTraces = false) : ev_Snd X l ev_ms x_L_law tx_L_law 1580 (i_il 4 1582) := s_iload dL_law_1580
theorem s_L_law_1582 {X : ev_E} {l : Launch} (hG : ev_Good X) (hl : l.stackTraces = false) : ev_Snd X l ev_ms x_L_law tx_L_law 1582 (i_psh (.int (1)) 1583) := s_iconst dL_law_1582 rfl
theorem s_L_law_1583 {X : ev_E} {l : Launch} (hG : ev_Good X) (hl : l.stackTraces = false) : ev_Snd X l ev_ms x_L_law tx_L_law 1583 (i_ii (fun a b => a + b) 1584) := s_iadd dL_law_1583
theorem s_L_law_1584 {X : ev_E} {l : Launch} (hG : ev_Good X) (hl : l.stackTraces = false) : ev_Snd X l ev_ms x_L_law tx_L_law 1584 (i_ald X ev_tI 1585) := s_iaload hG dL_law_1584
theorem s_L_law_1585 {X : ev_E} {l : Launch} (hG : ev_Good X) (hl : l.stackTraces = false) : ev_Snd X l ev_ms x_L_law tx_L_law 1585 (i_cV X 291 1 13 2 1588) := s_invokevirtual hG (mi := 291) (n := 1) (ci := 13) (r := (RX8, TX8, 5)) rfl (cal_X8_lost (Nat.le_of_ble_eq_true rfl)) w_1701 w_1702 w_1703 dL_law_1585
theorem s_L_law_1588 {X : ev_E} {l : Launch} (hG : ev_Good X) (hl : l.stackTraces = false) : ev_Snd X l ev_ms x_L_law tx_L_law 1588 (i_is 6 1590) := s_istore dL_law_1588 (Nat.le_of_ble_eq_true rfl)
theorem s_L_law_1590 {X : ev_E} {l : Launch} (hG : ev_Good X) (hl : l.stackTraces = false) : ev_Snd X l ev_ms x_L_law tx_L_law 1590 (i_goto 1714) := s_goto dL_law_1590 rfl
theorem s_L_law_1593 {X : ev_E} {l : Launch} (hG : ev_Good X) (hl : l.stackTraces = false) : ev_Snd X l ev_ms x_L_law tx_L_law 1593 (i_al 1 1594) := s_aload_n dL_law_1593 rfl
theorem s_L_law_1594 {X : ev_E} {l : Launch} (hG : ev_Good X) (hl : l.stackTraces = false) : ev_Snd X l ev_ms x_L_law tx_L_law 1594 (i_al 0 1595) := s_aload_n dL_law_1594 rfl
theorem s_L_law_1595 {X : ev_E} {l : Launch} (hG : ev_Good X) (hl : l.stackTraces = false) : ev_Snd X l ev_ms x_L_law tx_L_law 1595 (i_il 4 1597) := s_iload dL_law_1595
theorem s_L_law_1597 {X : ev_E} {l : Launch} (hG : ev_Good X) (hl : l.stackTraces = false) : ev_Snd X l ev_ms x_L_law tx_L_law 1597 (i_psh (.int (1)) 1598) := s_iconst dL_law_1597 rfl
theorem s_L_law_1598 {X : ev_E} {l : Launch} (hG : ev_Good X) (hl : l.stackTraces = false) : ev_Snd X l ev_ms x_L_law tx_L_law 1598 (i_ii (fun a b => a + b) 1599) := s_iadd dL_law_1598
theorem s_L_law_1599 {X : ev_E} {l : Launch} (hG : ev_Good X) (hl : l.stackTraces = false) : ev_Snd X l ev_ms x_L_law tx_L_law 1599 (i_ald X ev_tI 1600) := s_iaload hG dL_law_1599
theorem s_L_law_1600 {X : ev_E} {l : Launch} (hG : ev_Good X) (hl : l.stackTraces = false) : ev_Snd X l ev_ms x_L_law tx_L_law 1600 (i_cV X 113 1 10 2 1603) := s_invokevirtual hG (mi := 113) (n := 1) (ci := 10) (r := (RX5, TX5, 7)) rfl (cal_X5_withDepth (Nat.le_of_ble_eq_true rfl)) w_610 w_611 w_612 dL_law_1600
theorem s_L_law_1603 {X : ev_E} {l : Launch} (hG : ev_Good X) (hl : l.stackTraces = false) : ev_Snd X l ev_ms x_L_law tx_L_law 1603 (i_pop 1604) := s_pop dL_law_1603
theorem s_L_law_1604 {X : ev_E} {l : Launch} (hG : ev_Good X) (hl : l.stackTraces = false) : ev_Snd X l ev_ms x_L_law tx_L_law 1604 (i_al 2 1605) := s_aload_n dL_law_1604 rfl
theorem s_L_law_1605 {X : ev_E} {l : Launch} (hG : ev_Good X) (hl : l.stackTraces = false) : ev_Snd X l ev_ms x_L_law tx_L_law 1605 (i_al 0 1606) := s_aload_n dL_law_1605 rfl
theorem s_L_law_1606 {X : ev_E} {l : Launch} (hG : ev_Good X) (hl : l.stackTraces = false) : ev_Snd X l ev_ms x_L_law tx_L_law 1606 (i_il 4 1608) := s_iload dL_law_1606
theorem s_L_law_1608 {X : ev_E} {l : Launch} (hG : ev_Good X) (hl : l.stackTraces = false) : ev_Snd X l ev_ms x_L_law tx_L_law 1608 (i_psh (.int (1)) 1609) := s_iconst dL_law_1608 rfl
theorem s_L_law_1609 {X : ev_E} {l : Launch} (hG : ev_Good X) (hl : l.stackTraces = false) : ev_Snd X l ev_ms x_L_law tx_L_law 1609 (i_ii (fun a b => a + b) 1610) := s_iadd dL_law_1609
theorem s_L_law_1610 {X : ev_E} {l : Launch} (hG : ev_Good X) (hl : l.stackTraces = false) : ev_Snd X l ev_ms x_L_law tx_L_law 1610 (i_ald X ev_tI 1611) := s_iaload hG dL_law_1610
theorem s_L_law_1611 {X : ev_E} {l : Launch} (hG : ev_Good X) (hl : l.stackTraces = false) : ev_Snd X l ev_ms x_L_law tx_L_law 1611 (i_cV X 271 1 13 4 1614) := s_invokevirtual hG (mi := 271) (n := 1) (ci := 13) (r := (RX8, TX8, 5)) rfl (cal_X8_withDepth (Nat.le_of_ble_eq_true rfl)) w_1709 w_1710 w_1711 dL_law_1611
theorem s_L_law_1614 {X : ev_E} {l : Launch} (hG : ev_Good X) (hl : l.stackTraces = false) : ev_Snd X l ev_ms x_L_law tx_L_law 1614 (i_pop 1615) := s_pop dL_law_1614
theorem s_L_law_1615 {X : ev_E} {l : Launch} (hG : ev_Good X) (hl : l.stackTraces = false) : ev_Snd X l ev_ms x_L_law tx_L_law 1615 (i_goto 1714) := s_goto dL_law_1615 rfl
theorem s_L_law_1618 {X : ev_E} {l : Launch} (hG : ev_Good X) (hl : l.stackTraces = false) : ev_Snd X l ev_ms x_L_law tx_L_law 1618 (i_al 1 1619) := s_aload_n dL_law_1618 rfl
theorem s_L_law_1619 {X : ev_E} {l : Launch} (hG : ev_Good X) (hl : l.stackTraces = false) : ev_Snd X l ev_ms x_L_law tx_L_law 1619 (i_al 0 1620) := s_aload_n dL_law_1619 rfl
theorem s_L_law_1620 {X : ev_E} {l : Launch} (hG : ev_Good X) (hl : l.stackTraces = false) : ev_Snd X l ev_ms x_L_law tx_L_law 1620 (i_il 4 1622) := s_iload dL_law_1620
theorem s_L_law_1622 {X : ev_E} {l : Launch} (hG : ev_Good X) (hl : l.stackTraces = false) : ev_Snd X l ev_ms x_L_law tx_L_law 1622 (i_psh (.int (1)) 1623) := s_iconst dL_law_1622 rfl
theorem s_L_law_1623 {X : ev_E} {l : Launch} (hG : ev_Good X) (hl : l.stackTraces = false) : ev_Snd X l ev_ms x_L_law tx_L_law 1623 (i_ii (fun a b => a + b) 1624) := s_iadd dL_law_1623
theorem s_L_law_1624 {X : ev_E} {l : Launch} (hG : ev_Good X) (hl : l.stackTraces = false) : ev_Snd X l ev_ms x_L_law tx_L_law 1624 (i_ald X ev_tI 1625) := s_iaload hG dL_law_1624
theorem s_L_law_1625 {X : ev_E} {l : Launch} (hG : ev_Good X) (hl : l.stackTraces = false) : ev_Snd X l ev_ms x_L_law tx_L_law 1625 (i_al 3 1626) := s_aload_n dL_law_1625 rfl
theorem s_L_law_1626 {X : ev_E} {l : Launch} (hG : ev_Good X) (hl : l.stackTraces = false) : ev_Snd X l ev_ms x_L_law tx_L_law 1626 (i_cS 179 3 4 1629) := s_invokestaticW hG (mi := 179) (n := 3) (cal_L_best (Nat.le_of_ble_eq_true rfl)) w_1171 w_1172 dL_law_1626
theorem s_L_law_1629 {X : ev_E} {l : Launch} (hG : ev_Good X) (hl : l.stackTraces = false) : ev_Snd X l ev_ms x_L_law tx_L_law 1629 (i_is 5 1631) := s_istore dL_law_1629 (Nat.le_of_ble_eq_true rfl)
theorem s_L_law_1631 {X : ev_E} {l : Launch} (hG : ev_Good X) (hl : l.stackTraces = false) : ev_Snd X l ev_ms x_L_law tx_L_law 1631 (i_al 2 1632) := s_aload_n dL_law_1631 rfl
theorem s_L_law_1632 {X : ev_E} {l : Launch} (hG : ev_Good X) (hl : l.stackTraces = false) : ev_Snd X l ev_ms x_L_law tx_L_law 1632 (i_al 0 1633) := s_aload_n dL_law_1632 rfl
theorem s_L_law_1633 {X : ev_E} {l : Launch} (hG : ev_Good X) (hl : l.stackTraces = false) : ev_Snd X l ev_ms x_L_law tx_L_law 1633 (i_il 4 1635) := s_iload dL_law_1633
theorem s_L_law_1635 {X : ev_E} {l : Launch} (hG : ev_Good X) (hl : l.stackTraces = false) : ev_Snd X l ev_ms x_L_law tx_L_law 1635 (i_psh (.int (1)) 1636) := s_iconst dL_law_1635 rfl
theorem s_L_law_1636 {X : ev_E} {l : Launch} (hG : ev_Good X) (hl : l.stackTraces = false) : ev_Snd X l ev_ms x_L_law tx_L_law 1636 (i_ii (fun a b => a + b) 1637) := s_iadd dL_law_1636
theorem s_L_law_1637 {X : ev_E} {l : Launch} (hG : ev_Good X) (hl : l.stackTraces = false) : ev_Snd X l ev_ms x_L_law tx_L_law 1637 (i_ald X ev_tI 1638) := s_iaload hG dL_law_1637
theorem s_L_law_1638 {X : ev_E} {l : Launch} (hG : ev_Good X) (hl : l.stackTraces = false) : ev_Snd X l ev_ms x_L_law tx_L_law 1638 (i_cV X 255 1 13 2 1641) := s_invokevirtual hG (mi := 255) (n := 1) (ci := 13) (r := (RX8, TX8, 5)) rfl (cal_X8_best (Nat.le_of_ble_eq_true rfl)) w_1713 w_1714 w_1715 dL_law_1638
theorem s_L_law_1641 {X : ev_E} {l : Launch} (hG : ev_Good X) (hl : l.stackTraces = false) : ev_Snd X l ev_ms x_L_law tx_L_law 1641 (i_is 6 1643) := s_istore dL_law_1641 (Nat.le_of_ble_eq_true rfl)
theorem s_L_law_1643 {X : ev_E} {l : Launch} (hG : ev_Good X) (hl : l.stackTraces = false) : ev_Snd X l ev_ms x_L_law tx_L_law 1643 (i_goto 1714) := s_goto dL_law_1643 rfl
theorem s_L_law_1646 {X : ev_E} {l : Launch} (hG : ev_Good X) (hl : l.stackTraces = false) : ev_Snd X l ev_ms x_L_law tx_L_law 1646 (i_al 1 1647) := s_aload_n dL_law_1646 rfl
theorem s_L_law_1647 {X : ev_E} {l : Launch} (hG : ev_Good X) (hl : l.stackTraces = false) : ev_Snd X l ev_ms x_L_law tx_L_law 1647 (i_al 0 1648) := s_aload_n dL_law_1647 rfl
theorem s_L_law_1648 {X : ev_E} {l : Launch} (hG : ev_Good X) (hl : l.stackTraces = false) : ev_Snd X l ev_ms x_L_law tx_L_law 1648 (i_il 4 1650) := s_iload dL_law_1648
theorem s_L_law_1650 {X : ev_E} {l : Launch} (hG : ev_Good X) (hl : l.stackTraces = false) : ev_Snd X l ev_ms x_L_law tx_L_law 1650 (i_psh (.int (1)) 1651) := s_iconst dL_law_1650 rfl
theorem s_L_law_1651 {X : ev_E} {l : Launch} (hG : ev_Good X) (hl : l.stackTraces = false) : ev_Snd X l ev_ms x_L_law tx_L_law 1651 (i_ii (fun a b => a + b) 1652) := s_iadd dL_law_1651
theorem s_L_law_1652 {X : ev_E} {l : Launch} (hG : ev_Good X) (hl : l.stackTraces = false) : ev_Snd X l ev_ms x_L_law tx_L_law 1652 (i_ald X ev_tI 1653) := s_iaload hG dL_law_1652
theorem s_L_law_1653 {X : ev_E} {l : Launch} (hG : ev_Good X) (hl : l.stackTraces = false) : ev_Snd X l ev_ms x_L_law tx_L_law 1653 (i_al 3 1654) := s_aload_n dL_law_1653 rfl
theorem s_L_law_1654 {X : ev_E} {l : Launch} (hG : ev_Good X) (hl : l.stackTraces = false) : ev_Snd X l ev_ms x_L_law tx_L_law 1654 (i_cS 133 3 4 1657) := s_invokestaticW hG (mi := 133) (n := 3) (cal_L_house (Nat.le_of_ble_eq_true rfl)) w_1175 w_1176 dL_law_1654
theorem s_L_law_1657 {X : ev_E} {l : Launch} (hG : ev_Good X) (hl : l.stackTraces = false) : ev_Snd X l ev_ms x_L_law tx_L_law 1657 (i_is 5 1659) := s_istore dL_law_1657 (Nat.le_of_ble_eq_true rfl)
theorem s_L_law_1659 {X : ev_E} {l : Launch} (hG : ev_Good X) (hl : l.stackTraces = false) : ev_Snd X l ev_ms x_L_law tx_L_law 1659 (i_al 2 1660) := s_aload_n dL_law_1659 rfl
theorem s_L_law_1660 {X : ev_E} {l : Launch} (hG : ev_Good X) (hl : l.stackTraces = false) : ev_Snd X l ev_ms x_L_law tx_L_law 1660 (i_al 0 1661) := s_aload_n dL_law_1660 rfl
theorem s_L_law_1661 {X : ev_E} {l : Launch} (hG : ev_Good X) (hl : l.stackTraces = false) : ev_Snd X l ev_ms x_L_law tx_L_law 1661 (i_il 4 1663) := s_iload dL_law_1661
theorem s_L_law_1663 {X : ev_E} {l : Launch} (hG : ev_Good X) (hl : l.stackTraces = false) : ev_Snd X l ev_ms x_L_law tx_L_law 1663 (i_psh (.int (1)) 1664) := s_iconst dL_law_1663 rfl
theorem s_L_law_1664 {X : ev_E} {l : Launch} (hG : ev_Good X) (hl : l.stackTraces = false) : ev_Snd X l ev_ms x_L_law tx_L_law 1664 (i_ii (fun a b => a + b) 1665) := s_iadd dL_law_1664
theorem s_L_law_1665 {X : ev_E} {l : Launch} (hG : ev_Good X) (hl : l.stackTraces = false) : ev_Snd X l ev_ms x_L_law tx_L_law 1665 (i_ald X ev_tI 1666) := s_iaload hG dL_law_1665
theorem s_L_law_1666 {X : ev_E} {l : Launch} (hG : ev_Good X) (hl : l.stackTraces = false) : ev_Snd X l ev_ms x_L_law tx_L_law 1666 (i_cV X 267 1 13 2 1669) := s_invokevirtual hG (mi := 267) (n := 1) (ci := 13) (r := (RX8, TX8, 5)) rfl (cal_X8_house (Nat.le_of_ble_eq_true rfl)) w_1721 w_1722 w_1723 dL_law_1666
theorem s_L_law_1669 {X : ev_E} {l : Launch} (hG : ev_Good X) (hl : l.stackTraces = false) : ev_Snd X l ev_ms x_L_law tx_L_law 1669 (i_is 6 1671) := s_istore dL_law_1669 (Nat.le_of_ble_eq_true rfl)
theorem s_L_law_1671 {X : ev_E} {l : Launch} (hG : ev_Good X) (hl : l.stackTraces = false) : ev_Snd X l ev_ms x_L_law tx_L_law 1671 (i_goto 1714) := s_goto dL_law_1671 rfl
theorem s_L_law_1674 {X : ev_E} {l : Launch} (hG : ev_Good X) (hl : l.stackTraces = false) : ev_Snd X l ev_ms x_L_law tx_L_law 1674 (i_al 1 1675) := s_aload_n dL_law_1674 rfl
theorem s_L_law_1675 {X : ev_E} {l : Launch} (hG : ev_Good X) (hl : l.stackTraces = false) : ev_Snd X l ev_ms x_L_law tx_L_law 1675 (i_cV X 55 0 10 1 1678) := s_invokevirtual hG (mi := 55) (n := 0) (ci := 10) (r := (RX5, TX5, 7)) rfl (cal_X5_knock (Nat.le_of_ble_eq_true rfl)) w_618 w_619 w_620 dL_law_1675
theorem s_L_law_1678 {X : ev_E} {l : Launch} (hG : ev_Good X) (hl : l.stackTraces = false) : ev_Snd X l ev_ms x_L_law tx_L_law 1678 (i_pop 1679) := s_pop dL_law_1678
theorem s_L_law_1679 {X : ev_E} {l : Launch} (hG : ev_Good X) (hl : l.stackTraces = false) : ev_Snd X l ev_ms x_L_law tx_L_law 1679 (i_al 2 1680) := s_aload_n dL_law_1679 rfl
theorem s_L_law_1680 {X : ev_E} {l : Launch} (hG : ev_Good X) (hl : l.stackTraces = false) : ev_Snd X l ev_ms x_L_law tx_L_law 1680 (i_cV X 68 0 13 1 1683) := s_invokevirtual hG (mi := 68) (n := 0) (ci := 13) (r := (RX8, TX8, 5)) rfl (cal_X8_knock (Nat.le_of_ble_eq_true rfl)) w_1729 w_1730 w_1731 dL_law_1680
theorem s_L_law_1683 {X : ev_E} {l : Launch} (hG : ev_Good X) (hl : l.stackTraces = false) : ev_Snd X l ev_ms x_L_law tx_L_law 1683 (i_pop 1684) := s_pop dL_law_1683
theorem s_L_law_1684 {X : ev_E} {l : Launch} (hG : ev_Good X) (hl : l.stackTraces = false) : ev_Snd X l ev_ms x_L_law tx_L_law 1684 (i_goto 1714) := s_goto dL_law_1684 rfl
theorem s_L_law_1687 {X : ev_E} {l : Launch} (hG : ev_Good X) (hl : l.stackTraces = false) : ev_Snd X l ev_ms x_L_law tx_L_law 1687 (i_al 1 1688) := s_aload_n dL_law_1687 rfl
theorem s_L_law_1688 {X : ev_E} {l : Launch} (hG : ev_Good X) (hl : l.stackTraces = false) : ev_Snd X l ev_ms x_L_law tx_L_law 1688 (i_cV X 201 0 10 2 1691) := s_invokevirtual hG (mi := 201) (n := 0) (ci := 10) (r := (RX5, TX5, 7)) rfl (cal_X5_isSound (Nat.le_of_ble_eq_true rfl)) w_622 w_623 w_624 dL_law_1688
theorem s_L_law_1691 {X : ev_E} {l : Launch} (hG : ev_Good X) (hl : l.stackTraces = false) : ev_Snd X l ev_ms x_L_law tx_L_law 1691 (i_pop 1692) := s_pop dL_law_1691
theorem s_L_law_1692 {X : ev_E} {l : Launch} (hG : ev_Good X) (hl : l.stackTraces = false) : ev_Snd X l ev_ms x_L_law tx_L_law 1692 (i_al 2 1693) := s_aload_n dL_law_1692 rfl
theorem s_L_law_1693 {X : ev_E} {l : Launch} (hG : ev_Good X) (hl : l.stackTraces = false) : ev_Snd X l ev_ms x_L_law tx_L_law 1693 (i_cV X 66 0 13 1 1696) := s_invokevirtual hG (mi := 66) (n := 0) (ci := 13) (r := (RX8, TX8, 5)) rfl (cal_X8_isSound (Nat.le_of_ble_eq_true rfl)) w_1733 w_1734 w_1735 dL_law_1693
theorem s_L_law_1696 {X : ev_E} {l : Launch} (hG : ev_Good X) (hl : l.stackTraces = false) : ev_Snd X l ev_ms x_L_law tx_L_law 1696 (i_pop 1697) := s_pop dL_law_1696
theorem s_L_law_1697 {X : ev_E} {l : Launch} (hG : ev_Good X) (hl : l.stackTraces = false) : ev_Snd X l ev_ms x_L_law tx_L_law 1697 (i_goto 1714) := s_goto dL_law_1697 rfl
theorem s_L_law_1700 {X : ev_E} {l : Launch} (hG : ev_Good X) (hl : l.stackTraces = false) : ev_Snd X l ev_ms x_L_law tx_L_law 1700 (i_al 1 1701) := s_aload_n dL_law_1700 rfl
theorem s_L_law_1701 {X : ev_E} {l : Launch} (hG : ev_Good X) (hl : l.stackTraces = false) : ev_Snd X l ev_ms x_L_law tx_L_law 1701 (i_cV X 226 0 10 4 1704) := s_invokevirtual hG (mi := 226) (n := 0) (ci := 10) (r := (RX5, TX5, 7)) rfl (cal_X5_digest (Nat.le_of_ble_eq_true rfl)) w_677 w_678 w_679 dL_law_1701
theorem s_L_law_1704 {X : ev_E} {l : Launch} (hG : ev_Good X) (hl : l.stackTraces = false) : ev_Snd X l ev_ms x_L_law tx_L_law 1704 (i_al 2 1705) := s_aload_n dL_law_1704 rfl
theorem s_L_law_1705 {X : ev_E} {l : Launch} (hG : ev_Good X) (hl : l.stackTraces = false) : ev_Snd X l ev_ms x_L_law tx_L_law 1705 (i_cV X 301 0 13 5 1708) := s_invokevirtual hG (mi := 301) (n := 0) (ci := 13) (r := (RX8, TX8, 5)) rfl (cal_X8_digest (Nat.le_of_ble_eq_true rfl)) w_1737 w_1738 w_1739 dL_law_1705
theorem s_L_law_1708 {X : ev_E} {l : Launch} (hG : ev_Good X) (hl : l.stackTraces = false) : ev_Snd X l ev_ms x_L_law tx_L_law 1708 (i_lcmp 1709) := s_lcmp dL_law_1708
theorem s_L_law_1709 {X : ev_E} {l : Launch} (hG : ev_Good X) (hl : l.stackTraces = false) : ev_Snd X l ev_ms x_L_law tx_L_law 1709 (i_ifeq 1714 1712) := s_ifeq dL_law_1709 rfl
theorem s_L_law_1712 {X : ev_E} {l : Launch} (hG : ev_Good X) (hl : l.stackTraces = false) : ev_Snd X l ev_ms x_L_law tx_L_law 1712 (i_psh (.int (0)) 1713) := s_iconst dL_law_1712 rfl
theorem s_L_law_1713 {X : ev_E} {l : Launch} (hG : ev_Good X) (hl : l.stackTraces = false) : ev_Snd X l ev_ms x_L_law tx_L_law 1713 (i_ir (.boolean)) := s_ireturn rfl dL_law_1713
theorem s_L_law_1714 {X : ev_E} {l : Launch} (hG : ev_Good X) (hl : l.stackTraces = false) : ev_Snd X l ev_ms x_L_law tx_L_law 1714 (i_inc 4 (4) 1717) := s_iinc dL_law_1714 rfl (Nat.le_of_ble_eq_true rfl)
theorem s_L_law_1717 {X : ev_E} {l : Launch} (hG : ev_Good X) (hl : l.stackTraces = false) : ev_Snd X l ev_ms x_L_law tx_L_law 1717 (i_goto 27) := s_goto dL_law_1717 rfl
theorem s_L_law_1720 {X : ev_E} {l : Launch} (hG : ev_Good X) (hl : l.stackTraces = false) : ev_Snd X l ev_ms x_L_law tx_L_law 1720 (i_psh (.int (1)) 1721) := s_iconst dL_law_1720 rfl
theorem s_L_law_1721 {X : ev_E} {l : Launch} (hG : ev_Good X) (hl : l.stackTraces = false) : ev_Snd X l ev_ms x_L_law tx_L_law 1721 (i_ir (.boolean)) := s_ireturn rfl dL_law_1721
theorem sa_L_law_c0 {X : ev_E} {l : Launch} (hG : ev_Good X) (hl : l.stackTraces = false) : ∀ q ∈ tb_L_law_c0 X, ev_Snd X l ev_ms x_L_law tx_L_law q.1 q.2 := by
  intro q hq
  unfold tb_L_law_c0 at hq
  simp only [List.mem_cons, List.not_mem_nil, or_false] at hq
  rcases hq with rfl | rfl | rfl | rfl | rfl | rfl | rfl | rfl | rfl | rfl | rfl | rfl | rfl | rfl | rfl | rfl | rfl | rfl | rfl | rfl | rfl | rfl | rfl | rfl | rfl | rfl | rfl | rfl | rfl | rfl | rfl | rfl | rfl | rfl | rfl | rfl | rfl | rfl | rfl | rfl | rfl | rfl | rfl | rfl | rfl | rfl | rfl | rfl | rfl | rfl | rfl | rfl | rfl | rfl | rfl | rfl | rfl | rfl | rfl | rfl
  · exact s_L_law_0 hG hl
  · exact s_L_law_3 hG hl
  · exact s_L_law_4 hG hl
  · exact s_L_law_7 hG hl
  · exact s_L_law_8 hG hl
  · exact s_L_law_11 hG hl
  · exact s_L_law_12 hG hl
  · exact s_L_law_15 hG hl
  · exact s_L_law_16 hG hl
  · exact s_L_law_19 hG hl
  · exact s_L_law_20 hG hl
  · exact s_L_law_23 hG hl
  · exact s_L_law_24 hG hl
  · exact s_L_law_25 hG hl
  · exact s_L_law_27 hG hl
  · exact s_L_law_29 hG hl
  · exact s_L_law_30 hG hl
  · exact s_L_law_31 hG hl
  · exact s_L_law_32 hG hl
  · exact s_L_law_33 hG hl
  · exact s_L_law_36 hG hl
  · exact s_L_law_37 hG hl
  · exact s_L_law_39 hG hl
  · exact s_L_law_40 hG hl
  · exact s_L_law_42 hG hl
  · exact s_L_law_43 hG hl
  · exact s_L_law_236 hG hl
  · exact s_L_law_237 hG hl
  · exact s_L_law_238 hG hl
  · exact s_L_law_240 hG hl
  · exact s_L_law_241 hG hl
  · exact s_L_law_242 hG hl
  · exact s_L_law_243 hG hl
  · exact s_L_law_244 hG hl
  · exact s_L_law_246 hG hl
  · exact s_L_law_247 hG hl
  · exact s_L_law_248 hG hl
  · exact s_L_law_249 hG hl
  · exact s_L_law_252 hG hl
  · exact s_L_law_253 hG hl
  · exact s_L_law_256 hG hl
  · exact s_L_law_257 hG hl
  · exact s_L_law_258 hG hl
  · exact s_L_law_260 hG hl
  · exact s_L_law_261 hG hl
  · exact s_L_law_262 hG hl
  · exact s_L_law_263 hG hl
  · exact s_L_law_264 hG hl
  · exact s_L_law_267 hG hl
  · exact s_L_law_269 hG hl
  · exact s_L_law_270 hG hl
  · exact s_L_law_271 hG hl
  · exact s_L_law_273 hG hl
  · exact s_L_law_274 hG hl
  · exact s_L_law_275 hG hl
  · exact s_L_law_276 hG hl
  · exact s_L_law_277 hG hl
  · exact s_L_law_279 hG hl
  · exact s_L_law_280 hG hl
  · exact s_L_law_281 hG hl
theorem sa_L_law_c1 {X : ev_E} {l : Launch} (hG : ev_Good X) (hl : l.stackTraces = false) : ∀ q ∈ tb_L_law_c1 X, ev_Snd X l ev_ms x_L_law tx_L_law q.1 q.2 := by
  intro q hq
  unfold tb_L_law_c1 at hq
  simp only [List.mem_cons, List.not_mem_nil, or_false] at hq
  rcases hq with rfl | rfl | rfl | rfl | rfl | rfl | rfl | rfl | rfl | rfl | rfl | rfl | rfl | rfl | rfl | rfl | rfl | rfl | rfl | rfl | rfl | rfl | rfl | rfl | rfl | rfl | rfl | rfl | rfl | rfl | rfl | rfl | rfl | rfl | rfl | rfl | rfl | rfl | rfl | rfl | rfl | rfl | rfl | rfl | rfl | rfl | rfl | rfl | rfl | rfl | rfl | rfl | rfl | rfl | rfl | rfl | rfl | rfl | rfl | rfl
  · exact s_L_law_282 hG hl
  · exact s_L_law_285 hG hl
  · exact s_L_law_286 hG hl
  · exact s_L_law_289 hG hl
  · exact s_L_law_290 hG hl
  · exact s_L_law_291 hG hl
  · exact s_L_law_293 hG hl
  · exact s_L_law_294 hG hl
  · exact s_L_law_295 hG hl
  · exact s_L_law_296 hG hl
  · exact s_L_law_299 hG hl
  · exact s_L_law_301 hG hl
  · exact s_L_law_304 hG hl
  · exact s_L_law_305 hG hl
  · exact s_L_law_306 hG hl
  · exact s_L_law_308 hG hl
  · exact s_L_law_309 hG hl
  · exact s_L_law_310 hG hl
  · exact s_L_law_311 hG hl
  · exact s_L_law_312 hG hl
  · exact s_L_law_314 hG hl
  · exact s_L_law_315 hG hl
  · exact s_L_law_316 hG hl
  · exact s_L_law_317 hG hl
  · exact s_L_law_318 hG hl
  · exact s_L_law_320 hG hl
  · exact s_L_law_321 hG hl
  · exact s_L_law_322 hG hl
  · exact s_L_law_323 hG hl
  · exact s_L_law_324 hG hl
  · exact s_L_law_327 hG hl
  · exact s_L_law_329 hG hl
  · exact s_L_law_330 hG hl
  · exact s_L_law_331 hG hl
  · exact s_L_law_333 hG hl
  · exact s_L_law_334 hG hl
  · exact s_L_law_335 hG hl
  · exact s_L_law_336 hG hl
  · exact s_L_law_337 hG hl
  · exact s_L_law_339 hG hl
  · exact s_L_law_340 hG hl
  · exact s_L_law_341 hG hl
  · exact s_L_law_342 hG hl
  · exact s_L_law_343 hG hl
  · exact s_L_law_345 hG hl
  · exact s_L_law_346 hG hl
  · exact s_L_law_347 hG hl
  · exact s_L_law_348 hG hl
  · exact s_L_law_351 hG hl
  · exact s_L_law_353 hG hl
  · exact s_L_law_356 hG hl
  · exact s_L_law_357 hG hl
  · exact s_L_law_358 hG hl
  · exact s_L_law_360 hG hl
  · exact s_L_law_361 hG hl
  · exact s_L_law_362 hG hl
  · exact s_L_law_363 hG hl
  · exact s_L_law_364 hG hl
  · exact s_L_law_366 hG hl
  · exact s_L_law_367 hG hl
theorem sa_L_law_c2 {X : ev_E} {l : Launch} (hG : ev_Good X) (hl : l.stackTraces = false) : ∀ q ∈ tb_L_law_c2 X, ev_Snd X l ev_ms x_L_law tx_L_law q.1 q.2 := by
  intro q hq
  unfold tb_L_law_c2 at hq
  simp only [List.mem_cons, List.not_mem_nil, or_false] at hq
  rcases hq with rfl | rfl | rfl | rfl | rfl | rfl | rfl | rfl | rfl | rfl | rfl | rfl | rfl | rfl | rfl | rfl | rfl | rfl | rfl | rfl | rfl | rfl | rfl | rfl | rfl | rfl | rfl | rfl | rfl | rfl | rfl | rfl | rfl | rfl | rfl | rfl | rfl | rfl | rfl | rfl | rfl | rfl | rfl | rfl | rfl | rfl | rfl | rfl | rfl | rfl | rfl | rfl | rfl | rfl | rfl | rfl | rfl | rfl | rfl | rfl
  · exact s_L_law_368 hG hl
  · exact s_L_law_369 hG hl
  · exact s_L_law_370 hG hl
  · exact s_L_law_372 hG hl
  · exact s_L_law_373 hG hl
  · exact s_L_law_374 hG hl
  · exact s_L_law_375 hG hl
  · exact s_L_law_376 hG hl
  · exact s_L_law_379 hG hl
  · exact s_L_law_381 hG hl
  · exact s_L_law_382 hG hl
  · exact s_L_law_383 hG hl
  · exact s_L_law_385 hG hl
  · exact s_L_law_386 hG hl
  · exact s_L_law_387 hG hl
  · exact s_L_law_388 hG hl
  · exact s_L_law_389 hG hl
  · exact s_L_law_391 hG hl
  · exact s_L_law_392 hG hl
  · exact s_L_law_393 hG hl
  · exact s_L_law_394 hG hl
  · exact s_L_law_395 hG hl
  · exact s_L_law_397 hG hl
  · exact s_L_law_398 hG hl
  · exact s_L_law_399 hG hl
  · exact s_L_law_400 hG hl
  · exact s_L_law_403 hG hl
  · exact s_L_law_405 hG hl
  · exact s_L_law_408 hG hl
  · exact s_L_law_409 hG hl
  · exact s_L_law_410 hG hl
  · exact s_L_law_412 hG hl
  · exact s_L_law_413 hG hl
  · exact s_L_law_414 hG hl
  · exact s_L_law_415 hG hl
  · exact s_L_law_416 hG hl
  · exact s_L_law_418 hG hl
  · exact s_L_law_419 hG hl
  · exact s_L_law_420 hG hl
  · exact s_L_law_421 hG hl
  · exact s_L_law_422 hG hl
  · exact s_L_law_425 hG hl
  · exact s_L_law_427 hG hl
  · exact s_L_law_428 hG hl
  · exact s_L_law_429 hG hl
  · exact s_L_law_431 hG hl
  · exact s_L_law_432 hG hl
  · exact s_L_law_433 hG hl
  · exact s_L_law_434 hG hl
  · exact s_L_law_435 hG hl
  · exact s_L_law_437 hG hl
  · exact s_L_law_438 hG hl
  · exact s_L_law_439 hG hl
  · exact s_L_law_440 hG hl
  · exact s_L_law_443 hG hl
  · exact s_L_law_445 hG hl
  · exact s_L_law_448 hG hl
  · exact s_L_law_449 hG hl
  · exact s_L_law_450 hG hl
  · exact s_L_law_452 hG hl
theorem sa_L_law_c3 {X : ev_E} {l : Launch} (hG : ev_Good X) (hl : l.stackTraces = false) : ∀ q ∈ tb_L_law_c3 X, ev_Snd X l ev_ms x_L_law tx_L_law q.1 q.2 := by
  intro q hq
  unfold tb_L_law_c3 at hq
  simp only [List.mem_cons, List.not_mem_nil, or_false] at hq
  rcases hq with rfl | rfl | rfl | rfl | rfl | rfl | rfl | rfl | rfl | rfl | rfl | rfl | rfl | rfl | rfl | rfl | rfl | rfl | rfl | rfl | rfl | rfl | rfl | rfl | rfl | rfl | rfl | rfl | rfl | rfl | rfl | rfl | rfl | rfl | rfl | rfl | rfl | rfl | rfl | rfl | rfl | rfl | rfl | rfl | rfl | rfl | rfl | rfl | rfl | rfl | rfl | rfl | rfl | rfl | rfl | rfl | rfl | rfl | rfl | rfl
  · exact s_L_law_453 hG hl
  · exact s_L_law_454 hG hl
  · exact s_L_law_455 hG hl
  · exact s_L_law_456 hG hl
  · exact s_L_law_458 hG hl
  · exact s_L_law_459 hG hl
  · exact s_L_law_460 hG hl
  · exact s_L_law_461 hG hl
  · exact s_L_law_462 hG hl
  · exact s_L_law_464 hG hl
  · exact s_L_law_465 hG hl
  · exact s_L_law_466 hG hl
  · exact s_L_law_467 hG hl
  · exact s_L_law_468 hG hl
  · exact s_L_law_471 hG hl
  · exact s_L_law_473 hG hl
  · exact s_L_law_474 hG hl
  · exact s_L_law_475 hG hl
  · exact s_L_law_477 hG hl
  · exact s_L_law_478 hG hl
  · exact s_L_law_479 hG hl
  · exact s_L_law_480 hG hl
  · exact s_L_law_481 hG hl
  · exact s_L_law_483 hG hl
  · exact s_L_law_484 hG hl
  · exact s_L_law_485 hG hl
  · exact s_L_law_486 hG hl
  · exact s_L_law_487 hG hl
  · exact s_L_law_489 hG hl
  · exact s_L_law_490 hG hl
  · exact s_L_law_491 hG hl
  · exact s_L_law_492 hG hl
  · exact s_L_law_495 hG hl
  · exact s_L_law_497 hG hl
  · exact s_L_law_500 hG hl
  · exact s_L_law_501 hG hl
  · exact s_L_law_502 hG hl
  · exact s_L_law_504 hG hl
  · exact s_L_law_505 hG hl
  · exact s_L_law_506 hG hl
  · exact s_L_law_507 hG hl
  · exact s_L_law_508 hG hl
  · exact s_L_law_510 hG hl
  · exact s_L_law_511 hG hl
  · exact s_L_law_512 hG hl
  · exact s_L_law_513 hG hl
  · exact s_L_law_514 hG hl
  · exact s_L_law_517 hG hl
  · exact s_L_law_519 hG hl
  · exact s_L_law_520 hG hl
  · exact s_L_law_521 hG hl
  · exact s_L_law_523 hG hl
  · exact s_L_law_524 hG hl
  · exact s_L_law_525 hG hl
  · exact s_L_law_526 hG hl
  · exact s_L_law_527 hG hl
  · exact s_L_law_529 hG hl
  · exact s_L_law_530 hG hl
  · exact s_L_law_531 hG hl
  · exact s_L_law_532 hG hl
theorem sa_L_law_c4 {X : ev_E} {l : Launch} (hG : ev_Good X) (hl : l.stackTraces = false) : ∀ q ∈ tb_L_law_c4 X, ev_Snd X l ev_ms x_L_law tx_L_law q.1 q.2 := by
  intro q hq
  unfold tb_L_law_c4 at hq
  simp only [List.mem_cons, List.not_mem_nil, or_false] at hq
  rcases hq with rfl | rfl | rfl | rfl | rfl | rfl | rfl | rfl | rfl | rfl | rfl | rfl | rfl | rfl | rfl | rfl | rfl | rfl | rfl | rfl | rfl | rfl | rfl | rfl | rfl | rfl | rfl | rfl | rfl | rfl | rfl | rfl | rfl | rfl | rfl | rfl | rfl | rfl | rfl | rfl | rfl | rfl | rfl | rfl | rfl | rfl | rfl | rfl | rfl | rfl | rfl | rfl | rfl | rfl | rfl | rfl | rfl | rfl | rfl | rfl
  · exact s_L_law_535 hG hl
  · exact s_L_law_537 hG hl
  · exact s_L_law_540 hG hl
  · exact s_L_law_541 hG hl
  · exact s_L_law_542 hG hl
  · exact s_L_law_544 hG hl
  · exact s_L_law_545 hG hl
  · exact s_L_law_546 hG hl
  · exact s_L_law_547 hG hl
  · exact s_L_law_548 hG hl
  · exact s_L_law_551 hG hl
  · exact s_L_law_553 hG hl
  · exact s_L_law_554 hG hl
  · exact s_L_law_555 hG hl
  · exact s_L_law_557 hG hl
  · exact s_L_law_558 hG hl
  · exact s_L_law_559 hG hl
  · exact s_L_law_560 hG hl
  · exact s_L_law_563 hG hl
  · exact s_L_law_565 hG hl
  · exact s_L_law_568 hG hl
  · exact s_L_law_569 hG hl
  · exact s_L_law_570 hG hl
  · exact s_L_law_572 hG hl
  · exact s_L_law_573 hG hl
  · exact s_L_law_574 hG hl
  · exact s_L_law_575 hG hl
  · exact s_L_law_576 hG hl
  · exact s_L_law_578 hG hl
  · exact s_L_law_579 hG hl
  · exact s_L_law_580 hG hl
  · exact s_L_law_581 hG hl
  · exact s_L_law_582 hG hl
  · exact s_L_law_584 hG hl
  · exact s_L_law_585 hG hl
  · exact s_L_law_586 hG hl
  · exact s_L_law_587 hG hl
  · exact s_L_law_588 hG hl
  · exact s_L_law_591 hG hl
  · exact s_L_law_593 hG hl
  · exact s_L_law_594 hG hl
  · exact s_L_law_595 hG hl
  · exact s_L_law_597 hG hl
  · exact s_L_law_598 hG hl
  · exact s_L_law_599 hG hl
  · exact s_L_law_600 hG hl
  · exact s_L_law_601 hG hl
  · exact s_L_law_603 hG hl
  · exact s_L_law_604 hG hl
  · exact s_L_law_605 hG hl
  · exact s_L_law_606 hG hl
  · exact s_L_law_607 hG hl
  · exact s_L_law_609 hG hl
  · exact s_L_law_610 hG hl
  · exact s_L_law_611 hG hl
  · exact s_L_law_612 hG hl
  · exact s_L_law_615 hG hl
  · exact s_L_law_617 hG hl
  · exact s_L_law_620 hG hl
  · exact s_L_law_621 hG hl
theorem sa_L_law_c5 {X : ev_E} {l : Launch} (hG : ev_Good X) (hl : l.stackTraces = false) : ∀ q ∈ tb_L_law_c5 X, ev_Snd X l ev_ms x_L_law tx_L_law q.1 q.2 := by
  intro q hq
  unfold tb_L_law_c5 at hq
  simp only [List.mem_cons, List.not_mem_nil, or_false] at hq
  rcases hq with rfl | rfl | rfl | rfl | rfl | rfl | rfl | rfl | rfl | rfl | rfl | rfl | rfl | rfl | rfl | rfl | rfl | rfl | rfl | rfl | rfl | rfl | rfl | rfl | rfl | rfl | rfl | rfl | rfl | rfl | rfl | rfl | rfl | rfl | rfl | rfl | rfl | rfl | rfl | rfl | rfl | rfl | rfl | rfl | rfl | rfl | rfl | rfl | rfl | rfl | rfl | rfl | rfl | rfl | rfl | rfl | rfl | rfl | rfl | rfl
  · exact s_L_law_622 hG hl
  · exact s_L_law_624 hG hl
  · exact s_L_law_625 hG hl
  · exact s_L_law_626 hG hl
  · exact s_L_law_627 hG hl
  · exact s_L_law_628 hG hl
  · exact s_L_law_630 hG hl
  · exact s_L_law_631 hG hl
  · exact s_L_law_632 hG hl
  · exact s_L_law_633 hG hl
  · exact s_L_law_634 hG hl
  · exact s_L_law_637 hG hl
  · exact s_L_law_639 hG hl
  · exact s_L_law_640 hG hl
  · exact s_L_law_641 hG hl
  · exact s_L_law_643 hG hl
  · exact s_L_law_644 hG hl
  · exact s_L_law_645 hG hl
  · exact s_L_law_646 hG hl
  · exact s_L_law_647 hG hl
  · exact s_L_law_649 hG hl
  · exact s_L_law_650 hG hl
  · exact s_L_law_651 hG hl
  · exact s_L_law_652 hG hl
  · exact s_L_law_655 hG hl
  · exact s_L_law_657 hG hl
  · exact s_L_law_660 hG hl
  · exact s_L_law_661 hG hl
  · exact s_L_law_662 hG hl
  · exact s_L_law_664 hG hl
  · exact s_L_law_665 hG hl
  · exact s_L_law_666 hG hl
  · exact s_L_law_667 hG hl
  · exact s_L_law_668 hG hl
  · exact s_L_law_670 hG hl
  · exact s_L_law_671 hG hl
  · exact s_L_law_672 hG hl
  · exact s_L_law_673 hG hl
  · exact s_L_law_674 hG hl
  · exact s_L_law_677 hG hl
  · exact s_L_law_679 hG hl
  · exact s_L_law_680 hG hl
  · exact s_L_law_681 hG hl
  · exact s_L_law_683 hG hl
  · exact s_L_law_684 hG hl
  · exact s_L_law_685 hG hl
  · exact s_L_law_686 hG hl
  · exact s_L_law_687 hG hl
  · exact s_L_law_689 hG hl
  · exact s_L_law_690 hG hl
  · exact s_L_law_691 hG hl
  · exact s_L_law_692 hG hl
  · exact s_L_law_695 hG hl
  · exact s_L_law_697 hG hl
  · exact s_L_law_700 hG hl
  · exact s_L_law_701 hG hl
  · exact s_L_law_702 hG hl
  · exact s_L_law_704 hG hl
  · exact s_L_law_705 hG hl
  · exact s_L_law_706 hG hl
theorem sa_L_law_c6 {X : ev_E} {l : Launch} (hG : ev_Good X) (hl : l.stackTraces = false) : ∀ q ∈ tb_L_law_c6 X, ev_Snd X l ev_ms x_L_law tx_L_law q.1 q.2 := by
  intro q hq
  unfold tb_L_law_c6 at hq
  simp only [List.mem_cons, List.not_mem_nil, or_false] at hq
  rcases hq with rfl | rfl | rfl | rfl | rfl | rfl | rfl | rfl | rfl | rfl | rfl | rfl | rfl | rfl | rfl | rfl | rfl | rfl | rfl | rfl | rfl | rfl | rfl | rfl | rfl | rfl | rfl | rfl | rfl | rfl | rfl | rfl | rfl | rfl | rfl | rfl | rfl | rfl | rfl | rfl | rfl | rfl | rfl | rfl | rfl | rfl | rfl | rfl | rfl | rfl | rfl | rfl | rfl | rfl | rfl | rfl | rfl | rfl | rfl | rfl
  · exact s_L_law_707 hG hl
  · exact s_L_law_708 hG hl
  · exact s_L_law_711 hG hl
  · exact s_L_law_713 hG hl
  · exact s_L_law_714 hG hl
  · exact s_L_law_715 hG hl
  · exact s_L_law_717 hG hl
  · exact s_L_law_718 hG hl
  · exact s_L_law_719 hG hl
  · exact s_L_law_720 hG hl
  · exact s_L_law_723 hG hl
  · exact s_L_law_725 hG hl
  · exact s_L_law_728 hG hl
  · exact s_L_law_729 hG hl
  · exact s_L_law_730 hG hl
  · exact s_L_law_732 hG hl
  · exact s_L_law_733 hG hl
  · exact s_L_law_734 hG hl
  · exact s_L_law_735 hG hl
  · exact s_L_law_736 hG hl
  · exact s_L_law_738 hG hl
  · exact s_L_law_739 hG hl
  · exact s_L_law_740 hG hl
  · exact s_L_law_741 hG hl
  · exact s_L_law_742 hG hl
  · exact s_L_law_745 hG hl
  · exact s_L_law_747 hG hl
  · exact s_L_law_748 hG hl
  · exact s_L_law_749 hG hl
  · exact s_L_law_751 hG hl
  · exact s_L_law_752 hG hl
  · exact s_L_law_753 hG hl
  · exact s_L_law_754 hG hl
  · exact s_L_law_755 hG hl
  · exact s_L_law_757 hG hl
  · exact s_L_law_758 hG hl
  · exact s_L_law_759 hG hl
  · exact s_L_law_760 hG hl
  · exact s_L_law_763 hG hl
  · exact s_L_law_765 hG hl
  · exact s_L_law_768 hG hl
  · exact s_L_law_769 hG hl
  · exact s_L_law_770 hG hl
  · exact s_L_law_772 hG hl
  · exact s_L_law_773 hG hl
  · exact s_L_law_774 hG hl
  · exact s_L_law_775 hG hl
  · exact s_L_law_776 hG hl
  · exact s_L_law_778 hG hl
  · exact s_L_law_779 hG hl
  · exact s_L_law_780 hG hl
  · exact s_L_law_781 hG hl
  · exact s_L_law_782 hG hl
  · exact s_L_law_785 hG hl
  · exact s_L_law_787 hG hl
  · exact s_L_law_788 hG hl
  · exact s_L_law_789 hG hl
  · exact s_L_law_791 hG hl
  · exact s_L_law_792 hG hl
  · exact s_L_law_793 hG hl
theorem sa_L_law_c7 {X : ev_E} {l : Launch} (hG : ev_Good X) (hl : l.stackTraces = false) : ∀ q ∈ tb_L_law_c7 X, ev_Snd X l ev_ms x_L_law tx_L_law q.1 q.2 := by
  intro q hq
  unfold tb_L_law_c7 at hq
  simp only [List.mem_cons, List.not_mem_nil, or_false] at hq
  rcases hq with rfl | rfl | rfl | rfl | rfl | rfl | rfl | rfl | rfl | rfl | rfl | rfl | rfl | rfl | rfl | rfl | rfl | rfl | rfl | rfl | rfl | rfl | rfl | rfl | rfl | rfl | rfl | rfl | rfl | rfl | rfl | rfl | rfl | rfl | rfl | rfl | rfl | rfl | rfl | rfl | rfl | rfl | rfl | rfl | rfl | rfl | rfl | rfl | rfl | rfl | rfl | rfl | rfl | rfl | rfl | rfl | rfl | rfl | rfl | rfl
  · exact s_L_law_794 hG hl
  · exact s_L_law_795 hG hl
  · exact s_L_law_797 hG hl
  · exact s_L_law_798 hG hl
  · exact s_L_law_799 hG hl
  · exact s_L_law_800 hG hl
  · exact s_L_law_803 hG hl
  · exact s_L_law_805 hG hl
  · exact s_L_law_808 hG hl
  · exact s_L_law_809 hG hl
  · exact s_L_law_810 hG hl
  · exact s_L_law_812 hG hl
  · exact s_L_law_813 hG hl
  · exact s_L_law_814 hG hl
  · exact s_L_law_815 hG hl
  · exact s_L_law_816 hG hl
  · exact s_L_law_818 hG hl
  · exact s_L_law_819 hG hl
  · exact s_L_law_820 hG hl
  · exact s_L_law_821 hG hl
  · exact s_L_law_822 hG hl
  · exact s_L_law_825 hG hl
  · exact s_L_law_827 hG hl
  · exact s_L_law_828 hG hl
  · exact s_L_law_829 hG hl
  · exact s_L_law_831 hG hl
  · exact s_L_law_832 hG hl
  · exact s_L_law_833 hG hl
  · exact s_L_law_834 hG hl
  · exact s_L_law_835 hG hl
  · exact s_L_law_837 hG hl
  · exact s_L_law_838 hG hl
  · exact s_L_law_839 hG hl
  · exact s_L_law_840 hG hl
  · exact s_L_law_843 hG hl
  · exact s_L_law_845 hG hl
  · exact s_L_law_848 hG hl
  · exact s_L_law_849 hG hl
  · exact s_L_law_850 hG hl
  · exact s_L_law_852 hG hl
  · exact s_L_law_853 hG hl
  · exact s_L_law_854 hG hl
  · exact s_L_law_855 hG hl
  · exact s_L_law_856 hG hl
  · exact s_L_law_858 hG hl
  · exact s_L_law_859 hG hl
  · exact s_L_law_860 hG hl
  · exact s_L_law_861 hG hl
  · exact s_L_law_862 hG hl
  · exact s_L_law_865 hG hl
  · exact s_L_law_867 hG hl
  · exact s_L_law_868 hG hl
  · exact s_L_law_869 hG hl
  · exact s_L_law_871 hG hl
  · exact s_L_law_872 hG hl
  · exact s_L_law_873 hG hl
  · exact s_L_law_874 hG hl
  · exact s_L_law_875 hG hl
  · exact s_L_law_877 hG hl
  · exact s_L_law_878 hG hl
theorem sa_L_law_c8 {X : ev_E} {l : Launch} (hG : ev_Good X) (hl : l.stackTraces = false) : ∀ q ∈ tb_L_law_c8 X, ev_Snd X l ev_ms x_L_law tx_L_law q.1 q.2 := by
  intro q hq
  unfold tb_L_law_c8 at hq
  simp only [List.mem_cons, List.not_mem_nil, or_false] at hq
  rcases hq with rfl | rfl | rfl | rfl | rfl | rfl | rfl | rfl | rfl | rfl | rfl | rfl | rfl | rfl | rfl | rfl | rfl | rfl | rfl | rfl | rfl | rfl | rfl | rfl | rfl | rfl | rfl | rfl | rfl | rfl | rfl | rfl | rfl | rfl | rfl | rfl | rfl | rfl | rfl | rfl | rfl | rfl | rfl | rfl | rfl | rfl | rfl | rfl | rfl | rfl | rfl | rfl | rfl | rfl | rfl | rfl | rfl | rfl | rfl | rfl
  · exact s_L_law_879 hG hl
  · exact s_L_law_880 hG hl
  · exact s_L_law_883 hG hl
  · exact s_L_law_885 hG hl
  · exact s_L_law_888 hG hl
  · exact s_L_law_889 hG hl
  · exact s_L_law_890 hG hl
  · exact s_L_law_892 hG hl
  · exact s_L_law_893 hG hl
  · exact s_L_law_894 hG hl
  · exact s_L_law_895 hG hl
  · exact s_L_law_896 hG hl
  · exact s_L_law_899 hG hl
  · exact s_L_law_901 hG hl
  · exact s_L_law_902 hG hl
  · exact s_L_law_903 hG hl
  · exact s_L_law_905 hG hl
  · exact s_L_law_906 hG hl
  · exact s_L_law_907 hG hl
  · exact s_L_law_908 hG hl
  · exact s_L_law_911 hG hl
  · exact s_L_law_913 hG hl
  · exact s_L_law_916 hG hl
  · exact s_L_law_917 hG hl
  · exact s_L_law_918 hG hl
  · exact s_L_law_920 hG hl
  · exact s_L_law_921 hG hl
  · exact s_L_law_922 hG hl
  · exact s_L_law_923 hG hl
  · exact s_L_law_924 hG hl
  · exact s_L_law_927 hG hl
  · exact s_L_law_929 hG hl
  · exact s_L_law_930 hG hl
  · exact s_L_law_931 hG hl
  · exact s_L_law_933 hG hl
  · exact s_L_law_934 hG hl
  · exact s_L_law_935 hG hl
  · exact s_L_law_936 hG hl
  · exact s_L_law_939 hG hl
  · exact s_L_law_941 hG hl
  · exact s_L_law_944 hG hl
  · exact s_L_law_945 hG hl
  · exact s_L_law_946 hG hl
  · exact s_L_law_948 hG hl
  · exact s_L_law_949 hG hl
  · exact s_L_law_950 hG hl
  · exact s_L_law_951 hG hl
  · exact s_L_law_952 hG hl
  · exact s_L_law_954 hG hl
  · exact s_L_law_955 hG hl
  · exact s_L_law_956 hG hl
  · exact s_L_law_957 hG hl
  · exact s_L_law_958 hG hl
  · exact s_L_law_961 hG hl
  · exact s_L_law_963 hG hl
  · exact s_L_law_964 hG hl
  · exact s_L_law_965 hG hl
  · exact s_L_law_967 hG hl
  · exact s_L_law_968 hG hl
  · exact s_L_law_969 hG hl
theorem sa_L_law_c9 {X : ev_E} {l : Launch} (hG : ev_Good X) (hl : l.stackTraces = false) : ∀ q ∈ tb_L_law_c9 X, ev_Snd X l ev_ms x_L_law tx_L_law q.1 q.2 := by
  intro q hq
  unfold tb_L_law_c9 at hq
  simp only [List.mem_cons, List.not_mem_nil, or_false] at hq
  rcases hq with rfl | rfl | rfl | rfl | rfl | rfl | rfl | rfl | rfl | rfl | rfl | rfl | rfl | rfl | rfl | rfl | rfl | rfl | rfl | rfl | rfl | rfl | rfl | rfl | rfl | rfl | rfl | rfl | rfl | rfl | rfl | rfl | rfl | rfl | rfl | rfl | rfl | rfl | rfl | rfl | rfl | rfl | rfl | rfl | rfl | rfl | rfl | rfl | rfl | rfl | rfl | rfl | rfl | rfl | rfl | rfl | rfl | rfl | rfl | rfl
  · exact s_L_law_970 hG hl
  · exact s_L_law_971 hG hl
  · exact s_L_law_973 hG hl
  · exact s_L_law_974 hG hl
  · exact s_L_law_975 hG hl
  · exact s_L_law_976 hG hl
  · exact s_L_law_979 hG hl
  · exact s_L_law_981 hG hl
  · exact s_L_law_984 hG hl
  · exact s_L_law_985 hG hl
  · exact s_L_law_986 hG hl
  · exact s_L_law_988 hG hl
  · exact s_L_law_989 hG hl
  · exact s_L_law_990 hG hl
  · exact s_L_law_991 hG hl
  · exact s_L_law_992 hG hl
  · exact s_L_law_994 hG hl
  · exact s_L_law_995 hG hl
  · exact s_L_law_996 hG hl
  · exact s_L_law_997 hG hl
  · exact s_L_law_998 hG hl
  · exact s_L_law_1001 hG hl
  · exact s_L_law_1003 hG hl
  · exact s_L_law_1004 hG hl
  · exact s_L_law_1005 hG hl
  · exact s_L_law_1007 hG hl
  · exact s_L_law_1008 hG hl
  · exact s_L_law_1009 hG hl
  · exact s_L_law_1010 hG hl
  · exact s_L_law_1011 hG hl
  · exact s_L_law_1013 hG hl
  · exact s_L_law_1014 hG hl
  · exact s_L_law_1015 hG hl
  · exact s_L_law_1016 hG hl
  · exact s_L_law_1019 hG hl
  · exact s_L_law_1021 hG hl
  · exact s_L_law_1024 hG hl
  · exact s_L_law_1025 hG hl
  · exact s_L_law_1026 hG hl
  · exact s_L_law_1028 hG hl
  · exact s_L_law_1029 hG hl
  · exact s_L_law_1030 hG hl
  · exact s_L_law_1031 hG hl
  · exact s_L_law_1032 hG hl
  · exact s_L_law_1034 hG hl
  · exact s_L_law_1035 hG hl
  · exact s_L_law_1036 hG hl
  · exact s_L_law_1037 hG hl
  · exact s_L_law_1038 hG hl
  · exact s_L_law_1041 hG hl
  · exact s_L_law_1043 hG hl
  · exact s_L_law_1044 hG hl
  · exact s_L_law_1045 hG hl
  · exact s_L_law_1047 hG hl
  · exact s_L_law_1048 hG hl
  · exact s_L_law_1049 hG hl
  · exact s_L_law_1050 hG hl
  · exact s_L_law_1051 hG hl
  · exact s_L_law_1053 hG hl
  · exact s_L_law_1054 hG hl
theorem sa_L_law_c10 {X : ev_E} {l : Launch} (hG : ev_Good X) (hl : l.stackTraces = false) : ∀ q ∈ tb_L_law_c10 X, ev_Snd X l ev_ms x_L_law tx_L_law q.1 q.2 := by
  intro q hq
  unfold tb_L_law_c10 at hq
  simp only [List.mem_cons, List.not_mem_nil, or_false] at hq
  rcases hq with rfl | rfl | rfl | rfl | rfl | rfl | rfl | rfl | rfl | rfl | rfl | rfl | rfl | rfl | rfl | rfl | rfl | rfl | rfl | rfl | rfl | rfl | rfl | rfl | rfl | rfl | rfl | rfl | rfl | rfl | rfl | rfl | rfl | rfl | rfl | rfl | rfl | rfl | rfl | rfl | rfl | rfl | rfl | rfl | rfl | rfl | rfl | rfl | rfl | rfl | rfl | rfl | rfl | rfl | rfl | rfl | rfl | rfl | rfl | rfl
  · exact s_L_law_1055 hG hl
  · exact s_L_law_1056 hG hl
  · exact s_L_law_1059 hG hl
  · exact s_L_law_1061 hG hl
  · exact s_L_law_1064 hG hl
  · exact s_L_law_1065 hG hl
  · exact s_L_law_1066 hG hl
  · exact s_L_law_1068 hG hl
  · exact s_L_law_1069 hG hl
  · exact s_L_law_1070 hG hl
  · exact s_L_law_1071 hG hl
  · exact s_L_law_1072 hG hl
  · exact s_L_law_1075 hG hl
  · exact s_L_law_1077 hG hl
  · exact s_L_law_1078 hG hl
  · exact s_L_law_1079 hG hl
  · exact s_L_law_1081 hG hl
  · exact s_L_law_1082 hG hl
  · exact s_L_law_1083 hG hl
  · exact s_L_law_1084 hG hl
  · exact s_L_law_1087 hG hl
  · exact s_L_law_1089 hG hl
  · exact s_L_law_1092 hG hl
  · exact s_L_law_1093 hG hl
  · exact s_L_law_1094 hG hl
  · exact s_L_law_1096 hG hl
  · exact s_L_law_1097 hG hl
  · exact s_L_law_1098 hG hl
  · exact s_L_law_1099 hG hl
  · exact s_L_law_1100 hG hl
  · exact s_L_law_1103 hG hl
  · exact s_L_law_1105 hG hl
  · exact s_L_law_1106 hG hl
  · exact s_L_law_1107 hG hl
  · exact s_L_law_1109 hG hl
  · exact s_L_law_1110 hG hl
  · exact s_L_law_1111 hG hl
  · exact s_L_law_1112 hG hl
  · exact s_L_law_1115 hG hl
  · exact s_L_law_1117 hG hl
  · exact s_L_law_1120 hG hl
  · exact s_L_law_1121 hG hl
  · exact s_L_law_1122 hG hl
  · exact s_L_law_1124 hG hl
  · exact s_L_law_1125 hG hl
  · exact s_L_law_1126 hG hl
  · exact s_L_law_1127 hG hl
  · exact s_L_law_1128 hG hl
  · exact s_L_law_1131 hG hl
  · exact s_L_law_1133 hG hl
  · exact s_L_law_1134 hG hl
  · exact s_L_law_1135 hG hl
  · exact s_L_law_1137 hG hl
  · exact s_L_law_1138 hG hl
  · exact s_L_law_1139 hG hl
  · exact s_L_law_1140 hG hl
  · exact s_L_law_1143 hG hl
  · exact s_L_law_1145 hG hl
  · exact s_L_law_1148 hG hl
  · exact s_L_law_1149 hG hl
theorem sa_L_law_c11 {X : ev_E} {l : Launch} (hG : ev_Good X) (hl : l.stackTraces = false) : ∀ q ∈ tb_L_law_c11 X, ev_Snd X l ev_ms x_L_law tx_L_law q.1 q.2 := by
  intro q hq
  unfold tb_L_law_c11 at hq
  simp only [List.mem_cons, List.not_mem_nil, or_false] at hq
  rcases hq with rfl | rfl | rfl | rfl | rfl | rfl | rfl | rfl | rfl | rfl | rfl | rfl | rfl | rfl | rfl | rfl | rfl | rfl | rfl | rfl | rfl | rfl | rfl | rfl | rfl | rfl | rfl | rfl | rfl | rfl | rfl | rfl | rfl | rfl | rfl | rfl | rfl | rfl | rfl | rfl | rfl | rfl | rfl | rfl | rfl | rfl | rfl | rfl | rfl | rfl | rfl | rfl | rfl | rfl | rfl | rfl | rfl | rfl | rfl | rfl
  · exact s_L_law_1150 hG hl
  · exact s_L_law_1152 hG hl
  · exact s_L_law_1153 hG hl
  · exact s_L_law_1154 hG hl
  · exact s_L_law_1155 hG hl
  · exact s_L_law_1156 hG hl
  · exact s_L_law_1159 hG hl
  · exact s_L_law_1161 hG hl
  · exact s_L_law_1162 hG hl
  · exact s_L_law_1163 hG hl
  · exact s_L_law_1165 hG hl
  · exact s_L_law_1166 hG hl
  · exact s_L_law_1167 hG hl
  · exact s_L_law_1168 hG hl
  · exact s_L_law_1171 hG hl
  · exact s_L_law_1173 hG hl
  · exact s_L_law_1176 hG hl
  · exact s_L_law_1177 hG hl
  · exact s_L_law_1178 hG hl
  · exact s_L_law_1180 hG hl
  · exact s_L_law_1181 hG hl
  · exact s_L_law_1182 hG hl
  · exact s_L_law_1183 hG hl
  · exact s_L_law_1184 hG hl
  · exact s_L_law_1187 hG hl
  · exact s_L_law_1189 hG hl
  · exact s_L_law_1190 hG hl
  · exact s_L_law_1191 hG hl
  · exact s_L_law_1193 hG hl
  · exact s_L_law_1194 hG hl
  · exact s_L_law_1195 hG hl
  · exact s_L_law_1196 hG hl
  · exact s_L_law_1199 hG hl
  · exact s_L_law_1201 hG hl
  · exact s_L_law_1204 hG hl
  · exact s_L_law_1205 hG hl
  · exact s_L_law_1206 hG hl
  · exact s_L_law_1208 hG hl
  · exact s_L_law_1209 hG hl
  · exact s_L_law_1210 hG hl
  · exact s_L_law_1211 hG hl
  · exact s_L_law_1212 hG hl
  · exact s_L_law_1215 hG hl
  · exact s_L_law_1217 hG hl
  · exact s_L_law_1218 hG hl
  · exact s_L_law_1219 hG hl
  · exact s_L_law_1221 hG hl
  · exact s_L_law_1222 hG hl
  · exact s_L_law_1223 hG hl
  · exact s_L_law_1224 hG hl
  · exact s_L_law_1227 hG hl
  · exact s_L_law_1229 hG hl
  · exact s_L_law_1232 hG hl
  · exact s_L_law_1233 hG hl
  · exact s_L_law_1234 hG hl
  · exact s_L_law_1236 hG hl
  · exact s_L_law_1237 hG hl
  · exact s_L_law_1238 hG hl
  · exact s_L_law_1239 hG hl
  · exact s_L_law_1240 hG hl
theorem sa_L_law_c12 {X : ev_E} {l : Launch} (hG : ev_Good X) (hl : l.stackTraces = false) : ∀ q ∈ tb_L_law_c12 X, ev_Snd X l ev_ms x_L_law tx_L_law q.1 q.2 := by
  intro q hq
  unfold tb_L_law_c12 at hq
  simp only [List.mem_cons, List.not_mem_nil, or_false] at hq
  rcases hq with rfl | rfl | rfl | rfl | rfl | rfl | rfl | rfl | rfl | rfl | rfl | rfl | rfl | rfl | rfl | rfl | rfl | rfl | rfl | rfl | rfl | rfl | rfl | rfl | rfl | rfl | rfl | rfl | rfl | rfl | rfl | rfl | rfl | rfl | rfl | rfl | rfl | rfl | rfl | rfl | rfl | rfl | rfl | rfl | rfl | rfl | rfl | rfl | rfl | rfl | rfl | rfl | rfl | rfl | rfl | rfl | rfl | rfl | rfl | rfl
  · exact s_L_law_1242 hG hl
  · exact s_L_law_1243 hG hl
  · exact s_L_law_1244 hG hl
  · exact s_L_law_1245 hG hl
  · exact s_L_law_1246 hG hl
  · exact s_L_law_1248 hG hl
  · exact s_L_law_1249 hG hl
  · exact s_L_law_1250 hG hl
  · exact s_L_law_1251 hG hl
  · exact s_L_law_1252 hG hl
  · exact s_L_law_1255 hG hl
  · exact s_L_law_1257 hG hl
  · exact s_L_law_1258 hG hl
  · exact s_L_law_1259 hG hl
  · exact s_L_law_1261 hG hl
  · exact s_L_law_1262 hG hl
  · exact s_L_law_1263 hG hl
  · exact s_L_law_1264 hG hl
  · exact s_L_law_1265 hG hl
  · exact s_L_law_1267 hG hl
  · exact s_L_law_1268 hG hl
  · exact s_L_law_1269 hG hl
  · exact s_L_law_1270 hG hl
  · exact s_L_law_1271 hG hl
  · exact s_L_law_1273 hG hl
  · exact s_L_law_1274 hG hl
  · exact s_L_law_1275 hG hl
  · exact s_L_law_1276 hG hl
  · exact s_L_law_1279 hG hl
  · exact s_L_law_1281 hG hl
  · exact s_L_law_1284 hG hl
  · exact s_L_law_1285 hG hl
  · exact s_L_law_1288 hG hl
  · exact s_L_law_1289 hG hl
  · exact s_L_law_1290 hG hl
  · exact s_L_law_1293 hG hl
  · exact s_L_law_1294 hG hl
  · exact s_L_law_1297 hG hl
  · exact s_L_law_1298 hG hl
  · exact s_L_law_1301 hG hl
  · exact s_L_law_1302 hG hl
  · exact s_L_law_1303 hG hl
  · exact s_L_law_1306 hG hl
  · exact s_L_law_1307 hG hl
  · exact s_L_law_1310 hG hl
  · exact s_L_law_1311 hG hl
  · exact s_L_law_1312 hG hl
  · exact s_L_law_1314 hG hl
  · exact s_L_law_1315 hG hl
  · exact s_L_law_1316 hG hl
  · exact s_L_law_1317 hG hl
  · exact s_L_law_1320 hG hl
  · exact s_L_law_1321 hG hl
  · exact s_L_law_1322 hG hl
  · exact s_L_law_1323 hG hl
  · exact s_L_law_1325 hG hl
  · exact s_L_law_1326 hG hl
  · exact s_L_law_1327 hG hl
  · exact s_L_law_1328 hG hl
  · exact s_L_law_1331 hG hl
theorem sa_L_law_c13 {X : ev_E} {l : Launch} (hG : ev_Good X) (hl : l.stackTraces = false) : ∀ q ∈ tb_L_law_c13 X, ev_Snd X l ev_ms x_L_law tx_L_law q.1 q.2 := by
  intro q hq
  unfold tb_L_law_c13 at hq
  simp only [List.mem_cons, List.not_mem_nil, or_false] at hq
  rcases hq with rfl | rfl | rfl | rfl | rfl | rfl | rfl | rfl | rfl | rfl | rfl | rfl | rfl | rfl | rfl | rfl | rfl | rfl | rfl | rfl | rfl | rfl | rfl | rfl | rfl | rfl | rfl | rfl | rfl | rfl | rfl | rfl | rfl | rfl | rfl | rfl | rfl | rfl | rfl | rfl | rfl | rfl | rfl | rfl | rfl | rfl | rfl | rfl | rfl | rfl | rfl | rfl | rfl | rfl | rfl | rfl | rfl | rfl | rfl | rfl
  · exact s_L_law_1332 hG hl
  · exact s_L_law_1335 hG hl
  · exact s_L_law_1336 hG hl
  · exact s_L_law_1337 hG hl
  · exact s_L_law_1339 hG hl
  · exact s_L_law_1340 hG hl
  · exact s_L_law_1341 hG hl
  · exact s_L_law_1342 hG hl
  · exact s_L_law_1345 hG hl
  · exact s_L_law_1346 hG hl
  · exact s_L_law_1347 hG hl
  · exact s_L_law_1348 hG hl
  · exact s_L_law_1350 hG hl
  · exact s_L_law_1351 hG hl
  · exact s_L_law_1352 hG hl
  · exact s_L_law_1353 hG hl
  · exact s_L_law_1356 hG hl
  · exact s_L_law_1357 hG hl
  · exact s_L_law_1360 hG hl
  · exact s_L_law_1361 hG hl
  · exact s_L_law_1362 hG hl
  · exact s_L_law_1364 hG hl
  · exact s_L_law_1365 hG hl
  · exact s_L_law_1366 hG hl
  · exact s_L_law_1367 hG hl
  · exact s_L_law_1368 hG hl
  · exact s_L_law_1371 hG hl
  · exact s_L_law_1373 hG hl
  · exact s_L_law_1374 hG hl
  · exact s_L_law_1375 hG hl
  · exact s_L_law_1377 hG hl
  · exact s_L_law_1378 hG hl
  · exact s_L_law_1379 hG hl
  · exact s_L_law_1380 hG hl
  · exact s_L_law_1383 hG hl
  · exact s_L_law_1385 hG hl
  · exact s_L_law_1388 hG hl
  · exact s_L_law_1389 hG hl
  · exact s_L_law_1392 hG hl
  · exact s_L_law_1393 hG hl
  · exact s_L_law_1394 hG hl
  · exact s_L_law_1397 hG hl
  · exact s_L_law_1398 hG hl
  · exact s_L_law_1401 hG hl
  · exact s_L_law_1402 hG hl
  · exact s_L_law_1403 hG hl
  · exact s_L_law_1405 hG hl
  · exact s_L_law_1406 hG hl
  · exact s_L_law_1407 hG hl
  · exact s_L_law_1408 hG hl
  · exact s_L_law_1409 hG hl
  · exact s_L_law_1412 hG hl
  · exact s_L_law_1414 hG hl
  · exact s_L_law_1415 hG hl
  · exact s_L_law_1416 hG hl
  · exact s_L_law_1418 hG hl
  · exact s_L_law_1419 hG hl
  · exact s_L_law_1420 hG hl
  · exact s_L_law_1421 hG hl
  · exact s_L_law_1424 hG hl
theorem sa_L_law_c14 {X : ev_E} {l : Launch} (hG : ev_Good X) (hl : l.stackTraces = false) : ∀ q ∈ tb_L_law_c14 X, ev_Snd X l ev_ms x_L_law tx_L_law q.1 q.2 := by
  intro q hq
  unfold tb_L_law_c14 at hq
  simp only [List.mem_cons, List.not_mem_nil, or_false] at hq
  rcases hq with rfl | rfl | rfl | rfl | rfl | rfl | rfl | rfl | rfl | rfl | rfl | rfl | rfl | rfl | rfl | rfl | rfl | rfl | rfl | rfl | rfl | rfl | rfl | rfl | rfl | rfl | rfl | rfl | rfl | rfl | rfl | rfl | rfl | rfl | rfl | rfl | rfl | rfl | rfl | rfl | rfl | rfl | rfl | rfl | rfl | rfl | rfl | rfl | rfl | rfl | rfl | rfl | rfl | rfl | rfl | rfl | rfl | rfl | rfl | rfl
  · exact s_L_law_1426 hG hl
  · exact s_L_law_1429 hG hl
  · exact s_L_law_1430 hG hl
  · exact s_L_law_1431 hG hl
  · exact s_L_law_1433 hG hl
  · exact s_L_law_1434 hG hl
  · exact s_L_law_1435 hG hl
  · exact s_L_law_1436 hG hl
  · exact s_L_law_1437 hG hl
  · exact s_L_law_1439 hG hl
  · exact s_L_law_1440 hG hl
  · exact s_L_law_1441 hG hl
  · exact s_L_law_1442 hG hl
  · exact s_L_law_1443 hG hl
  · exact s_L_law_1446 hG hl
  · exact s_L_law_1448 hG hl
  · exact s_L_law_1449 hG hl
  · exact s_L_law_1450 hG hl
  · exact s_L_law_1452 hG hl
  · exact s_L_law_1453 hG hl
  · exact s_L_law_1454 hG hl
  · exact s_L_law_1455 hG hl
  · exact s_L_law_1456 hG hl
  · exact s_L_law_1458 hG hl
  · exact s_L_law_1459 hG hl
  · exact s_L_law_1460 hG hl
  · exact s_L_law_1461 hG hl
  · exact s_L_law_1464 hG hl
  · exact s_L_law_1466 hG hl
  · exact s_L_law_1469 hG hl
  · exact s_L_law_1470 hG hl
  · exact s_L_law_1471 hG hl
  · exact s_L_law_1473 hG hl
  · exact s_L_law_1474 hG hl
  · exact s_L_law_1475 hG hl
  · exact s_L_law_1476 hG hl
  · exact s_L_law_1477 hG hl
  · exact s_L_law_1479 hG hl
  · exact s_L_law_1480 hG hl
  · exact s_L_law_1481 hG hl
  · exact s_L_law_1482 hG hl
  · exact s_L_law_1483 hG hl
  · exact s_L_law_1486 hG hl
  · exact s_L_law_1488 hG hl
  · exact s_L_law_1489 hG hl
  · exact s_L_law_1490 hG hl
  · exact s_L_law_1492 hG hl
  · exact s_L_law_1493 hG hl
  · exact s_L_law_1494 hG hl
  · exact s_L_law_1495 hG hl
  · exact s_L_law_1496 hG hl
  · exact s_L_law_1498 hG hl
  · exact s_L_law_1499 hG hl
  · exact s_L_law_1500 hG hl
  · exact s_L_law_1501 hG hl
  · exact s_L_law_1504 hG hl
  · exact s_L_law_1506 hG hl
  · exact s_L_law_1509 hG hl
  · exact s_L_law_1510 hG hl
  · exact s_L_law_1511 hG hl
theorem sa_L_law_c15 {X : ev_E} {l : Launch} (hG : ev_Good X) (hl : l.stackTraces = false) : ∀ q ∈ tb_L_law_c15 X, ev_Snd X l ev_ms x_L_law tx_L_law q.1 q.2 := by
  intro q hq
  unfold tb_L_law_c15 at hq
  simp only [List.mem_cons, List.not_mem_nil, or_false] at hq
  rcases hq with rfl | rfl | rfl | rfl | rfl | rfl | rfl | rfl | rfl | rfl | rfl | rfl | rfl | rfl | rfl | rfl | rfl | rfl | rfl | rfl | rfl | rfl | rfl | rfl | rfl | rfl | rfl | rfl | rfl | rfl | rfl | rfl | rfl | rfl | rfl | rfl | rfl | rfl | rfl | rfl | rfl | rfl | rfl | rfl | rfl | rfl | rfl | rfl | rfl | rfl | rfl | rfl | rfl | rfl | rfl | rfl | rfl | rfl | rfl | rfl
  · exact s_L_law_1513 hG hl
  · exact s_L_law_1514 hG hl
  · exact s_L_law_1515 hG hl
  · exact s_L_law_1516 hG hl
  · exact s_L_law_1517 hG hl
  · exact s_L_law_1520 hG hl
  · exact s_L_law_1522 hG hl
  · exact s_L_law_1523 hG hl
  · exact s_L_law_1524 hG hl
  · exact s_L_law_1526 hG hl
  · exact s_L_law_1527 hG hl
  · exact s_L_law_1528 hG hl
  · exact s_L_law_1529 hG hl
  · exact s_L_law_1532 hG hl
  · exact s_L_law_1534 hG hl
  · exact s_L_law_1537 hG hl
  · exact s_L_law_1538 hG hl
  · exact s_L_law_1539 hG hl
  · exact s_L_law_1541 hG hl
  · exact s_L_law_1542 hG hl
  · exact s_L_law_1543 hG hl
  · exact s_L_law_1544 hG hl
  · exact s_L_law_1545 hG hl
  · exact s_L_law_1548 hG hl
  · exact s_L_law_1550 hG hl
  · exact s_L_law_1551 hG hl
  · exact s_L_law_1552 hG hl
  · exact s_L_law_1554 hG hl
  · exact s_L_law_1555 hG hl
  · exact s_L_law_1556 hG hl
  · exact s_L_law_1557 hG hl
  · exact s_L_law_1560 hG hl
  · exact s_L_law_1562 hG hl
  · exact s_L_law_1565 hG hl
  · exact s_L_law_1566 hG hl
  · exact s_L_law_1567 hG hl
  · exact s_L_law_1569 hG hl
  · exact s_L_law_1570 hG hl
  · exact s_L_law_1571 hG hl
  · exact s_L_law_1572 hG hl
  · exact s_L_law_1573 hG hl
  · exact s_L_law_1576 hG hl
  · exact s_L_law_1578 hG hl
  · exact s_L_law_1579 hG hl
  · exact s_L_law_1580 hG hl
  · exact s_L_law_1582 hG hl
  · exact s_L_law_1583 hG hl
  · exact s_L_law_1584 hG hl
  · exact s_L_law_1585 hG hl
  · exact s_L_law_1588 hG hl
  · exact s_L_law_1590 hG hl
  · exact s_L_law_1593 hG hl
  · exact s_L_law_1594 hG hl
  · exact s_L_law_1595 hG hl
  · exact s_L_law_1597 hG hl
  · exact s_L_law_1598 hG hl
  · exact s_L_law_1599 hG hl
  · exact s_L_law_1600 hG hl
  · exact s_L_law_1603 hG hl
  · exact s_L_law_1604 hG hl
theorem sa_L_law_c16 {X : ev_E} {l : Launch} (hG : ev_Good X) (hl : l.stackTraces = false) : ∀ q ∈ tb_L_law_c16 X, ev_Snd X l ev_ms x_L_law tx_L_law q.1 q.2 := by
  intro q hq
  unfold tb_L_law_c16 at hq
  simp only [List.mem_cons, List.not_mem_nil, or_false] at hq
  rcases hq with rfl | rfl | rfl | rfl | rfl | rfl | rfl | rfl | rfl | rfl | rfl | rfl | rfl | rfl | rfl | rfl | rfl | rfl | rfl | rfl | rfl | rfl | rfl | rfl | rfl | rfl | rfl | rfl | rfl | rfl | rfl | rfl | rfl | rfl | rfl | rfl | rfl | rfl | rfl | rfl | rfl | rfl | rfl | rfl | rfl | rfl | rfl | rfl | rfl | rfl | rfl | rfl | rfl | rfl | rfl | rfl | rfl | rfl | rfl | rfl
  · exact s_L_law_1605 hG hl
  · exact s_L_law_1606 hG hl
  · exact s_L_law_1608 hG hl
  · exact s_L_law_1609 hG hl
  · exact s_L_law_1610 hG hl
  · exact s_L_law_1611 hG hl
  · exact s_L_law_1614 hG hl
  · exact s_L_law_1615 hG hl
  · exact s_L_law_1618 hG hl
  · exact s_L_law_1619 hG hl
  · exact s_L_law_1620 hG hl
  · exact s_L_law_1622 hG hl
  · exact s_L_law_1623 hG hl
  · exact s_L_law_1624 hG hl
  · exact s_L_law_1625 hG hl
  · exact s_L_law_1626 hG hl
  · exact s_L_law_1629 hG hl
  · exact s_L_law_1631 hG hl
  · exact s_L_law_1632 hG hl
  · exact s_L_law_1633 hG hl
  · exact s_L_law_1635 hG hl
  · exact s_L_law_1636 hG hl
  · exact s_L_law_1637 hG hl
  · exact s_L_law_1638 hG hl
  · exact s_L_law_1641 hG hl
  · exact s_L_law_1643 hG hl
  · exact s_L_law_1646 hG hl
  · exact s_L_law_1647 hG hl
  · exact s_L_law_1648 hG hl
  · exact s_L_law_1650 hG hl
  · exact s_L_law_1651 hG hl
  · exact s_L_law_1652 hG hl
  · exact s_L_law_1653 hG hl
  · exact s_L_law_1654 hG hl
  · exact s_L_law_1657 hG hl
  · exact s_L_law_1659 hG hl
  · exact s_L_law_1660 hG hl
  · exact s_L_law_1661 hG hl
  · exact s_L_law_1663 hG hl
  · exact s_L_law_1664 hG hl
  · exact s_L_law_1665 hG hl
  · exact s_L_law_1666 hG hl
  · exact s_L_law_1669 hG hl
  · exact s_L_law_1671 hG hl
  · exact s_L_law_1674 hG hl
  · exact s_L_law_1675 hG hl
  · exact s_L_law_1678 hG hl
  · exact s_L_law_1679 hG hl
  · exact s_L_law_1680 hG hl
  · exact s_L_law_1683 hG hl
  · exact s_L_law_1684 hG hl
  · exact s_L_law_1687 hG hl
  · exact s_L_law_1688 hG hl
  · exact s_L_law_1691 hG hl
  · exact s_L_law_1692 hG hl
  · exact s_L_law_1693 hG hl
  · exact s_L_law_1696 hG hl
  · exact s_L_law_1697 hG hl
  · exact s_L_law_1700 hG hl
  · exact s_L_law_1701 hG hl
theorem sa_L_law_c17 {X : ev_E} {l : Launch} (hG : ev_Good X) (hl : l.stackTraces = false) : ∀ q ∈ tb_L_law_c17 X, ev_Snd X l ev_ms x_L_law tx_L_law q.1 q.2 := by
  intro q hq
  unfold tb_L_law_c17 at hq
  simp only [List.mem_cons, List.not_mem_nil, or_false] at hq
  rcases hq with rfl | rfl | rfl | rfl | rfl | rfl | rfl | rfl | rfl | rfl
  · exact s_L_law_1704 hG hl
  · exact s_L_law_1705 hG hl
  · exact s_L_law_1708 hG hl
  · exact s_L_law_1709 hG hl
  · exact s_L_law_1712 hG hl
  · exact s_L_law_1713 hG hl
  · exact s_L_law_1714 hG hl
  · exact s_L_law_1717 hG hl
  · exact s_L_law_1720 hG hl
  · exact s_L_law_1721 hG hl
theorem sa_L_law {X : ev_E} {l : Launch} (hG : ev_Good X) (hl : l.stackTraces = false) : ∀ q ∈ tb_L_law X, ev_Snd X l ev_ms x_L_law tx_L_law q.1 q.2 := List.forall_mem_append.mpr ⟨sa_L_law_c0 hG hl, List.forall_mem_append.mpr ⟨sa_L_law_c1 hG hl, List.forall_mem_append.mpr ⟨sa_L_law_c2 hG hl, List.forall_mem_append.mpr ⟨sa_L_law_c3 hG hl, List.forall_mem_append.mpr ⟨sa_L_law_c4 hG hl, List.forall_mem_append.mpr ⟨sa_L_law_c5 hG hl, List.forall_mem_append.mpr ⟨sa_L_law_c6 hG hl, List.forall_mem_append.mpr ⟨sa_L_law_c7 hG hl, List.forall_mem_append.mpr ⟨sa_L_law_c8 hG hl, List.forall_mem_append.mpr ⟨sa_L_law_c9 hG hl, List.forall_mem_append.mpr ⟨sa_L_law_c10 hG hl, List.forall_mem_append.mpr ⟨sa_L_law_c11 hG hl, List.forall_mem_append.mpr ⟨sa_L_law_c12 hG hl, List.forall_mem_append.mpr ⟨sa_L_law_c13 hG hl, List.forall_mem_append.mpr ⟨sa_L_law_c14 hG hl, List.forall_mem_append.mpr ⟨sa_L_law_c15 hG hl, List.forall_mem_append.mpr ⟨sa_L_law_c16 hG hl, sa_L_law_c17 hG hl⟩⟩⟩⟩⟩⟩⟩⟩⟩⟩⟩⟩⟩⟩⟩⟩⟩
