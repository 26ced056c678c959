def tx_L_law : ev_X := fun pc _ => bif List.elem pc [4, 12, 20] then none else some none
noncomputable def tb_L_law_c0 (X : ev_E) : List (Nat × (ev_S → ev_N)) := [(0, i_nw 10 7 [.null, .null, .null, .null, .null, .int 0, .int 0] 3), (3, i_dup 4), (4, i_cI 153 0 2 7), (7, i_as 1 8), (8, i_nw 13 5 [.int 0, .int 0, .int 0, .null, .null] 11), (11, i_dup 12), (12, i_cI 235 0 1 15), (15, i_as 2 16), (16, i_nw 11 2 [.long 0, .null] 19), (19, i_dup 20), (20, i_cI 60 0 1 23), (23, i_as 3 24), (24, i_psh (.int (0)) 25), (25, i_is 4 27), (27, i_il 4 29), (29, i_al 0 30), (30, i_len X 31), (31, i_psh (.int (4)) 32), (32, i_ii (fun a b => a - b) 33), (33, i_icgt 1748 36), (36, i_al 0 37), (37, i_il 4 39), (39, i_ald X ev_tI 40), (40, i_psh (.int (63)) 42), (42, i_ii (fun a b => a &&& b) 43), (43, i_sw (0) [236, 304, 356, 408, 448, 500, 540, 597, 649, 689, 729, 757, 797, 837, 877, 917, 945, 973, 1013, 1053, 1093, 1121, 1149, 1177, 1205, 1233, 1261, 1313, 1326, 1339, 1364, 1389, 1417, 1430, 1458, 1498, 1538, 1566, 1594, 1622, 1647, 1675, 1703, 1716, 1729] 1742), (236, i_al 1 237), (237, i_al 0 238), (238, i_il 4 240), (240, i_psh (.int (1)) 241), (241, i_ii (fun a b => a + b) 242), (242, i_ald X ev_tI 243), (243, i_al 0 244), (244, i_il 4 246), (246, i_psh (.int (2)) 247), (247, i_ii (fun a b => a + b) 248), (248, i_ald X ev_tI 249), (249, i_ifeq 256 252), (252, i_psh (.int (1)) 253), (253, i_goto 257), (256, i_psh (.int (0)) 257), (257, i_al 0 258), (258, i_il 4 260), (260, i_psh (.int (3)) 261), (261, i_ii (fun a b => a + b) 262), (262, i_ald X ev_tI 263), (263, i_al 3 264), (264, i_cS 189 5 6 267), (267, i_is 5 269), (269, i_al 2 270), (270, i_al 0 271), (271, i_il 4 273), (273, i_psh (.int (1)) 274), (274, i_ii (fun a b => a + b) 275), (275, i_ald X ev_tI 276), (276, i_al 0 277), (277, i_il 4 279), (279, i_psh (.int (2)) 280), (280, i_ii (fun a b => a + b) 281), (281, i_ald X ev_tI 282)]
noncomputable def tb_L_law_c1 (X : ev_E) : List (Nat × (ev_S → ev_N)) := [(282, i_ifeq 289 285), (285, i_psh (.int (1)) 286), (286, i_goto 290), (289, i_psh (.int (0)) 290), (290, i_al 0 291), (291, i_il 4 293), (293, i_psh (.int (3)) 294), (294, i_ii (fun a b => a + b) 295), (295, i_ald X ev_tI 296), (296, i_cV X 168 3 13 6 299), (299, i_is 6 301), (301, i_goto 1742), (304, i_al 1 305), (305, i_al 0 306), (306, i_il 4 308), (308, i_psh (.int (1)) 309), (309, i_ii (fun a b => a + b) 310), (310, i_ald X ev_tI 311), (311, i_al 0 312), (312, i_il 4 314), (314, i_psh (.int (2)) 315), (315, i_ii (fun a b => a + b) 316), (316, i_ald X ev_tI 317), (317, i_al 0 318), (318, i_il 4 320), (320, i_psh (.int (3)) 321), (321, i_ii (fun a b => a + b) 322), (322, i_ald X ev_tI 323), (323, i_al 3 324), (324, i_cS 252 5 6 327), (327, i_is 5 329), (329, i_al 2 330), (330, i_al 0 331), (331, i_il 4 333), (333, i_psh (.int (1)) 334), (334, i_ii (fun a b => a + b) 335), (335, i_ald X ev_tI 336), (336, i_al 0 337), (337, i_il 4 339), (339, i_psh (.int (2)) 340), (340, i_ii (fun a b => a + b) 341), (341, i_ald X ev_tI 342), (342, i_al 0 343), (343, i_il 4 345), (345, i_psh (.int (3)) 346), (346, i_ii (fun a b => a + b) 347), (347, i_ald X ev_tI 348), (348, i_cV X 294 3 13 7 351), (351, i_is 6 353), (353, i_goto 1742), (356, i_al 1 357), (357, i_al 0 358), (358, i_il 4 360), (360, i_psh (.int (1)) 361), (361, i_ii (fun a b => a + b) 362), (362, i_ald X ev_tI 363), (363, i_al 0 364), (364, i_il 4 366), (366, i_psh (.int (2)) 367), (367, i_ii (fun a b => a + b) 368)]
noncomputable def tb_L_law_c2 (X : ev_E) : List (Nat × (ev_S → ev_N)) := [(368, i_ald X ev_tI 369), (369, i_al 0 370), (370, i_il 4 372), (372, i_psh (.int (3)) 373), (373, i_ii (fun a b => a + b) 374), (374, i_ald X ev_tI 375), (375, i_al 3 376), (376, i_cS 263 5 6 379), (379, i_is 5 381), (381, i_al 2 382), (382, i_al 0 383), (383, i_il 4 385), (385, i_psh (.int (1)) 386), (386, i_ii (fun a b => a + b) 387), (387, i_ald X ev_tI 388), (388, i_al 0 389), (389, i_il 4 391), (391, i_psh (.int (2)) 392), (392, i_ii (fun a b => a + b) 393), (393, i_ald X ev_tI 394), (394, i_al 0 395), (395, i_il 4 397), (397, i_psh (.int (3)) 398), (398, i_ii (fun a b => a + b) 399), (399, i_ald X ev_tI 400), (400, i_cV X 295 3 13 7 403), (403, i_is 6 405), (405, i_goto 1742), (408, i_al 1 409), (409, i_al 0 410), (410, i_il 4 412), (412, i_psh (.int (1)) 413), (413, i_ii (fun a b => a + b) 414), (414, i_ald X ev_tI 415), (415, i_al 0 416), (416, i_il 4 418), (418, i_psh (.int (2)) 419), (419, i_ii (fun a b => a + b) 420), (420, i_ald X ev_tI 421), (421, i_al 3 422), (422, i_cS 250 4 5 425), (425, i_is 5 427), (427, i_al 2 428), (428, i_al 0 429), (429, i_il 4 431), (431, i_psh (.int (1)) 432), (432, i_ii (fun a b => a + b) 433), (433, i_ald X ev_tI 434), (434, i_al 0 435), (435, i_il 4 437), (437, i_psh (.int (2)) 438), (438, i_ii (fun a b => a + b) 439), (439, i_ald X ev_tI 440), (440, i_cV X 303 2 13 3 443), (443, i_is 6 445), (445, i_goto 1742), (448, i_al 1 449), (449, i_al 0 450), (450, i_il 4 452), (452, i_psh (.int (1)) 453)]
noncomputable def tb_L_law_c3 (X : ev_E) : List (Nat × (ev_S → ev_N)) := [(453, i_ii (fun a b => a + b) 454), (454, i_ald X ev_tI 455), (455, i_al 0 456), (456, i_il 4 458), (458, i_psh (.int (2)) 459), (459, i_ii (fun a b => a + b) 460), (460, i_ald X ev_tI 461), (461, i_al 0 462), (462, i_il 4 464), (464, i_psh (.int (3)) 465), (465, i_ii (fun a b => a + b) 466), (466, i_ald X ev_tI 467), (467, i_al 3 468), (468, i_cS 251 5 6 471), (471, i_is 5 473), (473, i_al 2 474), (474, i_al 0 475), (475, i_il 4 477), (477, i_psh (.int (1)) 478), (478, i_ii (fun a b => a + b) 479), (479, i_ald X ev_tI 480), (480, i_al 0 481), (481, i_il 4 483), (483, i_psh (.int (2)) 484), (484, i_ii (fun a b => a + b) 485), (485, i_ald X ev_tI 486), (486, i_al 0 487), (487, i_il 4 489), (489, i_psh (.int (3)) 490), (490, i_ii (fun a b => a + b) 491), (491, i_ald X ev_tI 492), (492, i_cV X 304 3 13 4 495), (495, i_is 6 497), (497, i_goto 1742), (500, i_al 1 501), (501, i_al 0 502), (502, i_il 4 504), (504, i_psh (.int (1)) 505), (505, i_ii (fun a b => a + b) 506), (506, i_ald X ev_tI 507), (507, i_al 0 508), (508, i_il 4 510), (510, i_psh (.int (2)) 511), (511, i_ii (fun a b => a + b) 512), (512, i_ald X ev_tI 513), (513, i_al 3 514), (514, i_cS 223 4 5 517), (517, i_is 5 519), (519, i_al 2 520), (520, i_al 0 521), (521, i_il 4 523), (523, i_psh (.int (1)) 524), (524, i_ii (fun a b => a + b) 525), (525, i_ald X ev_tI 526), (526, i_al 0 527), (527, i_il 4 529), (529, i_psh (.int (2)) 530), (530, i_ii (fun a b => a + b) 531), (531, i_ald X ev_tI 532), (532, i_cV X 240 2 13 5 535)]
noncomputable def tb_L_law_c4 (X : ev_E) : List (Nat × (ev_S → ev_N)) := [(535, i_is 6 537), (537, i_goto 1742), (540, i_al 1 541), (541, i_al 0 542), (542, i_il 4 544), (544, i_psh (.int (1)) 545), (545, i_ii (fun a b => a + b) 546), (546, i_ald X ev_tI 547), (547, i_al 3 548), (548, i_cS 132 3 4 551), (551, i_is 5 553), (553, i_al 2 554), (554, i_al 0 555), (555, i_il 4 557), (557, i_psh (.int (1)) 558), (558, i_ii (fun a b => a + b) 559), (559, i_ald X ev_tI 560), (560, i_cV X 164 1 13 3 563), (563, i_is 6 565), (565, i_al 2 566), (566, i_cV X 71 0 13 1 569), (569, i_il 5 571), (571, i_iceq 576 574), (574, i_psh (.int (0)) 575), (575, i_ir (.boolean)), (576, i_il 5 578), (578, i_ifne 594 581), (581, i_al 3 582), (582, i_gf X 11 0 585), (585, i_il 6 587), (587, i_i2l 588), (588, i_lcmp 589), (589, i_ifeq 594 592), (592, i_psh (.int (0)) 593), (593, i_ir (.boolean)), (594, i_goto 1742), (597, i_al 1 598), (598, i_al 0 599), (599, i_il 4 601), (601, i_psh (.int (1)) 602), (602, i_ii (fun a b => a + b) 603), (603, i_ald X ev_tI 604), (604, i_al 0 605), (605, i_il 4 607), (607, i_psh (.int (2)) 608), (608, i_ii (fun a b => a + b) 609), (609, i_ald X ev_tI 610), (610, i_al 0 611), (611, i_il 4 613), (613, i_psh (.int (3)) 614), (614, i_ii (fun a b => a + b) 615), (615, i_ald X ev_tI 616), (616, i_al 3 617), (617, i_cS 192 5 6 620), (620, i_is 5 622), (622, i_al 2 623), (623, i_al 0 624), (624, i_il 4 626), (626, i_psh (.int (1)) 627), (627, i_ii (fun a b => a + b) 628)]
noncomputable def tb_L_law_c5 (X : ev_E) : List (Nat × (ev_S → ev_N)) := [(628, i_ald X ev_tI 629), (629, i_al 0 630), (630, i_il 4 632), (632, i_psh (.int (2)) 633), (633, i_ii (fun a b => a + b) 634), (634, i_ald X ev_tI 635), (635, i_al 0 636), (636, i_il 4 638), (638, i_psh (.int (3)) 639), (639, i_ii (fun a b => a + b) 640), (640, i_ald X ev_tI 641), (641, i_cV X 214 3 13 5 644), (644, i_is 6 646), (646, i_goto 1742), (649, i_al 1 650), (650, i_al 0 651), (651, i_il 4 653), (653, i_psh (.int (1)) 654), (654, i_ii (fun a b => a + b) 655), (655, i_ald X ev_tI 656), (656, i_al 0 657), (657, i_il 4 659), (659, i_psh (.int (2)) 660), (660, i_ii (fun a b => a + b) 661), (661, i_ald X ev_tI 662), (662, i_al 3 663), (663, i_cS 221 4 5 666), (666, i_is 5 668), (668, i_al 2 669), (669, i_al 0 670), (670, i_il 4 672), (672, i_psh (.int (1)) 673), (673, i_ii (fun a b => a + b) 674), (674, i_ald X ev_tI 675), (675, i_al 0 676), (676, i_il 4 678), (678, i_psh (.int (2)) 679), (679, i_ii (fun a b => a + b) 680), (680, i_ald X ev_tI 681), (681, i_cV X 280 2 13 7 684), (684, i_is 6 686), (686, i_goto 1742), (689, i_al 1 690), (690, i_al 0 691), (691, i_il 4 693), (693, i_psh (.int (1)) 694), (694, i_ii (fun a b => a + b) 695), (695, i_ald X ev_tI 696), (696, i_al 0 697), (697, i_il 4 699), (699, i_psh (.int (2)) 700), (700, i_ii (fun a b => a + b) 701), (701, i_ald X ev_tI 702), (702, i_al 3 703), (703, i_cS 133 4 5 706), (706, i_is 5 708), (708, i_al 2 709), (709, i_al 0 710), (710, i_il 4 712), (712, i_psh (.int (1)) 713)]
noncomputable def tb_L_law_c6 (X : ev_E) : List (Nat × (ev_S → ev_N)) := [(713, i_ii (fun a b => a + b) 714), (714, i_ald X ev_tI 715), (715, i_al 0 716), (716, i_il 4 718), (718, i_psh (.int (2)) 719), (719, i_ii (fun a b => a + b) 720), (720, i_ald X ev_tI 721), (721, i_cV X 234 2 13 3 724), (724, i_is 6 726), (726, i_goto 1742), (729, i_al 1 730), (730, i_al 0 731), (731, i_il 4 733), (733, i_psh (.int (1)) 734), (734, i_ii (fun a b => a + b) 735), (735, i_ald X ev_tI 736), (736, i_al 3 737), (737, i_cS 138 3 4 740), (740, i_is 5 742), (742, i_al 2 743), (743, i_al 0 744), (744, i_il 4 746), (746, i_psh (.int (1)) 747), (747, i_ii (fun a b => a + b) 748), (748, i_ald X ev_tI 749), (749, i_cV X 169 1 13 2 752), (752, i_is 6 754), (754, i_goto 1742), (757, i_al 1 758), (758, i_al 0 759), (759, i_il 4 761), (761, i_psh (.int (1)) 762), (762, i_ii (fun a b => a + b) 763), (763, i_ald X ev_tI 764), (764, i_al 0 765), (765, i_il 4 767), (767, i_psh (.int (2)) 768), (768, i_ii (fun a b => a + b) 769), (769, i_ald X ev_tI 770), (770, i_al 3 771), (771, i_cS 186 4 5 774), (774, i_is 5 776), (776, i_al 2 777), (777, i_al 0 778), (778, i_il 4 780), (780, i_psh (.int (1)) 781), (781, i_ii (fun a b => a + b) 782), (782, i_ald X ev_tI 783), (783, i_al 0 784), (784, i_il 4 786), (786, i_psh (.int (2)) 787), (787, i_ii (fun a b => a + b) 788), (788, i_ald X ev_tI 789), (789, i_cV X 236 2 13 3 792), (792, i_is 6 794), (794, i_goto 1742), (797, i_al 1 798), (798, i_al 0 799), (799, i_il 4 801), (801, i_psh (.int (1)) 802)]
noncomputable def tb_L_law_c7 (X : ev_E) : List (Nat × (ev_S → ev_N)) := [(802, i_ii (fun a b => a + b) 803), (803, i_ald X ev_tI 804), (804, i_al 0 805), (805, i_il 4 807), (807, i_psh (.int (2)) 808), (808, i_ii (fun a b => a + b) 809), (809, i_ald X ev_tI 810), (810, i_al 3 811), (811, i_cS 194 4 5 814), (814, i_is 5 816), (816, i_al 2 817), (817, i_al 0 818), (818, i_il 4 820), (820, i_psh (.int (1)) 821), (821, i_ii (fun a b => a + b) 822), (822, i_ald X ev_tI 823), (823, i_al 0 824), (824, i_il 4 826), (826, i_psh (.int (2)) 827), (827, i_ii (fun a b => a + b) 828), (828, i_ald X ev_tI 829), (829, i_cV X 244 2 13 3 832), (832, i_is 6 834), (834, i_goto 1742), (837, i_al 1 838), (838, i_al 0 839), (839, i_il 4 841), (841, i_psh (.int (1)) 842), (842, i_ii (fun a b => a + b) 843), (843, i_ald X ev_tI 844), (844, i_al 0 845), (845, i_il 4 847), (847, i_psh (.int (2)) 848), (848, i_ii (fun a b => a + b) 849), (849, i_ald X ev_tI 850), (850, i_al 3 851), (851, i_cS 191 4 5 854), (854, i_is 5 856), (856, i_al 2 857), (857, i_al 0 858), (858, i_il 4 860), (860, i_psh (.int (1)) 861), (861, i_ii (fun a b => a + b) 862), (862, i_ald X ev_tI 863), (863, i_al 0 864), (864, i_il 4 866), (866, i_psh (.int (2)) 867), (867, i_ii (fun a b => a + b) 868), (868, i_ald X ev_tI 869), (869, i_cV X 238 2 13 3 872), (872, i_is 6 874), (874, i_goto 1742), (877, i_al 1 878), (878, i_al 0 879), (879, i_il 4 881), (881, i_psh (.int (1)) 882), (882, i_ii (fun a b => a + b) 883), (883, i_ald X ev_tI 884), (884, i_al 0 885), (885, i_il 4 887)]
noncomputable def tb_L_law_c8 (X : ev_E) : List (Nat × (ev_S → ev_N)) := [(887, i_psh (.int (2)) 888), (888, i_ii (fun a b => a + b) 889), (889, i_ald X ev_tI 890), (890, i_al 3 891), (891, i_cS 137 4 5 894), (894, i_is 5 896), (896, i_al 2 897), (897, i_al 0 898), (898, i_il 4 900), (900, i_psh (.int (1)) 901), (901, i_ii (fun a b => a + b) 902), (902, i_ald X ev_tI 903), (903, i_al 0 904), (904, i_il 4 906), (906, i_psh (.int (2)) 907), (907, i_ii (fun a b => a + b) 908), (908, i_ald X ev_tI 909), (909, i_cV X 239 2 13 3 912), (912, i_is 6 914), (914, i_goto 1742), (917, i_al 1 918), (918, i_al 0 919), (919, i_il 4 921), (921, i_psh (.int (1)) 922), (922, i_ii (fun a b => a + b) 923), (923, i_ald X ev_tI 924), (924, i_al 3 925), (925, i_cS 182 3 4 928), (928, i_is 5 930), (930, i_al 2 931), (931, i_al 0 932), (932, i_il 4 934), (934, i_psh (.int (1)) 935), (935, i_ii (fun a b => a + b) 936), (936, i_ald X ev_tI 937), (937, i_cV X 233 1 13 2 940), (940, i_is 6 942), (942, i_goto 1742), (945, i_al 1 946), (946, i_al 0 947), (947, i_il 4 949), (949, i_psh (.int (1)) 950), (950, i_ii (fun a b => a + b) 951), (951, i_ald X ev_tI 952), (952, i_al 3 953), (953, i_cS 187 3 4 956), (956, i_is 5 958), (958, i_al 2 959), (959, i_al 0 960), (960, i_il 4 962), (962, i_psh (.int (1)) 963), (963, i_ii (fun a b => a + b) 964), (964, i_ald X ev_tI 965), (965, i_cV X 237 1 13 2 968), (968, i_is 6 970), (970, i_goto 1742), (973, i_al 1 974), (974, i_al 0 975), (975, i_il 4 977), (977, i_psh (.int (1)) 978)]
noncomputable def tb_L_law_c9 (X : ev_E) : List (Nat × (ev_S → ev_N)) := [(978, i_ii (fun a b => a + b) 979), (979, i_ald X ev_tI 980), (980, i_al 0 981), (981, i_il 4 983), (983, i_psh (.int (2)) 984), (984, i_ii (fun a b => a + b) 985), (985, i_ald X ev_tI 986), (986, i_al 3 987), (987, i_cS 306 4 5 990), (990, i_is 5 992), (992, i_al 2 993), (993, i_al 0 994), (994, i_il 4 996), (996, i_psh (.int (1)) 997), (997, i_ii (fun a b => a + b) 998), (998, i_ald X ev_tI 999), (999, i_al 0 1000), (1000, i_il 4 1002), (1002, i_psh (.int (2)) 1003), (1003, i_ii (fun a b => a + b) 1004), (1004, i_ald X ev_tI 1005), (1005, i_cV X 297 2 13 6 1008), (1008, i_as 6 1010), (1010, i_goto 1742), (1013, i_al 1 1014), (1014, i_al 0 1015), (1015, i_il 4 1017), (1017, i_psh (.int (1)) 1018), (1018, i_ii (fun a b => a + b) 1019), (1019, i_ald X ev_tI 1020), (1020, i_al 0 1021), (1021, i_il 4 1023), (1023, i_psh (.int (2)) 1024), (1024, i_ii (fun a b => a + b) 1025), (1025, i_ald X ev_tI 1026), (1026, i_al 3 1027), (1027, i_cS 136 4 5 1030), (1030, i_is 5 1032), (1032, i_al 2 1033), (1033, i_al 0 1034), (1034, i_il 4 1036), (1036, i_psh (.int (1)) 1037), (1037, i_ii (fun a b => a + b) 1038), (1038, i_ald X ev_tI 1039), (1039, i_al 0 1040), (1040, i_il 4 1042), (1042, i_psh (.int (2)) 1043), (1043, i_ii (fun a b => a + b) 1044), (1044, i_ald X ev_tI 1045), (1045, i_cV X 213 2 13 3 1048), (1048, i_is 6 1050), (1050, i_goto 1742), (1053, i_al 1 1054), (1054, i_al 0 1055), (1055, i_il 4 1057), (1057, i_psh (.int (1)) 1058), (1058, i_ii (fun a b => a + b) 1059), (1059, i_ald X ev_tI 1060), (1060, i_al 0 1061), (1061, i_il 4 1063)]
noncomputable def tb_L_law_c10 (X : ev_E) : List (Nat × (ev_S → ev_N)) := [(1063, i_psh (.int (2)) 1064), (1064, i_ii (fun a b => a + b) 1065), (1065, i_ald X ev_tI 1066), (1066, i_al 3 1067), (1067, i_cS 139 4 5 1070), (1070, i_is 5 1072), (1072, i_al 2 1073), (1073, i_al 0 1074), (1074, i_il 4 1076), (1076, i_psh (.int (1)) 1077), (1077, i_ii (fun a b => a + b) 1078), (1078, i_ald X ev_tI 1079), (1079, i_al 0 1080), (1080, i_il 4 1082), (1082, i_psh (.int (2)) 1083), (1083, i_ii (fun a b => a + b) 1084), (1084, i_ald X ev_tI 1085), (1085, i_cV X 171 2 13 4 1088), (1088, i_is 6 1090), (1090, i_goto 1742), (1093, i_al 1 1094), (1094, i_al 0 1095), (1095, i_il 4 1097), (1097, i_psh (.int (1)) 1098), (1098, i_ii (fun a b => a + b) 1099), (1099, i_ald X ev_tI 1100), (1100, i_al 3 1101), (1101, i_cS 224 3 4 1104), (1104, i_is 5 1106), (1106, i_al 2 1107), (1107, i_al 0 1108), (1108, i_il 4 1110), (1110, i_psh (.int (1)) 1111), (1111, i_ii (fun a b => a + b) 1112), (1112, i_ald X ev_tI 1113), (1113, i_cV X 242 1 13 3 1116), (1116, i_is 6 1118), (1118, i_goto 1742), (1121, i_al 1 1122), (1122, i_al 0 1123), (1123, i_il 4 1125), (1125, i_psh (.int (1)) 1126), (1126, i_ii (fun a b => a + b) 1127), (1127, i_ald X ev_tI 1128), (1128, i_al 3 1129), (1129, i_cS 222 3 4 1132), (1132, i_is 5 1134), (1134, i_al 2 1135), (1135, i_al 0 1136), (1136, i_il 4 1138), (1138, i_psh (.int (1)) 1139), (1139, i_ii (fun a b => a + b) 1140), (1140, i_ald X ev_tI 1141), (1141, i_cV X 212 1 13 3 1144), (1144, i_is 6 1146), (1146, i_goto 1742), (1149, i_al 1 1150), (1150, i_al 0 1151), (1151, i_il 4 1153), (1153, i_psh (.int (1)) 1154)]
noncomputable def tb_L_law_c11 (X : ev_E) : List (Nat × (ev_S → ev_N)) := [(1154, i_ii (fun a b => a + b) 1155), (1155, i_ald X ev_tI 1156), (1156, i_al 3 1157), (1157, i_cS 183 3 4 1160), (1160, i_is 5 1162), (1162, i_al 2 1163), (1163, i_al 0 1164), (1164, i_il 4 1166), (1166, i_psh (.int (1)) 1167), (1167, i_ii (fun a b => a + b) 1168), (1168, i_ald X ev_tI 1169), (1169, i_cV X 165 1 13 2 1172), (1172, i_is 6 1174), (1174, i_goto 1742), (1177, i_al 1 1178), (1178, i_al 0 1179), (1179, i_il 4 1181), (1181, i_psh (.int (1)) 1182), (1182, i_ii (fun a b => a + b) 1183), (1183, i_ald X ev_tI 1184), (1184, i_al 3 1185), (1185, i_cS 135 3 4 1188), (1188, i_is 5 1190), (1190, i_al 2 1191), (1191, i_al 0 1192), (1192, i_il 4 1194), (1194, i_psh (.int (1)) 1195), (1195, i_ii (fun a b => a + b) 1196), (1196, i_ald X ev_tI 1197), (1197, i_cV X 167 1 13 2 1200), (1200, i_is 6 1202), (1202, i_goto 1742), (1205, i_al 1 1206), (1206, i_al 0 1207), (1207, i_il 4 1209), (1209, i_psh (.int (1)) 1210), (1210, i_ii (fun a b => a + b) 1211), (1211, i_ald X ev_tI 1212), (1212, i_al 3 1213), (1213, i_cS 253 3 4 1216), (1216, i_is 5 1218), (1218, i_al 2 1219), (1219, i_al 0 1220), (1220, i_il 4 1222), (1222, i_psh (.int (1)) 1223), (1223, i_ii (fun a b => a + b) 1224), (1224, i_ald X ev_tI 1225), (1225, i_cV X 241 1 13 4 1228), (1228, i_is 6 1230), (1230, i_goto 1742), (1233, i_al 1 1234), (1234, i_al 0 1235), (1235, i_il 4 1237), (1237, i_psh (.int (1)) 1238), (1238, i_ii (fun a b => a + b) 1239), (1239, i_ald X ev_tI 1240), (1240, i_al 3 1241), (1241, i_cS 276 3 4 1244), (1244, i_is 5 1246), (1246, i_al 2 1247)]
noncomputable def tb_L_law_c12 (X : ev_E) : List (Nat × (ev_S → ev_N)) := [(1247, i_al 0 1248), (1248, i_il 4 1250), (1250, i_psh (.int (1)) 1251), (1251, i_ii (fun a b => a + b) 1252), (1252, i_ald X ev_tI 1253), (1253, i_cV X 288 1 13 2 1256), (1256, i_is 6 1258), (1258, i_goto 1742), (1261, i_al 1 1262), (1262, i_al 0 1263), (1263, i_il 4 1265), (1265, i_psh (.int (1)) 1266), (1266, i_ii (fun a b => a + b) 1267), (1267, i_ald X ev_tI 1268), (1268, i_al 0 1269), (1269, i_il 4 1271), (1271, i_psh (.int (2)) 1272), (1272, i_ii (fun a b => a + b) 1273), (1273, i_ald X ev_tI 1274), (1274, i_al 0 1275), (1275, i_il 4 1277), (1277, i_psh (.int (3)) 1278), (1278, i_ii (fun a b => a + b) 1279), (1279, i_ald X ev_tI 1280), (1280, i_al 3 1281), (1281, i_cS 277 5 6 1284), (1284, i_is 5 1286), (1286, i_al 2 1287), (1287, i_al 0 1288), (1288, i_il 4 1290), (1290, i_psh (.int (1)) 1291), (1291, i_ii (fun a b => a + b) 1292), (1292, i_ald X ev_tI 1293), (1293, i_al 0 1294), (1294, i_il 4 1296), (1296, i_psh (.int (2)) 1297), (1297, i_ii (fun a b => a + b) 1298), (1298, i_ald X ev_tI 1299), (1299, i_al 0 1300), (1300, i_il 4 1302), (1302, i_psh (.int (3)) 1303), (1303, i_ii (fun a b => a + b) 1304), (1304, i_ald X ev_tI 1305), (1305, i_cV X 289 3 13 6 1308), (1308, i_is 6 1310), (1310, i_goto 1742), (1313, i_al 1 1314), (1314, i_cV X 201 0 10 6 1317), (1317, i_pop 1318), (1318, i_al 2 1319), (1319, i_cV X 117 0 13 2 1322), (1322, i_pop 1323), (1323, i_goto 1742), (1326, i_al 1 1327), (1327, i_cV X 47 0 10 1 1330), (1330, i_pop 1331), (1331, i_al 2 1332), (1332, i_cV X 116 0 13 1 1335), (1335, i_pop 1336), (1336, i_goto 1742)]
noncomputable def tb_L_law_c13 (X : ev_E) : List (Nat × (ev_S → ev_N)) := [(1339, i_al 1 1340), (1340, i_al 0 1341), (1341, i_il 4 1343), (1343, i_psh (.int (1)) 1344), (1344, i_ii (fun a b => a + b) 1345), (1345, i_ald X ev_tI 1346), (1346, i_cV X 101 1 10 2 1349), (1349, i_pop 1350), (1350, i_al 2 1351), (1351, i_al 0 1352), (1352, i_il 4 1354), (1354, i_psh (.int (1)) 1355), (1355, i_ii (fun a b => a + b) 1356), (1356, i_ald X ev_tI 1357), (1357, i_cV X 210 1 13 2 1360), (1360, i_pop 1361), (1361, i_goto 1742), (1364, i_al 1 1365), (1365, i_al 0 1366), (1366, i_il 4 1368), (1368, i_psh (.int (1)) 1369), (1369, i_ii (fun a b => a + b) 1370), (1370, i_ald X ev_tI 1371), (1371, i_cV X 103 1 10 2 1374), (1374, i_pop 1375), (1375, i_al 2 1376), (1376, i_al 0 1377), (1377, i_il 4 1379), (1379, i_psh (.int (1)) 1380), (1380, i_ii (fun a b => a + b) 1381), (1381, i_ald X ev_tI 1382), (1382, i_cV X 267 1 13 2 1385), (1385, i_pop 1386), (1386, i_goto 1742), (1389, i_al 1 1390), (1390, i_al 0 1391), (1391, i_il 4 1393), (1393, i_psh (.int (1)) 1394), (1394, i_ii (fun a b => a + b) 1395), (1395, i_ald X ev_tI 1396), (1396, i_al 3 1397), (1397, i_cS 181 3 4 1400), (1400, i_is 5 1402), (1402, i_al 2 1403), (1403, i_al 0 1404), (1404, i_il 4 1406), (1406, i_psh (.int (1)) 1407), (1407, i_ii (fun a b => a + b) 1408), (1408, i_ald X ev_tI 1409), (1409, i_cV X 266 1 13 2 1412), (1412, i_is 6 1414), (1414, i_goto 1742), (1417, i_al 1 1418), (1418, i_cV X 300 0 10 1 1421), (1421, i_pop 1422), (1422, i_al 2 1423), (1423, i_cV X 309 0 13 1 1426), (1426, i_pop 1427), (1427, i_goto 1742), (1430, i_al 1 1431)]
noncomputable def tb_L_law_c14 (X : ev_E) : List (Nat × (ev_S → ev_N)) := [(1431, i_al 0 1432), (1432, i_il 4 1434), (1434, i_psh (.int (1)) 1435), (1435, i_ii (fun a b => a + b) 1436), (1436, i_ald X ev_tI 1437), (1437, i_al 3 1438), (1438, i_cS 305 3 4 1441), (1441, i_is 5 1443), (1443, i_al 2 1444), (1444, i_al 0 1445), (1445, i_il 4 1447), (1447, i_psh (.int (1)) 1448), (1448, i_ii (fun a b => a + b) 1449), (1449, i_ald X ev_tI 1450), (1450, i_cV X 308 1 13 2 1453), (1453, i_as 6 1455), (1455, i_goto 1742), (1458, i_al 1 1459), (1459, i_al 0 1460), (1460, i_il 4 1462), (1462, i_psh (.int (1)) 1463), (1463, i_ii (fun a b => a + b) 1464), (1464, i_ald X ev_tI 1465), (1465, i_al 0 1466), (1466, i_il 4 1468), (1468, i_psh (.int (2)) 1469), (1469, i_ii (fun a b => a + b) 1470), (1470, i_ald X ev_tI 1471), (1471, i_al 3 1472), (1472, i_cS 185 4 5 1475), (1475, i_is 5 1477), (1477, i_al 2 1478), (1478, i_al 0 1479), (1479, i_il 4 1481), (1481, i_psh (.int (1)) 1482), (1482, i_ii (fun a b => a + b) 1483), (1483, i_ald X ev_tI 1484), (1484, i_al 0 1485), (1485, i_il 4 1487), (1487, i_psh (.int (2)) 1488), (1488, i_ii (fun a b => a + b) 1489), (1489, i_ald X ev_tI 1490), (1490, i_cV X 281 2 13 3 1493), (1493, i_is 6 1495), (1495, i_goto 1742), (1498, i_al 1 1499), (1499, i_al 0 1500), (1500, i_il 4 1502), (1502, i_psh (.int (1)) 1503), (1503, i_ii (fun a b => a + b) 1504), (1504, i_ald X ev_tI 1505), (1505, i_al 0 1506), (1506, i_il 4 1508), (1508, i_psh (.int (2)) 1509), (1509, i_ii (fun a b => a + b) 1510), (1510, i_ald X ev_tI 1511), (1511, i_al 3 1512), (1512, i_cS 193 4 5 1515), (1515, i_is 5 1517), (1517, i_al 2 1518)]
noncomputable def tb_L_law_c15 (X : ev_E) : List (Nat × (ev_S → ev_N)) := [(1518, i_al 0 1519), (1519, i_il 4 1521), (1521, i_psh (.int (1)) 1522), (1522, i_ii (fun a b => a + b) 1523), (1523, i_ald X ev_tI 1524), (1524, i_al 0 1525), (1525, i_il 4 1527), (1527, i_psh (.int (2)) 1528), (1528, i_ii (fun a b => a + b) 1529), (1529, i_ald X ev_tI 1530), (1530, i_cV X 296 2 13 3 1533), (1533, i_is 6 1535), (1535, i_goto 1742), (1538, i_al 1 1539), (1539, i_al 0 1540), (1540, i_il 4 1542), (1542, i_psh (.int (1)) 1543), (1543, i_ii (fun a b => a + b) 1544), (1544, i_ald X ev_tI 1545), (1545, i_al 3 1546), (1546, i_cS 190 3 4 1549), (1549, i_is 5 1551), (1551, i_al 2 1552), (1552, i_al 0 1553), (1553, i_il 4 1555), (1555, i_psh (.int (1)) 1556), (1556, i_ii (fun a b => a + b) 1557), (1557, i_ald X ev_tI 1558), (1558, i_cV X 293 1 13 2 1561), (1561, i_is 6 1563), (1563, i_goto 1742), (1566, i_al 1 1567), (1567, i_al 0 1568), (1568, i_il 4 1570), (1570, i_psh (.int (1)) 1571), (1571, i_ii (fun a b => a + b) 1572), (1572, i_ald X ev_tI 1573), (1573, i_al 3 1574), (1574, i_cS 184 3 4 1577), (1577, i_is 5 1579), (1579, i_al 2 1580), (1580, i_al 0 1581), (1581, i_il 4 1583), (1583, i_psh (.int (1)) 1584), (1584, i_ii (fun a b => a + b) 1585), (1585, i_ald X ev_tI 1586), (1586, i_cV X 291 1 13 2 1589), (1589, i_is 6 1591), (1591, i_goto 1742), (1594, i_al 1 1595), (1595, i_al 0 1596), (1596, i_il 4 1598), (1598, i_psh (.int (1)) 1599), (1599, i_ii (fun a b => a + b) 1600), (1600, i_ald X ev_tI 1601), (1601, i_al 3 1602), (1602, i_cS 188 3 4 1605), (1605, i_is 5 1607), (1607, i_al 2 1608), (1608, i_al 0 1609)]
noncomputable def tb_L_law_c16 (X : ev_E) : List (Nat × (ev_S → ev_N)) := [(1609, i_il 4 1611), (1611, i_psh (.int (1)) 1612), (1612, i_ii (fun a b => a + b) 1613), (1613, i_ald X ev_tI 1614), (1614, i_cV X 292 1 13 2 1617), (1617, i_is 6 1619), (1619, i_goto 1742), (1622, i_al 1 1623), (1623, i_al 0 1624), (1624, i_il 4 1626), (1626, i_psh (.int (1)) 1627), (1627, i_ii (fun a b => a + b) 1628), (1628, i_ald X ev_tI 1629), (1629, i_cV X 114 1 10 2 1632), (1632, i_pop 1633), (1633, i_al 2 1634), (1634, i_al 0 1635), (1635, i_il 4 1637), (1637, i_psh (.int (1)) 1638), (1638, i_ii (fun a b => a + b) 1639), (1639, i_ald X ev_tI 1640), (1640, i_cV X 272 1 13 4 1643), (1643, i_pop 1644), (1644, i_goto 1742), (1647, i_al 1 1648), (1648, i_al 0 1649), (1649, i_il 4 1651), (1651, i_psh (.int (1)) 1652), (1652, i_ii (fun a b => a + b) 1653), (1653, i_ald X ev_tI 1654), (1654, i_al 3 1655), (1655, i_cS 180 3 4 1658), (1658, i_is 5 1660), (1660, i_al 2 1661), (1661, i_al 0 1662), (1662, i_il 4 1664), (1664, i_psh (.int (1)) 1665), (1665, i_ii (fun a b => a + b) 1666), (1666, i_ald X ev_tI 1667), (1667, i_cV X 256 1 13 2 1670), (1670, i_is 6 1672), (1672, i_goto 1742), (1675, i_al 1 1676), (1676, i_al 0 1677), (1677, i_il 4 1679), (1679, i_psh (.int (1)) 1680), (1680, i_ii (fun a b => a + b) 1681), (1681, i_ald X ev_tI 1682), (1682, i_al 3 1683), (1683, i_cS 134 3 4 1686), (1686, i_is 5 1688), (1688, i_al 2 1689), (1689, i_al 0 1690), (1690, i_il 4 1692), (1692, i_psh (.int (1)) 1693), (1693, i_ii (fun a b => a + b) 1694), (1694, i_ald X ev_tI 1695), (1695, i_cV X 268 1 13 2 1698), (1698, i_is 6 1700), (1700, i_goto 1742)]
noncomputable def tb_L_law_c17 (X : ev_E) : List (Nat × (ev_S → ev_N)) := [(1703, i_al 1 1704), (1704, i_cV X 55 0 10 1 1707), (1707, i_pop 1708), (1708, i_al 2 1709), (1709, i_cV X 68 0 13 1 1712), (1712, i_pop 1713), (1713, i_goto 1742), (1716, i_al 1 1717), (1717, i_cV X 202 0 10 2 1720), (1720, i_pop 1721), (1721, i_al 2 1722), (1722, i_cV X 66 0 13 1 1725), (1725, i_pop 1726), (1726, i_goto 1742), (1729, i_al 1 1730), (1730, i_cV X 227 0 10 4 1733), (1733, i_pop2l 1734), (1734, i_al 2 1735), (1735, i_cV X 302 0 13 5 1738), (1738, i_pop2l 1739), (1739, i_goto 1742), (1742, i_inc 4 (4) 1745), (1745, i_goto 27), (1748, i_psh (.int (1)) 1749), (1749, i_ir (.boolean))]
noncomputable def tb_L_law (X : ev_E) : List (Nat × (ev_S → ev_N)) := tb_L_law_c0 X ++ (tb_L_law_c1 X ++ (tb_L_law_c2 X ++ (tb_L_law_c3 X ++ (tb_L_law_c4 X ++ (tb_L_law_c5 X ++ (tb_L_law_c6 X ++ (tb_L_law_c7 X ++ (tb_L_law_c8 X ++ (tb_L_law_c9 X ++ (tb_L_law_c10 X ++ (tb_L_law_c11 X ++ (tb_L_law_c12 X ++ (tb_L_law_c13 X ++ (tb_L_law_c14 X ++ (tb_L_law_c15 X ++ (tb_L_law_c16 X ++ (tb_L_law_c17 X)))))))))))))))))
theorem s_L_law_0 {X : ev_E} {l : Launch} (hG : ev_Good X) (hl : l.stackTraces = false) : ev_Snd X l ev_ms x_L_law tx_L_law 0 (i_nw 10 7 [.null, .null, .null, .null, .null, .int 0, .int 0] 3) := s_new hG (ci := 10) (r := (RX5, TX5, 7)) rfl cw_10 tyX5 tyX5_ok (fun j hj => nw_10 j hj) w_82 rfl w_83 rfl w_49 rfl dL_law_0
theorem s_L_law_3 {X : ev_E} {l : Launch} (hG : ev_Good X) (hl : l.stackTraces = false) : ev_Snd X l ev_ms x_L_law tx_L_law 3 (i_dup 4) := s_dup dL_law_3
theorem s_L_law_4 {X : ev_E} {l : Launch} (hG : ev_Good X) (hl : l.stackTraces = false) : ev_Snd X l ev_ms x_L_law tx_L_law 4 (i_cI 153 0 2 7) := s_invokeinit hG (mi := 153) (n := 0) (cal_X5_init (Nat.le_of_ble_eq_true rfl)) rfl w_84 w_85 rfl (fun _ => rfl) dL_law_4
theorem s_L_law_7 {X : ev_E} {l : Launch} (hG : ev_Good X) (hl : l.stackTraces = false) : ev_Snd X l ev_ms x_L_law tx_L_law 7 (i_as 1 8) := s_astore_n dL_law_7 rfl (Nat.le_of_ble_eq_true rfl)
theorem s_L_law_8 {X : ev_E} {l : Launch} (hG : ev_Good X) (hl : l.stackTraces = false) : ev_Snd X l ev_ms x_L_law tx_L_law 8 (i_nw 13 5 [.int 0, .int 0, .int 0, .null, .null] 11) := s_new hG (ci := 13) (r := (RX8, TX8, 5)) rfl cw_13 tyX8 tyX8_ok (fun j hj => nw_13 j hj) w_1179 rfl w_1180 rfl w_55 rfl dL_law_8
theorem s_L_law_11 {X : ev_E} {l : Launch} (hG : ev_Good X) (hl : l.stackTraces = false) : ev_Snd X l ev_ms x_L_law tx_L_law 11 (i_dup 12) := s_dup dL_law_11
theorem s_L_law_12 {X : ev_E} {l : Launch} (hG : ev_Good X) (hl : l.stackTraces = false) : ev_Snd X l ev_ms x_L_law tx_L_law 12 (i_cI 235 0 1 15) := s_invokeinit hG (mi := 235) (n := 0) (cal_X8_init (Nat.le_of_ble_eq_true rfl)) rfl w_1181 w_1182 rfl (fun _ => rfl) dL_law_12
theorem s_L_law_15 {X : ev_E} {l : Launch} (hG : ev_Good X) (hl : l.stackTraces = false) : ev_Snd X l ev_ms x_L_law tx_L_law 15 (i_as 2 16) := s_astore_n dL_law_15 rfl (Nat.le_of_ble_eq_true rfl)
theorem s_L_law_16 {X : ev_E} {l : Launch} (hG : ev_Good X) (hl : l.stackTraces = false) : ev_Snd X l ev_ms x_L_law tx_L_law 16 (i_nw 11 2 [.long 0, .null] 19) := s_new hG (ci := 11) (r := (RX6, TX6, 2)) rfl cw_11 tyX6 tyX6_ok (fun j hj => nw_11 j hj) w_805 rfl w_806 rfl w_60 rfl dL_law_16
theorem s_L_law_19 {X : ev_E} {l : Launch} (hG : ev_Good X) (hl : l.stackTraces = false) : ev_Snd X l ev_ms x_L_law tx_L_law 19 (i_dup 20) := s_dup dL_law_19
theorem s_L_law_20 {X : ev_E} {l : Launch} (hG : ev_Good X) (hl : l.stackTraces = false) : ev_Snd X l ev_ms x_L_law tx_L_law 20 (i_cI 60 0 1 23) := s_invokeinitN hG (mi := 60) (n := 0) (cal_X6_init (Nat.le_of_ble_eq_true rfl)) rfl w_807 w_808 rfl (fun _ => rfl) dL_law_20
theorem s_L_law_23 {X : ev_E} {l : Launch} (hG : ev_Good X) (hl : l.stackTraces = false) : ev_Snd X l ev_ms x_L_law tx_L_law 23 (i_as 3 24) := s_astore_n dL_law_23 rfl (Nat.le_of_ble_eq_true rfl)
theorem s_L_law_24 {X : ev_E} {l : Launch} (hG : ev_Good X) (hl : l.stackTraces = false) : ev_Snd X l ev_ms x_L_law tx_L_law 24 (i_psh (.int (0)) 25) := s_iconst dL_law_24 rfl
theorem s_L_law_25 {X : ev_E} {l : Launch} (hG : ev_Good X) (hl : l.stackTraces = false) : ev_Snd X l ev_ms x_L_law tx_L_law 25 (i_is 4 27) := s_istore dL_law_25 (Nat.le_of_ble_eq_true rfl)
theorem s_L_law_27 {X : ev_E} {l : Launch} (hG : ev_Good X) (hl : l.stackTraces = false) : ev_Snd X l ev_ms x_L_law tx_L_law 27 (i_il 4 29) := s_iload dL_law_27
theorem s_L_law_29 {X : ev_E} {l : Launch} (hG : ev_Good X) (hl : l.stackTraces = false) : ev_Snd X l ev_ms x_L_law tx_L_law 29 (i_al 0 30) := s_aload_n dL_law_29 rfl
theorem s_L_law_30 {X : ev_E} {l : Launch} (hG : ev_Good X) (hl : l.stackTraces = false) : ev_Snd X l ev_ms x_L_law tx_L_law 30 (i_len X 31) := s_arraylength hG dL_law_30
theorem s_L_law_31 {X : ev_E} {l : Launch} (hG : ev_Good X) (hl : l.stackTraces = false) : ev_Snd X l ev_ms x_L_law tx_L_law 31 (i_psh (.int (4)) 32) := s_iconst dL_law_31 rfl
theorem s_L_law_32 {X : ev_E} {l : Launch} (hG : ev_Good X) (hl : l.stackTraces = false) : ev_Snd X l ev_ms x_L_law tx_L_law 32 (i_ii (fun a b => a - b) 33) := s_isub dL_law_32
theorem s_L_law_33 {X : ev_E} {l : Launch} (hG : ev_Good X) (hl : l.stackTraces = false) : ev_Snd X l ev_ms x_L_law tx_L_law 33 (i_icgt 1748 36) := s_icgt dL_law_33 rfl
theorem s_L_law_36 {X : ev_E} {l : Launch} (hG : ev_Good X) (hl : l.stackTraces = false) : ev_Snd X l ev_ms x_L_law tx_L_law 36 (i_al 0 37) := s_aload_n dL_law_36 rfl
theorem s_L_law_37 {X : ev_E} {l : Launch} (hG : ev_Good X) (hl : l.stackTraces = false) : ev_Snd X l ev_ms x_L_law tx_L_law 37 (i_il 4 39) := s_iload dL_law_37
theorem s_L_law_39 {X : ev_E} {l : Launch} (hG : ev_Good X) (hl : l.stackTraces = false) : ev_Snd X l ev_ms x_L_law tx_L_law 39 (i_ald X ev_tI 40) := s_iaload hG dL_law_39
theorem s_L_law_40 {X : ev_E} {l : Launch} (hG : ev_Good X) (hl : l.stackTraces = false) : ev_Snd X l ev_ms x_L_law tx_L_law 40 (i_psh (.int (63)) 42) := s_bipush dL_law_40 rfl
theorem s_L_law_42 {X : ev_E} {l : Launch} (hG : ev_Good X) (hl : l.stackTraces = false) : ev_Snd X l ev_ms x_L_law tx_L_law 42 (i_ii (fun a b => a &&& b) 43) := s_iand dL_law_42
theorem s_L_law_43 {X : ev_E} {l : Launch} (hG : ev_Good X) (hl : l.stackTraces = false) : ev_Snd X l ev_ms x_L_law tx_L_law 43 (i_sw (0) [236, 304, 356, 408, 448, 500, 540, 597, 649, 689, 729, 757, 797, 837, 877, 917, 945, 973, 1013, 1053, 1093, 1121, 1149, 1177, 1205, 1233, 1261, 1313, 1326, 1339, 1364, 1389, 1417, 1430, 1458, 1498, 1538, 1566, 1594, 1622, 1647, 1675, 1703, 1716, 1729] 1742) := s_tableswitch dL_law_43 rfl rfl (by decide +kernel)
theorem s_L_law_236 {X : ev_E} {l : Launch} (hG : ev_Good X) (hl : l.stackTraces = false) : ev_Snd X l ev_ms x_L_law tx_L_law 236 (i_al 1 237) := s_aload_n dL_law_236 rfl
theorem s_L_law_237 {X : ev_E} {l : Launch} (hG : ev_Good X) (hl : l.stackTraces = false) : ev_Snd X l ev_ms x_L_law tx_L_law 237 (i_al 0 238) := s_aload_n dL_law_237 rfl
theorem s_L_law_238 {X : ev_E} {l : Launch} (hG : ev_Good X) (hl : l.stackTraces = false) : ev_Snd X l ev_ms x_L_law tx_L_law 238 (i_il 4 240) := s_iload dL_law_238
theorem s_L_law_240 {X : ev_E} {l : Launch} (hG : ev_Good X) (hl : l.stackTraces = false) : ev_Snd X l ev_ms x_L_law tx_L_law 240 (i_psh (.int (1)) 241) := s_iconst dL_law_240 rfl
theorem s_L_law_241 {X : ev_E} {l : Launch} (hG : ev_Good X) (hl : l.stackTraces = false) : ev_Snd X l ev_ms x_L_law tx_L_law 241 (i_ii (fun a b => a + b) 242) := s_iadd dL_law_241
theorem s_L_law_242 {X : ev_E} {l : Launch} (hG : ev_Good X) (hl : l.stackTraces = false) : ev_Snd X l ev_ms x_L_law tx_L_law 242 (i_ald X ev_tI 243) := s_iaload hG dL_law_242
theorem s_L_law_243 {X : ev_E} {l : Launch} (hG : ev_Good X) (hl : l.stackTraces = false) : ev_Snd X l ev_ms x_L_law tx_L_law 243 (i_al 0 244) := s_aload_n dL_law_243 rfl
theorem s_L_law_244 {X : ev_E} {l : Launch} (hG : ev_Good X) (hl : l.stackTraces = false) : ev_Snd X l ev_ms x_L_law tx_L_law 244 (i_il 4 246) := s_iload dL_law_244
theorem s_L_law_246 {X : ev_E} {l : Launch} (hG : ev_Good X) (hl : l.stackTraces = false) : ev_Snd X l ev_ms x_L_law tx_L_law 246 (i_psh (.int (2)) 247) := s_iconst dL_law_246 rfl
theorem s_L_law_247 {X : ev_E} {l : Launch} (hG : ev_Good X) (hl : l.stackTraces = false) : ev_Snd X l ev_ms x_L_law tx_L_law 247 (i_ii (fun a b => a + b) 248) := s_iadd dL_law_247
theorem s_L_law_248 {X : ev_E} {l : Launch} (hG : ev_Good X) (hl : l.stackTraces = false) : ev_Snd X l ev_ms x_L_law tx_L_law 248 (i_ald X ev_tI 249) := s_iaload hG dL_law_248
theorem s_L_law_249 {X : ev_E} {l : Launch} (hG : ev_Good X) (hl : l.stackTraces = false) : ev_Snd X l ev_ms x_L_law tx_L_law 249 (i_ifeq 256 252) := s_ifeq dL_law_249 rfl
theorem s_L_law_252 {X : ev_E} {l : Launch} (hG : ev_Good X) (hl : l.stackTraces = false) : ev_Snd X l ev_ms x_L_law tx_L_law 252 (i_psh (.int (1)) 253) := s_iconst dL_law_252 rfl
theorem s_L_law_253 {X : ev_E} {l : Launch} (hG : ev_Good X) (hl : l.stackTraces = false) : ev_Snd X l ev_ms x_L_law tx_L_law 253 (i_goto 257) := s_goto dL_law_253 rfl
theorem s_L_law_256 {X : ev_E} {l : Launch} (hG : ev_Good X) (hl : l.stackTraces = false) : ev_Snd X l ev_ms x_L_law tx_L_law 256 (i_psh (.int (0)) 257) := s_iconst dL_law_256 rfl
theorem s_L_law_257 {X : ev_E} {l : Launch} (hG : ev_Good X) (hl : l.stackTraces = false) : ev_Snd X l ev_ms x_L_law tx_L_law 257 (i_al 0 258) := s_aload_n dL_law_257 rfl
theorem s_L_law_258 {X : ev_E} {l : Launch} (hG : ev_Good X) (hl : l.stackTraces = false) : ev_Snd X l ev_ms x_L_law tx_L_law 258 (i_il 4 260) := s_iload dL_law_258
theorem s_L_law_260 {X : ev_E} {l : Launch} (hG : ev_Good X) (hl : l.stackTraces = false) : ev_Snd X l ev_ms x_L_law tx_L_law 260 (i_psh (.int (3)) 261) := s_iconst dL_law_260 rfl
theorem s_L_law_261 {X : ev_E} {l : Launch} (hG : ev_Good X) (hl : l.stackTraces = false) : ev_Snd X l ev_ms x_L_law tx_L_law 261 (i_ii (fun a b => a + b) 262) := s_iadd dL_law_261
theorem s_L_law_262 {X : ev_E} {l : Launch} (hG : ev_Good X) (hl : l.stackTraces = false) : ev_Snd X l ev_ms x_L_law tx_L_law 262 (i_ald X ev_tI 263) := s_iaload hG dL_law_262
theorem s_L_law_263 {X : ev_E} {l : Launch} (hG : ev_Good X) (hl : l.stackTraces = false) : ev_Snd X l ev_ms x_L_law tx_L_law 263 (i_al 3 264) := s_aload_n dL_law_263 rfl
theorem s_L_law_264 {X : ev_E} {l : Launch} (hG : ev_Good X) (hl : l.stackTraces = false) : ev_Snd X l ev_ms x_L_law tx_L_law 264 (i_cS 189 5 6 267) := s_invokestaticW hG (mi := 189) (n := 5) (cal_L_make (Nat.le_of_ble_eq_true rfl)) w_818 w_819 dL_law_264
theorem s_L_law_267 {X : ev_E} {l : Launch} (hG : ev_Good X) (hl : l.stackTraces = false) : ev_Snd X l ev_ms x_L_law tx_L_law 267 (i_is 5 269) := s_istore dL_law_267 (Nat.le_of_ble_eq_true rfl)
theorem s_L_law_269 {X : ev_E} {l : Launch} (hG : ev_Good X) (hl : l.stackTraces = false) : ev_Snd X l ev_ms x_L_law tx_L_law 269 (i_al 2 270) := s_aload_n dL_law_269 rfl
theorem s_L_law_270 {X : ev_E} {l : Launch} (hG : ev_Good X) (hl : l.stackTraces = false) : ev_Snd X l ev_ms x_L_law tx_L_law 270 (i_al 0 271) := s_aload_n dL_law_270 rfl
theorem s_L_law_271 {X : ev_E} {l : Launch} (hG : ev_Good X) (hl : l.stackTraces = false) : ev_Snd X l ev_ms x_L_law tx_L_law 271 (i_il 4 273) := s_iload dL_law_271
theorem s_L_law_273 {X : ev_E} {l : Launch} (hG : ev_Good X) (hl : l.stackTraces = false) : ev_Snd X l ev_ms x_L_law tx_L_law 273 (i_psh (.int (1)) 274) := s_iconst dL_law_273 rfl
theorem s_L_law_274 {X : ev_E} {l : Launch} (hG : ev_Good X) (hl : l.stackTraces = false) : ev_Snd X l ev_ms x_L_law tx_L_law 274 (i_ii (fun a b => a + b) 275) := s_iadd dL_law_274
theorem s_L_law_275 {X : ev_E} {l : Launch} (hG : ev_Good X) (hl : l.stackTraces = false) : ev_Snd X l ev_ms x_L_law tx_L_law 275 (i_ald X ev_tI 276) := s_iaload hG dL_law_275
theorem s_L_law_276 {X : ev_E} {l : Launch} (hG : ev_Good X) (hl : l.stackTraces = false) : ev_Snd X l ev_ms x_L_law tx_L_law 276 (i_al 0 277) := s_aload_n dL_law_276 rfl
theorem s_L_law_277 {X : ev_E} {l : Launch} (hG : ev_Good X) (hl : l.stackTraces = false) : ev_Snd X l ev_ms x_L_law tx_L_law 277 (i_il 4 279) := s_iload dL_law_277
theorem s_L_law_279 {X : ev_E} {l : Launch} (hG : ev_Good X) (hl : l.stackTraces = false) : ev_Snd X l ev_ms x_L_law tx_L_law 279 (i_psh (.int (2)) 280) := s_iconst dL_law_279 rfl
theorem s_L_law_280 {X : ev_E} {l : Launch} (hG : ev_Good X) (hl : l.stackTraces = false) : ev_Snd X l ev_ms x_L_law tx_L_law 280 (i_ii (fun a b => a + b) 281) := s_iadd dL_law_280
theorem s_L_law_281 {X : ev_E} {l : Launch} (hG : ev_Good X) (hl : l.stackTraces = false) : ev_Snd X l ev_ms x_L_law tx_L_law 281 (i_ald X ev_tI 282) := s_iaload hG dL_law_281
theorem s_L_law_282 {X : ev_E} {l : Launch} (hG : ev_Good X) (hl : l.stackTraces = false) : ev_Snd X l ev_ms x_L_law tx_L_law 282 (i_ifeq 289 285) := s_ifeq dL_law_282 rfl
theorem s_L_law_285 {X : ev_E} {l : Launch} (hG : ev_Good X) (hl : l.stackTraces = false) : ev_Snd X l ev_ms x_L_law tx_L_law 285 (i_psh (.int (1)) 286) := s_iconst dL_law_285 rfl
theorem s_L_law_286 {X : ev_E} {l : Launch} (hG : ev_Good X) (hl : l.stackTraces = false) : ev_Snd X l ev_ms x_L_law tx_L_law 286 (i_goto 290) := s_goto dL_law_286 rfl
theorem s_L_law_289 {X : ev_E} {l : Launch} (hG : ev_Good X) (hl : l.stackTraces = false) : ev_Snd X l ev_ms x_L_law tx_L_law 289 (i_psh (.int (0)) 290) := s_iconst dL_law_289 rfl
theorem s_L_law_290 {X : ev_E} {l : Launch} (hG : ev_Good X) (hl : l.stackTraces = false) : ev_Snd X l ev_ms x_L_law tx_L_law 290 (i_al 0 291) := s_aload_n dL_law_290 rfl
theorem s_L_law_291 {X : ev_E} {l : Launch} (hG : ev_Good X) (hl : l.stackTraces = false) : ev_Snd X l ev_ms x_L_law tx_L_law 291 (i_il 4 293) := s_iload dL_law_291
theorem s_L_law_293 {X : ev_E} {l : Launch} (hG : ev_Good X) (hl : l.stackTraces = false) : ev_Snd X l ev_ms x_L_law tx_L_law 293 (i_psh (.int (3)) 294) := s_iconst dL_law_293 rfl
theorem s_L_law_294 {X : ev_E} {l : Launch} (hG : ev_Good X) (hl : l.stackTraces = false) : ev_Snd X l ev_ms x_L_law tx_L_law 294 (i_ii (fun a b => a + b) 295) := s_iadd dL_law_294
theorem s_L_law_295 {X : ev_E} {l : Launch} (hG : ev_Good X) (hl : l.stackTraces = false) : ev_Snd X l ev_ms x_L_law tx_L_law 295 (i_ald X ev_tI 296) := s_iaload hG dL_law_295
theorem s_L_law_296 {X : ev_E} {l : Launch} (hG : ev_Good X) (hl : l.stackTraces = false) : ev_Snd X l ev_ms x_L_law tx_L_law 296 (i_cV X 168 3 13 6 299) := s_invokevirtual hG (mi := 168) (n := 3) (ci := 13) (r := (RX8, TX8, 5)) rfl (cal_X8_make (Nat.le_of_ble_eq_true rfl)) w_1280 w_1281 w_1282 dL_law_296
theorem s_L_law_299 {X : ev_E} {l : Launch} (hG : ev_Good X) (hl : l.stackTraces = false) : ev_Snd X l ev_ms x_L_law tx_L_law 299 (i_is 6 301) := s_istore dL_law_299 (Nat.le_of_ble_eq_true rfl)
theorem s_L_law_301 {X : ev_E} {l : Launch} (hG : ev_Good X) (hl : l.stackTraces = false) : ev_Snd X l ev_ms x_L_law tx_L_law 301 (i_goto 1742) := s_goto dL_law_301 rfl
theorem s_L_law_304 {X : ev_E} {l : Launch} (hG : ev_Good X) (hl : l.stackTraces = false) : ev_Snd X l ev_ms x_L_law tx_L_law 304 (i_al 1 305) := s_aload_n dL_law_304 rfl
theorem s_L_law_305 {X : ev_E} {l : Launch} (hG : ev_Good X) (hl : l.stackTraces = false) : ev_Snd X l ev_ms x_L_law tx_L_law 305 (i_al 0 306) := s_aload_n dL_law_305 rfl
theorem s_L_law_306 {X : ev_E} {l : Launch} (hG : ev_Good X) (hl : l.stackTraces = false) : ev_Snd X l ev_ms x_L_law tx_L_law 306 (i_il 4 308) := s_iload dL_law_306
theorem s_L_law_308 {X : ev_E} {l : Launch} (hG : ev_Good X) (hl : l.stackTraces = false) : ev_Snd X l ev_ms x_L_law tx_L_law 308 (i_psh (.int (1)) 309) := s_iconst dL_law_308 rfl
theorem s_L_law_309 {X : ev_E} {l : Launch} (hG : ev_Good X) (hl : l.stackTraces = false) : ev_Snd X l ev_ms x_L_law tx_L_law 309 (i_ii (fun a b => a + b) 310) := s_iadd dL_law_309
theorem s_L_law_310 {X : ev_E} {l : Launch} (hG : ev_Good X) (hl : l.stackTraces = false) : ev_Snd X l ev_ms x_L_law tx_L_law 310 (i_ald X ev_tI 311) := s_iaload hG dL_law_310
theorem s_L_law_311 {X : ev_E} {l : Launch} (hG : ev_Good X) (hl : l.stackTraces = false) : ev_Snd X l ev_ms x_L_law tx_L_law 311 (i_al 0 312) := s_aload_n dL_law_311 rfl
theorem s_L_law_312 {X : ev_E} {l : Launch} (hG : ev_Good X) (hl : l.stackTraces = false) : ev_Snd X l ev_ms x_L_law tx_L_law 312 (i_il 4 314) := s_iload dL_law_312
theorem s_L_law_314 {X : ev_E} {l : Launch} (hG : ev_Good X) (hl : l.stackTraces = false) : ev_Snd X l ev_ms x_L_law tx_L_law 314 (i_psh (.int (2)) 315) := s_iconst dL_law_314 rfl
theorem s_L_law_315 {X : ev_E} {l : Launch} (hG : ev_Good X) (hl : l.stackTraces = false) : ev_Snd X l ev_ms x_L_law tx_L_law 315 (i_ii (fun a b => a + b) 316) := s_iadd dL_law_315
theorem s_L_law_316 {X : ev_E} {l : Launch} (hG : ev_Good X) (hl : l.stackTraces = false) : ev_Snd X l ev_ms x_L_law tx_L_law 316 (i_ald X ev_tI 317) := s_iaload hG dL_law_316
theorem s_L_law_317 {X : ev_E} {l : Launch} (hG : ev_Good X) (hl : l.stackTraces = false) : ev_Snd X l ev_ms x_L_law tx_L_law 317 (i_al 0 318) := s_aload_n dL_law_317 rfl
theorem s_L_law_318 {X : ev_E} {l : Launch} (hG : ev_Good X) (hl : l.stackTraces = false) : ev_Snd X l ev_ms x_L_law tx_L_law 318 (i_il 4 320) := s_iload dL_law_318
theorem s_L_law_320 {X : ev_E} {l : Launch} (hG : ev_Good X) (hl : l.stackTraces = false) : ev_Snd X l ev_ms x_L_law tx_L_law 320 (i_psh (.int (3)) 321) := s_iconst dL_law_320 rfl
theorem s_L_law_321 {X : ev_E} {l : Launch} (hG : ev_Good X) (hl : l.stackTraces = false) : ev_Snd X l ev_ms x_L_law tx_L_law 321 (i_ii (fun a b => a + b) 322) := s_iadd dL_law_321
theorem s_L_law_322 {X : ev_E} {l : Launch} (hG : ev_Good X) (hl : l.stackTraces = false) : ev_Snd X l ev_ms x_L_law tx_L_law 322 (i_ald X ev_tI 323) := s_iaload hG dL_law_322
theorem s_L_law_323 {X : ev_E} {l : Launch} (hG : ev_Good X) (hl : l.stackTraces = false) : ev_Snd X l ev_ms x_L_law tx_L_law 323 (i_al 3 324) := s_aload_n dL_law_323 rfl
theorem s_L_law_324 {X : ev_E} {l : Launch} (hG : ev_Good X) (hl : l.stackTraces = false) : ev_Snd X l ev_ms x_L_law tx_L_law 324 (i_cS 252 5 6 327) := s_invokestaticW hG (mi := 252) (n := 5) (cal_L_put (Nat.le_of_ble_eq_true rfl)) w_832 w_833 dL_law_324
theorem s_L_law_327 {X : ev_E} {l : Launch} (hG : ev_Good X) (hl : l.stackTraces = false) : ev_Snd X l ev_ms x_L_law tx_L_law 327 (i_is 5 329) := s_istore dL_law_327 (Nat.le_of_ble_eq_true rfl)
theorem s_L_law_329 {X : ev_E} {l : Launch} (hG : ev_Good X) (hl : l.stackTraces = false) : ev_Snd X l ev_ms x_L_law tx_L_law 329 (i_al 2 330) := s_aload_n dL_law_329 rfl
theorem s_L_law_330 {X : ev_E} {l : Launch} (hG : ev_Good X) (hl : l.stackTraces = false) : ev_Snd X l ev_ms x_L_law tx_L_law 330 (i_al 0 331) := s_aload_n dL_law_330 rfl
theorem s_L_law_331 {X : ev_E} {l : Launch} (hG : ev_Good X) (hl : l.stackTraces = false) : ev_Snd X l ev_ms x_L_law tx_L_law 331 (i_il 4 333) := s_iload dL_law_331
theorem s_L_law_333 {X : ev_E} {l : Launch} (hG : ev_Good X) (hl : l.stackTraces = false) : ev_Snd X l ev_ms x_L_law tx_L_law 333 (i_psh (.int (1)) 334) := s_iconst dL_law_333 rfl
theorem s_L_law_334 {X : ev_E} {l : Launch} (hG : ev_Good X) (hl : l.stackTraces = false) : ev_Snd X l ev_ms x_L_law tx_L_law 334 (i_ii (fun a b => a + b) 335) := s_iadd dL_law_334
theorem s_L_law_335 {X : ev_E} {l : Launch} (hG : ev_Good X) (hl : l.stackTraces = false) : ev_Snd X l ev_ms x_L_law tx_L_law 335 (i_ald X ev_tI 336) := s_iaload hG dL_law_335
theorem s_L_law_336 {X : ev_E} {l : Launch} (hG : ev_Good X) (hl : l.stackTraces = false) : ev_Snd X l ev_ms x_L_law tx_L_law 336 (i_al 0 337) := s_aload_n dL_law_336 rfl
theorem s_L_law_337 {X : ev_E} {l : Launch} (hG : ev_Good X) (hl : l.stackTraces = false) : ev_Snd X l ev_ms x_L_law tx_L_law 337 (i_il 4 339) := s_iload dL_law_337
theorem s_L_law_339 {X : ev_E} {l : Launch} (hG : ev_Good X) (hl : l.stackTraces = false) : ev_Snd X l ev_ms x_L_law tx_L_law 339 (i_psh (.int (2)) 340) := s_iconst dL_law_339 rfl
theorem s_L_law_340 {X : ev_E} {l : Launch} (hG : ev_Good X) (hl : l.stackTraces = false) : ev_Snd X l ev_ms x_L_law tx_L_law 340 (i_ii (fun a b => a + b) 341) := s_iadd dL_law_340
theorem s_L_law_341 {X : ev_E} {l : Launch} (hG : ev_Good X) (hl : l.stackTraces = false) : ev_Snd X l ev_ms x_L_law tx_L_law 341 (i_ald X ev_tI 342) := s_iaload hG dL_law_341
theorem s_L_law_342 {X : ev_E} {l : Launch} (hG : ev_Good X) (hl : l.stackTraces = false) : ev_Snd X l ev_ms x_L_law tx_L_law 342 (i_al 0 343) := s_aload_n dL_law_342 rfl
theorem s_L_law_343 {X : ev_E} {l : Launch} (hG : ev_Good X) (hl : l.stackTraces = false) : ev_Snd X l ev_ms x_L_law tx_L_law 343 (i_il 4 345) := s_iload dL_law_343
theorem s_L_law_345 {X : ev_E} {l : Launch} (hG : ev_Good X) (hl : l.stackTraces = false) : ev_Snd X l ev_ms x_L_law tx_L_law 345 (i_psh (.int (3)) 346) := s_iconst dL_law_345 rfl
theorem s_L_law_346 {X : ev_E} {l : Launch} (hG : ev_Good X) (hl : l.stackTraces = false) : ev_Snd X l ev_ms x_L_law tx_L_law 346 (i_ii (fun a b => a + b) 347) := s_iadd dL_law_346
theorem s_L_law_347 {X : ev_E} {l : Launch} (hG : ev_Good X) (hl : l.stackTraces = false) : ev_Snd X l ev_ms x_L_law tx_L_law 347 (i_ald X ev_tI 348) := s_iaload hG dL_law_347
theorem s_L_law_348 {X : ev_E} {l : Launch} (hG : ev_Good X) (hl : l.stackTraces = false) : ev_Snd X l ev_ms x_L_law tx_L_law 348 (i_cV X 294 3 13 7 351) := s_invokevirtual hG (mi := 294) (n := 3) (ci := 13) (r := (RX8, TX8, 5)) rfl (cal_X8_put (Nat.le_of_ble_eq_true rfl)) w_1306 w_1307 w_1308 dL_law_348
theorem s_L_law_351 {X : ev_E} {l : Launch} (hG : ev_Good X) (hl : l.stackTraces = false) : ev_Snd X l ev_ms x_L_law tx_L_law 351 (i_is 6 353) := s_istore dL_law_351 (Nat.le_of_ble_eq_true rfl)
theorem s_L_law_353 {X : ev_E} {l : Launch} (hG : ev_Good X) (hl : l.stackTraces = false) : ev_Snd X l ev_ms x_L_law tx_L_law 353 (i_goto 1742) := s_goto dL_law_353 rfl
theorem s_L_law_356 {X : ev_E} {l : Launch} (hG : ev_Good X) (hl : l.stackTraces = false) : ev_Snd X l ev_ms x_L_law tx_L_law 356 (i_al 1 357) := s_aload_n dL_law_356 rfl
theorem s_L_law_357 {X : ev_E} {l : Launch} (hG : ev_Good X) (hl : l.stackTraces = false) : ev_Snd X l ev_ms x_L_law tx_L_law 357 (i_al 0 358) := s_aload_n dL_law_357 rfl
theorem s_L_law_358 {X : ev_E} {l : Launch} (hG : ev_Good X) (hl : l.stackTraces = false) : ev_Snd X l ev_ms x_L_law tx_L_law 358 (i_il 4 360) := s_iload dL_law_358
theorem s_L_law_360 {X : ev_E} {l : Launch} (hG : ev_Good X) (hl : l.stackTraces = false) : ev_Snd X l ev_ms x_L_law tx_L_law 360 (i_psh (.int (1)) 361) := s_iconst dL_law_360 rfl
theorem s_L_law_361 {X : ev_E} {l : Launch} (hG : ev_Good X) (hl : l.stackTraces = false) : ev_Snd X l ev_ms x_L_law tx_L_law 361 (i_ii (fun a b => a + b) 362) := s_iadd dL_law_361
theorem s_L_law_362 {X : ev_E} {l : Launch} (hG : ev_Good X) (hl : l.stackTraces = false) : ev_Snd X l ev_ms x_L_law tx_L_law 362 (i_ald X ev_tI 363) := s_iaload hG dL_law_362
theorem s_L_law_363 {X : ev_E} {l : Launch} (hG : ev_Good X) (hl : l.stackTraces = false) : ev_Snd X l ev_ms x_L_law tx_L_law 363 (i_al 0 364) := s_aload_n dL_law_363 rfl
theorem s_L_law_364 {X : ev_E} {l : Launch} (hG : ev_Good X) (hl : l.stackTraces = false) : ev_Snd X l ev_ms x_L_law tx_L_law 364 (i_il 4 366) := s_iload dL_law_364
theorem s_L_law_366 {X : ev_E} {l : Launch} (hG : ev_Good X) (hl : l.stackTraces = false) : ev_Snd X l ev_ms x_L_law tx_L_law 366 (i_psh (.int (2)) 367) := s_iconst dL_law_366 rfl
theorem s_L_law_367 {X : ev_E} {l : Launch} (hG : ev_Good X) (hl : l.stackTraces = false) : ev_Snd X l ev_ms x_L_law tx_L_law 367 (i_ii (fun a b => a + b) 368) := s_iadd dL_law_367
theorem s_L_law_368 {X : ev_E} {l : Launch} (hG : ev_Good X) (hl : l.stackTraces = false) : ev_Snd X l ev_ms x_L_law tx_L_law 368 (i_ald X ev_tI 369) := s_iaload hG dL_law_368
theorem s_L_law_369 {X : ev_E} {l : Launch} (hG : ev_Good X) (hl : l.stackTraces = false) : ev_Snd X l ev_ms x_L_law tx_L_law 369 (i_al 0 370) := s_aload_n dL_law_369 rfl
theorem s_L_law_370 {X : ev_E} {l : Launch} (hG : ev_Good X) (hl : l.stackTraces = false) : ev_Snd X l ev_ms x_L_law tx_L_law 370 (i_il 4 372) := s_iload dL_law_370
theorem s_L_law_372 {X : ev_E} {l : Launch} (hG : ev_Good X) (hl : l.stackTraces = false) : ev_Snd X l ev_ms x_L_law tx_L_law 372 (i_psh (.int (3)) 373) := s_iconst dL_law_372 rfl
theorem s_L_law_373 {X : ev_E} {l : Launch} (hG : ev_Good X) (hl : l.stackTraces = false) : ev_Snd X l ev_ms x_L_law tx_L_law 373 (i_ii (fun a b => a + b) 374) := s_iadd dL_law_373
theorem s_L_law_374 {X : ev_E} {l : Launch} (hG : ev_Good X) (hl : l.stackTraces = false) : ev_Snd X l ev_ms x_L_law tx_L_law 374 (i_ald X ev_tI 375) := s_iaload hG dL_law_374
theorem s_L_law_375 {X : ev_E} {l : Launch} (hG : ev_Good X) (hl : l.stackTraces = false) : ev_Snd X l ev_ms x_L_law tx_L_law 375 (i_al 3 376) := s_aload_n dL_law_375 rfl
theorem s_L_law_376 {X : ev_E} {l : Launch} (hG : ev_Good X) (hl : l.stackTraces = false) : ev_Snd X l ev_ms x_L_law tx_L_law 376 (i_cS 263 5 6 379) := s_invokestaticW hG (mi := 263) (n := 5) (cal_L_putIfAbsent (Nat.le_of_ble_eq_true rfl)) w_869 w_870 dL_law_376
theorem s_L_law_379 {X : ev_E} {l : Launch} (hG : ev_Good X) (hl : l.stackTraces = false) : ev_Snd X l ev_ms x_L_law tx_L_law 379 (i_is 5 381) := s_istore dL_law_379 (Nat.le_of_ble_eq_true rfl)
theorem s_L_law_381 {X : ev_E} {l : Launch} (hG : ev_Good X) (hl : l.stackTraces = false) : ev_Snd X l ev_ms x_L_law tx_L_law 381 (i_al 2 382) := s_aload_n dL_law_381 rfl
theorem s_L_law_382 {X : ev_E} {l : Launch} (hG : ev_Good X) (hl : l.stackTraces = false) : ev_Snd X l ev_ms x_L_law tx_L_law 382 (i_al 0 383) := s_aload_n dL_law_382 rfl
theorem s_L_law_383 {X : ev_E} {l : Launch} (hG : ev_Good X) (hl : l.stackTraces = false) : ev_Snd X l ev_ms x_L_law tx_L_law 383 (i_il 4 385) := s_iload dL_law_383
theorem s_L_law_385 {X : ev_E} {l : Launch} (hG : ev_Good X) (hl : l.stackTraces = false) : ev_Snd X l ev_ms x_L_law tx_L_law 385 (i_psh (.int (1)) 386) := s_iconst dL_law_385 rfl
theorem s_L_law_386 {X : ev_E} {l : Launch} (hG : ev_Good X) (hl : l.stackTraces = false) : ev_Snd X l ev_ms x_L_law tx_L_law 386 (i_ii (fun a b => a + b) 387) := s_iadd dL_law_386
theorem s_L_law_387 {X : ev_E} {l : Launch} (hG : ev_Good X) (hl : l.stackTraces = false) : ev_Snd X l ev_ms x_L_law tx_L_law 387 (i_ald X ev_tI 388) := s_iaload hG dL_law_387
theorem s_L_law_388 {X : ev_E} {l : Launch} (hG : ev_Good X) (hl : l.stackTraces = false) : ev_Snd X l ev_ms x_L_law tx_L_law 388 (i_al 0 389) := s_aload_n dL_law_388 rfl
theorem s_L_law_389 {X : ev_E} {l : Launch} (hG : ev_Good X) (hl : l.stackTraces = false) : ev_Snd X l ev_ms x_L_law tx_L_law 389 (i_il 4 391) := s_iload dL_law_389
theorem s_L_law_391 {X : ev_E} {l : Launch} (hG : ev_Good X) (hl : l.stackTraces = false) : ev_Snd X l ev_ms x_L_law tx_L_law 391 (i_psh (.int (2)) 392) := s_iconst dL_law_391 rfl
theorem s_L_law_392 {X : ev_E} {l : Launch} (hG : ev_Good X) (hl : l.stackTraces = false) : ev_Snd X l ev_ms x_L_law tx_L_law 392 (i_ii (fun a b => a + b) 393) := s_iadd dL_law_392
theorem s_L_law_393 {X : ev_E} {l : Launch} (hG : ev_Good X) (hl : l.stackTraces = false) : ev_Snd X l ev_ms x_L_law tx_L_law 393 (i_ald X ev_tI 394) := s_iaload hG dL_law_393
theorem s_L_law_394 {X : ev_E} {l : Launch} (hG : ev_Good X) (hl : l.stackTraces = false) : ev_Snd X l ev_ms x_L_law tx_L_law 394 (i_al 0 395) := s_aload_n dL_law_394 rfl
theorem s_L_law_395 {X : ev_E} {l : Launch} (hG : ev_Good X) (hl : l.stackTraces = false) : ev_Snd X l ev_ms x_L_law tx_L_law 395 (i_il 4 397) := s_iload dL_law_395
theorem s_L_law_397 {X : ev_E} {l : Launch} (hG : ev_Good X) (hl : l.stackTraces = false) : ev_Snd X l ev_ms x_L_law tx_L_law 397 (i_psh (.int (3)) 398) := s_iconst dL_law_397 rfl
theorem s_L_law_398 {X : ev_E} {l : Launch} (hG : ev_Good X) (hl : l.stackTraces = false) : ev_Snd X l ev_ms x_L_law tx_L_law 398 (i_ii (fun a b => a + b) 399) := s_iadd dL_law_398
theorem s_L_law_399 {X : ev_E} {l : Launch} (hG : ev_Good X) (hl : l.stackTraces = false) : ev_Snd X l ev_ms x_L_law tx_L_law 399 (i_ald X ev_tI 400) := s_iaload hG dL_law_399
theorem s_L_law_400 {X : ev_E} {l : Launch} (hG : ev_Good X) (hl : l.stackTraces = false) : ev_Snd X l ev_ms x_L_law tx_L_law 400 (i_cV X 295 3 13 7 403) := s_invokevirtual hG (mi := 295) (n := 3) (ci := 13) (r := (RX8, TX8, 5)) rfl (cal_X8_putIfAbsent (Nat.le_of_ble_eq_true rfl)) w_1394 w_1395 w_1396 dL_law_400
theorem s_L_law_403 {X : ev_E} {l : Launch} (hG : ev_Good X) (hl : l.stackTraces = false) : ev_Snd X l ev_ms x_L_law tx_L_law 403 (i_is 6 405) := s_istore dL_law_403 (Nat.le_of_ble_eq_true rfl)
theorem s_L_law_405 {X : ev_E} {l : Launch} (hG : ev_Good X) (hl : l.stackTraces = false) : ev_Snd X l ev_ms x_L_law tx_L_law 405 (i_goto 1742) := s_goto dL_law_405 rfl
theorem s_L_law_408 {X : ev_E} {l : Launch} (hG : ev_Good X) (hl : l.stackTraces = false) : ev_Snd X l ev_ms x_L_law tx_L_law 408 (i_al 1 409) := s_aload_n dL_law_408 rfl
theorem s_L_law_409 {X : ev_E} {l : Launch} (hG : ev_Good X) (hl : l.stackTraces = false) : ev_Snd X l ev_ms x_L_law tx_L_law 409 (i_al 0 410) := s_aload_n dL_law_409 rfl
theorem s_L_law_410 {X : ev_E} {l : Launch} (hG : ev_Good X) (hl : l.stackTraces = false) : ev_Snd X l ev_ms x_L_law tx_L_law 410 (i_il 4 412) := s_iload dL_law_410
theorem s_L_law_412 {X : ev_E} {l : Launch} (hG : ev_Good X) (hl : l.stackTraces = false) : ev_Snd X l ev_ms x_L_law tx_L_law 412 (i_psh (.int (1)) 413) := s_iconst dL_law_412 rfl
theorem s_L_law_413 {X : ev_E} {l : Launch} (hG : ev_Good X) (hl : l.stackTraces = false) : ev_Snd X l ev_ms x_L_law tx_L_law 413 (i_ii (fun a b => a + b) 414) := s_iadd dL_law_413
theorem s_L_law_414 {X : ev_E} {l : Launch} (hG : ev_Good X) (hl : l.stackTraces = false) : ev_Snd X l ev_ms x_L_law tx_L_law 414 (i_ald X ev_tI 415) := s_iaload hG dL_law_414
theorem s_L_law_415 {X : ev_E} {l : Launch} (hG : ev_Good X) (hl : l.stackTraces = false) : ev_Snd X l ev_ms x_L_law tx_L_law 415 (i_al 0 416) := s_aload_n dL_law_415 rfl
theorem s_L_law_416 {X : ev_E} {l : Launch} (hG : ev_Good X) (hl : l.stackTraces = false) : ev_Snd X l ev_ms x_L_law tx_L_law 416 (i_il 4 418) := s_iload dL_law_416
theorem s_L_law_418 {X : ev_E} {l : Launch} (hG : ev_Good X) (hl : l.stackTraces = false) : ev_Snd X l ev_ms x_L_law tx_L_law 418 (i_psh (.int (2)) 419) := s_iconst dL_law_418 rfl
theorem s_L_law_419 {X : ev_E} {l : Launch} (hG : ev_Good X) (hl : l.stackTraces = false) : ev_Snd X l ev_ms x_L_law tx_L_law 419 (i_ii (fun a b => a + b) 420) := s_iadd dL_law_419
theorem s_L_law_420 {X : ev_E} {l : Launch} (hG : ev_Good X) (hl : l.stackTraces = false) : ev_Snd X l ev_ms x_L_law tx_L_law 420 (i_ald X ev_tI 421) := s_iaload hG dL_law_420
theorem s_L_law_421 {X : ev_E} {l : Launch} (hG : ev_Good X) (hl : l.stackTraces = false) : ev_Snd X l ev_ms x_L_law tx_L_law 421 (i_al 3 422) := s_aload_n dL_law_421 rfl
theorem s_L_law_422 {X : ev_E} {l : Launch} (hG : ev_Good X) (hl : l.stackTraces = false) : ev_Snd X l ev_ms x_L_law tx_L_law 422 (i_cS 250 4 5 425) := s_invokestaticW hG (mi := 250) (n := 4) (cal_L_get (Nat.le_of_ble_eq_true rfl)) w_901 w_902 dL_law_422
theorem s_L_law_425 {X : ev_E} {l : Launch} (hG : ev_Good X) (hl : l.stackTraces = false) : ev_Snd X l ev_ms x_L_law tx_L_law 425 (i_is 5 427) := s_istore dL_law_425 (Nat.le_of_ble_eq_true rfl)
theorem s_L_law_427 {X : ev_E} {l : Launch} (hG : ev_Good X) (hl : l.stackTraces = false) : ev_Snd X l ev_ms x_L_law tx_L_law 427 (i_al 2 428) := s_aload_n dL_law_427 rfl
theorem s_L_law_428 {X : ev_E} {l : Launch} (hG : ev_Good X) (hl : l.stackTraces = false) : ev_Snd X l ev_ms x_L_law tx_L_law 428 (i_al 0 429) := s_aload_n dL_law_428 rfl
theorem s_L_law_429 {X : ev_E} {l : Launch} (hG : ev_Good X) (hl : l.stackTraces = false) : ev_Snd X l ev_ms x_L_law tx_L_law 429 (i_il 4 431) := s_iload dL_law_429
theorem s_L_law_431 {X : ev_E} {l : Launch} (hG : ev_Good X) (hl : l.stackTraces = false) : ev_Snd X l ev_ms x_L_law tx_L_law 431 (i_psh (.int (1)) 432) := s_iconst dL_law_431 rfl
theorem s_L_law_432 {X : ev_E} {l : Launch} (hG : ev_Good X) (hl : l.stackTraces = false) : ev_Snd X l ev_ms x_L_law tx_L_law 432 (i_ii (fun a b => a + b) 433) := s_iadd dL_law_432
theorem s_L_law_433 {X : ev_E} {l : Launch} (hG : ev_Good X) (hl : l.stackTraces = false) : ev_Snd X l ev_ms x_L_law tx_L_law 433 (i_ald X ev_tI 434) := s_iaload hG dL_law_433
theorem s_L_law_434 {X : ev_E} {l : Launch} (hG : ev_Good X) (hl : l.stackTraces = false) : ev_Snd X l ev_ms x_L_law tx_L_law 434 (i_al 0 435) := s_aload_n dL_law_434 rfl
theorem s_L_law_435 {X : ev_E} {l : Launch} (hG : ev_Good X) (hl : l.stackTraces = false) : ev_Snd X l ev_ms x_L_law tx_L_law 435 (i_il 4 437) := s_iload dL_law_435
theorem s_L_law_437 {X : ev_E} {l : Launch} (hG : ev_Good X) (hl : l.stackTraces = false) : ev_Snd X l ev_ms x_L_law tx_L_law 437 (i_psh (.int (2)) 438) := s_iconst dL_law_437 rfl
theorem s_L_law_438 {X : ev_E} {l : Launch} (hG : ev_Good X) (hl : l.stackTraces = false) : ev_Snd X l ev_ms x_L_law tx_L_law 438 (i_ii (fun a b => a + b) 439) := s_iadd dL_law_438
theorem s_L_law_439 {X : ev_E} {l : Launch} (hG : ev_Good X) (hl : l.stackTraces = false) : ev_Snd X l ev_ms x_L_law tx_L_law 439 (i_ald X ev_tI 440) := s_iaload hG dL_law_439
theorem s_L_law_440 {X : ev_E} {l : Launch} (hG : ev_Good X) (hl : l.stackTraces = false) : ev_Snd X l ev_ms x_L_law tx_L_law 440 (i_cV X 303 2 13 3 443) := s_invokevirtual hG (mi := 303) (n := 2) (ci := 13) (r := (RX8, TX8, 5)) rfl (cal_X8_get (Nat.le_of_ble_eq_true rfl)) w_1398 w_1399 w_1400 dL_law_440
theorem s_L_law_443 {X : ev_E} {l : Launch} (hG : ev_Good X) (hl : l.stackTraces = false) : ev_Snd X l ev_ms x_L_law tx_L_law 443 (i_is 6 445) := s_istore dL_law_443 (Nat.le_of_ble_eq_true rfl)
theorem s_L_law_445 {X : ev_E} {l : Launch} (hG : ev_Good X) (hl : l.stackTraces = false) : ev_Snd X l ev_ms x_L_law tx_L_law 445 (i_goto 1742) := s_goto dL_law_445 rfl
theorem s_L_law_448 {X : ev_E} {l : Launch} (hG : ev_Good X) (hl : l.stackTraces = false) : ev_Snd X l ev_ms x_L_law tx_L_law 448 (i_al 1 449) := s_aload_n dL_law_448 rfl
theorem s_L_law_449 {X : ev_E} {l : Launch} (hG : ev_Good X) (hl : l.stackTraces = false) : ev_Snd X l ev_ms x_L_law tx_L_law 449 (i_al 0 450) := s_aload_n dL_law_449 rfl
theorem s_L_law_450 {X : ev_E} {l : Launch} (hG : ev_Good X) (hl : l.stackTraces = false) : ev_Snd X l ev_ms x_L_law tx_L_law 450 (i_il 4 452) := s_iload dL_law_450
theorem s_L_law_452 {X : ev_E} {l : Launch} (hG : ev_Good X) (hl : l.stackTraces = false) : ev_Snd X l ev_ms x_L_law tx_L_law 452 (i_psh (.int (1)) 453) := s_iconst dL_law_452 rfl
theorem s_L_law_453 {X : ev_E} {l : Launch} (hG : ev_Good X) (hl : l.stackTraces = false) : ev_Snd X l ev_ms x_L_law tx_L_law 453 (i_ii (fun a b => a + b) 454) := s_iadd dL_law_453
theorem s_L_law_454 {X : ev_E} {l : Launch} (hG : ev_Good X) (hl : l.stackTraces = false) : ev_Snd X l ev_ms x_L_law tx_L_law 454 (i_ald X ev_tI 455) := s_iaload hG dL_law_454
theorem s_L_law_455 {X : ev_E} {l : Launch} (hG : ev_Good X) (hl : l.stackTraces = false) : ev_Snd X l ev_ms x_L_law tx_L_law 455 (i_al 0 456) := s_aload_n dL_law_455 rfl
theorem s_L_law_456 {X : ev_E} {l : Launch} (hG : ev_Good X) (hl : l.stackTraces = false) : ev_Snd X l ev_ms x_L_law tx_L_law 456 (i_il 4 458) := s_iload dL_law_456
theorem s_L_law_458 {X : ev_E} {l : Launch} (hG : ev_Good X) (hl : l.stackTraces = false) : ev_Snd X l ev_ms x_L_law tx_L_law 458 (i_psh (.int (2)) 459) := s_iconst dL_law_458 rfl
theorem s_L_law_459 {X : ev_E} {l : Launch} (hG : ev_Good X) (hl : l.stackTraces = false) : ev_Snd X l ev_ms x_L_law tx_L_law 459 (i_ii (fun a b => a + b) 460) := s_iadd dL_law_459
theorem s_L_law_460 {X : ev_E} {l : Launch} (hG : ev_Good X) (hl : l.stackTraces = false) : ev_Snd X l ev_ms x_L_law tx_L_law 460 (i_ald X ev_tI 461) := s_iaload hG dL_law_460
theorem s_L_law_461 {X : ev_E} {l : Launch} (hG : ev_Good X) (hl : l.stackTraces = false) : ev_Snd X l ev_ms x_L_law tx_L_law 461 (i_al 0 462) := s_aload_n dL_law_461 rfl
theorem s_L_law_462 {X : ev_E} {l : Launch} (hG : ev_Good X) (hl : l.stackTraces = false) : ev_Snd X l ev_ms x_L_law tx_L_law 462 (i_il 4 464) := s_iload dL_law_462
theorem s_L_law_464 {X : ev_E} {l : Launch} (hG : ev_Good X) (hl : l.stackTraces = false) : ev_Snd X l ev_ms x_L_law tx_L_law 464 (i_psh (.int (3)) 465) := s_iconst dL_law_464 rfl
theorem s_L_law_465 {X : ev_E} {l : Launch} (hG : ev_Good X) (hl : l.stackTraces = false) : ev_Snd X l ev_ms x_L_law tx_L_law 465 (i_ii (fun a b => a + b) 466) := s_iadd dL_law_465
theorem s_L_law_466 {X : ev_E} {l : Launch} (hG : ev_Good X) (hl : l.stackTraces = false) : ev_Snd X l ev_ms x_L_law tx_L_law 466 (i_ald X ev_tI 467) := s_iaload hG dL_law_466
theorem s_L_law_467 {X : ev_E} {l : Launch} (hG : ev_Good X) (hl : l.stackTraces = false) : ev_Snd X l ev_ms x_L_law tx_L_law 467 (i_al 3 468) := s_aload_n dL_law_467 rfl
theorem s_L_law_468 {X : ev_E} {l : Launch} (hG : ev_Good X) (hl : l.stackTraces = false) : ev_Snd X l ev_ms x_L_law tx_L_law 468 (i_cS 251 5 6 471) := s_invokestaticW hG (mi := 251) (n := 5) (cal_L_getOr (Nat.le_of_ble_eq_true rfl)) w_909 w_910 dL_law_468
theorem s_L_law_471 {X : ev_E} {l : Launch} (hG : ev_Good X) (hl : l.stackTraces = false) : ev_Snd X l ev_ms x_L_law tx_L_law 471 (i_is 5 473) := s_istore dL_law_471 (Nat.le_of_ble_eq_true rfl)
theorem s_L_law_473 {X : ev_E} {l : Launch} (hG : ev_Good X) (hl : l.stackTraces = false) : ev_Snd X l ev_ms x_L_law tx_L_law 473 (i_al 2 474) := s_aload_n dL_law_473 rfl
theorem s_L_law_474 {X : ev_E} {l : Launch} (hG : ev_Good X) (hl : l.stackTraces = false) : ev_Snd X l ev_ms x_L_law tx_L_law 474 (i_al 0 475) := s_aload_n dL_law_474 rfl
theorem s_L_law_475 {X : ev_E} {l : Launch} (hG : ev_Good X) (hl : l.stackTraces = false) : ev_Snd X l ev_ms x_L_law tx_L_law 475 (i_il 4 477) := s_iload dL_law_475
theorem s_L_law_477 {X : ev_E} {l : Launch} (hG : ev_Good X) (hl : l.stackTraces = false) : ev_Snd X l ev_ms x_L_law tx_L_law 477 (i_psh (.int (1)) 478) := s_iconst dL_law_477 rfl
theorem s_L_law_478 {X : ev_E} {l : Launch} (hG : ev_Good X) (hl : l.stackTraces = false) : ev_Snd X l ev_ms x_L_law tx_L_law 478 (i_ii (fun a b => a + b) 479) := s_iadd dL_law_478
theorem s_L_law_479 {X : ev_E} {l : Launch} (hG : ev_Good X) (hl : l.stackTraces = false) : ev_Snd X l ev_ms x_L_law tx_L_law 479 (i_ald X ev_tI 480) := s_iaload hG dL_law_479
theorem s_L_law_480 {X : ev_E} {l : Launch} (hG : ev_Good X) (hl : l.stackTraces = false) : ev_Snd X l ev_ms x_L_law tx_L_law 480 (i_al 0 481) := s_aload_n dL_law_480 rfl
theorem s_L_law_481 {X : ev_E} {l : Launch} (hG : ev_Good X) (hl : l.stackTraces = false) : ev_Snd X l ev_ms x_L_law tx_L_law 481 (i_il 4 483) := s_iload dL_law_481
theorem s_L_law_483 {X : ev_E} {l : Launch} (hG : ev_Good X) (hl : l.stackTraces = false) : ev_Snd X l ev_ms x_L_law tx_L_law 483 (i_psh (.int (2)) 484) := s_iconst dL_law_483 rfl
theorem s_L_law_484 {X : ev_E} {l : Launch} (hG : ev_Good X) (hl : l.stackTraces = false) : ev_Snd X l ev_ms x_L_law tx_L_law 484 (i_ii (fun a b => a + b) 485) := s_iadd dL_law_484
theorem s_L_law_485 {X : ev_E} {l : Launch} (hG : ev_Good X) (hl : l.stackTraces = false) : ev_Snd X l ev_ms x_L_law tx_L_law 485 (i_ald X ev_tI 486) := s_iaload hG dL_law_485
theorem s_L_law_486 {X : ev_E} {l : Launch} (hG : ev_Good X) (hl : l.stackTraces = false) : ev_Snd X l ev_ms x_L_law tx_L_law 486 (i_al 0 487) := s_aload_n dL_law_486 rfl
theorem s_L_law_487 {X : ev_E} {l : Launch} (hG : ev_Good X) (hl : l.stackTraces = false) : ev_Snd X l ev_ms x_L_law tx_L_law 487 (i_il 4 489) := s_iload dL_law_487
theorem s_L_law_489 {X : ev_E} {l : Launch} (hG : ev_Good X) (hl : l.stackTraces = false) : ev_Snd X l ev_ms x_L_law tx_L_law 489 (i_psh (.int (3)) 490) := s_iconst dL_law_489 rfl
theorem s_L_law_490 {X : ev_E} {l : Launch} (hG : ev_Good X) (hl : l.stackTraces = false) : ev_Snd X l ev_ms x_L_law tx_L_law 490 (i_ii (fun a b => a + b) 491) := s_iadd dL_law_490
theorem s_L_law_491 {X : ev_E} {l : Launch} (hG : ev_Good X) (hl : l.stackTraces = false) : ev_Snd X l ev_ms x_L_law tx_L_law 491 (i_ald X ev_tI 492) := s_iaload hG dL_law_491
theorem s_L_law_492 {X : ev_E} {l : Launch} (hG : ev_Good X) (hl : l.stackTraces = false) : ev_Snd X l ev_ms x_L_law tx_L_law 492 (i_cV X 304 3 13 4 495) := s_invokevirtual hG (mi := 304) (n := 3) (ci := 13) (r := (RX8, TX8, 5)) rfl (cal_X8_getOr (Nat.le_of_ble_eq_true rfl)) w_1410 w_1411 w_1412 dL_law_492
theorem s_L_law_495 {X : ev_E} {l : Launch} (hG : ev_Good X) (hl : l.stackTraces = false) : ev_Snd X l ev_ms x_L_law tx_L_law 495 (i_is 6 497) := s_istore dL_law_495 (Nat.le_of_ble_eq_true rfl)
theorem s_L_law_497 {X : ev_E} {l : Launch} (hG : ev_Good X) (hl : l.stackTraces = false) : ev_Snd X l ev_ms x_L_law tx_L_law 497 (i_goto 1742) := s_goto dL_law_497 rfl
theorem s_L_law_500 {X : ev_E} {l : Launch} (hG : ev_Good X) (hl : l.stackTraces = false) : ev_Snd X l ev_ms x_L_law tx_L_law 500 (i_al 1 501) := s_aload_n dL_law_500 rfl
theorem s_L_law_501 {X : ev_E} {l : Launch} (hG : ev_Good X) (hl : l.stackTraces = false) : ev_Snd X l ev_ms x_L_law tx_L_law 501 (i_al 0 502) := s_aload_n dL_law_501 rfl
theorem s_L_law_502 {X : ev_E} {l : Launch} (hG : ev_Good X) (hl : l.stackTraces = false) : ev_Snd X l ev_ms x_L_law tx_L_law 502 (i_il 4 504) := s_iload dL_law_502
theorem s_L_law_504 {X : ev_E} {l : Launch} (hG : ev_Good X) (hl : l.stackTraces = false) : ev_Snd X l ev_ms x_L_law tx_L_law 504 (i_psh (.int (1)) 505) := s_iconst dL_law_504 rfl
theorem s_L_law_505 {X : ev_E} {l : Launch} (hG : ev_Good X) (hl : l.stackTraces = false) : ev_Snd X l ev_ms x_L_law tx_L_law 505 (i_ii (fun a b => a + b) 506) := s_iadd dL_law_505
theorem s_L_law_506 {X : ev_E} {l : Launch} (hG : ev_Good X) (hl : l.stackTraces = false) : ev_Snd X l ev_ms x_L_law tx_L_law 506 (i_ald X ev_tI 507) := s_iaload hG dL_law_506
theorem s_L_law_507 {X : ev_E} {l : Launch} (hG : ev_Good X) (hl : l.stackTraces = false) : ev_Snd X l ev_ms x_L_law tx_L_law 507 (i_al 0 508) := s_aload_n dL_law_507 rfl
theorem s_L_law_508 {X : ev_E} {l : Launch} (hG : ev_Good X) (hl : l.stackTraces = false) : ev_Snd X l ev_ms x_L_law tx_L_law 508 (i_il 4 510) := s_iload dL_law_508
theorem s_L_law_510 {X : ev_E} {l : Launch} (hG : ev_Good X) (hl : l.stackTraces = false) : ev_Snd X l ev_ms x_L_law tx_L_law 510 (i_psh (.int (2)) 511) := s_iconst dL_law_510 rfl
theorem s_L_law_511 {X : ev_E} {l : Launch} (hG : ev_Good X) (hl : l.stackTraces = false) : ev_Snd X l ev_ms x_L_law tx_L_law 511 (i_ii (fun a b => a + b) 512) := s_iadd dL_law_511
theorem s_L_law_512 {X : ev_E} {l : Launch} (hG : ev_Good X) (hl : l.stackTraces = false) : ev_Snd X l ev_ms x_L_law tx_L_law 512 (i_ald X ev_tI 513) := s_iaload hG dL_law_512
theorem s_L_law_513 {X : ev_E} {l : Launch} (hG : ev_Good X) (hl : l.stackTraces = false) : ev_Snd X l ev_ms x_L_law tx_L_law 513 (i_al 3 514) := s_aload_n dL_law_513 rfl
theorem s_L_law_514 {X : ev_E} {l : Launch} (hG : ev_Good X) (hl : l.stackTraces = false) : ev_Snd X l ev_ms x_L_law tx_L_law 514 (i_cS 223 4 5 517) := s_invokestaticW hG (mi := 223) (n := 4) (cal_L_remove (Nat.le_of_ble_eq_true rfl)) w_916 w_917 dL_law_514
theorem s_L_law_517 {X : ev_E} {l : Launch} (hG : ev_Good X) (hl : l.stackTraces = false) : ev_Snd X l ev_ms x_L_law tx_L_law 517 (i_is 5 519) := s_istore dL_law_517 (Nat.le_of_ble_eq_true rfl)
theorem s_L_law_519 {X : ev_E} {l : Launch} (hG : ev_Good X) (hl : l.stackTraces = false) : ev_Snd X l ev_ms x_L_law tx_L_law 519 (i_al 2 520) := s_aload_n dL_law_519 rfl
theorem s_L_law_520 {X : ev_E} {l : Launch} (hG : ev_Good X) (hl : l.stackTraces = false) : ev_Snd X l ev_ms x_L_law tx_L_law 520 (i_al 0 521) := s_aload_n dL_law_520 rfl
theorem s_L_law_521 {X : ev_E} {l : Launch} (hG : ev_Good X) (hl : l.stackTraces = false) : ev_Snd X l ev_ms x_L_law tx_L_law 521 (i_il 4 523) := s_iload dL_law_521
theorem s_L_law_523 {X : ev_E} {l : Launch} (hG : ev_Good X) (hl : l.stackTraces = false) : ev_Snd X l ev_ms x_L_law tx_L_law 523 (i_psh (.int (1)) 524) := s_iconst dL_law_523 rfl
theorem s_L_law_524 {X : ev_E} {l : Launch} (hG : ev_Good X) (hl : l.stackTraces = false) : ev_Snd X l ev_ms x_L_law tx_L_law 524 (i_ii (fun a b => a + b) 525) := s_iadd dL_law_524
theorem s_L_law_525 {X : ev_E} {l : Launch} (hG : ev_Good X) (hl : l.stackTraces = false) : ev_Snd X l ev_ms x_L_law tx_L_law 525 (i_ald X ev_tI 526) := s_iaload hG dL_law_525
theorem s_L_law_526 {X : ev_E} {l : Launch} (hG : ev_Good X) (hl : l.stackTraces = false) : ev_Snd X l ev_ms x_L_law tx_L_law 526 (i_al 0 527) := s_aload_n dL_law_526 rfl
theorem s_L_law_527 {X : ev_E} {l : Launch} (hG : ev_Good X) (hl : l.stackTraces = false) : ev_Snd X l ev_ms x_L_law tx_L_law 527 (i_il 4 529) := s_iload dL_law_527
theorem s_L_law_529 {X : ev_E} {l : Launch} (hG : ev_Good X) (hl : l.stackTraces = false) : ev_Snd X l ev_ms x_L_law tx_L_law 529 (i_psh (.int (2)) 530) := s_iconst dL_law_529 rfl
theorem s_L_law_530 {X : ev_E} {l : Launch} (hG : ev_Good X) (hl : l.stackTraces = false) : ev_Snd X l ev_ms x_L_law tx_L_law 530 (i_ii (fun a b => a + b) 531) := s_iadd dL_law_530
theorem s_L_law_531 {X : ev_E} {l : Launch} (hG : ev_Good X) (hl : l.stackTraces = false) : ev_Snd X l ev_ms x_L_law tx_L_law 531 (i_ald X ev_tI 532) := s_iaload hG dL_law_531
theorem s_L_law_532 {X : ev_E} {l : Launch} (hG : ev_Good X) (hl : l.stackTraces = false) : ev_Snd X l ev_ms x_L_law tx_L_law 532 (i_cV X 240 2 13 5 535) := s_invokevirtual hG (mi := 240) (n := 2) (ci := 13) (r := (RX8, TX8, 5)) rfl (cal_X8_remove (Nat.le_of_ble_eq_true rfl)) w_1414 w_1415 w_1416 dL_law_532
theorem s_L_law_535 {X : ev_E} {l : Launch} (hG : ev_Good X) (hl : l.stackTraces = false) : ev_Snd X l ev_ms x_L_law tx_L_law 535 (i_is 6 537) := s_istore dL_law_535 (Nat.le_of_ble_eq_true rfl)
theorem s_L_law_537 {X : ev_E} {l : Launch} (hG : ev_Good X) (hl : l.stackTraces = false) : ev_Snd X l ev_ms x_L_law tx_L_law 537 (i_goto 1742) := s_goto dL_law_537 rfl
theorem s_L_law_540 {X : ev_E} {l : Launch} (hG : ev_Good X) (hl : l.stackTraces = false) : ev_Snd X l ev_ms x_L_law tx_L_law 540 (i_al 1 541) := s_aload_n dL_law_540 rfl
theorem s_L_law_541 {X : ev_E} {l : Launch} (hG : ev_Good X) (hl : l.stackTraces = false) : ev_Snd X l ev_ms x_L_law tx_L_law 541 (i_al 0 542) := s_aload_n dL_law_541 rfl
theorem s_L_law_542 {X : ev_E} {l : Launch} (hG : ev_Good X) (hl : l.stackTraces = false) : ev_Snd X l ev_ms x_L_law tx_L_law 542 (i_il 4 544) := s_iload dL_law_542
theorem s_L_law_544 {X : ev_E} {l : Launch} (hG : ev_Good X) (hl : l.stackTraces = false) : ev_Snd X l ev_ms x_L_law tx_L_law 544 (i_psh (.int (1)) 545) := s_iconst dL_law_544 rfl
theorem s_L_law_545 {X : ev_E} {l : Launch} (hG : ev_Good X) (hl : l.stackTraces = false) : ev_Snd X l ev_ms x_L_law tx_L_law 545 (i_ii (fun a b => a + b) 546) := s_iadd dL_law_545
theorem s_L_law_546 {X : ev_E} {l : Launch} (hG : ev_Good X) (hl : l.stackTraces = false) : ev_Snd X l ev_ms x_L_law tx_L_law 546 (i_ald X ev_tI 547) := s_iaload hG dL_law_546
theorem s_L_law_547 {X : ev_E} {l : Launch} (hG : ev_Good X) (hl : l.stackTraces = false) : ev_Snd X l ev_ms x_L_law tx_L_law 547 (i_al 3 548) := s_aload_n dL_law_547 rfl
theorem s_L_law_548 {X : ev_E} {l : Launch} (hG : ev_Good X) (hl : l.stackTraces = false) : ev_Snd X l ev_ms x_L_law tx_L_law 548 (i_cS 132 3 4 551) := s_invokestaticW hG (mi := 132) (n := 3) (cal_L_clear (Nat.le_of_ble_eq_true rfl)) w_927 w_928 dL_law_548
theorem s_L_law_551 {X : ev_E} {l : Launch} (hG : ev_Good X) (hl : l.stackTraces = false) : ev_Snd X l ev_ms x_L_law tx_L_law 551 (i_is 5 553) := s_istore dL_law_551 (Nat.le_of_ble_eq_true rfl)
theorem s_L_law_553 {X : ev_E} {l : Launch} (hG : ev_Good X) (hl : l.stackTraces = false) : ev_Snd X l ev_ms x_L_law tx_L_law 553 (i_al 2 554) := s_aload_n dL_law_553 rfl
theorem s_L_law_554 {X : ev_E} {l : Launch} (hG : ev_Good X) (hl : l.stackTraces = false) : ev_Snd X l ev_ms x_L_law tx_L_law 554 (i_al 0 555) := s_aload_n dL_law_554 rfl
theorem s_L_law_555 {X : ev_E} {l : Launch} (hG : ev_Good X) (hl : l.stackTraces = false) : ev_Snd X l ev_ms x_L_law tx_L_law 555 (i_il 4 557) := s_iload dL_law_555
theorem s_L_law_557 {X : ev_E} {l : Launch} (hG : ev_Good X) (hl : l.stackTraces = false) : ev_Snd X l ev_ms x_L_law tx_L_law 557 (i_psh (.int (1)) 558) := s_iconst dL_law_557 rfl
theorem s_L_law_558 {X : ev_E} {l : Launch} (hG : ev_Good X) (hl : l.stackTraces = false) : ev_Snd X l ev_ms x_L_law tx_L_law 558 (i_ii (fun a b => a + b) 559) := s_iadd dL_law_558
theorem s_L_law_559 {X : ev_E} {l : Launch} (hG : ev_Good X) (hl : l.stackTraces = false) : ev_Snd X l ev_ms x_L_law tx_L_law 559 (i_ald X ev_tI 560) := s_iaload hG dL_law_559
theorem s_L_law_560 {X : ev_E} {l : Launch} (hG : ev_Good X) (hl : l.stackTraces = false) : ev_Snd X l ev_ms x_L_law tx_L_law 560 (i_cV X 164 1 13 3 563) := s_invokevirtual hG (mi := 164) (n := 1) (ci := 13) (r := (RX8, TX8, 5)) rfl (cal_X8_clear (Nat.le_of_ble_eq_true rfl)) w_1418 w_1419 w_1420 dL_law_560
theorem s_L_law_563 {X : ev_E} {l : Launch} (hG : ev_Good X) (hl : l.stackTraces = false) : ev_Snd X l ev_ms x_L_law tx_L_law 563 (i_is 6 565) := s_istore dL_law_563 (Nat.le_of_ble_eq_true rfl)
theorem s_L_law_565 {X : ev_E} {l : Launch} (hG : ev_Good X) (hl : l.stackTraces = false) : ev_Snd X l ev_ms x_L_law tx_L_law 565 (i_al 2 566) := s_aload_n dL_law_565 rfl
theorem s_L_law_566 {X : ev_E} {l : Launch} (hG : ev_Good X) (hl : l.stackTraces = false) : ev_Snd X l ev_ms x_L_law tx_L_law 566 (i_cV X 71 0 13 1 569) := s_invokevirtual hG (mi := 71) (n := 0) (ci := 13) (r := (RX8, TX8, 5)) rfl (cal_X8_thrown (Nat.le_of_ble_eq_true rfl)) w_1276 w_1277 w_1278 dL_law_566
theorem s_L_law_569 {X : ev_E} {l : Launch} (hG : ev_Good X) (hl : l.stackTraces = false) : ev_Snd X l ev_ms x_L_law tx_L_law 569 (i_il 5 571) := s_iload dL_law_569
theorem s_L_law_571 {X : ev_E} {l : Launch} (hG : ev_Good X) (hl : l.stackTraces = false) : ev_Snd X l ev_ms x_L_law tx_L_law 571 (i_iceq 576 574) := s_iceq dL_law_571 rfl
theorem s_L_law_574 {X : ev_E} {l : Launch} (hG : ev_Good X) (hl : l.stackTraces = false) : ev_Snd X l ev_ms x_L_law tx_L_law 574 (i_psh (.int (0)) 575) := s_iconst dL_law_574 rfl
theorem s_L_law_575 {X : ev_E} {l : Launch} (hG : ev_Good X) (hl : l.stackTraces = false) : ev_Snd X l ev_ms x_L_law tx_L_law 575 (i_ir (.boolean)) := s_ireturn rfl dL_law_575
theorem s_L_law_576 {X : ev_E} {l : Launch} (hG : ev_Good X) (hl : l.stackTraces = false) : ev_Snd X l ev_ms x_L_law tx_L_law 576 (i_il 5 578) := s_iload dL_law_576
theorem s_L_law_578 {X : ev_E} {l : Launch} (hG : ev_Good X) (hl : l.stackTraces = false) : ev_Snd X l ev_ms x_L_law tx_L_law 578 (i_ifne 594 581) := s_ifne dL_law_578 rfl
theorem s_L_law_581 {X : ev_E} {l : Launch} (hG : ev_Good X) (hl : l.stackTraces = false) : ev_Snd X l ev_ms x_L_law tx_L_law 581 (i_al 3 582) := s_aload_n dL_law_581 rfl
theorem s_L_law_582 {X : ev_E} {l : Launch} (hG : ev_Good X) (hl : l.stackTraces = false) : ev_Snd X l ev_ms x_L_law tx_L_law 582 (i_gf X 11 0 585) := s_getfieldN hG (ci := 11) (r := (RX6, TX6, 2)) rfl cw_11 (k := 0) (Nat.le_of_ble_eq_true rfl) w_811 rfl dL_law_582
theorem s_L_law_585 {X : ev_E} {l : Launch} (hG : ev_Good X) (hl : l.stackTraces = false) : ev_Snd X l ev_ms x_L_law tx_L_law 585 (i_il 6 587) := s_iload dL_law_585
theorem s_L_law_587 {X : ev_E} {l : Launch} (hG : ev_Good X) (hl : l.stackTraces = false) : ev_Snd X l ev_ms x_L_law tx_L_law 587 (i_i2l 588) := s_i2l dL_law_587
theorem s_L_law_588 {X : ev_E} {l : Launch} (hG : ev_Good X) (hl : l.stackTraces = false) : ev_Snd X l ev_ms x_L_law tx_L_law 588 (i_lcmp 589) := s_lcmp dL_law_588
theorem s_L_law_589 {X : ev_E} {l : Launch} (hG : ev_Good X) (hl : l.stackTraces = false) : ev_Snd X l ev_ms x_L_law tx_L_law 589 (i_ifeq 594 592) := s_ifeq dL_law_589 rfl
theorem s_L_law_592 {X : ev_E} {l : Launch} (hG : ev_Good X) (hl : l.stackTraces = false) : ev_Snd X l ev_ms x_L_law tx_L_law 592 (i_psh (.int (0)) 593) := s_iconst dL_law_592 rfl
theorem s_L_law_593 {X : ev_E} {l : Launch} (hG : ev_Good X) (hl : l.stackTraces = false) : ev_Snd X l ev_ms x_L_law tx_L_law 593 (i_ir (.boolean)) := s_ireturn rfl dL_law_593
theorem s_L_law_594 {X : ev_E} {l : Launch} (hG : ev_Good X) (hl : l.stackTraces = false) : ev_Snd X l ev_ms x_L_law tx_L_law 594 (i_goto 1742) := s_goto dL_law_594 rfl
theorem s_L_law_597 {X : ev_E} {l : Launch} (hG : ev_Good X) (hl : l.stackTraces = false) : ev_Snd X l ev_ms x_L_law tx_L_law 597 (i_al 1 598) := s_aload_n dL_law_597 rfl
theorem s_L_law_598 {X : ev_E} {l : Launch} (hG : ev_Good X) (hl : l.stackTraces = false) : ev_Snd X l ev_ms x_L_law tx_L_law 598 (i_al 0 599) := s_aload_n dL_law_598 rfl
theorem s_L_law_599 {X : ev_E} {l : Launch} (hG : ev_Good X) (hl : l.stackTraces = false) : ev_Snd X l ev_ms x_L_law tx_L_law 599 (i_il 4 601) := s_iload dL_law_599
theorem s_L_law_601 {X : ev_E} {l : Launch} (hG : ev_Good X) (hl : l.stackTraces = false) : ev_Snd X l ev_ms x_L_law tx_L_law 601 (i_psh (.int (1)) 602) := s_iconst dL_law_601 rfl
theorem s_L_law_602 {X : ev_E} {l : Launch} (hG : ev_Good X) (hl : l.stackTraces = false) : ev_Snd X l ev_ms x_L_law tx_L_law 602 (i_ii (fun a b => a + b) 603) := s_iadd dL_law_602
theorem s_L_law_603 {X : ev_E} {l : Launch} (hG : ev_Good X) (hl : l.stackTraces = false) : ev_Snd X l ev_ms x_L_law tx_L_law 603 (i_ald X ev_tI 604) := s_iaload hG dL_law_603
theorem s_L_law_604 {X : ev_E} {l : Launch} (hG : ev_Good X) (hl : l.stackTraces = false) : ev_Snd X l ev_ms x_L_law tx_L_law 604 (i_al 0 605) := s_aload_n dL_law_604 rfl
theorem s_L_law_605 {X : ev_E} {l : Launch} (hG : ev_Good X) (hl : l.stackTraces = false) : ev_Snd X l ev_ms x_L_law tx_L_law 605 (i_il 4 607) := s_iload dL_law_605
theorem s_L_law_607 {X : ev_E} {l : Launch} (hG : ev_Good X) (hl : l.stackTraces = false) : ev_Snd X l ev_ms x_L_law tx_L_law 607 (i_psh (.int (2)) 608) := s_iconst dL_law_607 rfl
theorem s_L_law_608 {X : ev_E} {l : Launch} (hG : ev_Good X) (hl : l.stackTraces = false) : ev_Snd X l ev_ms x_L_law tx_L_law 608 (i_ii (fun a b => a + b) 609) := s_iadd dL_law_608
theorem s_L_law_609 {X : ev_E} {l : Launch} (hG : ev_Good X) (hl : l.stackTraces = false) : ev_Snd X l ev_ms x_L_law tx_L_law 609 (i_ald X ev_tI 610) := s_iaload hG dL_law_609
theorem s_L_law_610 {X : ev_E} {l : Launch} (hG : ev_Good X) (hl : l.stackTraces = false) : ev_Snd X l ev_ms x_L_law tx_L_law 610 (i_al 0 611) := s_aload_n dL_law_610 rfl
theorem s_L_law_611 {X : ev_E} {l : Launch} (hG : ev_Good X) (hl : l.stackTraces = false) : ev_Snd X l ev_ms x_L_law tx_L_law 611 (i_il 4 613) := s_iload dL_law_611
theorem s_L_law_613 {X : ev_E} {l : Launch} (hG : ev_Good X) (hl : l.stackTraces = false) : ev_Snd X l ev_ms x_L_law tx_L_law 613 (i_psh (.int (3)) 614) := s_iconst dL_law_613 rfl
theorem s_L_law_614 {X : ev_E} {l : Launch} (hG : ev_Good X) (hl : l.stackTraces = false) : ev_Snd X l ev_ms x_L_law tx_L_law 614 (i_ii (fun a b => a + b) 615) := s_iadd dL_law_614
theorem s_L_law_615 {X : ev_E} {l : Launch} (hG : ev_Good X) (hl : l.stackTraces = false) : ev_Snd X l ev_ms x_L_law tx_L_law 615 (i_ald X ev_tI 616) := s_iaload hG dL_law_615
theorem s_L_law_616 {X : ev_E} {l : Launch} (hG : ev_Good X) (hl : l.stackTraces = false) : ev_Snd X l ev_ms x_L_law tx_L_law 616 (i_al 3 617) := s_aload_n dL_law_616 rfl
theorem s_L_law_617 {X : ev_E} {l : Launch} (hG : ev_Good X) (hl : l.stackTraces = false) : ev_Snd X l ev_ms x_L_law tx_L_law 617 (i_cS 192 5 6 620) := s_invokestaticW hG (mi := 192) (n := 5) (cal_L_set (Nat.le_of_ble_eq_true rfl)) w_935 w_936 dL_law_617
theorem s_L_law_620 {X : ev_E} {l : Launch} (hG : ev_Good X) (hl : l.stackTraces = false) : ev_Snd X l ev_ms x_L_law tx_L_law 620 (i_is 5 622) := s_istore dL_law_620 (Nat.le_of_ble_eq_true rfl)
theorem s_L_law_622 {X : ev_E} {l : Launch} (hG : ev_Good X) (hl : l.stackTraces = false) : ev_Snd X l ev_ms x_L_law tx_L_law 622 (i_al 2 623) := s_aload_n dL_law_622 rfl
theorem s_L_law_623 {X : ev_E} {l : Launch} (hG : ev_Good X) (hl : l.stackTraces = false) : ev_Snd X l ev_ms x_L_law tx_L_law 623 (i_al 0 624) := s_aload_n dL_law_623 rfl
theorem s_L_law_624 {X : ev_E} {l : Launch} (hG : ev_Good X) (hl : l.stackTraces = false) : ev_Snd X l ev_ms x_L_law tx_L_law 624 (i_il 4 626) := s_iload dL_law_624
theorem s_L_law_626 {X : ev_E} {l : Launch} (hG : ev_Good X) (hl : l.stackTraces = false) : ev_Snd X l ev_ms x_L_law tx_L_law 626 (i_psh (.int (1)) 627) := s_iconst dL_law_626 rfl
theorem s_L_law_627 {X : ev_E} {l : Launch} (hG : ev_Good X) (hl : l.stackTraces = false) : ev_Snd X l ev_ms x_L_law tx_L_law 627 (i_ii (fun a b => a + b) 628) := s_iadd dL_law_627
theorem s_L_law_628 {X : ev_E} {l : Launch} (hG : ev_Good X) (hl : l.stackTraces = false) : ev_Snd X l ev_ms x_L_law tx_L_law 628 (i_ald X ev_tI 629) := s_iaload hG dL_law_628
theorem s_L_law_629 {X : ev_E} {l : Launch} (hG : ev_Good X) (hl : l.stackTraces = false) : ev_Snd X l ev_ms x_L_law tx_L_law 629 (i_al 0 630) := s_aload_n dL_law_629 rfl
theorem s_L_law_630 {X : ev_E} {l : Launch} (hG : ev_Good X) (hl : l.stackTraces = false) : ev_Snd X l ev_ms x_L_law tx_L_law 630 (i_il 4 632) := s_iload dL_law_630
theorem s_L_law_632 {X : ev_E} {l : Launch} (hG : ev_Good X) (hl : l.stackTraces = false) : ev_Snd X l ev_ms x_L_law tx_L_law 632 (i_psh (.int (2)) 633) := s_iconst dL_law_632 rfl
theorem s_L_law_633 {X : ev_E} {l : Launch} (hG : ev_Good X) (hl : l.stackTraces = false) : ev_Snd X l ev_ms x_L_law tx_L_law 633 (i_ii (fun a b => a + b) 634) := s_iadd dL_law_633
theorem s_L_law_634 {X : ev_E} {l : Launch} (hG : ev_Good X) (hl : l.stackTraces = false) : ev_Snd X l ev_ms x_L_law tx_L_law 634 (i_ald X ev_tI 635) := s_iaload hG dL_law_634
theorem s_L_law_635 {X : ev_E} {l : Launch} (hG : ev_Good X) (hl : l.stackTraces = false) : ev_Snd X l ev_ms x_L_law tx_L_law 635 (i_al 0 636) := s_aload_n dL_law_635 rfl
theorem s_L_law_636 {X : ev_E} {l : Launch} (hG : ev_Good X) (hl : l.stackTraces = false) : ev_Snd X l ev_ms x_L_law tx_L_law 636 (i_il 4 638) := s_iload dL_law_636
theorem s_L_law_638 {X : ev_E} {l : Launch} (hG : ev_Good X) (hl : l.stackTraces = false) : ev_Snd X l ev_ms x_L_law tx_L_law 638 (i_psh (.int (3)) 639) := s_iconst dL_law_638 rfl
theorem s_L_law_639 {X : ev_E} {l : Launch} (hG : ev_Good X) (hl : l.stackTraces = false) : ev_Snd X l ev_ms x_L_law tx_L_law 639 (i_ii (fun a b => a + b) 640) := s_iadd dL_law_639
theorem s_L_law_640 {X : ev_E} {l : Launch} (hG : ev_Good X) (hl : l.stackTraces = false) : ev_Snd X l ev_ms x_L_law tx_L_law 640 (i_ald X ev_tI 641) := s_iaload hG dL_law_640
theorem s_L_law_641 {X : ev_E} {l : Launch} (hG : ev_Good X) (hl : l.stackTraces = false) : ev_Snd X l ev_ms x_L_law tx_L_law 641 (i_cV X 214 3 13 5 644) := s_invokevirtual hG (mi := 214) (n := 3) (ci := 13) (r := (RX8, TX8, 5)) rfl (cal_X8_set (Nat.le_of_ble_eq_true rfl)) w_1422 w_1423 w_1424 dL_law_641
theorem s_L_law_644 {X : ev_E} {l : Launch} (hG : ev_Good X) (hl : l.stackTraces = false) : ev_Snd X l ev_ms x_L_law tx_L_law 644 (i_is 6 646) := s_istore dL_law_644 (Nat.le_of_ble_eq_true rfl)
theorem s_L_law_646 {X : ev_E} {l : Launch} (hG : ev_Good X) (hl : l.stackTraces = false) : ev_Snd X l ev_ms x_L_law tx_L_law 646 (i_goto 1742) := s_goto dL_law_646 rfl
theorem s_L_law_649 {X : ev_E} {l : Launch} (hG : ev_Good X) (hl : l.stackTraces = false) : ev_Snd X l ev_ms x_L_law tx_L_law 649 (i_al 1 650) := s_aload_n dL_law_649 rfl
theorem s_L_law_650 {X : ev_E} {l : Launch} (hG : ev_Good X) (hl : l.stackTraces = false) : ev_Snd X l ev_ms x_L_law tx_L_law 650 (i_al 0 651) := s_aload_n dL_law_650 rfl
theorem s_L_law_651 {X : ev_E} {l : Launch} (hG : ev_Good X) (hl : l.stackTraces = false) : ev_Snd X l ev_ms x_L_law tx_L_law 651 (i_il 4 653) := s_iload dL_law_651
theorem s_L_law_653 {X : ev_E} {l : Launch} (hG : ev_Good X) (hl : l.stackTraces = false) : ev_Snd X l ev_ms x_L_law tx_L_law 653 (i_psh (.int (1)) 654) := s_iconst dL_law_653 rfl
theorem s_L_law_654 {X : ev_E} {l : Launch} (hG : ev_Good X) (hl : l.stackTraces = false) : ev_Snd X l ev_ms x_L_law tx_L_law 654 (i_ii (fun a b => a + b) 655) := s_iadd dL_law_654
theorem s_L_law_655 {X : ev_E} {l : Launch} (hG : ev_Good X) (hl : l.stackTraces = false) : ev_Snd X l ev_ms x_L_law tx_L_law 655 (i_ald X ev_tI 656) := s_iaload hG dL_law_655
theorem s_L_law_656 {X : ev_E} {l : Launch} (hG : ev_Good X) (hl : l.stackTraces = false) : ev_Snd X l ev_ms x_L_law tx_L_law 656 (i_al 0 657) := s_aload_n dL_law_656 rfl
theorem s_L_law_657 {X : ev_E} {l : Launch} (hG : ev_Good X) (hl : l.stackTraces = false) : ev_Snd X l ev_ms x_L_law tx_L_law 657 (i_il 4 659) := s_iload dL_law_657
theorem s_L_law_659 {X : ev_E} {l : Launch} (hG : ev_Good X) (hl : l.stackTraces = false) : ev_Snd X l ev_ms x_L_law tx_L_law 659 (i_psh (.int (2)) 660) := s_iconst dL_law_659 rfl
theorem s_L_law_660 {X : ev_E} {l : Launch} (hG : ev_Good X) (hl : l.stackTraces = false) : ev_Snd X l ev_ms x_L_law tx_L_law 660 (i_ii (fun a b => a + b) 661) := s_iadd dL_law_660
theorem s_L_law_661 {X : ev_E} {l : Launch} (hG : ev_Good X) (hl : l.stackTraces = false) : ev_Snd X l ev_ms x_L_law tx_L_law 661 (i_ald X ev_tI 662) := s_iaload hG dL_law_661
theorem s_L_law_662 {X : ev_E} {l : Launch} (hG : ev_Good X) (hl : l.stackTraces = false) : ev_Snd X l ev_ms x_L_law tx_L_law 662 (i_al 3 663) := s_aload_n dL_law_662 rfl
theorem s_L_law_663 {X : ev_E} {l : Launch} (hG : ev_Good X) (hl : l.stackTraces = false) : ev_Snd X l ev_ms x_L_law tx_L_law 663 (i_cS 221 4 5 666) := s_invokestaticW hG (mi := 221) (n := 4) (cal_L_copy (Nat.le_of_ble_eq_true rfl)) w_948 w_949 dL_law_663
theorem s_L_law_666 {X : ev_E} {l : Launch} (hG : ev_Good X) (hl : l.stackTraces = false) : ev_Snd X l ev_ms x_L_law tx_L_law 666 (i_is 5 668) := s_istore dL_law_666 (Nat.le_of_ble_eq_true rfl)
theorem s_L_law_668 {X : ev_E} {l : Launch} (hG : ev_Good X) (hl : l.stackTraces = false) : ev_Snd X l ev_ms x_L_law tx_L_law 668 (i_al 2 669) := s_aload_n dL_law_668 rfl
theorem s_L_law_669 {X : ev_E} {l : Launch} (hG : ev_Good X) (hl : l.stackTraces = false) : ev_Snd X l ev_ms x_L_law tx_L_law 669 (i_al 0 670) := s_aload_n dL_law_669 rfl
theorem s_L_law_670 {X : ev_E} {l : Launch} (hG : ev_Good X) (hl : l.stackTraces = false) : ev_Snd X l ev_ms x_L_law tx_L_law 670 (i_il 4 672) := s_iload dL_law_670
theorem s_L_law_672 {X : ev_E} {l : Launch} (hG : ev_Good X) (hl : l.stackTraces = false) : ev_Snd X l ev_ms x_L_law tx_L_law 672 (i_psh (.int (1)) 673) := s_iconst dL_law_672 rfl
theorem s_L_law_673 {X : ev_E} {l : Launch} (hG : ev_Good X) (hl : l.stackTraces = false) : ev_Snd X l ev_ms x_L_law tx_L_law 673 (i_ii (fun a b => a + b) 674) := s_iadd dL_law_673
theorem s_L_law_674 {X : ev_E} {l : Launch} (hG : ev_Good X) (hl : l.stackTraces = false) : ev_Snd X l ev_ms x_L_law tx_L_law 674 (i_ald X ev_tI 675) := s_iaload hG dL_law_674
theorem s_L_law_675 {X : ev_E} {l : Launch} (hG : ev_Good X) (hl : l.stackTraces = false) : ev_Snd X l ev_ms x_L_law tx_L_law 675 (i_al 0 676) := s_aload_n dL_law_675 rfl
theorem s_L_law_676 {X : ev_E} {l : Launch} (hG : ev_Good X) (hl : l.stackTraces = false) : ev_Snd X l ev_ms x_L_law tx_L_law 676 (i_il 4 678) := s_iload dL_law_676
theorem s_L_law_678 {X : ev_E} {l : Launch} (hG : ev_Good X) (hl : l.stackTraces = false) : ev_Snd X l ev_ms x_L_law tx_L_law 678 (i_psh (.int (2)) 679) := s_iconst dL_law_678 rfl
theorem s_L_law_679 {X : ev_E} {l : Launch} (hG : ev_Good X) (hl : l.stackTraces = false) : ev_Snd X l ev_ms x_L_law tx_L_law 679 (i_ii (fun a b => a + b) 680) := s_iadd dL_law_679
theorem s_L_law_680 {X : ev_E} {l : Launch} (hG : ev_Good X) (hl : l.stackTraces = false) : ev_Snd X l ev_ms x_L_law tx_L_law 680 (i_ald X ev_tI 681) := s_iaload hG dL_law_680
theorem s_L_law_681 {X : ev_E} {l : Launch} (hG : ev_Good X) (hl : l.stackTraces = false) : ev_Snd X l ev_ms x_L_law tx_L_law 681 (i_cV X 280 2 13 7 684) := s_invokevirtual hG (mi := 280) (n := 2) (ci := 13) (r := (RX8, TX8, 5)) rfl (cal_X8_copy (Nat.le_of_ble_eq_true rfl)) w_1430 w_1431 w_1432 dL_law_681
theorem s_L_law_684 {X : ev_E} {l : Launch} (hG : ev_Good X) (hl : l.stackTraces = false) : ev_Snd X l ev_ms x_L_law tx_L_law 684 (i_is 6 686) := s_istore dL_law_684 (Nat.le_of_ble_eq_true rfl)
theorem s_L_law_686 {X : ev_E} {l : Launch} (hG : ev_Good X) (hl : l.stackTraces = false) : ev_Snd X l ev_ms x_L_law tx_L_law 686 (i_goto 1742) := s_goto dL_law_686 rfl
theorem s_L_law_689 {X : ev_E} {l : Launch} (hG : ev_Good X) (hl : l.stackTraces = false) : ev_Snd X l ev_ms x_L_law tx_L_law 689 (i_al 1 690) := s_aload_n dL_law_689 rfl
theorem s_L_law_690 {X : ev_E} {l : Launch} (hG : ev_Good X) (hl : l.stackTraces = false) : ev_Snd X l ev_ms x_L_law tx_L_law 690 (i_al 0 691) := s_aload_n dL_law_690 rfl
theorem s_L_law_691 {X : ev_E} {l : Launch} (hG : ev_Good X) (hl : l.stackTraces = false) : ev_Snd X l ev_ms x_L_law tx_L_law 691 (i_il 4 693) := s_iload dL_law_691
theorem s_L_law_693 {X : ev_E} {l : Launch} (hG : ev_Good X) (hl : l.stackTraces = false) : ev_Snd X l ev_ms x_L_law tx_L_law 693 (i_psh (.int (1)) 694) := s_iconst dL_law_693 rfl
theorem s_L_law_694 {X : ev_E} {l : Launch} (hG : ev_Good X) (hl : l.stackTraces = false) : ev_Snd X l ev_ms x_L_law tx_L_law 694 (i_ii (fun a b => a + b) 695) := s_iadd dL_law_694
theorem s_L_law_695 {X : ev_E} {l : Launch} (hG : ev_Good X) (hl : l.stackTraces = false) : ev_Snd X l ev_ms x_L_law tx_L_law 695 (i_ald X ev_tI 696) := s_iaload hG dL_law_695
theorem s_L_law_696 {X : ev_E} {l : Launch} (hG : ev_Good X) (hl : l.stackTraces = false) : ev_Snd X l ev_ms x_L_law tx_L_law 696 (i_al 0 697) := s_aload_n dL_law_696 rfl
theorem s_L_law_697 {X : ev_E} {l : Launch} (hG : ev_Good X) (hl : l.stackTraces = false) : ev_Snd X l ev_ms x_L_law tx_L_law 697 (i_il 4 699) := s_iload dL_law_697
theorem s_L_law_699 {X : ev_E} {l : Launch} (hG : ev_Good X) (hl : l.stackTraces = false) : ev_Snd X l ev_ms x_L_law tx_L_law 699 (i_psh (.int (2)) 700) := s_iconst dL_law_699 rfl
theorem s_L_law_700 {X : ev_E} {l : Launch} (hG : ev_Good X) (hl : l.stackTraces = false) : ev_Snd X l ev_ms x_L_law tx_L_law 700 (i_ii (fun a b => a + b) 701) := s_iadd dL_law_700
theorem s_L_law_701 {X : ev_E} {l : Launch} (hG : ev_Good X) (hl : l.stackTraces = false) : ev_Snd X l ev_ms x_L_law tx_L_law 701 (i_ald X ev_tI 702) := s_iaload hG dL_law_701
theorem s_L_law_702 {X : ev_E} {l : Launch} (hG : ev_Good X) (hl : l.stackTraces = false) : ev_Snd X l ev_ms x_L_law tx_L_law 702 (i_al 3 703) := s_aload_n dL_law_702 rfl
theorem s_L_law_703 {X : ev_E} {l : Launch} (hG : ev_Good X) (hl : l.stackTraces = false) : ev_Snd X l ev_ms x_L_law tx_L_law 703 (i_cS 133 4 5 706) := s_invokestaticW hG (mi := 133) (n := 4) (cal_L_has (Nat.le_of_ble_eq_true rfl)) w_960 w_961 dL_law_703
theorem s_L_law_706 {X : ev_E} {l : Launch} (hG : ev_Good X) (hl : l.stackTraces = false) : ev_Snd X l ev_ms x_L_law tx_L_law 706 (i_is 5 708) := s_istore dL_law_706 (Nat.le_of_ble_eq_true rfl)
theorem s_L_law_708 {X : ev_E} {l : Launch} (hG : ev_Good X) (hl : l.stackTraces = false) : ev_Snd X l ev_ms x_L_law tx_L_law 708 (i_al 2 709) := s_aload_n dL_law_708 rfl
theorem s_L_law_709 {X : ev_E} {l : Launch} (hG : ev_Good X) (hl : l.stackTraces = false) : ev_Snd X l ev_ms x_L_law tx_L_law 709 (i_al 0 710) := s_aload_n dL_law_709 rfl
theorem s_L_law_710 {X : ev_E} {l : Launch} (hG : ev_Good X) (hl : l.stackTraces = false) : ev_Snd X l ev_ms x_L_law tx_L_law 710 (i_il 4 712) := s_iload dL_law_710
theorem s_L_law_712 {X : ev_E} {l : Launch} (hG : ev_Good X) (hl : l.stackTraces = false) : ev_Snd X l ev_ms x_L_law tx_L_law 712 (i_psh (.int (1)) 713) := s_iconst dL_law_712 rfl
theorem s_L_law_713 {X : ev_E} {l : Launch} (hG : ev_Good X) (hl : l.stackTraces = false) : ev_Snd X l ev_ms x_L_law tx_L_law 713 (i_ii (fun a b => a + b) 714) := s_iadd dL_law_713
theorem s_L_law_714 {X : ev_E} {l : Launch} (hG : ev_Good X) (hl : l.stackTraces = false) : ev_Snd X l ev_ms x_L_law tx_L_law 714 (i_ald X ev_tI 715) := s_iaload hG dL_law_714
theorem s_L_law_715 {X : ev_E} {l : Launch} (hG : ev_Good X) (hl : l.stackTraces = false) : ev_Snd X l ev_ms x_L_law tx_L_law 715 (i_al 0 716) := s_aload_n dL_law_715 rfl
theorem s_L_law_716 {X : ev_E} {l : Launch} (hG : ev_Good X) (hl : l.stackTraces = false) : ev_Snd X l ev_ms x_L_law tx_L_law 716 (i_il 4 718) := s_iload dL_law_716
theorem s_L_law_718 {X : ev_E} {l : Launch} (hG : ev_Good X) (hl : l.stackTraces = false) : ev_Snd X l ev_ms x_L_law tx_L_law 718 (i_psh (.int (2)) 719) := s_iconst dL_law_718 rfl
theorem s_L_law_719 {X : ev_E} {l : Launch} (hG : ev_Good X) (hl : l.stackTraces = false) : ev_Snd X l ev_ms x_L_law tx_L_law 719 (i_ii (fun a b => a + b) 720) := s_iadd dL_law_719
theorem s_L_law_720 {X : ev_E} {l : Launch} (hG : ev_Good X) (hl : l.stackTraces = false) : ev_Snd X l ev_ms x_L_law tx_L_law 720 (i_ald X ev_tI 721) := s_iaload hG dL_law_720
theorem s_L_law_721 {X : ev_E} {l : Launch} (hG : ev_Good X) (hl : l.stackTraces = false) : ev_Snd X l ev_ms x_L_law tx_L_law 721 (i_cV X 234 2 13 3 724) := s_invokevirtual hG (mi := 234) (n := 2) (ci := 13) (r := (RX8, TX8, 5)) rfl (cal_X8_has (Nat.le_of_ble_eq_true rfl)) w_1480 w_1481 w_1482 dL_law_721
theorem s_L_law_724 {X : ev_E} {l : Launch} (hG : ev_Good X) (hl : l.stackTraces = false) : ev_Snd X l ev_ms x_L_law tx_L_law 724 (i_is 6 726) := s_istore dL_law_724 (Nat.le_of_ble_eq_true rfl)
theorem s_L_law_726 {X : ev_E} {l : Launch} (hG : ev_Good X) (hl : l.stackTraces = false) : ev_Snd X l ev_ms x_L_law tx_L_law 726 (i_goto 1742) := s_goto dL_law_726 rfl
theorem s_L_law_729 {X : ev_E} {l : Launch} (hG : ev_Good X) (hl : l.stackTraces = false) : ev_Snd X l ev_ms x_L_law tx_L_law 729 (i_al 1 730) := s_aload_n dL_law_729 rfl
theorem s_L_law_730 {X : ev_E} {l : Launch} (hG : ev_Good X) (hl : l.stackTraces = false) : ev_Snd X l ev_ms x_L_law tx_L_law 730 (i_al 0 731) := s_aload_n dL_law_730 rfl
theorem s_L_law_731 {X : ev_E} {l : Launch} (hG : ev_Good X) (hl : l.stackTraces = false) : ev_Snd X l ev_ms x_L_law tx_L_law 731 (i_il 4 733) := s_iload dL_law_731
theorem s_L_law_733 {X : ev_E} {l : Launch} (hG : ev_Good X) (hl : l.stackTraces = false) : ev_Snd X l ev_ms x_L_law tx_L_law 733 (i_psh (.int (1)) 734) := s_iconst dL_law_733 rfl
theorem s_L_law_734 {X : ev_E} {l : Launch} (hG : ev_Good X) (hl : l.stackTraces = false) : ev_Snd X l ev_ms x_L_law tx_L_law 734 (i_ii (fun a b => a + b) 735) := s_iadd dL_law_734
theorem s_L_law_735 {X : ev_E} {l : Launch} (hG : ev_Good X) (hl : l.stackTraces = false) : ev_Snd X l ev_ms x_L_law tx_L_law 735 (i_ald X ev_tI 736) := s_iaload hG dL_law_735
theorem s_L_law_736 {X : ev_E} {l : Launch} (hG : ev_Good X) (hl : l.stackTraces = false) : ev_Snd X l ev_ms x_L_law tx_L_law 736 (i_al 3 737) := s_aload_n dL_law_736 rfl
theorem s_L_law_737 {X : ev_E} {l : Launch} (hG : ev_Good X) (hl : l.stackTraces = false) : ev_Snd X l ev_ms x_L_law tx_L_law 737 (i_cS 138 3 4 740) := s_invokestaticW hG (mi := 138) (n := 3) (cal_L_size (Nat.le_of_ble_eq_true rfl)) w_967 w_968 dL_law_737
theorem s_L_law_740 {X : ev_E} {l : Launch} (hG : ev_Good X) (hl : l.stackTraces = false) : ev_Snd X l ev_ms x_L_law tx_L_law 740 (i_is 5 742) := s_istore dL_law_740 (Nat.le_of_ble_eq_true rfl)
theorem s_L_law_742 {X : ev_E} {l : Launch} (hG : ev_Good X) (hl : l.stackTraces = false) : ev_Snd X l ev_ms x_L_law tx_L_law 742 (i_al 2 743) := s_aload_n dL_law_742 rfl
theorem s_L_law_743 {X : ev_E} {l : Launch} (hG : ev_Good X) (hl : l.stackTraces = false) : ev_Snd X l ev_ms x_L_law tx_L_law 743 (i_al 0 744) := s_aload_n dL_law_743 rfl
theorem s_L_law_744 {X : ev_E} {l : Launch} (hG : ev_Good X) (hl : l.stackTraces = false) : ev_Snd X l ev_ms x_L_law tx_L_law 744 (i_il 4 746) := s_iload dL_law_744
theorem s_L_law_746 {X : ev_E} {l : Launch} (hG : ev_Good X) (hl : l.stackTraces = false) : ev_Snd X l ev_ms x_L_law tx_L_law 746 (i_psh (.int (1)) 747) := s_iconst dL_law_746 rfl
theorem s_L_law_747 {X : ev_E} {l : Launch} (hG : ev_Good X) (hl : l.stackTraces = false) : ev_Snd X l ev_ms x_L_law tx_L_law 747 (i_ii (fun a b => a + b) 748) := s_iadd dL_law_747
theorem s_L_law_748 {X : ev_E} {l : Launch} (hG : ev_Good X) (hl : l.stackTraces = false) : ev_Snd X l ev_ms x_L_law tx_L_law 748 (i_ald X ev_tI 749) := s_iaload hG dL_law_748
theorem s_L_law_749 {X : ev_E} {l : Launch} (hG : ev_Good X) (hl : l.stackTraces = false) : ev_Snd X l ev_ms x_L_law tx_L_law 749 (i_cV X 169 1 13 2 752) := s_invokevirtual hG (mi := 169) (n := 1) (ci := 13) (r := (RX8, TX8, 5)) rfl (cal_X8_size (Nat.le_of_ble_eq_true rfl)) w_1484 w_1485 w_1486 dL_law_749
theorem s_L_law_752 {X : ev_E} {l : Launch} (hG : ev_Good X) (hl : l.stackTraces = false) : ev_Snd X l ev_ms x_L_law tx_L_law 752 (i_is 6 754) := s_istore dL_law_752 (Nat.le_of_ble_eq_true rfl)
theorem s_L_law_754 {X : ev_E} {l : Launch} (hG : ev_Good X) (hl : l.stackTraces = false) : ev_Snd X l ev_ms x_L_law tx_L_law 754 (i_goto 1742) := s_goto dL_law_754 rfl
theorem s_L_law_757 {X : ev_E} {l : Launch} (hG : ev_Good X) (hl : l.stackTraces = false) : ev_Snd X l ev_ms x_L_law tx_L_law 757 (i_al 1 758) := s_aload_n dL_law_757 rfl
theorem s_L_law_758 {X : ev_E} {l : Launch} (hG : ev_Good X) (hl : l.stackTraces = false) : ev_Snd X l ev_ms x_L_law tx_L_law 758 (i_al 0 759) := s_aload_n dL_law_758 rfl
theorem s_L_law_759 {X : ev_E} {l : Launch} (hG : ev_Good X) (hl : l.stackTraces = false) : ev_Snd X l ev_ms x_L_law tx_L_law 759 (i_il 4 761) := s_iload dL_law_759
theorem s_L_law_761 {X : ev_E} {l : Launch} (hG : ev_Good X) (hl : l.stackTraces = false) : ev_Snd X l ev_ms x_L_law tx_L_law 761 (i_psh (.int (1)) 762) := s_iconst dL_law_761 rfl
theorem s_L_law_762 {X : ev_E} {l : Launch} (hG : ev_Good X) (hl : l.stackTraces = false) : ev_Snd X l ev_ms x_L_law tx_L_law 762 (i_ii (fun a b => a + b) 763) := s_iadd dL_law_762
theorem s_L_law_763 {X : ev_E} {l : Launch} (hG : ev_Good X) (hl : l.stackTraces = false) : ev_Snd X l ev_ms x_L_law tx_L_law 763 (i_ald X ev_tI 764) := s_iaload hG dL_law_763
theorem s_L_law_764 {X : ev_E} {l : Launch} (hG : ev_Good X) (hl : l.stackTraces = false) : ev_Snd X l ev_ms x_L_law tx_L_law 764 (i_al 0 765) := s_aload_n dL_law_764 rfl
theorem s_L_law_765 {X : ev_E} {l : Launch} (hG : ev_Good X) (hl : l.stackTraces = false) : ev_Snd X l ev_ms x_L_law tx_L_law 765 (i_il 4 767) := s_iload dL_law_765
theorem s_L_law_767 {X : ev_E} {l : Launch} (hG : ev_Good X) (hl : l.stackTraces = false) : ev_Snd X l ev_ms x_L_law tx_L_law 767 (i_psh (.int (2)) 768) := s_iconst dL_law_767 rfl
theorem s_L_law_768 {X : ev_E} {l : Launch} (hG : ev_Good X) (hl : l.stackTraces = false) : ev_Snd X l ev_ms x_L_law tx_L_law 768 (i_ii (fun a b => a + b) 769) := s_iadd dL_law_768
theorem s_L_law_769 {X : ev_E} {l : Launch} (hG : ev_Good X) (hl : l.stackTraces = false) : ev_Snd X l ev_ms x_L_law tx_L_law 769 (i_ald X ev_tI 770) := s_iaload hG dL_law_769
theorem s_L_law_770 {X : ev_E} {l : Launch} (hG : ev_Good X) (hl : l.stackTraces = false) : ev_Snd X l ev_ms x_L_law tx_L_law 770 (i_al 3 771) := s_aload_n dL_law_770 rfl
theorem s_L_law_771 {X : ev_E} {l : Launch} (hG : ev_Good X) (hl : l.stackTraces = false) : ev_Snd X l ev_ms x_L_law tx_L_law 771 (i_cS 186 4 5 774) := s_invokestaticW hG (mi := 186) (n := 4) (cal_L_keyAt (Nat.le_of_ble_eq_true rfl)) w_971 w_972 dL_law_771
theorem s_L_law_774 {X : ev_E} {l : Launch} (hG : ev_Good X) (hl : l.stackTraces = false) : ev_Snd X l ev_ms x_L_law tx_L_law 774 (i_is 5 776) := s_istore dL_law_774 (Nat.le_of_ble_eq_true rfl)
theorem s_L_law_776 {X : ev_E} {l : Launch} (hG : ev_Good X) (hl : l.stackTraces = false) : ev_Snd X l ev_ms x_L_law tx_L_law 776 (i_al 2 777) := s_aload_n dL_law_776 rfl
theorem s_L_law_777 {X : ev_E} {l : Launch} (hG : ev_Good X) (hl : l.stackTraces = false) : ev_Snd X l ev_ms x_L_law tx_L_law 777 (i_al 0 778) := s_aload_n dL_law_777 rfl
theorem s_L_law_778 {X : ev_E} {l : Launch} (hG : ev_Good X) (hl : l.stackTraces = false) : ev_Snd X l ev_ms x_L_law tx_L_law 778 (i_il 4 780) := s_iload dL_law_778
theorem s_L_law_780 {X : ev_E} {l : Launch} (hG : ev_Good X) (hl : l.stackTraces = false) : ev_Snd X l ev_ms x_L_law tx_L_law 780 (i_psh (.int (1)) 781) := s_iconst dL_law_780 rfl
theorem s_L_law_781 {X : ev_E} {l : Launch} (hG : ev_Good X) (hl : l.stackTraces = false) : ev_Snd X l ev_ms x_L_law tx_L_law 781 (i_ii (fun a b => a + b) 782) := s_iadd dL_law_781
theorem s_L_law_782 {X : ev_E} {l : Launch} (hG : ev_Good X) (hl : l.stackTraces = false) : ev_Snd X l ev_ms x_L_law tx_L_law 782 (i_ald X ev_tI 783) := s_iaload hG dL_law_782
theorem s_L_law_783 {X : ev_E} {l : Launch} (hG : ev_Good X) (hl : l.stackTraces = false) : ev_Snd X l ev_ms x_L_law tx_L_law 783 (i_al 0 784) := s_aload_n dL_law_783 rfl
theorem s_L_law_784 {X : ev_E} {l : Launch} (hG : ev_Good X) (hl : l.stackTraces = false) : ev_Snd X l ev_ms x_L_law tx_L_law 784 (i_il 4 786) := s_iload dL_law_784
theorem s_L_law_786 {X : ev_E} {l : Launch} (hG : ev_Good X) (hl : l.stackTraces = false) : ev_Snd X l ev_ms x_L_law tx_L_law 786 (i_psh (.int (2)) 787) := s_iconst dL_law_786 rfl
theorem s_L_law_787 {X : ev_E} {l : Launch} (hG : ev_Good X) (hl : l.stackTraces = false) : ev_Snd X l ev_ms x_L_law tx_L_law 787 (i_ii (fun a b => a + b) 788) := s_iadd dL_law_787
theorem s_L_law_788 {X : ev_E} {l : Launch} (hG : ev_Good X) (hl : l.stackTraces = false) : ev_Snd X l ev_ms x_L_law tx_L_law 788 (i_ald X ev_tI 789) := s_iaload hG dL_law_788
theorem s_L_law_789 {X : ev_E} {l : Launch} (hG : ev_Good X) (hl : l.stackTraces = false) : ev_Snd X l ev_ms x_L_law tx_L_law 789 (i_cV X 236 2 13 3 792) := s_invokevirtual hG (mi := 236) (n := 2) (ci := 13) (r := (RX8, TX8, 5)) rfl (cal_X8_keyAt (Nat.le_of_ble_eq_true rfl)) w_1488 w_1489 w_1490 dL_law_789
theorem s_L_law_792 {X : ev_E} {l : Launch} (hG : ev_Good X) (hl : l.stackTraces = false) : ev_Snd X l ev_ms x_L_law tx_L_law 792 (i_is 6 794) := s_istore dL_law_792 (Nat.le_of_ble_eq_true rfl)
theorem s_L_law_794 {X : ev_E} {l : Launch} (hG : ev_Good X) (hl : l.stackTraces = false) : ev_Snd X l ev_ms x_L_law tx_L_law 794 (i_goto 1742) := s_goto dL_law_794 rfl
theorem s_L_law_797 {X : ev_E} {l : Launch} (hG : ev_Good X) (hl : l.stackTraces = false) : ev_Snd X l ev_ms x_L_law tx_L_law 797 (i_al 1 798) := s_aload_n dL_law_797 rfl
theorem s_L_law_798 {X : ev_E} {l : Launch} (hG : ev_Good X) (hl : l.stackTraces = false) : ev_Snd X l ev_ms x_L_law tx_L_law 798 (i_al 0 799) := s_aload_n dL_law_798 rfl
theorem s_L_law_799 {X : ev_E} {l : Launch} (hG : ev_Good X) (hl : l.stackTraces = false) : ev_Snd X l ev_ms x_L_law tx_L_law 799 (i_il 4 801) := s_iload dL_law_799
theorem s_L_law_801 {X : ev_E} {l : Launch} (hG : ev_Good X) (hl : l.stackTraces = false) : ev_Snd X l ev_ms x_L_law tx_L_law 801 (i_psh (.int (1)) 802) := s_iconst dL_law_801 rfl
theorem s_L_law_802 {X : ev_E} {l : Launch} (hG : ev_Good X) (hl : l.stackTraces = false) : ev_Snd X l ev_ms x_L_law tx_L_law 802 (i_ii (fun a b => a + b) 803) := s_iadd dL_law_802
theorem s_L_law_803 {X : ev_E} {l : Launch} (hG : ev_Good X) (hl : l.stackTraces = false) : ev_Snd X l ev_ms x_L_law tx_L_law 803 (i_ald X ev_tI 804) := s_iaload hG dL_law_803
theorem s_L_law_804 {X : ev_E} {l : Launch} (hG : ev_Good X) (hl : l.stackTraces = false) : ev_Snd X l ev_ms x_L_law tx_L_law 804 (i_al 0 805) := s_aload_n dL_law_804 rfl
theorem s_L_law_805 {X : ev_E} {l : Launch} (hG : ev_Good X) (hl : l.stackTraces = false) : ev_Snd X l ev_ms x_L_law tx_L_law 805 (i_il 4 807) := s_iload dL_law_805
theorem s_L_law_807 {X : ev_E} {l : Launch} (hG : ev_Good X) (hl : l.stackTraces = false) : ev_Snd X l ev_ms x_L_law tx_L_law 807 (i_psh (.int (2)) 808) := s_iconst dL_law_807 rfl
theorem s_L_law_808 {X : ev_E} {l : Launch} (hG : ev_Good X) (hl : l.stackTraces = false) : ev_Snd X l ev_ms x_L_law tx_L_law 808 (i_ii (fun a b => a + b) 809) := s_iadd dL_law_808
theorem s_L_law_809 {X : ev_E} {l : Launch} (hG : ev_Good X) (hl : l.stackTraces = false) : ev_Snd X l ev_ms x_L_law tx_L_law 809 (i_ald X ev_tI 810) := s_iaload hG dL_law_809
theorem s_L_law_810 {X : ev_E} {l : Launch} (hG : ev_Good X) (hl : l.stackTraces = false) : ev_Snd X l ev_ms x_L_law tx_L_law 810 (i_al 3 811) := s_aload_n dL_law_810 rfl
theorem s_L_law_811 {X : ev_E} {l : Launch} (hG : ev_Good X) (hl : l.stackTraces = false) : ev_Snd X l ev_ms x_L_law tx_L_law 811 (i_cS 194 4 5 814) := s_invokestaticW hG (mi := 194) (n := 4) (cal_L_valueAt (Nat.le_of_ble_eq_true rfl)) w_978 w_979 dL_law_811
theorem s_L_law_814 {X : ev_E} {l : Launch} (hG : ev_Good X) (hl : l.stackTraces = false) : ev_Snd X l ev_ms x_L_law tx_L_law 814 (i_is 5 816) := s_istore dL_law_814 (Nat.le_of_ble_eq_true rfl)
theorem s_L_law_816 {X : ev_E} {l : Launch} (hG : ev_Good X) (hl : l.stackTraces = false) : ev_Snd X l ev_ms x_L_law tx_L_law 816 (i_al 2 817) := s_aload_n dL_law_816 rfl
theorem s_L_law_817 {X : ev_E} {l : Launch} (hG : ev_Good X) (hl : l.stackTraces = false) : ev_Snd X l ev_ms x_L_law tx_L_law 817 (i_al 0 818) := s_aload_n dL_law_817 rfl
theorem s_L_law_818 {X : ev_E} {l : Launch} (hG : ev_Good X) (hl : l.stackTraces = false) : ev_Snd X l ev_ms x_L_law tx_L_law 818 (i_il 4 820) := s_iload dL_law_818
theorem s_L_law_820 {X : ev_E} {l : Launch} (hG : ev_Good X) (hl : l.stackTraces = false) : ev_Snd X l ev_ms x_L_law tx_L_law 820 (i_psh (.int (1)) 821) := s_iconst dL_law_820 rfl
theorem s_L_law_821 {X : ev_E} {l : Launch} (hG : ev_Good X) (hl : l.stackTraces = false) : ev_Snd X l ev_ms x_L_law tx_L_law 821 (i_ii (fun a b => a + b) 822) := s_iadd dL_law_821
theorem s_L_law_822 {X : ev_E} {l : Launch} (hG : ev_Good X) (hl : l.stackTraces = false) : ev_Snd X l ev_ms x_L_law tx_L_law 822 (i_ald X ev_tI 823) := s_iaload hG dL_law_822
theorem s_L_law_823 {X : ev_E} {l : Launch} (hG : ev_Good X) (hl : l.stackTraces = false) : ev_Snd X l ev_ms x_L_law tx_L_law 823 (i_al 0 824) := s_aload_n dL_law_823 rfl
theorem s_L_law_824 {X : ev_E} {l : Launch} (hG : ev_Good X) (hl : l.stackTraces = false) : ev_Snd X l ev_ms x_L_law tx_L_law 824 (i_il 4 826) := s_iload dL_law_824
theorem s_L_law_826 {X : ev_E} {l : Launch} (hG : ev_Good X) (hl : l.stackTraces = false) : ev_Snd X l ev_ms x_L_law tx_L_law 826 (i_psh (.int (2)) 827) := s_iconst dL_law_826 rfl
theorem s_L_law_827 {X : ev_E} {l : Launch} (hG : ev_Good X) (hl : l.stackTraces = false) : ev_Snd X l ev_ms x_L_law tx_L_law 827 (i_ii (fun a b => a + b) 828) := s_iadd dL_law_827
theorem s_L_law_828 {X : ev_E} {l : Launch} (hG : ev_Good X) (hl : l.stackTraces = false) : ev_Snd X l ev_ms x_L_law tx_L_law 828 (i_ald X ev_tI 829) := s_iaload hG dL_law_828
theorem s_L_law_829 {X : ev_E} {l : Launch} (hG : ev_Good X) (hl : l.stackTraces = false) : ev_Snd X l ev_ms x_L_law tx_L_law 829 (i_cV X 244 2 13 3 832) := s_invokevirtual hG (mi := 244) (n := 2) (ci := 13) (r := (RX8, TX8, 5)) rfl (cal_X8_valueAt (Nat.le_of_ble_eq_true rfl)) w_1496 w_1497 w_1498 dL_law_829
theorem s_L_law_832 {X : ev_E} {l : Launch} (hG : ev_Good X) (hl : l.stackTraces = false) : ev_Snd X l ev_ms x_L_law tx_L_law 832 (i_is 6 834) := s_istore dL_law_832 (Nat.le_of_ble_eq_true rfl)
theorem s_L_law_834 {X : ev_E} {l : Launch} (hG : ev_Good X) (hl : l.stackTraces = false) : ev_Snd X l ev_ms x_L_law tx_L_law 834 (i_goto 1742) := s_goto dL_law_834 rfl
theorem s_L_law_837 {X : ev_E} {l : Launch} (hG : ev_Good X) (hl : l.stackTraces = false) : ev_Snd X l ev_ms x_L_law tx_L_law 837 (i_al 1 838) := s_aload_n dL_law_837 rfl
theorem s_L_law_838 {X : ev_E} {l : Launch} (hG : ev_Good X) (hl : l.stackTraces = false) : ev_Snd X l ev_ms x_L_law tx_L_law 838 (i_al 0 839) := s_aload_n dL_law_838 rfl
theorem s_L_law_839 {X : ev_E} {l : Launch} (hG : ev_Good X) (hl : l.stackTraces = false) : ev_Snd X l ev_ms x_L_law tx_L_law 839 (i_il 4 841) := s_iload dL_law_839
theorem s_L_law_841 {X : ev_E} {l : Launch} (hG : ev_Good X) (hl : l.stackTraces = false) : ev_Snd X l ev_ms x_L_law tx_L_law 841 (i_psh (.int (1)) 842) := s_iconst dL_law_841 rfl
theorem s_L_law_842 {X : ev_E} {l : Launch} (hG : ev_Good X) (hl : l.stackTraces = false) : ev_Snd X l ev_ms x_L_law tx_L_law 842 (i_ii (fun a b => a + b) 843) := s_iadd dL_law_842
theorem s_L_law_843 {X : ev_E} {l : Launch} (hG : ev_Good X) (hl : l.stackTraces = false) : ev_Snd X l ev_ms x_L_law tx_L_law 843 (i_ald X ev_tI 844) := s_iaload hG dL_law_843
theorem s_L_law_844 {X : ev_E} {l : Launch} (hG : ev_Good X) (hl : l.stackTraces = false) : ev_Snd X l ev_ms x_L_law tx_L_law 844 (i_al 0 845) := s_aload_n dL_law_844 rfl
theorem s_L_law_845 {X : ev_E} {l : Launch} (hG : ev_Good X) (hl : l.stackTraces = false) : ev_Snd X l ev_ms x_L_law tx_L_law 845 (i_il 4 847) := s_iload dL_law_845
theorem s_L_law_847 {X : ev_E} {l : Launch} (hG : ev_Good X) (hl : l.stackTraces = false) : ev_Snd X l ev_ms x_L_law tx_L_law 847 (i_psh (.int (2)) 848) := s_iconst dL_law_847 rfl
theorem s_L_law_848 {X : ev_E} {l : Launch} (hG : ev_Good X) (hl : l.stackTraces = false) : ev_Snd X l ev_ms x_L_law tx_L_law 848 (i_ii (fun a b => a + b) 849) := s_iadd dL_law_848
theorem s_L_law_849 {X : ev_E} {l : Launch} (hG : ev_Good X) (hl : l.stackTraces = false) : ev_Snd X l ev_ms x_L_law tx_L_law 849 (i_ald X ev_tI 850) := s_iaload hG dL_law_849
theorem s_L_law_850 {X : ev_E} {l : Launch} (hG : ev_Good X) (hl : l.stackTraces = false) : ev_Snd X l ev_ms x_L_law tx_L_law 850 (i_al 3 851) := s_aload_n dL_law_850 rfl
theorem s_L_law_851 {X : ev_E} {l : Launch} (hG : ev_Good X) (hl : l.stackTraces = false) : ev_Snd X l ev_ms x_L_law tx_L_law 851 (i_cS 191 4 5 854) := s_invokestaticW hG (mi := 191) (n := 4) (cal_L_pairAt (Nat.le_of_ble_eq_true rfl)) w_985 w_986 dL_law_851
theorem s_L_law_854 {X : ev_E} {l : Launch} (hG : ev_Good X) (hl : l.stackTraces = false) : ev_Snd X l ev_ms x_L_law tx_L_law 854 (i_is 5 856) := s_istore dL_law_854 (Nat.le_of_ble_eq_true rfl)
theorem s_L_law_856 {X : ev_E} {l : Launch} (hG : ev_Good X) (hl : l.stackTraces = false) : ev_Snd X l ev_ms x_L_law tx_L_law 856 (i_al 2 857) := s_aload_n dL_law_856 rfl
theorem s_L_law_857 {X : ev_E} {l : Launch} (hG : ev_Good X) (hl : l.stackTraces = false) : ev_Snd X l ev_ms x_L_law tx_L_law 857 (i_al 0 858) := s_aload_n dL_law_857 rfl
theorem s_L_law_858 {X : ev_E} {l : Launch} (hG : ev_Good X) (hl : l.stackTraces = false) : ev_Snd X l ev_ms x_L_law tx_L_law 858 (i_il 4 860) := s_iload dL_law_858
theorem s_L_law_860 {X : ev_E} {l : Launch} (hG : ev_Good X) (hl : l.stackTraces = false) : ev_Snd X l ev_ms x_L_law tx_L_law 860 (i_psh (.int (1)) 861) := s_iconst dL_law_860 rfl
theorem s_L_law_861 {X : ev_E} {l : Launch} (hG : ev_Good X) (hl : l.stackTraces = false) : ev_Snd X l ev_ms x_L_law tx_L_law 861 (i_ii (fun a b => a + b) 862) := s_iadd dL_law_861
theorem s_L_law_862 {X : ev_E} {l : Launch} (hG : ev_Good X) (hl : l.stackTraces = false) : ev_Snd X l ev_ms x_L_law tx_L_law 862 (i_ald X ev_tI 863) := s_iaload hG dL_law_862
theorem s_L_law_863 {X : ev_E} {l : Launch} (hG : ev_Good X) (hl : l.stackTraces = false) : ev_Snd X l ev_ms x_L_law tx_L_law 863 (i_al 0 864) := s_aload_n dL_law_863 rfl
theorem s_L_law_864 {X : ev_E} {l : Launch} (hG : ev_Good X) (hl : l.stackTraces = false) : ev_Snd X l ev_ms x_L_law tx_L_law 864 (i_il 4 866) := s_iload dL_law_864
theorem s_L_law_866 {X : ev_E} {l : Launch} (hG : ev_Good X) (hl : l.stackTraces = false) : ev_Snd X l ev_ms x_L_law tx_L_law 866 (i_psh (.int (2)) 867) := s_iconst dL_law_866 rfl
theorem s_L_law_867 {X : ev_E} {l : Launch} (hG : ev_Good X) (hl : l.stackTraces = false) : ev_Snd X l ev_ms x_L_law tx_L_law 867 (i_ii (fun a b => a + b) 868) := s_iadd dL_law_867
theorem s_L_law_868 {X : ev_E} {l : Launch} (hG : ev_Good X) (hl : l.stackTraces = false) : ev_Snd X l ev_ms x_L_law tx_L_law 868 (i_ald X ev_tI 869) := s_iaload hG dL_law_868
theorem s_L_law_869 {X : ev_E} {l : Launch} (hG : ev_Good X) (hl : l.stackTraces = false) : ev_Snd X l ev_ms x_L_law tx_L_law 869 (i_cV X 238 2 13 3 872) := s_invokevirtual hG (mi := 238) (n := 2) (ci := 13) (r := (RX8, TX8, 5)) rfl (cal_X8_pairAt (Nat.le_of_ble_eq_true rfl)) w_1500 w_1501 w_1502 dL_law_869
theorem s_L_law_872 {X : ev_E} {l : Launch} (hG : ev_Good X) (hl : l.stackTraces = false) : ev_Snd X l ev_ms x_L_law tx_L_law 872 (i_is 6 874) := s_istore dL_law_872 (Nat.le_of_ble_eq_true rfl)
theorem s_L_law_874 {X : ev_E} {l : Launch} (hG : ev_Good X) (hl : l.stackTraces = false) : ev_Snd X l ev_ms x_L_law tx_L_law 874 (i_goto 1742) := s_goto dL_law_874 rfl
theorem s_L_law_877 {X : ev_E} {l : Launch} (hG : ev_Good X) (hl : l.stackTraces = false) : ev_Snd X l ev_ms x_L_law tx_L_law 877 (i_al 1 878) := s_aload_n dL_law_877 rfl
theorem s_L_law_878 {X : ev_E} {l : Launch} (hG : ev_Good X) (hl : l.stackTraces = false) : ev_Snd X l ev_ms x_L_law tx_L_law 878 (i_al 0 879) := s_aload_n dL_law_878 rfl
theorem s_L_law_879 {X : ev_E} {l : Launch} (hG : ev_Good X) (hl : l.stackTraces = false) : ev_Snd X l ev_ms x_L_law tx_L_law 879 (i_il 4 881) := s_iload dL_law_879
theorem s_L_law_881 {X : ev_E} {l : Launch} (hG : ev_Good X) (hl : l.stackTraces = false) : ev_Snd X l ev_ms x_L_law tx_L_law 881 (i_psh (.int (1)) 882) := s_iconst dL_law_881 rfl
theorem s_L_law_882 {X : ev_E} {l : Launch} (hG : ev_Good X) (hl : l.stackTraces = false) : ev_Snd X l ev_ms x_L_law tx_L_law 882 (i_ii (fun a b => a + b) 883) := s_iadd dL_law_882
theorem s_L_law_883 {X : ev_E} {l : Launch} (hG : ev_Good X) (hl : l.stackTraces = false) : ev_Snd X l ev_ms x_L_law tx_L_law 883 (i_ald X ev_tI 884) := s_iaload hG dL_law_883
theorem s_L_law_884 {X : ev_E} {l : Launch} (hG : ev_Good X) (hl : l.stackTraces = false) : ev_Snd X l ev_ms x_L_law tx_L_law 884 (i_al 0 885) := s_aload_n dL_law_884 rfl
theorem s_L_law_885 {X : ev_E} {l : Launch} (hG : ev_Good X) (hl : l.stackTraces = false) : ev_Snd X l ev_ms x_L_law tx_L_law 885 (i_il 4 887) := s_iload dL_law_885
theorem s_L_law_887 {X : ev_E} {l : Launch} (hG : ev_Good X) (hl : l.stackTraces = false) : ev_Snd X l ev_ms x_L_law tx_L_law 887 (i_psh (.int (2)) 888) := s_iconst dL_law_887 rfl
theorem s_L_law_888 {X : ev_E} {l : Launch} (hG : ev_Good X) (hl : l.stackTraces = false) : ev_Snd X l ev_ms x_L_law tx_L_law 888 (i_ii (fun a b => a + b) 889) := s_iadd dL_law_888
theorem s_L_law_889 {X : ev_E} {l : Launch} (hG : ev_Good X) (hl : l.stackTraces = false) : ev_Snd X l ev_ms x_L_law tx_L_law 889 (i_ald X ev_tI 890) := s_iaload hG dL_law_889
theorem s_L_law_890 {X : ev_E} {l : Launch} (hG : ev_Good X) (hl : l.stackTraces = false) : ev_Snd X l ev_ms x_L_law tx_L_law 890 (i_al 3 891) := s_aload_n dL_law_890 rfl
theorem s_L_law_891 {X : ev_E} {l : Launch} (hG : ev_Good X) (hl : l.stackTraces = false) : ev_Snd X l ev_ms x_L_law tx_L_law 891 (i_cS 137 4 5 894) := s_invokestaticW hG (mi := 137) (n := 4) (cal_L_placeOf (Nat.le_of_ble_eq_true rfl)) w_989 w_990 dL_law_891
theorem s_L_law_894 {X : ev_E} {l : Launch} (hG : ev_Good X) (hl : l.stackTraces = false) : ev_Snd X l ev_ms x_L_law tx_L_law 894 (i_is 5 896) := s_istore dL_law_894 (Nat.le_of_ble_eq_true rfl)
theorem s_L_law_896 {X : ev_E} {l : Launch} (hG : ev_Good X) (hl : l.stackTraces = false) : ev_Snd X l ev_ms x_L_law tx_L_law 896 (i_al 2 897) := s_aload_n dL_law_896 rfl
theorem s_L_law_897 {X : ev_E} {l : Launch} (hG : ev_Good X) (hl : l.stackTraces = false) : ev_Snd X l ev_ms x_L_law tx_L_law 897 (i_al 0 898) := s_aload_n dL_law_897 rfl
theorem s_L_law_898 {X : ev_E} {l : Launch} (hG : ev_Good X) (hl : l.stackTraces = false) : ev_Snd X l ev_ms x_L_law tx_L_law 898 (i_il 4 900) := s_iload dL_law_898
theorem s_L_law_900 {X : ev_E} {l : Launch} (hG : ev_Good X) (hl : l.stackTraces = false) : ev_Snd X l ev_ms x_L_law tx_L_law 900 (i_psh (.int (1)) 901) := s_iconst dL_law_900 rfl
theorem s_L_law_901 {X : ev_E} {l : Launch} (hG : ev_Good X) (hl : l.stackTraces = false) : ev_Snd X l ev_ms x_L_law tx_L_law 901 (i_ii (fun a b => a + b) 902) := s_iadd dL_law_901
theorem s_L_law_902 {X : ev_E} {l : Launch} (hG : ev_Good X) (hl : l.stackTraces = false) : ev_Snd X l ev_ms x_L_law tx_L_law 902 (i_ald X ev_tI 903) := s_iaload hG dL_law_902
theorem s_L_law_903 {X : ev_E} {l : Launch} (hG : ev_Good X) (hl : l.stackTraces = false) : ev_Snd X l ev_ms x_L_law tx_L_law 903 (i_al 0 904) := s_aload_n dL_law_903 rfl
theorem s_L_law_904 {X : ev_E} {l : Launch} (hG : ev_Good X) (hl : l.stackTraces = false) : ev_Snd X l ev_ms x_L_law tx_L_law 904 (i_il 4 906) := s_iload dL_law_904
theorem s_L_law_906 {X : ev_E} {l : Launch} (hG : ev_Good X) (hl : l.stackTraces = false) : ev_Snd X l ev_ms x_L_law tx_L_law 906 (i_psh (.int (2)) 907) := s_iconst dL_law_906 rfl
theorem s_L_law_907 {X : ev_E} {l : Launch} (hG : ev_Good X) (hl : l.stackTraces = false) : ev_Snd X l ev_ms x_L_law tx_L_law 907 (i_ii (fun a b => a + b) 908) := s_iadd dL_law_907
theorem s_L_law_908 {X : ev_E} {l : Launch} (hG : ev_Good X) (hl : l.stackTraces = false) : ev_Snd X l ev_ms x_L_law tx_L_law 908 (i_ald X ev_tI 909) := s_iaload hG dL_law_908
theorem s_L_law_909 {X : ev_E} {l : Launch} (hG : ev_Good X) (hl : l.stackTraces = false) : ev_Snd X l ev_ms x_L_law tx_L_law 909 (i_cV X 239 2 13 3 912) := s_invokevirtual hG (mi := 239) (n := 2) (ci := 13) (r := (RX8, TX8, 5)) rfl (cal_X8_placeOf (Nat.le_of_ble_eq_true rfl)) w_1504 w_1505 w_1506 dL_law_909
theorem s_L_law_912 {X : ev_E} {l : Launch} (hG : ev_Good X) (hl : l.stackTraces = false) : ev_Snd X l ev_ms x_L_law tx_L_law 912 (i_is 6 914) := s_istore dL_law_912 (Nat.le_of_ble_eq_true rfl)
theorem s_L_law_914 {X : ev_E} {l : Launch} (hG : ev_Good X) (hl : l.stackTraces = false) : ev_Snd X l ev_ms x_L_law tx_L_law 914 (i_goto 1742) := s_goto dL_law_914 rfl
theorem s_L_law_917 {X : ev_E} {l : Launch} (hG : ev_Good X) (hl : l.stackTraces = false) : ev_Snd X l ev_ms x_L_law tx_L_law 917 (i_al 1 918) := s_aload_n dL_law_917 rfl
theorem s_L_law_918 {X : ev_E} {l : Launch} (hG : ev_Good X) (hl : l.stackTraces = false) : ev_Snd X l ev_ms x_L_law tx_L_law 918 (i_al 0 919) := s_aload_n dL_law_918 rfl
theorem s_L_law_919 {X : ev_E} {l : Launch} (hG : ev_Good X) (hl : l.stackTraces = false) : ev_Snd X l ev_ms x_L_law tx_L_law 919 (i_il 4 921) := s_iload dL_law_919
theorem s_L_law_921 {X : ev_E} {l : Launch} (hG : ev_Good X) (hl : l.stackTraces = false) : ev_Snd X l ev_ms x_L_law tx_L_law 921 (i_psh (.int (1)) 922) := s_iconst dL_law_921 rfl
theorem s_L_law_922 {X : ev_E} {l : Launch} (hG : ev_Good X) (hl : l.stackTraces = false) : ev_Snd X l ev_ms x_L_law tx_L_law 922 (i_ii (fun a b => a + b) 923) := s_iadd dL_law_922
theorem s_L_law_923 {X : ev_E} {l : Launch} (hG : ev_Good X) (hl : l.stackTraces = false) : ev_Snd X l ev_ms x_L_law tx_L_law 923 (i_ald X ev_tI 924) := s_iaload hG dL_law_923
theorem s_L_law_924 {X : ev_E} {l : Launch} (hG : ev_Good X) (hl : l.stackTraces = false) : ev_Snd X l ev_ms x_L_law tx_L_law 924 (i_al 3 925) := s_aload_n dL_law_924 rfl
theorem s_L_law_925 {X : ev_E} {l : Launch} (hG : ev_Good X) (hl : l.stackTraces = false) : ev_Snd X l ev_ms x_L_law tx_L_law 925 (i_cS 182 3 4 928) := s_invokestaticW hG (mi := 182) (n := 3) (cal_L_eldest (Nat.le_of_ble_eq_true rfl)) w_996 w_997 dL_law_925
theorem s_L_law_928 {X : ev_E} {l : Launch} (hG : ev_Good X) (hl : l.stackTraces = false) : ev_Snd X l ev_ms x_L_law tx_L_law 928 (i_is 5 930) := s_istore dL_law_928 (Nat.le_of_ble_eq_true rfl)
theorem s_L_law_930 {X : ev_E} {l : Launch} (hG : ev_Good X) (hl : l.stackTraces = false) : ev_Snd X l ev_ms x_L_law tx_L_law 930 (i_al 2 931) := s_aload_n dL_law_930 rfl
theorem s_L_law_931 {X : ev_E} {l : Launch} (hG : ev_Good X) (hl : l.stackTraces = false) : ev_Snd X l ev_ms x_L_law tx_L_law 931 (i_al 0 932) := s_aload_n dL_law_931 rfl
theorem s_L_law_932 {X : ev_E} {l : Launch} (hG : ev_Good X) (hl : l.stackTraces = false) : ev_Snd X l ev_ms x_L_law tx_L_law 932 (i_il 4 934) := s_iload dL_law_932
theorem s_L_law_934 {X : ev_E} {l : Launch} (hG : ev_Good X) (hl : l.stackTraces = false) : ev_Snd X l ev_ms x_L_law tx_L_law 934 (i_psh (.int (1)) 935) := s_iconst dL_law_934 rfl
theorem s_L_law_935 {X : ev_E} {l : Launch} (hG : ev_Good X) (hl : l.stackTraces = false) : ev_Snd X l ev_ms x_L_law tx_L_law 935 (i_ii (fun a b => a + b) 936) := s_iadd dL_law_935
theorem s_L_law_936 {X : ev_E} {l : Launch} (hG : ev_Good X) (hl : l.stackTraces = false) : ev_Snd X l ev_ms x_L_law tx_L_law 936 (i_ald X ev_tI 937) := s_iaload hG dL_law_936
theorem s_L_law_937 {X : ev_E} {l : Launch} (hG : ev_Good X) (hl : l.stackTraces = false) : ev_Snd X l ev_ms x_L_law tx_L_law 937 (i_cV X 233 1 13 2 940) := s_invokevirtual hG (mi := 233) (n := 1) (ci := 13) (r := (RX8, TX8, 5)) rfl (cal_X8_eldest (Nat.le_of_ble_eq_true rfl)) w_1508 w_1509 w_1510 dL_law_937
theorem s_L_law_940 {X : ev_E} {l : Launch} (hG : ev_Good X) (hl : l.stackTraces = false) : ev_Snd X l ev_ms x_L_law tx_L_law 940 (i_is 6 942) := s_istore dL_law_940 (Nat.le_of_ble_eq_true rfl)
theorem s_L_law_942 {X : ev_E} {l : Launch} (hG : ev_Good X) (hl : l.stackTraces = false) : ev_Snd X l ev_ms x_L_law tx_L_law 942 (i_goto 1742) := s_goto dL_law_942 rfl
theorem s_L_law_945 {X : ev_E} {l : Launch} (hG : ev_Good X) (hl : l.stackTraces = false) : ev_Snd X l ev_ms x_L_law tx_L_law 945 (i_al 1 946) := s_aload_n dL_law_945 rfl
theorem s_L_law_946 {X : ev_E} {l : Launch} (hG : ev_Good X) (hl : l.stackTraces = false) : ev_Snd X l ev_ms x_L_law tx_L_law 946 (i_al 0 947) := s_aload_n dL_law_946 rfl
theorem s_L_law_947 {X : ev_E} {l : Launch} (hG : ev_Good X) (hl : l.stackTraces = false) : ev_Snd X l ev_ms x_L_law tx_L_law 947 (i_il 4 949) := s_iload dL_law_947
theorem s_L_law_949 {X : ev_E} {l : Launch} (hG : ev_Good X) (hl : l.stackTraces = false) : ev_Snd X l ev_ms x_L_law tx_L_law 949 (i_psh (.int (1)) 950) := s_iconst dL_law_949 rfl
theorem s_L_law_950 {X : ev_E} {l : Launch} (hG : ev_Good X) (hl : l.stackTraces = false) : ev_Snd X l ev_ms x_L_law tx_L_law 950 (i_ii (fun a b => a + b) 951) := s_iadd dL_law_950
theorem s_L_law_951 {X : ev_E} {l : Launch} (hG : ev_Good X) (hl : l.stackTraces = false) : ev_Snd X l ev_ms x_L_law tx_L_law 951 (i_ald X ev_tI 952) := s_iaload hG dL_law_951
theorem s_L_law_952 {X : ev_E} {l : Launch} (hG : ev_Good X) (hl : l.stackTraces = false) : ev_Snd X l ev_ms x_L_law tx_L_law 952 (i_al 3 953) := s_aload_n dL_law_952 rfl
theorem s_L_law_953 {X : ev_E} {l : Launch} (hG : ev_Good X) (hl : l.stackTraces = false) : ev_Snd X l ev_ms x_L_law tx_L_law 953 (i_cS 187 3 4 956) := s_invokestaticW hG (mi := 187) (n := 3) (cal_L_latest (Nat.le_of_ble_eq_true rfl)) w_1003 w_1004 dL_law_953
theorem s_L_law_956 {X : ev_E} {l : Launch} (hG : ev_Good X) (hl : l.stackTraces = false) : ev_Snd X l ev_ms x_L_law tx_L_law 956 (i_is 5 958) := s_istore dL_law_956 (Nat.le_of_ble_eq_true rfl)
theorem s_L_law_958 {X : ev_E} {l : Launch} (hG : ev_Good X) (hl : l.stackTraces = false) : ev_Snd X l ev_ms x_L_law tx_L_law 958 (i_al 2 959) := s_aload_n dL_law_958 rfl
theorem s_L_law_959 {X : ev_E} {l : Launch} (hG : ev_Good X) (hl : l.stackTraces = false) : ev_Snd X l ev_ms x_L_law tx_L_law 959 (i_al 0 960) := s_aload_n dL_law_959 rfl
theorem s_L_law_960 {X : ev_E} {l : Launch} (hG : ev_Good X) (hl : l.stackTraces = false) : ev_Snd X l ev_ms x_L_law tx_L_law 960 (i_il 4 962) := s_iload dL_law_960
theorem s_L_law_962 {X : ev_E} {l : Launch} (hG : ev_Good X) (hl : l.stackTraces = false) : ev_Snd X l ev_ms x_L_law tx_L_law 962 (i_psh (.int (1)) 963) := s_iconst dL_law_962 rfl
theorem s_L_law_963 {X : ev_E} {l : Launch} (hG : ev_Good X) (hl : l.stackTraces = false) : ev_Snd X l ev_ms x_L_law tx_L_law 963 (i_ii (fun a b => a + b) 964) := s_iadd dL_law_963
theorem s_L_law_964 {X : ev_E} {l : Launch} (hG : ev_Good X) (hl : l.stackTraces = false) : ev_Snd X l ev_ms x_L_law tx_L_law 964 (i_ald X ev_tI 965) := s_iaload hG dL_law_964
theorem s_L_law_965 {X : ev_E} {l : Launch} (hG : ev_Good X) (hl : l.stackTraces = false) : ev_Snd X l ev_ms x_L_law tx_L_law 965 (i_cV X 237 1 13 2 968) := s_invokevirtual hG (mi := 237) (n := 1) (ci := 13) (r := (RX8, TX8, 5)) rfl (cal_X8_latest (Nat.le_of_ble_eq_true rfl)) w_1512 w_1513 w_1514 dL_law_965
theorem s_L_law_968 {X : ev_E} {l : Launch} (hG : ev_Good X) (hl : l.stackTraces = false) : ev_Snd X l ev_ms x_L_law tx_L_law 968 (i_is 6 970) := s_istore dL_law_968 (Nat.le_of_ble_eq_true rfl)
theorem s_L_law_970 {X : ev_E} {l : Launch} (hG : ev_Good X) (hl : l.stackTraces = false) : ev_Snd X l ev_ms x_L_law tx_L_law 970 (i_goto 1742) := s_goto dL_law_970 rfl
theorem s_L_law_973 {X : ev_E} {l : Launch} (hG : ev_Good X) (hl : l.stackTraces = false) : ev_Snd X l ev_ms x_L_law tx_L_law 973 (i_al 1 974) := s_aload_n dL_law_973 rfl
theorem s_L_law_974 {X : ev_E} {l : Launch} (hG : ev_Good X) (hl : l.stackTraces = false) : ev_Snd X l ev_ms x_L_law tx_L_law 974 (i_al 0 975) := s_aload_n dL_law_974 rfl
theorem s_L_law_975 {X : ev_E} {l : Launch} (hG : ev_Good X) (hl : l.stackTraces = false) : ev_Snd X l ev_ms x_L_law tx_L_law 975 (i_il 4 977) := s_iload dL_law_975
theorem s_L_law_977 {X : ev_E} {l : Launch} (hG : ev_Good X) (hl : l.stackTraces = false) : ev_Snd X l ev_ms x_L_law tx_L_law 977 (i_psh (.int (1)) 978) := s_iconst dL_law_977 rfl
theorem s_L_law_978 {X : ev_E} {l : Launch} (hG : ev_Good X) (hl : l.stackTraces = false) : ev_Snd X l ev_ms x_L_law tx_L_law 978 (i_ii (fun a b => a + b) 979) := s_iadd dL_law_978
theorem s_L_law_979 {X : ev_E} {l : Launch} (hG : ev_Good X) (hl : l.stackTraces = false) : ev_Snd X l ev_ms x_L_law tx_L_law 979 (i_ald X ev_tI 980) := s_iaload hG dL_law_979
theorem s_L_law_980 {X : ev_E} {l : Launch} (hG : ev_Good X) (hl : l.stackTraces = false) : ev_Snd X l ev_ms x_L_law tx_L_law 980 (i_al 0 981) := s_aload_n dL_law_980 rfl
theorem s_L_law_981 {X : ev_E} {l : Launch} (hG : ev_Good X) (hl : l.stackTraces = false) : ev_Snd X l ev_ms x_L_law tx_L_law 981 (i_il 4 983) := s_iload dL_law_981
theorem s_L_law_983 {X : ev_E} {l : Launch} (hG : ev_Good X) (hl : l.stackTraces = false) : ev_Snd X l ev_ms x_L_law tx_L_law 983 (i_psh (.int (2)) 984) := s_iconst dL_law_983 rfl
theorem s_L_law_984 {X : ev_E} {l : Launch} (hG : ev_Good X) (hl : l.stackTraces = false) : ev_Snd X l ev_ms x_L_law tx_L_law 984 (i_ii (fun a b => a + b) 985) := s_iadd dL_law_984
theorem s_L_law_985 {X : ev_E} {l : Launch} (hG : ev_Good X) (hl : l.stackTraces = false) : ev_Snd X l ev_ms x_L_law tx_L_law 985 (i_ald X ev_tI 986) := s_iaload hG dL_law_985
theorem s_L_law_986 {X : ev_E} {l : Launch} (hG : ev_Good X) (hl : l.stackTraces = false) : ev_Snd X l ev_ms x_L_law tx_L_law 986 (i_al 3 987) := s_aload_n dL_law_986 rfl
theorem s_L_law_987 {X : ev_E} {l : Launch} (hG : ev_Good X) (hl : l.stackTraces = false) : ev_Snd X l ev_ms x_L_law tx_L_law 987 (i_cS 306 4 5 990) := s_invokestaticW hG (mi := 306) (n := 4) (cal_L_text (Nat.le_of_ble_eq_true rfl)) w_1010 w_1011 dL_law_987
theorem s_L_law_990 {X : ev_E} {l : Launch} (hG : ev_Good X) (hl : l.stackTraces = false) : ev_Snd X l ev_ms x_L_law tx_L_law 990 (i_is 5 992) := s_istore dL_law_990 (Nat.le_of_ble_eq_true rfl)
theorem s_L_law_992 {X : ev_E} {l : Launch} (hG : ev_Good X) (hl : l.stackTraces = false) : ev_Snd X l ev_ms x_L_law tx_L_law 992 (i_al 2 993) := s_aload_n dL_law_992 rfl
theorem s_L_law_993 {X : ev_E} {l : Launch} (hG : ev_Good X) (hl : l.stackTraces = false) : ev_Snd X l ev_ms x_L_law tx_L_law 993 (i_al 0 994) := s_aload_n dL_law_993 rfl
theorem s_L_law_994 {X : ev_E} {l : Launch} (hG : ev_Good X) (hl : l.stackTraces = false) : ev_Snd X l ev_ms x_L_law tx_L_law 994 (i_il 4 996) := s_iload dL_law_994
theorem s_L_law_996 {X : ev_E} {l : Launch} (hG : ev_Good X) (hl : l.stackTraces = false) : ev_Snd X l ev_ms x_L_law tx_L_law 996 (i_psh (.int (1)) 997) := s_iconst dL_law_996 rfl
theorem s_L_law_997 {X : ev_E} {l : Launch} (hG : ev_Good X) (hl : l.stackTraces = false) : ev_Snd X l ev_ms x_L_law tx_L_law 997 (i_ii (fun a b => a + b) 998) := s_iadd dL_law_997
theorem s_L_law_998 {X : ev_E} {l : Launch} (hG : ev_Good X) (hl : l.stackTraces = false) : ev_Snd X l ev_ms x_L_law tx_L_law 998 (i_ald X ev_tI 999) := s_iaload hG dL_law_998
theorem s_L_law_999 {X : ev_E} {l : Launch} (hG : ev_Good X) (hl : l.stackTraces = false) : ev_Snd X l ev_ms x_L_law tx_L_law 999 (i_al 0 1000) := s_aload_n dL_law_999 rfl
theorem s_L_law_1000 {X : ev_E} {l : Launch} (hG : ev_Good X) (hl : l.stackTraces = false) : ev_Snd X l ev_ms x_L_law tx_L_law 1000 (i_il 4 1002) := s_iload dL_law_1000
theorem s_L_law_1002 {X : ev_E} {l : Launch} (hG : ev_Good X) (hl : l.stackTraces = false) : ev_Snd X l ev_ms x_L_law tx_L_law 1002 (i_psh (.int (2)) 1003) := s_iconst dL_law_1002 rfl
theorem s_L_law_1003 {X : ev_E} {l : Launch} (hG : ev_Good X) (hl : l.stackTraces = false) : ev_Snd X l ev_ms x_L_law tx_L_law 1003 (i_ii (fun a b => a + b) 1004) := s_iadd dL_law_1003
theorem s_L_law_1004 {X : ev_E} {l : Launch} (hG : ev_Good X) (hl : l.stackTraces = false) : ev_Snd X l ev_ms x_L_law tx_L_law 1004 (i_ald X ev_tI 1005) := s_iaload hG dL_law_1004
theorem s_L_law_1005 {X : ev_E} {l : Launch} (hG : ev_Good X) (hl : l.stackTraces = false) : ev_Snd X l ev_ms x_L_law tx_L_law 1005 (i_cV X 297 2 13 6 1008) := s_invokevirtual hG (mi := 297) (n := 2) (ci := 13) (r := (RX8, TX8, 5)) rfl (cal_X8_text (Nat.le_of_ble_eq_true rfl)) w_1516 w_1517 w_1518 dL_law_1005
theorem s_L_law_1008 {X : ev_E} {l : Launch} (hG : ev_Good X) (hl : l.stackTraces = false) : ev_Snd X l ev_ms x_L_law tx_L_law 1008 (i_as 6 1010) := s_astore dL_law_1008 (Nat.le_of_ble_eq_true rfl)
theorem s_L_law_1010 {X : ev_E} {l : Launch} (hG : ev_Good X) (hl : l.stackTraces = false) : ev_Snd X l ev_ms x_L_law tx_L_law 1010 (i_goto 1742) := s_goto dL_law_1010 rfl
theorem s_L_law_1013 {X : ev_E} {l : Launch} (hG : ev_Good X) (hl : l.stackTraces = false) : ev_Snd X l ev_ms x_L_law tx_L_law 1013 (i_al 1 1014) := s_aload_n dL_law_1013 rfl
theorem s_L_law_1014 {X : ev_E} {l : Launch} (hG : ev_Good X) (hl : l.stackTraces = false) : ev_Snd X l ev_ms x_L_law tx_L_law 1014 (i_al 0 1015) := s_aload_n dL_law_1014 rfl
theorem s_L_law_1015 {X : ev_E} {l : Launch} (hG : ev_Good X) (hl : l.stackTraces = false) : ev_Snd X l ev_ms x_L_law tx_L_law 1015 (i_il 4 1017) := s_iload dL_law_1015
theorem s_L_law_1017 {X : ev_E} {l : Launch} (hG : ev_Good X) (hl : l.stackTraces = false) : ev_Snd X l ev_ms x_L_law tx_L_law 1017 (i_psh (.int (1)) 1018) := s_iconst dL_law_1017 rfl
theorem s_L_law_1018 {X : ev_E} {l : Launch} (hG : ev_Good X) (hl : l.stackTraces = false) : ev_Snd X l ev_ms x_L_law tx_L_law 1018 (i_ii (fun a b => a + b) 1019) := s_iadd dL_law_1018
theorem s_L_law_1019 {X : ev_E} {l : Launch} (hG : ev_Good X) (hl : l.stackTraces = false) : ev_Snd X l ev_ms x_L_law tx_L_law 1019 (i_ald X ev_tI 1020) := s_iaload hG dL_law_1019
theorem s_L_law_1020 {X : ev_E} {l : Launch} (hG : ev_Good X) (hl : l.stackTraces = false) : ev_Snd X l ev_ms x_L_law tx_L_law 1020 (i_al 0 1021) := s_aload_n dL_law_1020 rfl
theorem s_L_law_1021 {X : ev_E} {l : Launch} (hG : ev_Good X) (hl : l.stackTraces = false) : ev_Snd X l ev_ms x_L_law tx_L_law 1021 (i_il 4 1023) := s_iload dL_law_1021
theorem s_L_law_1023 {X : ev_E} {l : Launch} (hG : ev_Good X) (hl : l.stackTraces = false) : ev_Snd X l ev_ms x_L_law tx_L_law 1023 (i_psh (.int (2)) 1024) := s_iconst dL_law_1023 rfl
theorem s_L_law_1024 {X : ev_E} {l : Launch} (hG : ev_Good X) (hl : l.stackTraces = false) : ev_Snd X l ev_ms x_L_law tx_L_law 1024 (i_ii (fun a b => a + b) 1025) := s_iadd dL_law_1024
theorem s_L_law_1025 {X : ev_E} {l : Launch} (hG : ev_Good X) (hl : l.stackTraces = false) : ev_Snd X l ev_ms x_L_law tx_L_law 1025 (i_ald X ev_tI 1026) := s_iaload hG dL_law_1025
theorem s_L_law_1026 {X : ev_E} {l : Launch} (hG : ev_Good X) (hl : l.stackTraces = false) : ev_Snd X l ev_ms x_L_law tx_L_law 1026 (i_al 3 1027) := s_aload_n dL_law_1026 rfl
theorem s_L_law_1027 {X : ev_E} {l : Launch} (hG : ev_Good X) (hl : l.stackTraces = false) : ev_Snd X l ev_ms x_L_law tx_L_law 1027 (i_cS 136 4 5 1030) := s_invokestaticW hG (mi := 136) (n := 4) (cal_L_ofTable (Nat.le_of_ble_eq_true rfl)) w_1021 w_1022 dL_law_1027
theorem s_L_law_1030 {X : ev_E} {l : Launch} (hG : ev_Good X) (hl : l.stackTraces = false) : ev_Snd X l ev_ms x_L_law tx_L_law 1030 (i_is 5 1032) := s_istore dL_law_1030 (Nat.le_of_ble_eq_true rfl)
theorem s_L_law_1032 {X : ev_E} {l : Launch} (hG : ev_Good X) (hl : l.stackTraces = false) : ev_Snd X l ev_ms x_L_law tx_L_law 1032 (i_al 2 1033) := s_aload_n dL_law_1032 rfl
theorem s_L_law_1033 {X : ev_E} {l : Launch} (hG : ev_Good X) (hl : l.stackTraces = false) : ev_Snd X l ev_ms x_L_law tx_L_law 1033 (i_al 0 1034) := s_aload_n dL_law_1033 rfl
theorem s_L_law_1034 {X : ev_E} {l : Launch} (hG : ev_Good X) (hl : l.stackTraces = false) : ev_Snd X l ev_ms x_L_law tx_L_law 1034 (i_il 4 1036) := s_iload dL_law_1034
theorem s_L_law_1036 {X : ev_E} {l : Launch} (hG : ev_Good X) (hl : l.stackTraces = false) : ev_Snd X l ev_ms x_L_law tx_L_law 1036 (i_psh (.int (1)) 1037) := s_iconst dL_law_1036 rfl
theorem s_L_law_1037 {X : ev_E} {l : Launch} (hG : ev_Good X) (hl : l.stackTraces = false) : ev_Snd X l ev_ms x_L_law tx_L_law 1037 (i_ii (fun a b => a + b) 1038) := s_iadd dL_law_1037
theorem s_L_law_1038 {X : ev_E} {l : Launch} (hG : ev_Good X) (hl : l.stackTraces = false) : ev_Snd X l ev_ms x_L_law tx_L_law 1038 (i_ald X ev_tI 1039) := s_iaload hG dL_law_1038
theorem s_L_law_1039 {X : ev_E} {l : Launch} (hG : ev_Good X) (hl : l.stackTraces = false) : ev_Snd X l ev_ms x_L_law tx_L_law 1039 (i_al 0 1040) := s_aload_n dL_law_1039 rfl
theorem s_L_law_1040 {X : ev_E} {l : Launch} (hG : ev_Good X) (hl : l.stackTraces = false) : ev_Snd X l ev_ms x_L_law tx_L_law 1040 (i_il 4 1042) := s_iload dL_law_1040
theorem s_L_law_1042 {X : ev_E} {l : Launch} (hG : ev_Good X) (hl : l.stackTraces = false) : ev_Snd X l ev_ms x_L_law tx_L_law 1042 (i_psh (.int (2)) 1043) := s_iconst dL_law_1042 rfl
theorem s_L_law_1043 {X : ev_E} {l : Launch} (hG : ev_Good X) (hl : l.stackTraces = false) : ev_Snd X l ev_ms x_L_law tx_L_law 1043 (i_ii (fun a b => a + b) 1044) := s_iadd dL_law_1043
theorem s_L_law_1044 {X : ev_E} {l : Launch} (hG : ev_Good X) (hl : l.stackTraces = false) : ev_Snd X l ev_ms x_L_law tx_L_law 1044 (i_ald X ev_tI 1045) := s_iaload hG dL_law_1044
theorem s_L_law_1045 {X : ev_E} {l : Launch} (hG : ev_Good X) (hl : l.stackTraces = false) : ev_Snd X l ev_ms x_L_law tx_L_law 1045 (i_cV X 213 2 13 3 1048) := s_invokevirtual hG (mi := 213) (n := 2) (ci := 13) (r := (RX8, TX8, 5)) rfl (cal_X8_ofTable (Nat.le_of_ble_eq_true rfl)) w_1527 w_1528 w_1529 dL_law_1045
theorem s_L_law_1048 {X : ev_E} {l : Launch} (hG : ev_Good X) (hl : l.stackTraces = false) : ev_Snd X l ev_ms x_L_law tx_L_law 1048 (i_is 6 1050) := s_istore dL_law_1048 (Nat.le_of_ble_eq_true rfl)
theorem s_L_law_1050 {X : ev_E} {l : Launch} (hG : ev_Good X) (hl : l.stackTraces = false) : ev_Snd X l ev_ms x_L_law tx_L_law 1050 (i_goto 1742) := s_goto dL_law_1050 rfl
theorem s_L_law_1053 {X : ev_E} {l : Launch} (hG : ev_Good X) (hl : l.stackTraces = false) : ev_Snd X l ev_ms x_L_law tx_L_law 1053 (i_al 1 1054) := s_aload_n dL_law_1053 rfl
theorem s_L_law_1054 {X : ev_E} {l : Launch} (hG : ev_Good X) (hl : l.stackTraces = false) : ev_Snd X l ev_ms x_L_law tx_L_law 1054 (i_al 0 1055) := s_aload_n dL_law_1054 rfl
theorem s_L_law_1055 {X : ev_E} {l : Launch} (hG : ev_Good X) (hl : l.stackTraces = false) : ev_Snd X l ev_ms x_L_law tx_L_law 1055 (i_il 4 1057) := s_iload dL_law_1055
theorem s_L_law_1057 {X : ev_E} {l : Launch} (hG : ev_Good X) (hl : l.stackTraces = false) : ev_Snd X l ev_ms x_L_law tx_L_law 1057 (i_psh (.int (1)) 1058) := s_iconst dL_law_1057 rfl
theorem s_L_law_1058 {X : ev_E} {l : Launch} (hG : ev_Good X) (hl : l.stackTraces = false) : ev_Snd X l ev_ms x_L_law tx_L_law 1058 (i_ii (fun a b => a + b) 1059) := s_iadd dL_law_1058
theorem s_L_law_1059 {X : ev_E} {l : Launch} (hG : ev_Good X) (hl : l.stackTraces = false) : ev_Snd X l ev_ms x_L_law tx_L_law 1059 (i_ald X ev_tI 1060) := s_iaload hG dL_law_1059
theorem s_L_law_1060 {X : ev_E} {l : Launch} (hG : ev_Good X) (hl : l.stackTraces = false) : ev_Snd X l ev_ms x_L_law tx_L_law 1060 (i_al 0 1061) := s_aload_n dL_law_1060 rfl
theorem s_L_law_1061 {X : ev_E} {l : Launch} (hG : ev_Good X) (hl : l.stackTraces = false) : ev_Snd X l ev_ms x_L_law tx_L_law 1061 (i_il 4 1063) := s_iload dL_law_1061
theorem s_L_law_1063 {X : ev_E} {l : Launch} (hG : ev_Good X) (hl : l.stackTraces = false) : ev_Snd X l ev_ms x_L_law tx_L_law 1063 (i_psh (.int (2)) 1064) := s_iconst dL_law_1063 rfl
theorem s_L_law_1064 {X : ev_E} {l : Launch} (hG : ev_Good X) (hl : l.stackTraces = false) : ev_Snd X l ev_ms x_L_law tx_L_law 1064 (i_ii (fun a b => a + b) 1065) := s_iadd dL_law_1064
theorem s_L_law_1065 {X : ev_E} {l : Launch} (hG : ev_Good X) (hl : l.stackTraces = false) : ev_Snd X l ev_ms x_L_law tx_L_law 1065 (i_ald X ev_tI 1066) := s_iaload hG dL_law_1065
theorem s_L_law_1066 {X : ev_E} {l : Launch} (hG : ev_Good X) (hl : l.stackTraces = false) : ev_Snd X l ev_ms x_L_law tx_L_law 1066 (i_al 3 1067) := s_aload_n dL_law_1066 rfl
theorem s_L_law_1067 {X : ev_E} {l : Launch} (hG : ev_Good X) (hl : l.stackTraces = false) : ev_Snd X l ev_ms x_L_law tx_L_law 1067 (i_cS 139 4 5 1070) := s_invokestaticW hG (mi := 139) (n := 4) (cal_L_walk (Nat.le_of_ble_eq_true rfl)) w_1025 w_1026 dL_law_1067
theorem s_L_law_1070 {X : ev_E} {l : Launch} (hG : ev_Good X) (hl : l.stackTraces = false) : ev_Snd X l ev_ms x_L_law tx_L_law 1070 (i_is 5 1072) := s_istore dL_law_1070 (Nat.le_of_ble_eq_true rfl)
theorem s_L_law_1072 {X : ev_E} {l : Launch} (hG : ev_Good X) (hl : l.stackTraces = false) : ev_Snd X l ev_ms x_L_law tx_L_law 1072 (i_al 2 1073) := s_aload_n dL_law_1072 rfl
theorem s_L_law_1073 {X : ev_E} {l : Launch} (hG : ev_Good X) (hl : l.stackTraces = false) : ev_Snd X l ev_ms x_L_law tx_L_law 1073 (i_al 0 1074) := s_aload_n dL_law_1073 rfl
theorem s_L_law_1074 {X : ev_E} {l : Launch} (hG : ev_Good X) (hl : l.stackTraces = false) : ev_Snd X l ev_ms x_L_law tx_L_law 1074 (i_il 4 1076) := s_iload dL_law_1074
theorem s_L_law_1076 {X : ev_E} {l : Launch} (hG : ev_Good X) (hl : l.stackTraces = false) : ev_Snd X l ev_ms x_L_law tx_L_law 1076 (i_psh (.int (1)) 1077) := s_iconst dL_law_1076 rfl
theorem s_L_law_1077 {X : ev_E} {l : Launch} (hG : ev_Good X) (hl : l.stackTraces = false) : ev_Snd X l ev_ms x_L_law tx_L_law 1077 (i_ii (fun a b => a + b) 1078) := s_iadd dL_law_1077
theorem s_L_law_1078 {X : ev_E} {l : Launch} (hG : ev_Good X) (hl : l.stackTraces = false) : ev_Snd X l ev_ms x_L_law tx_L_law 1078 (i_ald X ev_tI 1079) := s_iaload hG dL_law_1078
theorem s_L_law_1079 {X : ev_E} {l : Launch} (hG : ev_Good X) (hl : l.stackTraces = false) : ev_Snd X l ev_ms x_L_law tx_L_law 1079 (i_al 0 1080) := s_aload_n dL_law_1079 rfl
theorem s_L_law_1080 {X : ev_E} {l : Launch} (hG : ev_Good X) (hl : l.stackTraces = false) : ev_Snd X l ev_ms x_L_law tx_L_law 1080 (i_il 4 1082) := s_iload dL_law_1080
theorem s_L_law_1082 {X : ev_E} {l : Launch} (hG : ev_Good X) (hl : l.stackTraces = false) : ev_Snd X l ev_ms x_L_law tx_L_law 1082 (i_psh (.int (2)) 1083) := s_iconst dL_law_1082 rfl
theorem s_L_law_1083 {X : ev_E} {l : Launch} (hG : ev_Good X) (hl : l.stackTraces = false) : ev_Snd X l ev_ms x_L_law tx_L_law 1083 (i_ii (fun a b => a + b) 1084) := s_iadd dL_law_1083
theorem s_L_law_1084 {X : ev_E} {l : Launch} (hG : ev_Good X) (hl : l.stackTraces = false) : ev_Snd X l ev_ms x_L_law tx_L_law 1084 (i_ald X ev_tI 1085) := s_iaload hG dL_law_1084
theorem s_L_law_1085 {X : ev_E} {l : Launch} (hG : ev_Good X) (hl : l.stackTraces = false) : ev_Snd X l ev_ms x_L_law tx_L_law 1085 (i_cV X 171 2 13 4 1088) := s_invokevirtual hG (mi := 171) (n := 2) (ci := 13) (r := (RX8, TX8, 5)) rfl (cal_X8_walk (Nat.le_of_ble_eq_true rfl)) w_1538 w_1539 w_1540 dL_law_1085
theorem s_L_law_1088 {X : ev_E} {l : Launch} (hG : ev_Good X) (hl : l.stackTraces = false) : ev_Snd X l ev_ms x_L_law tx_L_law 1088 (i_is 6 1090) := s_istore dL_law_1088 (Nat.le_of_ble_eq_true rfl)
theorem s_L_law_1090 {X : ev_E} {l : Launch} (hG : ev_Good X) (hl : l.stackTraces = false) : ev_Snd X l ev_ms x_L_law tx_L_law 1090 (i_goto 1742) := s_goto dL_law_1090 rfl
theorem s_L_law_1093 {X : ev_E} {l : Launch} (hG : ev_Good X) (hl : l.stackTraces = false) : ev_Snd X l ev_ms x_L_law tx_L_law 1093 (i_al 1 1094) := s_aload_n dL_law_1093 rfl
theorem s_L_law_1094 {X : ev_E} {l : Launch} (hG : ev_Good X) (hl : l.stackTraces = false) : ev_Snd X l ev_ms x_L_law tx_L_law 1094 (i_al 0 1095) := s_aload_n dL_law_1094 rfl
theorem s_L_law_1095 {X : ev_E} {l : Launch} (hG : ev_Good X) (hl : l.stackTraces = false) : ev_Snd X l ev_ms x_L_law tx_L_law 1095 (i_il 4 1097) := s_iload dL_law_1095
theorem s_L_law_1097 {X : ev_E} {l : Launch} (hG : ev_Good X) (hl : l.stackTraces = false) : ev_Snd X l ev_ms x_L_law tx_L_law 1097 (i_psh (.int (1)) 1098) := s_iconst dL_law_1097 rfl
theorem s_L_law_1098 {X : ev_E} {l : Launch} (hG : ev_Good X) (hl : l.stackTraces = false) : ev_Snd X l ev_ms x_L_law tx_L_law 1098 (i_ii (fun a b => a + b) 1099) := s_iadd dL_law_1098
theorem s_L_law_1099 {X : ev_E} {l : Launch} (hG : ev_Good X) (hl : l.stackTraces = false) : ev_Snd X l ev_ms x_L_law tx_L_law 1099 (i_ald X ev_tI 1100) := s_iaload hG dL_law_1099
theorem s_L_law_1100 {X : ev_E} {l : Launch} (hG : ev_Good X) (hl : l.stackTraces = false) : ev_Snd X l ev_ms x_L_law tx_L_law 1100 (i_al 3 1101) := s_aload_n dL_law_1100 rfl
theorem s_L_law_1101 {X : ev_E} {l : Launch} (hG : ev_Good X) (hl : l.stackTraces = false) : ev_Snd X l ev_ms x_L_law tx_L_law 1101 (i_cS 224 3 4 1104) := s_invokestaticW hG (mi := 224) (n := 3) (cal_L_step (Nat.le_of_ble_eq_true rfl)) w_1036 w_1037 dL_law_1101
theorem s_L_law_1104 {X : ev_E} {l : Launch} (hG : ev_Good X) (hl : l.stackTraces = false) : ev_Snd X l ev_ms x_L_law tx_L_law 1104 (i_is 5 1106) := s_istore dL_law_1104 (Nat.le_of_ble_eq_true rfl)
theorem s_L_law_1106 {X : ev_E} {l : Launch} (hG : ev_Good X) (hl : l.stackTraces = false) : ev_Snd X l ev_ms x_L_law tx_L_law 1106 (i_al 2 1107) := s_aload_n dL_law_1106 rfl
theorem s_L_law_1107 {X : ev_E} {l : Launch} (hG : ev_Good X) (hl : l.stackTraces = false) : ev_Snd X l ev_ms x_L_law tx_L_law 1107 (i_al 0 1108) := s_aload_n dL_law_1107 rfl
theorem s_L_law_1108 {X : ev_E} {l : Launch} (hG : ev_Good X) (hl : l.stackTraces = false) : ev_Snd X l ev_ms x_L_law tx_L_law 1108 (i_il 4 1110) := s_iload dL_law_1108
theorem s_L_law_1110 {X : ev_E} {l : Launch} (hG : ev_Good X) (hl : l.stackTraces = false) : ev_Snd X l ev_ms x_L_law tx_L_law 1110 (i_psh (.int (1)) 1111) := s_iconst dL_law_1110 rfl
theorem s_L_law_1111 {X : ev_E} {l : Launch} (hG : ev_Good X) (hl : l.stackTraces = false) : ev_Snd X l ev_ms x_L_law tx_L_law 1111 (i_ii (fun a b => a + b) 1112) := s_iadd dL_law_1111
theorem s_L_law_1112 {X : ev_E} {l : Launch} (hG : ev_Good X) (hl : l.stackTraces = false) : ev_Snd X l ev_ms x_L_law tx_L_law 1112 (i_ald X ev_tI 1113) := s_iaload hG dL_law_1112
theorem s_L_law_1113 {X : ev_E} {l : Launch} (hG : ev_Good X) (hl : l.stackTraces = false) : ev_Snd X l ev_ms x_L_law tx_L_law 1113 (i_cV X 242 1 13 3 1116) := s_invokevirtual hG (mi := 242) (n := 1) (ci := 13) (r := (RX8, TX8, 5)) rfl (cal_X8_step (Nat.le_of_ble_eq_true rfl)) w_1542 w_1543 w_1544 dL_law_1113
theorem s_L_law_1116 {X : ev_E} {l : Launch} (hG : ev_Good X) (hl : l.stackTraces = false) : ev_Snd X l ev_ms x_L_law tx_L_law 1116 (i_is 6 1118) := s_istore dL_law_1116 (Nat.le_of_ble_eq_true rfl)
theorem s_L_law_1118 {X : ev_E} {l : Launch} (hG : ev_Good X) (hl : l.stackTraces = false) : ev_Snd X l ev_ms x_L_law tx_L_law 1118 (i_goto 1742) := s_goto dL_law_1118 rfl
theorem s_L_law_1121 {X : ev_E} {l : Launch} (hG : ev_Good X) (hl : l.stackTraces = false) : ev_Snd X l ev_ms x_L_law tx_L_law 1121 (i_al 1 1122) := s_aload_n dL_law_1121 rfl
theorem s_L_law_1122 {X : ev_E} {l : Launch} (hG : ev_Good X) (hl : l.stackTraces = false) : ev_Snd X l ev_ms x_L_law tx_L_law 1122 (i_al 0 1123) := s_aload_n dL_law_1122 rfl
theorem s_L_law_1123 {X : ev_E} {l : Launch} (hG : ev_Good X) (hl : l.stackTraces = false) : ev_Snd X l ev_ms x_L_law tx_L_law 1123 (i_il 4 1125) := s_iload dL_law_1123
theorem s_L_law_1125 {X : ev_E} {l : Launch} (hG : ev_Good X) (hl : l.stackTraces = false) : ev_Snd X l ev_ms x_L_law tx_L_law 1125 (i_psh (.int (1)) 1126) := s_iconst dL_law_1125 rfl
theorem s_L_law_1126 {X : ev_E} {l : Launch} (hG : ev_Good X) (hl : l.stackTraces = false) : ev_Snd X l ev_ms x_L_law tx_L_law 1126 (i_ii (fun a b => a + b) 1127) := s_iadd dL_law_1126
theorem s_L_law_1127 {X : ev_E} {l : Launch} (hG : ev_Good X) (hl : l.stackTraces = false) : ev_Snd X l ev_ms x_L_law tx_L_law 1127 (i_ald X ev_tI 1128) := s_iaload hG dL_law_1127
theorem s_L_law_1128 {X : ev_E} {l : Launch} (hG : ev_Good X) (hl : l.stackTraces = false) : ev_Snd X l ev_ms x_L_law tx_L_law 1128 (i_al 3 1129) := s_aload_n dL_law_1128 rfl
theorem s_L_law_1129 {X : ev_E} {l : Launch} (hG : ev_Good X) (hl : l.stackTraces = false) : ev_Snd X l ev_ms x_L_law tx_L_law 1129 (i_cS 222 3 4 1132) := s_invokestaticW hG (mi := 222) (n := 3) (cal_L_cut (Nat.le_of_ble_eq_true rfl)) w_1049 w_1050 dL_law_1129
theorem s_L_law_1132 {X : ev_E} {l : Launch} (hG : ev_Good X) (hl : l.stackTraces = false) : ev_Snd X l ev_ms x_L_law tx_L_law 1132 (i_is 5 1134) := s_istore dL_law_1132 (Nat.le_of_ble_eq_true rfl)
theorem s_L_law_1134 {X : ev_E} {l : Launch} (hG : ev_Good X) (hl : l.stackTraces = false) : ev_Snd X l ev_ms x_L_law tx_L_law 1134 (i_al 2 1135) := s_aload_n dL_law_1134 rfl
theorem s_L_law_1135 {X : ev_E} {l : Launch} (hG : ev_Good X) (hl : l.stackTraces = false) : ev_Snd X l ev_ms x_L_law tx_L_law 1135 (i_al 0 1136) := s_aload_n dL_law_1135 rfl
theorem s_L_law_1136 {X : ev_E} {l : Launch} (hG : ev_Good X) (hl : l.stackTraces = false) : ev_Snd X l ev_ms x_L_law tx_L_law 1136 (i_il 4 1138) := s_iload dL_law_1136
theorem s_L_law_1138 {X : ev_E} {l : Launch} (hG : ev_Good X) (hl : l.stackTraces = false) : ev_Snd X l ev_ms x_L_law tx_L_law 1138 (i_psh (.int (1)) 1139) := s_iconst dL_law_1138 rfl
theorem s_L_law_1139 {X : ev_E} {l : Launch} (hG : ev_Good X) (hl : l.stackTraces = false) : ev_Snd X l ev_ms x_L_law tx_L_law 1139 (i_ii (fun a b => a + b) 1140) := s_iadd dL_law_1139
theorem s_L_law_1140 {X : ev_E} {l : Launch} (hG : ev_Good X) (hl : l.stackTraces = false) : ev_Snd X l ev_ms x_L_law tx_L_law 1140 (i_ald X ev_tI 1141) := s_iaload hG dL_law_1140
theorem s_L_law_1141 {X : ev_E} {l : Launch} (hG : ev_Good X) (hl : l.stackTraces = false) : ev_Snd X l ev_ms x_L_law tx_L_law 1141 (i_cV X 212 1 13 3 1144) := s_invokevirtual hG (mi := 212) (n := 1) (ci := 13) (r := (RX8, TX8, 5)) rfl (cal_X8_cut (Nat.le_of_ble_eq_true rfl)) w_1559 w_1560 w_1561 dL_law_1141
theorem s_L_law_1144 {X : ev_E} {l : Launch} (hG : ev_Good X) (hl : l.stackTraces = false) : ev_Snd X l ev_ms x_L_law tx_L_law 1144 (i_is 6 1146) := s_istore dL_law_1144 (Nat.le_of_ble_eq_true rfl)
theorem s_L_law_1146 {X : ev_E} {l : Launch} (hG : ev_Good X) (hl : l.stackTraces = false) : ev_Snd X l ev_ms x_L_law tx_L_law 1146 (i_goto 1742) := s_goto dL_law_1146 rfl
theorem s_L_law_1149 {X : ev_E} {l : Launch} (hG : ev_Good X) (hl : l.stackTraces = false) : ev_Snd X l ev_ms x_L_law tx_L_law 1149 (i_al 1 1150) := s_aload_n dL_law_1149 rfl
theorem s_L_law_1150 {X : ev_E} {l : Launch} (hG : ev_Good X) (hl : l.stackTraces = false) : ev_Snd X l ev_ms x_L_law tx_L_law 1150 (i_al 0 1151) := s_aload_n dL_law_1150 rfl
theorem s_L_law_1151 {X : ev_E} {l : Launch} (hG : ev_Good X) (hl : l.stackTraces = false) : ev_Snd X l ev_ms x_L_law tx_L_law 1151 (i_il 4 1153) := s_iload dL_law_1151
theorem s_L_law_1153 {X : ev_E} {l : Launch} (hG : ev_Good X) (hl : l.stackTraces = false) : ev_Snd X l ev_ms x_L_law tx_L_law 1153 (i_psh (.int (1)) 1154) := s_iconst dL_law_1153 rfl
theorem s_L_law_1154 {X : ev_E} {l : Launch} (hG : ev_Good X) (hl : l.stackTraces = false) : ev_Snd X l ev_ms x_L_law tx_L_law 1154 (i_ii (fun a b => a + b) 1155) := s_iadd dL_law_1154
theorem s_L_law_1155 {X : ev_E} {l : Launch} (hG : ev_Good X) (hl : l.stackTraces = false) : ev_Snd X l ev_ms x_L_law tx_L_law 1155 (i_ald X ev_tI 1156) := s_iaload hG dL_law_1155
theorem s_L_law_1156 {X : ev_E} {l : Launch} (hG : ev_Good X) (hl : l.stackTraces = false) : ev_Snd X l ev_ms x_L_law tx_L_law 1156 (i_al 3 1157) := s_aload_n dL_law_1156 rfl
theorem s_L_law_1157 {X : ev_E} {l : Launch} (hG : ev_Good X) (hl : l.stackTraces = false) : ev_Snd X l ev_ms x_L_law tx_L_law 1157 (i_cS 183 3 4 1160) := s_invokestaticW hG (mi := 183) (n := 3) (cal_L_hasMore (Nat.le_of_ble_eq_true rfl)) w_1065 w_1066 dL_law_1157
theorem s_L_law_1160 {X : ev_E} {l : Launch} (hG : ev_Good X) (hl : l.stackTraces = false) : ev_Snd X l ev_ms x_L_law tx_L_law 1160 (i_is 5 1162) := s_istore dL_law_1160 (Nat.le_of_ble_eq_true rfl)
theorem s_L_law_1162 {X : ev_E} {l : Launch} (hG : ev_Good X) (hl : l.stackTraces = false) : ev_Snd X l ev_ms x_L_law tx_L_law 1162 (i_al 2 1163) := s_aload_n dL_law_1162 rfl
theorem s_L_law_1163 {X : ev_E} {l : Launch} (hG : ev_Good X) (hl : l.stackTraces = false) : ev_Snd X l ev_ms x_L_law tx_L_law 1163 (i_al 0 1164) := s_aload_n dL_law_1163 rfl
theorem s_L_law_1164 {X : ev_E} {l : Launch} (hG : ev_Good X) (hl : l.stackTraces = false) : ev_Snd X l ev_ms x_L_law tx_L_law 1164 (i_il 4 1166) := s_iload dL_law_1164
theorem s_L_law_1166 {X : ev_E} {l : Launch} (hG : ev_Good X) (hl : l.stackTraces = false) : ev_Snd X l ev_ms x_L_law tx_L_law 1166 (i_psh (.int (1)) 1167) := s_iconst dL_law_1166 rfl
theorem s_L_law_1167 {X : ev_E} {l : Launch} (hG : ev_Good X) (hl : l.stackTraces = false) : ev_Snd X l ev_ms x_L_law tx_L_law 1167 (i_ii (fun a b => a + b) 1168) := s_iadd dL_law_1167
theorem s_L_law_1168 {X : ev_E} {l : Launch} (hG : ev_Good X) (hl : l.stackTraces = false) : ev_Snd X l ev_ms x_L_law tx_L_law 1168 (i_ald X ev_tI 1169) := s_iaload hG dL_law_1168
theorem s_L_law_1169 {X : ev_E} {l : Launch} (hG : ev_Good X) (hl : l.stackTraces = false) : ev_Snd X l ev_ms x_L_law tx_L_law 1169 (i_cV X 165 1 13 2 1172) := s_invokevirtual hG (mi := 165) (n := 1) (ci := 13) (r := (RX8, TX8, 5)) rfl (cal_X8_hasMore (Nat.le_of_ble_eq_true rfl)) w_1563 w_1564 w_1565 dL_law_1169
theorem s_L_law_1172 {X : ev_E} {l : Launch} (hG : ev_Good X) (hl : l.stackTraces = false) : ev_Snd X l ev_ms x_L_law tx_L_law 1172 (i_is 6 1174) := s_istore dL_law_1172 (Nat.le_of_ble_eq_true rfl)
theorem s_L_law_1174 {X : ev_E} {l : Launch} (hG : ev_Good X) (hl : l.stackTraces = false) : ev_Snd X l ev_ms x_L_law tx_L_law 1174 (i_goto 1742) := s_goto dL_law_1174 rfl
theorem s_L_law_1177 {X : ev_E} {l : Launch} (hG : ev_Good X) (hl : l.stackTraces = false) : ev_Snd X l ev_ms x_L_law tx_L_law 1177 (i_al 1 1178) := s_aload_n dL_law_1177 rfl
theorem s_L_law_1178 {X : ev_E} {l : Launch} (hG : ev_Good X) (hl : l.stackTraces = false) : ev_Snd X l ev_ms x_L_law tx_L_law 1178 (i_al 0 1179) := s_aload_n dL_law_1178 rfl
theorem s_L_law_1179 {X : ev_E} {l : Launch} (hG : ev_Good X) (hl : l.stackTraces = false) : ev_Snd X l ev_ms x_L_law tx_L_law 1179 (i_il 4 1181) := s_iload dL_law_1179
theorem s_L_law_1181 {X : ev_E} {l : Launch} (hG : ev_Good X) (hl : l.stackTraces = false) : ev_Snd X l ev_ms x_L_law tx_L_law 1181 (i_psh (.int (1)) 1182) := s_iconst dL_law_1181 rfl
theorem s_L_law_1182 {X : ev_E} {l : Launch} (hG : ev_Good X) (hl : l.stackTraces = false) : ev_Snd X l ev_ms x_L_law tx_L_law 1182 (i_ii (fun a b => a + b) 1183) := s_iadd dL_law_1182
theorem s_L_law_1183 {X : ev_E} {l : Launch} (hG : ev_Good X) (hl : l.stackTraces = false) : ev_Snd X l ev_ms x_L_law tx_L_law 1183 (i_ald X ev_tI 1184) := s_iaload hG dL_law_1183
theorem s_L_law_1184 {X : ev_E} {l : Launch} (hG : ev_Good X) (hl : l.stackTraces = false) : ev_Snd X l ev_ms x_L_law tx_L_law 1184 (i_al 3 1185) := s_aload_n dL_law_1184 rfl
theorem s_L_law_1185 {X : ev_E} {l : Launch} (hG : ev_Good X) (hl : l.stackTraces = false) : ev_Snd X l ev_ms x_L_law tx_L_law 1185 (i_cS 135 3 4 1188) := s_invokestaticW hG (mi := 135) (n := 3) (cal_L_isStale (Nat.le_of_ble_eq_true rfl)) w_1069 w_1070 dL_law_1185
theorem s_L_law_1188 {X : ev_E} {l : Launch} (hG : ev_Good X) (hl : l.stackTraces = false) : ev_Snd X l ev_ms x_L_law tx_L_law 1188 (i_is 5 1190) := s_istore dL_law_1188 (Nat.le_of_ble_eq_true rfl)
theorem s_L_law_1190 {X : ev_E} {l : Launch} (hG : ev_Good X) (hl : l.stackTraces = false) : ev_Snd X l ev_ms x_L_law tx_L_law 1190 (i_al 2 1191) := s_aload_n dL_law_1190 rfl
theorem s_L_law_1191 {X : ev_E} {l : Launch} (hG : ev_Good X) (hl : l.stackTraces = false) : ev_Snd X l ev_ms x_L_law tx_L_law 1191 (i_al 0 1192) := s_aload_n dL_law_1191 rfl
theorem s_L_law_1192 {X : ev_E} {l : Launch} (hG : ev_Good X) (hl : l.stackTraces = false) : ev_Snd X l ev_ms x_L_law tx_L_law 1192 (i_il 4 1194) := s_iload dL_law_1192
theorem s_L_law_1194 {X : ev_E} {l : Launch} (hG : ev_Good X) (hl : l.stackTraces = false) : ev_Snd X l ev_ms x_L_law tx_L_law 1194 (i_psh (.int (1)) 1195) := s_iconst dL_law_1194 rfl
theorem s_L_law_1195 {X : ev_E} {l : Launch} (hG : ev_Good X) (hl : l.stackTraces = false) : ev_Snd X l ev_ms x_L_law tx_L_law 1195 (i_ii (fun a b => a + b) 1196) := s_iadd dL_law_1195
theorem s_L_law_1196 {X : ev_E} {l : Launch} (hG : ev_Good X) (hl : l.stackTraces = false) : ev_Snd X l ev_ms x_L_law tx_L_law 1196 (i_ald X ev_tI 1197) := s_iaload hG dL_law_1196
theorem s_L_law_1197 {X : ev_E} {l : Launch} (hG : ev_Good X) (hl : l.stackTraces = false) : ev_Snd X l ev_ms x_L_law tx_L_law 1197 (i_cV X 167 1 13 2 1200) := s_invokevirtual hG (mi := 167) (n := 1) (ci := 13) (r := (RX8, TX8, 5)) rfl (cal_X8_isStale (Nat.le_of_ble_eq_true rfl)) w_1567 w_1568 w_1569 dL_law_1197
theorem s_L_law_1200 {X : ev_E} {l : Launch} (hG : ev_Good X) (hl : l.stackTraces = false) : ev_Snd X l ev_ms x_L_law tx_L_law 1200 (i_is 6 1202) := s_istore dL_law_1200 (Nat.le_of_ble_eq_true rfl)
theorem s_L_law_1202 {X : ev_E} {l : Launch} (hG : ev_Good X) (hl : l.stackTraces = false) : ev_Snd X l ev_ms x_L_law tx_L_law 1202 (i_goto 1742) := s_goto dL_law_1202 rfl
theorem s_L_law_1205 {X : ev_E} {l : Launch} (hG : ev_Good X) (hl : l.stackTraces = false) : ev_Snd X l ev_ms x_L_law tx_L_law 1205 (i_al 1 1206) := s_aload_n dL_law_1205 rfl
theorem s_L_law_1206 {X : ev_E} {l : Launch} (hG : ev_Good X) (hl : l.stackTraces = false) : ev_Snd X l ev_ms x_L_law tx_L_law 1206 (i_al 0 1207) := s_aload_n dL_law_1206 rfl
theorem s_L_law_1207 {X : ev_E} {l : Launch} (hG : ev_Good X) (hl : l.stackTraces = false) : ev_Snd X l ev_ms x_L_law tx_L_law 1207 (i_il 4 1209) := s_iload dL_law_1207
theorem s_L_law_1209 {X : ev_E} {l : Launch} (hG : ev_Good X) (hl : l.stackTraces = false) : ev_Snd X l ev_ms x_L_law tx_L_law 1209 (i_psh (.int (1)) 1210) := s_iconst dL_law_1209 rfl
theorem s_L_law_1210 {X : ev_E} {l : Launch} (hG : ev_Good X) (hl : l.stackTraces = false) : ev_Snd X l ev_ms x_L_law tx_L_law 1210 (i_ii (fun a b => a + b) 1211) := s_iadd dL_law_1210
theorem s_L_law_1211 {X : ev_E} {l : Launch} (hG : ev_Good X) (hl : l.stackTraces = false) : ev_Snd X l ev_ms x_L_law tx_L_law 1211 (i_ald X ev_tI 1212) := s_iaload hG dL_law_1211
theorem s_L_law_1212 {X : ev_E} {l : Launch} (hG : ev_Good X) (hl : l.stackTraces = false) : ev_Snd X l ev_ms x_L_law tx_L_law 1212 (i_al 3 1213) := s_aload_n dL_law_1212 rfl
theorem s_L_law_1213 {X : ev_E} {l : Launch} (hG : ev_Good X) (hl : l.stackTraces = false) : ev_Snd X l ev_ms x_L_law tx_L_law 1213 (i_cS 253 3 4 1216) := s_invokestaticW hG (mi := 253) (n := 3) (cal_L_rest (Nat.le_of_ble_eq_true rfl)) w_1073 w_1074 dL_law_1213
theorem s_L_law_1216 {X : ev_E} {l : Launch} (hG : ev_Good X) (hl : l.stackTraces = false) : ev_Snd X l ev_ms x_L_law tx_L_law 1216 (i_is 5 1218) := s_istore dL_law_1216 (Nat.le_of_ble_eq_true rfl)
theorem s_L_law_1218 {X : ev_E} {l : Launch} (hG : ev_Good X) (hl : l.stackTraces = false) : ev_Snd X l ev_ms x_L_law tx_L_law 1218 (i_al 2 1219) := s_aload_n dL_law_1218 rfl
theorem s_L_law_1219 {X : ev_E} {l : Launch} (hG : ev_Good X) (hl : l.stackTraces = false) : ev_Snd X l ev_ms x_L_law tx_L_law 1219 (i_al 0 1220) := s_aload_n dL_law_1219 rfl
theorem s_L_law_1220 {X : ev_E} {l : Launch} (hG : ev_Good X) (hl : l.stackTraces = false) : ev_Snd X l ev_ms x_L_law tx_L_law 1220 (i_il 4 1222) := s_iload dL_law_1220
theorem s_L_law_1222 {X : ev_E} {l : Launch} (hG : ev_Good X) (hl : l.stackTraces = false) : ev_Snd X l ev_ms x_L_law tx_L_law 1222 (i_psh (.int (1)) 1223) := s_iconst dL_law_1222 rfl
theorem s_L_law_1223 {X : ev_E} {l : Launch} (hG : ev_Good X) (hl : l.stackTraces = false) : ev_Snd X l ev_ms x_L_law tx_L_law 1223 (i_ii (fun a b => a + b) 1224) := s_iadd dL_law_1223
theorem s_L_law_1224 {X : ev_E} {l : Launch} (hG : ev_Good X) (hl : l.stackTraces = false) : ev_Snd X l ev_ms x_L_law tx_L_law 1224 (i_ald X ev_tI 1225) := s_iaload hG dL_law_1224
theorem s_L_law_1225 {X : ev_E} {l : Launch} (hG : ev_Good X) (hl : l.stackTraces = false) : ev_Snd X l ev_ms x_L_law tx_L_law 1225 (i_cV X 241 1 13 4 1228) := s_invokevirtual hG (mi := 241) (n := 1) (ci := 13) (r := (RX8, TX8, 5)) rfl (cal_X8_rest (Nat.le_of_ble_eq_true rfl)) w_1575 w_1576 w_1577 dL_law_1225
theorem s_L_law_1228 {X : ev_E} {l : Launch} (hG : ev_Good X) (hl : l.stackTraces = false) : ev_Snd X l ev_ms x_L_law tx_L_law 1228 (i_is 6 1230) := s_istore dL_law_1228 (Nat.le_of_ble_eq_true rfl)
theorem s_L_law_1230 {X : ev_E} {l : Launch} (hG : ev_Good X) (hl : l.stackTraces = false) : ev_Snd X l ev_ms x_L_law tx_L_law 1230 (i_goto 1742) := s_goto dL_law_1230 rfl
theorem s_L_law_1233 {X : ev_E} {l : Launch} (hG : ev_Good X) (hl : l.stackTraces = false) : ev_Snd X l ev_ms x_L_law tx_L_law 1233 (i_al 1 1234) := s_aload_n dL_law_1233 rfl
theorem s_L_law_1234 {X : ev_E} {l : Launch} (hG : ev_Good X) (hl : l.stackTraces = false) : ev_Snd X l ev_ms x_L_law tx_L_law 1234 (i_al 0 1235) := s_aload_n dL_law_1234 rfl
theorem s_L_law_1235 {X : ev_E} {l : Launch} (hG : ev_Good X) (hl : l.stackTraces = false) : ev_Snd X l ev_ms x_L_law tx_L_law 1235 (i_il 4 1237) := s_iload dL_law_1235
theorem s_L_law_1237 {X : ev_E} {l : Launch} (hG : ev_Good X) (hl : l.stackTraces = false) : ev_Snd X l ev_ms x_L_law tx_L_law 1237 (i_psh (.int (1)) 1238) := s_iconst dL_law_1237 rfl
theorem s_L_law_1238 {X : ev_E} {l : Launch} (hG : ev_Good X) (hl : l.stackTraces = false) : ev_Snd X l ev_ms x_L_law tx_L_law 1238 (i_ii (fun a b => a + b) 1239) := s_iadd dL_law_1238
theorem s_L_law_1239 {X : ev_E} {l : Launch} (hG : ev_Good X) (hl : l.stackTraces = false) : ev_Snd X l ev_ms x_L_law tx_L_law 1239 (i_ald X ev_tI 1240) := s_iaload hG dL_law_1239
theorem s_L_law_1240 {X : ev_E} {l : Launch} (hG : ev_Good X) (hl : l.stackTraces = false) : ev_Snd X l ev_ms x_L_law tx_L_law 1240 (i_al 3 1241) := s_aload_n dL_law_1240 rfl
theorem s_L_law_1241 {X : ev_E} {l : Launch} (hG : ev_Good X) (hl : l.stackTraces = false) : ev_Snd X l ev_ms x_L_law tx_L_law 1241 (i_cS 276 3 4 1244) := s_invokestaticW hG (mi := 276) (n := 3) (cal_L_ask (Nat.le_of_ble_eq_true rfl)) w_1085 w_1086 dL_law_1241
theorem s_L_law_1244 {X : ev_E} {l : Launch} (hG : ev_Good X) (hl : l.stackTraces = false) : ev_Snd X l ev_ms x_L_law tx_L_law 1244 (i_is 5 1246) := s_istore dL_law_1244 (Nat.le_of_ble_eq_true rfl)
theorem s_L_law_1246 {X : ev_E} {l : Launch} (hG : ev_Good X) (hl : l.stackTraces = false) : ev_Snd X l ev_ms x_L_law tx_L_law 1246 (i_al 2 1247) := s_aload_n dL_law_1246 rfl
theorem s_L_law_1247 {X : ev_E} {l : Launch} (hG : ev_Good X) (hl : l.stackTraces = false) : ev_Snd X l ev_ms x_L_law tx_L_law 1247 (i_al 0 1248) := s_aload_n dL_law_1247 rfl
theorem s_L_law_1248 {X : ev_E} {l : Launch} (hG : ev_Good X) (hl : l.stackTraces = false) : ev_Snd X l ev_ms x_L_law tx_L_law 1248 (i_il 4 1250) := s_iload dL_law_1248
theorem s_L_law_1250 {X : ev_E} {l : Launch} (hG : ev_Good X) (hl : l.stackTraces = false) : ev_Snd X l ev_ms x_L_law tx_L_law 1250 (i_psh (.int (1)) 1251) := s_iconst dL_law_1250 rfl
theorem s_L_law_1251 {X : ev_E} {l : Launch} (hG : ev_Good X) (hl : l.stackTraces = false) : ev_Snd X l ev_ms x_L_law tx_L_law 1251 (i_ii (fun a b => a + b) 1252) := s_iadd dL_law_1251
theorem s_L_law_1252 {X : ev_E} {l : Launch} (hG : ev_Good X) (hl : l.stackTraces = false) : ev_Snd X l ev_ms x_L_law tx_L_law 1252 (i_ald X ev_tI 1253) := s_iaload hG dL_law_1252
theorem s_L_law_1253 {X : ev_E} {l : Launch} (hG : ev_Good X) (hl : l.stackTraces = false) : ev_Snd X l ev_ms x_L_law tx_L_law 1253 (i_cV X 288 1 13 2 1256) := s_invokevirtual hG (mi := 288) (n := 1) (ci := 13) (r := (RX8, TX8, 5)) rfl (cal_X8_ask (Nat.le_of_ble_eq_true rfl)) w_1579 w_1580 w_1581 dL_law_1253
theorem s_L_law_1256 {X : ev_E} {l : Launch} (hG : ev_Good X) (hl : l.stackTraces = false) : ev_Snd X l ev_ms x_L_law tx_L_law 1256 (i_is 6 1258) := s_istore dL_law_1256 (Nat.le_of_ble_eq_true rfl)
theorem s_L_law_1258 {X : ev_E} {l : Launch} (hG : ev_Good X) (hl : l.stackTraces = false) : ev_Snd X l ev_ms x_L_law tx_L_law 1258 (i_goto 1742) := s_goto dL_law_1258 rfl
theorem s_L_law_1261 {X : ev_E} {l : Launch} (hG : ev_Good X) (hl : l.stackTraces = false) : ev_Snd X l ev_ms x_L_law tx_L_law 1261 (i_al 1 1262) := s_aload_n dL_law_1261 rfl
theorem s_L_law_1262 {X : ev_E} {l : Launch} (hG : ev_Good X) (hl : l.stackTraces = false) : ev_Snd X l ev_ms x_L_law tx_L_law 1262 (i_al 0 1263) := s_aload_n dL_law_1262 rfl
theorem s_L_law_1263 {X : ev_E} {l : Launch} (hG : ev_Good X) (hl : l.stackTraces = false) : ev_Snd X l ev_ms x_L_law tx_L_law 1263 (i_il 4 1265) := s_iload dL_law_1263
theorem s_L_law_1265 {X : ev_E} {l : Launch} (hG : ev_Good X) (hl : l.stackTraces = false) : ev_Snd X l ev_ms x_L_law tx_L_law 1265 (i_psh (.int (1)) 1266) := s_iconst dL_law_1265 rfl
theorem s_L_law_1266 {X : ev_E} {l : Launch} (hG : ev_Good X) (hl : l.stackTraces = false) : ev_Snd X l ev_ms x_L_law tx_L_law 1266 (i_ii (fun a b => a + b) 1267) := s_iadd dL_law_1266
theorem s_L_law_1267 {X : ev_E} {l : Launch} (hG : ev_Good X) (hl : l.stackTraces = false) : ev_Snd X l ev_ms x_L_law tx_L_law 1267 (i_ald X ev_tI 1268) := s_iaload hG dL_law_1267
theorem s_L_law_1268 {X : ev_E} {l : Launch} (hG : ev_Good X) (hl : l.stackTraces = false) : ev_Snd X l ev_ms x_L_law tx_L_law 1268 (i_al 0 1269) := s_aload_n dL_law_1268 rfl
theorem s_L_law_1269 {X : ev_E} {l : Launch} (hG : ev_Good X) (hl : l.stackTraces = false) : ev_Snd X l ev_ms x_L_law tx_L_law 1269 (i_il 4 1271) := s_iload dL_law_1269
theorem s_L_law_1271 {X : ev_E} {l : Launch} (hG : ev_Good X) (hl : l.stackTraces = false) : ev_Snd X l ev_ms x_L_law tx_L_law 1271 (i_psh (.int (2)) 1272) := s_iconst dL_law_1271 rfl
theorem s_L_law_1272 {X : ev_E} {l : Launch} (hG : ev_Good X) (hl : l.stackTraces = false) : ev_Snd X l ev_ms x_L_law tx_L_law 1272 (i_ii (fun a b => a + b) 1273) := s_iadd dL_law_1272
theorem s_L_law_1273 {X : ev_E} {l : Launch} (hG : ev_Good X) (hl : l.stackTraces = false) : ev_Snd X l ev_ms x_L_law tx_L_law 1273 (i_ald X ev_tI 1274) := s_iaload hG dL_law_1273
theorem s_L_law_1274 {X : ev_E} {l : Launch} (hG : ev_Good X) (hl : l.stackTraces = false) : ev_Snd X l ev_ms x_L_law tx_L_law 1274 (i_al 0 1275) := s_aload_n dL_law_1274 rfl
theorem s_L_law_1275 {X : ev_E} {l : Launch} (hG : ev_Good X) (hl : l.stackTraces = false) : ev_Snd X l ev_ms x_L_law tx_L_law 1275 (i_il 4 1277) := s_iload dL_law_1275
theorem s_L_law_1277 {X : ev_E} {l : Launch} (hG : ev_Good X) (hl : l.stackTraces = false) : ev_Snd X l ev_ms x_L_law tx_L_law 1277 (i_psh (.int (3)) 1278) := s_iconst dL_law_1277 rfl
theorem s_L_law_1278 {X : ev_E} {l : Launch} (hG : ev_Good X) (hl : l.stackTraces = false) : ev_Snd X l ev_ms x_L_law tx_L_law 1278 (i_ii (fun a b => a + b) 1279) := s_iadd dL_law_1278
theorem s_L_law_1279 {X : ev_E} {l : Launch} (hG : ev_Good X) (hl : l.stackTraces = false) : ev_Snd X l ev_ms x_L_law tx_L_law 1279 (i_ald X ev_tI 1280) := s_iaload hG dL_law_1279
theorem s_L_law_1280 {X : ev_E} {l : Launch} (hG : ev_Good X) (hl : l.stackTraces = false) : ev_Snd X l ev_ms x_L_law tx_L_law 1280 (i_al 3 1281) := s_aload_n dL_law_1280 rfl
theorem s_L_law_1281 {X : ev_E} {l : Launch} (hG : ev_Good X) (hl : l.stackTraces = false) : ev_Snd X l ev_ms x_L_law tx_L_law 1281 (i_cS 277 5 6 1284) := s_invokestaticW hG (mi := 277) (n := 5) (cal_L_askRow (Nat.le_of_ble_eq_true rfl)) w_1122 w_1123 dL_law_1281
theorem s_L_law_1284 {X : ev_E} {l : Launch} (hG : ev_Good X) (hl : l.stackTraces = false) : ev_Snd X l ev_ms x_L_law tx_L_law 1284 (i_is 5 1286) := s_istore dL_law_1284 (Nat.le_of_ble_eq_true rfl)
theorem s_L_law_1286 {X : ev_E} {l : Launch} (hG : ev_Good X) (hl : l.stackTraces = false) : ev_Snd X l ev_ms x_L_law tx_L_law 1286 (i_al 2 1287) := s_aload_n dL_law_1286 rfl
theorem s_L_law_1287 {X : ev_E} {l : Launch} (hG : ev_Good X) (hl : l.stackTraces = false) : ev_Snd X l ev_ms x_L_law tx_L_law 1287 (i_al 0 1288) := s_aload_n dL_law_1287 rfl
theorem s_L_law_1288 {X : ev_E} {l : Launch} (hG : ev_Good X) (hl : l.stackTraces = false) : ev_Snd X l ev_ms x_L_law tx_L_law 1288 (i_il 4 1290) := s_iload dL_law_1288
theorem s_L_law_1290 {X : ev_E} {l : Launch} (hG : ev_Good X) (hl : l.stackTraces = false) : ev_Snd X l ev_ms x_L_law tx_L_law 1290 (i_psh (.int (1)) 1291) := s_iconst dL_law_1290 rfl
theorem s_L_law_1291 {X : ev_E} {l : Launch} (hG : ev_Good X) (hl : l.stackTraces = false) : ev_Snd X l ev_ms x_L_law tx_L_law 1291 (i_ii (fun a b => a + b) 1292) := s_iadd dL_law_1291
theorem s_L_law_1292 {X : ev_E} {l : Launch} (hG : ev_Good X) (hl : l.stackTraces = false) : ev_Snd X l ev_ms x_L_law tx_L_law 1292 (i_ald X ev_tI 1293) := s_iaload hG dL_law_1292
theorem s_L_law_1293 {X : ev_E} {l : Launch} (hG : ev_Good X) (hl : l.stackTraces = false) : ev_Snd X l ev_ms x_L_law tx_L_law 1293 (i_al 0 1294) := s_aload_n dL_law_1293 rfl
theorem s_L_law_1294 {X : ev_E} {l : Launch} (hG : ev_Good X) (hl : l.stackTraces = false) : ev_Snd X l ev_ms x_L_law tx_L_law 1294 (i_il 4 1296) := s_iload dL_law_1294
theorem s_L_law_1296 {X : ev_E} {l : Launch} (hG : ev_Good X) (hl : l.stackTraces = false) : ev_Snd X l ev_ms x_L_law tx_L_law 1296 (i_psh (.int (2)) 1297) := s_iconst dL_law_1296 rfl
theorem s_L_law_1297 {X : ev_E} {l : Launch} (hG : ev_Good X) (hl : l.stackTraces = false) : ev_Snd X l ev_ms x_L_law tx_L_law 1297 (i_ii (fun a b => a + b) 1298) := s_iadd dL_law_1297
theorem s_L_law_1298 {X : ev_E} {l : Launch} (hG : ev_Good X) (hl : l.stackTraces = false) : ev_Snd X l ev_ms x_L_law tx_L_law 1298 (i_ald X ev_tI 1299) := s_iaload hG dL_law_1298
theorem s_L_law_1299 {X : ev_E} {l : Launch} (hG : ev_Good X) (hl : l.stackTraces = false) : ev_Snd X l ev_ms x_L_law tx_L_law 1299 (i_al 0 1300) := s_aload_n dL_law_1299 rfl
theorem s_L_law_1300 {X : ev_E} {l : Launch} (hG : ev_Good X) (hl : l.stackTraces = false) : ev_Snd X l ev_ms x_L_law tx_L_law 1300 (i_il 4 1302) := s_iload dL_law_1300
theorem s_L_law_1302 {X : ev_E} {l : Launch} (hG : ev_Good X) (hl : l.stackTraces = false) : ev_Snd X l ev_ms x_L_law tx_L_law 1302 (i_psh (.int (3)) 1303) := s_iconst dL_law_1302 rfl
theorem s_L_law_1303 {X : ev_E} {l : Launch} (hG : ev_Good X) (hl : l.stackTraces = false) : ev_Snd X l ev_ms x_L_law tx_L_law 1303 (i_ii (fun a b => a + b) 1304) := s_iadd dL_law_1303
theorem s_L_law_1304 {X : ev_E} {l : Launch} (hG : ev_Good X) (hl : l.stackTraces = false) : ev_Snd X l ev_ms x_L_law tx_L_law 1304 (i_ald X ev_tI 1305) := s_iaload hG dL_law_1304
theorem s_L_law_1305 {X : ev_E} {l : Launch} (hG : ev_Good X) (hl : l.stackTraces = false) : ev_Snd X l ev_ms x_L_law tx_L_law 1305 (i_cV X 289 3 13 6 1308) := s_invokevirtual hG (mi := 289) (n := 3) (ci := 13) (r := (RX8, TX8, 5)) rfl (cal_X8_askRow (Nat.le_of_ble_eq_true rfl)) w_1628 w_1629 w_1630 dL_law_1305
theorem s_L_law_1308 {X : ev_E} {l : Launch} (hG : ev_Good X) (hl : l.stackTraces = false) : ev_Snd X l ev_ms x_L_law tx_L_law 1308 (i_is 6 1310) := s_istore dL_law_1308 (Nat.le_of_ble_eq_true rfl)
theorem s_L_law_1310 {X : ev_E} {l : Launch} (hG : ev_Good X) (hl : l.stackTraces = false) : ev_Snd X l ev_ms x_L_law tx_L_law 1310 (i_goto 1742) := s_goto dL_law_1310 rfl
theorem s_L_law_1313 {X : ev_E} {l : Launch} (hG : ev_Good X) (hl : l.stackTraces = false) : ev_Snd X l ev_ms x_L_law tx_L_law 1313 (i_al 1 1314) := s_aload_n dL_law_1313 rfl
theorem s_L_law_1314 {X : ev_E} {l : Launch} (hG : ev_Good X) (hl : l.stackTraces = false) : ev_Snd X l ev_ms x_L_law tx_L_law 1314 (i_cV X 201 0 10 6 1317) := s_invokevirtual hG (mi := 201) (n := 0) (ci := 10) (r := (RX5, TX5, 7)) rfl (cal_X5_forget (Nat.le_of_ble_eq_true rfl)) w_239 w_240 w_241 dL_law_1314
theorem s_L_law_1317 {X : ev_E} {l : Launch} (hG : ev_Good X) (hl : l.stackTraces = false) : ev_Snd X l ev_ms x_L_law tx_L_law 1317 (i_pop 1318) := s_pop dL_law_1317
theorem s_L_law_1318 {X : ev_E} {l : Launch} (hG : ev_Good X) (hl : l.stackTraces = false) : ev_Snd X l ev_ms x_L_law tx_L_law 1318 (i_al 2 1319) := s_aload_n dL_law_1318 rfl
theorem s_L_law_1319 {X : ev_E} {l : Launch} (hG : ev_Good X) (hl : l.stackTraces = false) : ev_Snd X l ev_ms x_L_law tx_L_law 1319 (i_cV X 117 0 13 2 1322) := s_invokevirtual hG (mi := 117) (n := 0) (ci := 13) (r := (RX8, TX8, 5)) rfl (cal_X8_forget (Nat.le_of_ble_eq_true rfl)) w_1632 w_1633 w_1634 dL_law_1319
theorem s_L_law_1322 {X : ev_E} {l : Launch} (hG : ev_Good X) (hl : l.stackTraces = false) : ev_Snd X l ev_ms x_L_law tx_L_law 1322 (i_pop 1323) := s_pop dL_law_1322
theorem s_L_law_1323 {X : ev_E} {l : Launch} (hG : ev_Good X) (hl : l.stackTraces = false) : ev_Snd X l ev_ms x_L_law tx_L_law 1323 (i_goto 1742) := s_goto dL_law_1323 rfl
theorem s_L_law_1326 {X : ev_E} {l : Launch} (hG : ev_Good X) (hl : l.stackTraces = false) : ev_Snd X l ev_ms x_L_law tx_L_law 1326 (i_al 1 1327) := s_aload_n dL_law_1326 rfl
theorem s_L_law_1327 {X : ev_E} {l : Launch} (hG : ev_Good X) (hl : l.stackTraces = false) : ev_Snd X l ev_ms x_L_law tx_L_law 1327 (i_cV X 47 0 10 1 1330) := s_invokevirtual hG (mi := 47) (n := 0) (ci := 10) (r := (RX5, TX5, 7)) rfl (cal_X5_asked (Nat.le_of_ble_eq_true rfl)) w_256 w_257 w_258 dL_law_1327
theorem s_L_law_1330 {X : ev_E} {l : Launch} (hG : ev_Good X) (hl : l.stackTraces = false) : ev_Snd X l ev_ms x_L_law tx_L_law 1330 (i_pop 1331) := s_pop dL_law_1330
theorem s_L_law_1331 {X : ev_E} {l : Launch} (hG : ev_Good X) (hl : l.stackTraces = false) : ev_Snd X l ev_ms x_L_law tx_L_law 1331 (i_al 2 1332) := s_aload_n dL_law_1331 rfl
theorem s_L_law_1332 {X : ev_E} {l : Launch} (hG : ev_Good X) (hl : l.stackTraces = false) : ev_Snd X l ev_ms x_L_law tx_L_law 1332 (i_cV X 116 0 13 1 1335) := s_invokevirtual hG (mi := 116) (n := 0) (ci := 13) (r := (RX8, TX8, 5)) rfl (cal_X8_asked (Nat.le_of_ble_eq_true rfl)) w_1636 w_1637 w_1638 dL_law_1332
theorem s_L_law_1335 {X : ev_E} {l : Launch} (hG : ev_Good X) (hl : l.stackTraces = false) : ev_Snd X l ev_ms x_L_law tx_L_law 1335 (i_pop 1336) := s_pop dL_law_1335
theorem s_L_law_1336 {X : ev_E} {l : Launch} (hG : ev_Good X) (hl : l.stackTraces = false) : ev_Snd X l ev_ms x_L_law tx_L_law 1336 (i_goto 1742) := s_goto dL_law_1336 rfl
theorem s_L_law_1339 {X : ev_E} {l : Launch} (hG : ev_Good X) (hl : l.stackTraces = false) : ev_Snd X l ev_ms x_L_law tx_L_law 1339 (i_al 1 1340) := s_aload_n dL_law_1339 rfl
theorem s_L_law_1340 {X : ev_E} {l : Launch} (hG : ev_Good X) (hl : l.stackTraces = false) : ev_Snd X l ev_ms x_L_law tx_L_law 1340 (i_al 0 1341) := s_aload_n dL_law_1340 rfl
theorem s_L_law_1341 {X : ev_E} {l : Launch} (hG : ev_Good X) (hl : l.stackTraces = false) : ev_Snd X l ev_ms x_L_law tx_L_law 1341 (i_il 4 1343) := s_iload dL_law_1341
theorem s_L_law_1343 {X : ev_E} {l : Launch} (hG : ev_Good X) (hl : l.stackTraces = false) : ev_Snd X l ev_ms x_L_law tx_L_law 1343 (i_psh (.int (1)) 1344) := s_iconst dL_law_1343 rfl
theorem s_L_law_1344 {X : ev_E} {l : Launch} (hG : ev_Good X) (hl : l.stackTraces = false) : ev_Snd X l ev_ms x_L_law tx_L_law 1344 (i_ii (fun a b => a + b) 1345) := s_iadd dL_law_1344
theorem s_L_law_1345 {X : ev_E} {l : Launch} (hG : ev_Good X) (hl : l.stackTraces = false) : ev_Snd X l ev_ms x_L_law tx_L_law 1345 (i_ald X ev_tI 1346) := s_iaload hG dL_law_1345
theorem s_L_law_1346 {X : ev_E} {l : Launch} (hG : ev_Good X) (hl : l.stackTraces = false) : ev_Snd X l ev_ms x_L_law tx_L_law 1346 (i_cV X 101 1 10 2 1349) := s_invokevirtual hG (mi := 101) (n := 1) (ci := 10) (r := (RX5, TX5, 7)) rfl (cal_X5_askedAt (Nat.le_of_ble_eq_true rfl)) w_260 w_261 w_262 dL_law_1346
theorem s_L_law_1349 {X : ev_E} {l : Launch} (hG : ev_Good X) (hl : l.stackTraces = false) : ev_Snd X l ev_ms x_L_law tx_L_law 1349 (i_pop 1350) := s_pop dL_law_1349
theorem s_L_law_1350 {X : ev_E} {l : Launch} (hG : ev_Good X) (hl : l.stackTraces = false) : ev_Snd X l ev_ms x_L_law tx_L_law 1350 (i_al 2 1351) := s_aload_n dL_law_1350 rfl
theorem s_L_law_1351 {X : ev_E} {l : Launch} (hG : ev_Good X) (hl : l.stackTraces = false) : ev_Snd X l ev_ms x_L_law tx_L_law 1351 (i_al 0 1352) := s_aload_n dL_law_1351 rfl
theorem s_L_law_1352 {X : ev_E} {l : Launch} (hG : ev_Good X) (hl : l.stackTraces = false) : ev_Snd X l ev_ms x_L_law tx_L_law 1352 (i_il 4 1354) := s_iload dL_law_1352
theorem s_L_law_1354 {X : ev_E} {l : Launch} (hG : ev_Good X) (hl : l.stackTraces = false) : ev_Snd X l ev_ms x_L_law tx_L_law 1354 (i_psh (.int (1)) 1355) := s_iconst dL_law_1354 rfl
theorem s_L_law_1355 {X : ev_E} {l : Launch} (hG : ev_Good X) (hl : l.stackTraces = false) : ev_Snd X l ev_ms x_L_law tx_L_law 1355 (i_ii (fun a b => a + b) 1356) := s_iadd dL_law_1355
theorem s_L_law_1356 {X : ev_E} {l : Launch} (hG : ev_Good X) (hl : l.stackTraces = false) : ev_Snd X l ev_ms x_L_law tx_L_law 1356 (i_ald X ev_tI 1357) := s_iaload hG dL_law_1356
theorem s_L_law_1357 {X : ev_E} {l : Launch} (hG : ev_Good X) (hl : l.stackTraces = false) : ev_Snd X l ev_ms x_L_law tx_L_law 1357 (i_cV X 210 1 13 2 1360) := s_invokevirtual hG (mi := 210) (n := 1) (ci := 13) (r := (RX8, TX8, 5)) rfl (cal_X8_askedAt (Nat.le_of_ble_eq_true rfl)) w_1640 w_1641 w_1642 dL_law_1357
theorem s_L_law_1360 {X : ev_E} {l : Launch} (hG : ev_Good X) (hl : l.stackTraces = false) : ev_Snd X l ev_ms x_L_law tx_L_law 1360 (i_pop 1361) := s_pop dL_law_1360
theorem s_L_law_1361 {X : ev_E} {l : Launch} (hG : ev_Good X) (hl : l.stackTraces = false) : ev_Snd X l ev_ms x_L_law tx_L_law 1361 (i_goto 1742) := s_goto dL_law_1361 rfl
theorem s_L_law_1364 {X : ev_E} {l : Launch} (hG : ev_Good X) (hl : l.stackTraces = false) : ev_Snd X l ev_ms x_L_law tx_L_law 1364 (i_al 1 1365) := s_aload_n dL_law_1364 rfl
theorem s_L_law_1365 {X : ev_E} {l : Launch} (hG : ev_Good X) (hl : l.stackTraces = false) : ev_Snd X l ev_ms x_L_law tx_L_law 1365 (i_al 0 1366) := s_aload_n dL_law_1365 rfl
theorem s_L_law_1366 {X : ev_E} {l : Launch} (hG : ev_Good X) (hl : l.stackTraces = false) : ev_Snd X l ev_ms x_L_law tx_L_law 1366 (i_il 4 1368) := s_iload dL_law_1366
theorem s_L_law_1368 {X : ev_E} {l : Launch} (hG : ev_Good X) (hl : l.stackTraces = false) : ev_Snd X l ev_ms x_L_law tx_L_law 1368 (i_psh (.int (1)) 1369) := s_iconst dL_law_1368 rfl
theorem s_L_law_1369 {X : ev_E} {l : Launch} (hG : ev_Good X) (hl : l.stackTraces = false) : ev_Snd X l ev_ms x_L_law tx_L_law 1369 (i_ii (fun a b => a + b) 1370) := s_iadd dL_law_1369
theorem s_L_law_1370 {X : ev_E} {l : Launch} (hG : ev_Good X) (hl : l.stackTraces = false) : ev_Snd X l ev_ms x_L_law tx_L_law 1370 (i_ald X ev_tI 1371) := s_iaload hG dL_law_1370
theorem s_L_law_1371 {X : ev_E} {l : Launch} (hG : ev_Good X) (hl : l.stackTraces = false) : ev_Snd X l ev_ms x_L_law tx_L_law 1371 (i_cV X 103 1 10 2 1374) := s_invokevirtual hG (mi := 103) (n := 1) (ci := 10) (r := (RX5, TX5, 7)) rfl (cal_X5_depthAt (Nat.le_of_ble_eq_true rfl)) w_268 w_269 w_270 dL_law_1371
theorem s_L_law_1374 {X : ev_E} {l : Launch} (hG : ev_Good X) (hl : l.stackTraces = false) : ev_Snd X l ev_ms x_L_law tx_L_law 1374 (i_pop 1375) := s_pop dL_law_1374
theorem s_L_law_1375 {X : ev_E} {l : Launch} (hG : ev_Good X) (hl : l.stackTraces = false) : ev_Snd X l ev_ms x_L_law tx_L_law 1375 (i_al 2 1376) := s_aload_n dL_law_1375 rfl
theorem s_L_law_1376 {X : ev_E} {l : Launch} (hG : ev_Good X) (hl : l.stackTraces = false) : ev_Snd X l ev_ms x_L_law tx_L_law 1376 (i_al 0 1377) := s_aload_n dL_law_1376 rfl
theorem s_L_law_1377 {X : ev_E} {l : Launch} (hG : ev_Good X) (hl : l.stackTraces = false) : ev_Snd X l ev_ms x_L_law tx_L_law 1377 (i_il 4 1379) := s_iload dL_law_1377
theorem s_L_law_1379 {X : ev_E} {l : Launch} (hG : ev_Good X) (hl : l.stackTraces = false) : ev_Snd X l ev_ms x_L_law tx_L_law 1379 (i_psh (.int (1)) 1380) := s_iconst dL_law_1379 rfl
theorem s_L_law_1380 {X : ev_E} {l : Launch} (hG : ev_Good X) (hl : l.stackTraces = false) : ev_Snd X l ev_ms x_L_law tx_L_law 1380 (i_ii (fun a b => a + b) 1381) := s_iadd dL_law_1380
theorem s_L_law_1381 {X : ev_E} {l : Launch} (hG : ev_Good X) (hl : l.stackTraces = false) : ev_Snd X l ev_ms x_L_law tx_L_law 1381 (i_ald X ev_tI 1382) := s_iaload hG dL_law_1381
theorem s_L_law_1382 {X : ev_E} {l : Launch} (hG : ev_Good X) (hl : l.stackTraces = false) : ev_Snd X l ev_ms x_L_law tx_L_law 1382 (i_cV X 267 1 13 2 1385) := s_invokevirtual hG (mi := 267) (n := 1) (ci := 13) (r := (RX8, TX8, 5)) rfl (cal_X8_depthAt (Nat.le_of_ble_eq_true rfl)) w_1644 w_1645 w_1646 dL_law_1382
theorem s_L_law_1385 {X : ev_E} {l : Launch} (hG : ev_Good X) (hl : l.stackTraces = false) : ev_Snd X l ev_ms x_L_law tx_L_law 1385 (i_pop 1386) := s_pop dL_law_1385
theorem s_L_law_1386 {X : ev_E} {l : Launch} (hG : ev_Good X) (hl : l.stackTraces = false) : ev_Snd X l ev_ms x_L_law tx_L_law 1386 (i_goto 1742) := s_goto dL_law_1386 rfl
theorem s_L_law_1389 {X : ev_E} {l : Launch} (hG : ev_Good X) (hl : l.stackTraces = false) : ev_Snd X l ev_ms x_L_law tx_L_law 1389 (i_al 1 1390) := s_aload_n dL_law_1389 rfl
theorem s_L_law_1390 {X : ev_E} {l : Launch} (hG : ev_Good X) (hl : l.stackTraces = false) : ev_Snd X l ev_ms x_L_law tx_L_law 1390 (i_al 0 1391) := s_aload_n dL_law_1390 rfl
theorem s_L_law_1391 {X : ev_E} {l : Launch} (hG : ev_Good X) (hl : l.stackTraces = false) : ev_Snd X l ev_ms x_L_law tx_L_law 1391 (i_il 4 1393) := s_iload dL_law_1391
theorem s_L_law_1393 {X : ev_E} {l : Launch} (hG : ev_Good X) (hl : l.stackTraces = false) : ev_Snd X l ev_ms x_L_law tx_L_law 1393 (i_psh (.int (1)) 1394) := s_iconst dL_law_1393 rfl
theorem s_L_law_1394 {X : ev_E} {l : Launch} (hG : ev_Good X) (hl : l.stackTraces = false) : ev_Snd X l ev_ms x_L_law tx_L_law 1394 (i_ii (fun a b => a + b) 1395) := s_iadd dL_law_1394
theorem s_L_law_1395 {X : ev_E} {l : Launch} (hG : ev_Good X) (hl : l.stackTraces = false) : ev_Snd X l ev_ms x_L_law tx_L_law 1395 (i_ald X ev_tI 1396) := s_iaload hG dL_law_1395
theorem s_L_law_1396 {X : ev_E} {l : Launch} (hG : ev_Good X) (hl : l.stackTraces = false) : ev_Snd X l ev_ms x_L_law tx_L_law 1396 (i_al 3 1397) := s_aload_n dL_law_1396 rfl
theorem s_L_law_1397 {X : ev_E} {l : Launch} (hG : ev_Good X) (hl : l.stackTraces = false) : ev_Snd X l ev_ms x_L_law tx_L_law 1397 (i_cS 181 3 4 1400) := s_invokestaticW hG (mi := 181) (n := 3) (cal_L_depth (Nat.le_of_ble_eq_true rfl)) w_1131 w_1132 dL_law_1397
theorem s_L_law_1400 {X : ev_E} {l : Launch} (hG : ev_Good X) (hl : l.stackTraces = false) : ev_Snd X l ev_ms x_L_law tx_L_law 1400 (i_is 5 1402) := s_istore dL_law_1400 (Nat.le_of_ble_eq_true rfl)
theorem s_L_law_1402 {X : ev_E} {l : Launch} (hG : ev_Good X) (hl : l.stackTraces = false) : ev_Snd X l ev_ms x_L_law tx_L_law 1402 (i_al 2 1403) := s_aload_n dL_law_1402 rfl
theorem s_L_law_1403 {X : ev_E} {l : Launch} (hG : ev_Good X) (hl : l.stackTraces = false) : ev_Snd X l ev_ms x_L_law tx_L_law 1403 (i_al 0 1404) := s_aload_n dL_law_1403 rfl
theorem s_L_law_1404 {X : ev_E} {l : Launch} (hG : ev_Good X) (hl : l.stackTraces = false) : ev_Snd X l ev_ms x_L_law tx_L_law 1404 (i_il 4 1406) := s_iload dL_law_1404
theorem s_L_law_1406 {X : ev_E} {l : Launch} (hG : ev_Good X) (hl : l.stackTraces = false) : ev_Snd X l ev_ms x_L_law tx_L_law 1406 (i_psh (.int (1)) 1407) := s_iconst dL_law_1406 rfl
theorem s_L_law_1407 {X : ev_E} {l : Launch} (hG : ev_Good X) (hl : l.stackTraces = false) : ev_Snd X l ev_ms x_L_law tx_L_law 1407 (i_ii (fun a b => a + b) 1408) := s_iadd dL_law_1407
theorem s_L_law_1408 {X : ev_E} {l : Launch} (hG : ev_Good X) (hl : l.stackTraces = false) : ev_Snd X l ev_ms x_L_law tx_L_law 1408 (i_ald X ev_tI 1409) := s_iaload hG dL_law_1408
theorem s_L_law_1409 {X : ev_E} {l : Launch} (hG : ev_Good X) (hl : l.stackTraces = false) : ev_Snd X l ev_ms x_L_law tx_L_law 1409 (i_cV X 266 1 13 2 1412) := s_invokevirtual hG (mi := 266) (n := 1) (ci := 13) (r := (RX8, TX8, 5)) rfl (cal_X8_depth (Nat.le_of_ble_eq_true rfl)) w_1648 w_1649 w_1650 dL_law_1409
theorem s_L_law_1412 {X : ev_E} {l : Launch} (hG : ev_Good X) (hl : l.stackTraces = false) : ev_Snd X l ev_ms x_L_law tx_L_law 1412 (i_is 6 1414) := s_istore dL_law_1412 (Nat.le_of_ble_eq_true rfl)
theorem s_L_law_1414 {X : ev_E} {l : Launch} (hG : ev_Good X) (hl : l.stackTraces = false) : ev_Snd X l ev_ms x_L_law tx_L_law 1414 (i_goto 1742) := s_goto dL_law_1414 rfl
theorem s_L_law_1417 {X : ev_E} {l : Launch} (hG : ev_Good X) (hl : l.stackTraces = false) : ev_Snd X l ev_ms x_L_law tx_L_law 1417 (i_al 1 1418) := s_aload_n dL_law_1417 rfl
theorem s_L_law_1418 {X : ev_E} {l : Launch} (hG : ev_Good X) (hl : l.stackTraces = false) : ev_Snd X l ev_ms x_L_law tx_L_law 1418 (i_cV X 300 0 10 1 1421) := s_invokevirtual hG (mi := 300) (n := 0) (ci := 10) (r := (RX5, TX5, 7)) rfl (cal_X5_stack (Nat.le_of_ble_eq_true rfl)) w_272 w_273 w_274 dL_law_1418
theorem s_L_law_1421 {X : ev_E} {l : Launch} (hG : ev_Good X) (hl : l.stackTraces = false) : ev_Snd X l ev_ms x_L_law tx_L_law 1421 (i_pop 1422) := s_pop dL_law_1421
theorem s_L_law_1422 {X : ev_E} {l : Launch} (hG : ev_Good X) (hl : l.stackTraces = false) : ev_Snd X l ev_ms x_L_law tx_L_law 1422 (i_al 2 1423) := s_aload_n dL_law_1422 rfl
theorem s_L_law_1423 {X : ev_E} {l : Launch} (hG : ev_Good X) (hl : l.stackTraces = false) : ev_Snd X l ev_ms x_L_law tx_L_law 1423 (i_cV X 309 0 13 1 1426) := s_invokevirtual hG (mi := 309) (n := 0) (ci := 13) (r := (RX8, TX8, 5)) rfl (cal_X8_stack (Nat.le_of_ble_eq_true rfl)) w_1652 w_1653 w_1654 dL_law_1423
theorem s_L_law_1426 {X : ev_E} {l : Launch} (hG : ev_Good X) (hl : l.stackTraces = false) : ev_Snd X l ev_ms x_L_law tx_L_law 1426 (i_pop 1427) := s_pop dL_law_1426
theorem s_L_law_1427 {X : ev_E} {l : Launch} (hG : ev_Good X) (hl : l.stackTraces = false) : ev_Snd X l ev_ms x_L_law tx_L_law 1427 (i_goto 1742) := s_goto dL_law_1427 rfl
theorem s_L_law_1430 {X : ev_E} {l : Launch} (hG : ev_Good X) (hl : l.stackTraces = false) : ev_Snd X l ev_ms x_L_law tx_L_law 1430 (i_al 1 1431) := s_aload_n dL_law_1430 rfl
theorem s_L_law_1431 {X : ev_E} {l : Launch} (hG : ev_Good X) (hl : l.stackTraces = false) : ev_Snd X l ev_ms x_L_law tx_L_law 1431 (i_al 0 1432) := s_aload_n dL_law_1431 rfl
theorem s_L_law_1432 {X : ev_E} {l : Launch} (hG : ev_Good X) (hl : l.stackTraces = false) : ev_Snd X l ev_ms x_L_law tx_L_law 1432 (i_il 4 1434) := s_iload dL_law_1432
theorem s_L_law_1434 {X : ev_E} {l : Launch} (hG : ev_Good X) (hl : l.stackTraces = false) : ev_Snd X l ev_ms x_L_law tx_L_law 1434 (i_psh (.int (1)) 1435) := s_iconst dL_law_1434 rfl
theorem s_L_law_1435 {X : ev_E} {l : Launch} (hG : ev_Good X) (hl : l.stackTraces = false) : ev_Snd X l ev_ms x_L_law tx_L_law 1435 (i_ii (fun a b => a + b) 1436) := s_iadd dL_law_1435
theorem s_L_law_1436 {X : ev_E} {l : Launch} (hG : ev_Good X) (hl : l.stackTraces = false) : ev_Snd X l ev_ms x_L_law tx_L_law 1436 (i_ald X ev_tI 1437) := s_iaload hG dL_law_1436
theorem s_L_law_1437 {X : ev_E} {l : Launch} (hG : ev_Good X) (hl : l.stackTraces = false) : ev_Snd X l ev_ms x_L_law tx_L_law 1437 (i_al 3 1438) := s_aload_n dL_law_1437 rfl
theorem s_L_law_1438 {X : ev_E} {l : Launch} (hG : ev_Good X) (hl : l.stackTraces = false) : ev_Snd X l ev_ms x_L_law tx_L_law 1438 (i_cS 305 3 4 1441) := s_invokestaticW hG (mi := 305) (n := 3) (cal_L_kept (Nat.le_of_ble_eq_true rfl)) w_1138 w_1139 dL_law_1438
theorem s_L_law_1441 {X : ev_E} {l : Launch} (hG : ev_Good X) (hl : l.stackTraces = false) : ev_Snd X l ev_ms x_L_law tx_L_law 1441 (i_is 5 1443) := s_istore dL_law_1441 (Nat.le_of_ble_eq_true rfl)
theorem s_L_law_1443 {X : ev_E} {l : Launch} (hG : ev_Good X) (hl : l.stackTraces = false) : ev_Snd X l ev_ms x_L_law tx_L_law 1443 (i_al 2 1444) := s_aload_n dL_law_1443 rfl
theorem s_L_law_1444 {X : ev_E} {l : Launch} (hG : ev_Good X) (hl : l.stackTraces = false) : ev_Snd X l ev_ms x_L_law tx_L_law 1444 (i_al 0 1445) := s_aload_n dL_law_1444 rfl
theorem s_L_law_1445 {X : ev_E} {l : Launch} (hG : ev_Good X) (hl : l.stackTraces = false) : ev_Snd X l ev_ms x_L_law tx_L_law 1445 (i_il 4 1447) := s_iload dL_law_1445
theorem s_L_law_1447 {X : ev_E} {l : Launch} (hG : ev_Good X) (hl : l.stackTraces = false) : ev_Snd X l ev_ms x_L_law tx_L_law 1447 (i_psh (.int (1)) 1448) := s_iconst dL_law_1447 rfl
theorem s_L_law_1448 {X : ev_E} {l : Launch} (hG : ev_Good X) (hl : l.stackTraces = false) : ev_Snd X l ev_ms x_L_law tx_L_law 1448 (i_ii (fun a b => a + b) 1449) := s_iadd dL_law_1448
theorem s_L_law_1449 {X : ev_E} {l : Launch} (hG : ev_Good X) (hl : l.stackTraces = false) : ev_Snd X l ev_ms x_L_law tx_L_law 1449 (i_ald X ev_tI 1450) := s_iaload hG dL_law_1449
theorem s_L_law_1450 {X : ev_E} {l : Launch} (hG : ev_Good X) (hl : l.stackTraces = false) : ev_Snd X l ev_ms x_L_law tx_L_law 1450 (i_cV X 308 1 13 2 1453) := s_invokevirtual hG (mi := 308) (n := 1) (ci := 13) (r := (RX8, TX8, 5)) rfl (cal_X8_kept (Nat.le_of_ble_eq_true rfl)) w_1666 w_1667 w_1668 dL_law_1450
theorem s_L_law_1453 {X : ev_E} {l : Launch} (hG : ev_Good X) (hl : l.stackTraces = false) : ev_Snd X l ev_ms x_L_law tx_L_law 1453 (i_as 6 1455) := s_astore dL_law_1453 (Nat.le_of_ble_eq_true rfl)
theorem s_L_law_1455 {X : ev_E} {l : Launch} (hG : ev_Good X) (hl : l.stackTraces = false) : ev_Snd X l ev_ms x_L_law tx_L_law 1455 (i_goto 1742) := s_goto dL_law_1455 rfl
theorem s_L_law_1458 {X : ev_E} {l : Launch} (hG : ev_Good X) (hl : l.stackTraces = false) : ev_Snd X l ev_ms x_L_law tx_L_law 1458 (i_al 1 1459) := s_aload_n dL_law_1458 rfl
theorem s_L_law_1459 {X : ev_E} {l : Launch} (hG : ev_Good X) (hl : l.stackTraces = false) : ev_Snd X l ev_ms x_L_law tx_L_law 1459 (i_al 0 1460) := s_aload_n dL_law_1459 rfl
theorem s_L_law_1460 {X : ev_E} {l : Launch} (hG : ev_Good X) (hl : l.stackTraces = false) : ev_Snd X l ev_ms x_L_law tx_L_law 1460 (i_il 4 1462) := s_iload dL_law_1460
theorem s_L_law_1462 {X : ev_E} {l : Launch} (hG : ev_Good X) (hl : l.stackTraces = false) : ev_Snd X l ev_ms x_L_law tx_L_law 1462 (i_psh (.int (1)) 1463) := s_iconst dL_law_1462 rfl
theorem s_L_law_1463 {X : ev_E} {l : Launch} (hG : ev_Good X) (hl : l.stackTraces = false) : ev_Snd X l ev_ms x_L_law tx_L_law 1463 (i_ii (fun a b => a + b) 1464) := s_iadd dL_law_1463
theorem s_L_law_1464 {X : ev_E} {l : Launch} (hG : ev_Good X) (hl : l.stackTraces = false) : ev_Snd X l ev_ms x_L_law tx_L_law 1464 (i_ald X ev_tI 1465) := s_iaload hG dL_law_1464
theorem s_L_law_1465 {X : ev_E} {l : Launch} (hG : ev_Good X) (hl : l.stackTraces = false) : ev_Snd X l ev_ms x_L_law tx_L_law 1465 (i_al 0 1466) := s_aload_n dL_law_1465 rfl
theorem s_L_law_1466 {X : ev_E} {l : Launch} (hG : ev_Good X) (hl : l.stackTraces = false) : ev_Snd X l ev_ms x_L_law tx_L_law 1466 (i_il 4 1468) := s_iload dL_law_1466
theorem s_L_law_1468 {X : ev_E} {l : Launch} (hG : ev_Good X) (hl : l.stackTraces = false) : ev_Snd X l ev_ms x_L_law tx_L_law 1468 (i_psh (.int (2)) 1469) := s_iconst dL_law_1468 rfl
theorem s_L_law_1469 {X : ev_E} {l : Launch} (hG : ev_Good X) (hl : l.stackTraces = false) : ev_Snd X l ev_ms x_L_law tx_L_law 1469 (i_ii (fun a b => a + b) 1470) := s_iadd dL_law_1469
theorem s_L_law_1470 {X : ev_E} {l : Launch} (hG : ev_Good X) (hl : l.stackTraces = false) : ev_Snd X l ev_ms x_L_law tx_L_law 1470 (i_ald X ev_tI 1471) := s_iaload hG dL_law_1470
theorem s_L_law_1471 {X : ev_E} {l : Launch} (hG : ev_Good X) (hl : l.stackTraces = false) : ev_Snd X l ev_ms x_L_law tx_L_law 1471 (i_al 3 1472) := s_aload_n dL_law_1471 rfl
theorem s_L_law_1472 {X : ev_E} {l : Launch} (hG : ev_Good X) (hl : l.stackTraces = false) : ev_Snd X l ev_ms x_L_law tx_L_law 1472 (i_cS 185 4 5 1475) := s_invokestaticW hG (mi := 185) (n := 4) (cal_L_keeps (Nat.le_of_ble_eq_true rfl)) w_1145 w_1146 dL_law_1472
theorem s_L_law_1475 {X : ev_E} {l : Launch} (hG : ev_Good X) (hl : l.stackTraces = false) : ev_Snd X l ev_ms x_L_law tx_L_law 1475 (i_is 5 1477) := s_istore dL_law_1475 (Nat.le_of_ble_eq_true rfl)
theorem s_L_law_1477 {X : ev_E} {l : Launch} (hG : ev_Good X) (hl : l.stackTraces = false) : ev_Snd X l ev_ms x_L_law tx_L_law 1477 (i_al 2 1478) := s_aload_n dL_law_1477 rfl
theorem s_L_law_1478 {X : ev_E} {l : Launch} (hG : ev_Good X) (hl : l.stackTraces = false) : ev_Snd X l ev_ms x_L_law tx_L_law 1478 (i_al 0 1479) := s_aload_n dL_law_1478 rfl
theorem s_L_law_1479 {X : ev_E} {l : Launch} (hG : ev_Good X) (hl : l.stackTraces = false) : ev_Snd X l ev_ms x_L_law tx_L_law 1479 (i_il 4 1481) := s_iload dL_law_1479
theorem s_L_law_1481 {X : ev_E} {l : Launch} (hG : ev_Good X) (hl : l.stackTraces = false) : ev_Snd X l ev_ms x_L_law tx_L_law 1481 (i_psh (.int (1)) 1482) := s_iconst dL_law_1481 rfl
theorem s_L_law_1482 {X : ev_E} {l : Launch} (hG : ev_Good X) (hl : l.stackTraces = false) : ev_Snd X l ev_ms x_L_law tx_L_law 1482 (i_ii (fun a b => a + b) 1483) := s_iadd dL_law_1482
theorem s_L_law_1483 {X : ev_E} {l : Launch} (hG : ev_Good X) (hl : l.stackTraces = false) : ev_Snd X l ev_ms x_L_law tx_L_law 1483 (i_ald X ev_tI 1484) := s_iaload hG dL_law_1483
theorem s_L_law_1484 {X : ev_E} {l : Launch} (hG : ev_Good X) (hl : l.stackTraces = false) : ev_Snd X l ev_ms x_L_law tx_L_law 1484 (i_al 0 1485) := s_aload_n dL_law_1484 rfl
theorem s_L_law_1485 {X : ev_E} {l : Launch} (hG : ev_Good X) (hl : l.stackTraces = false) : ev_Snd X l ev_ms x_L_law tx_L_law 1485 (i_il 4 1487) := s_iload dL_law_1485
theorem s_L_law_1487 {X : ev_E} {l : Launch} (hG : ev_Good X) (hl : l.stackTraces = false) : ev_Snd X l ev_ms x_L_law tx_L_law 1487 (i_psh (.int (2)) 1488) := s_iconst dL_law_1487 rfl
theorem s_L_law_1488 {X : ev_E} {l : Launch} (hG : ev_Good X) (hl : l.stackTraces = false) : ev_Snd X l ev_ms x_L_law tx_L_law 1488 (i_ii (fun a b => a + b) 1489) := s_iadd dL_law_1488
theorem s_L_law_1489 {X : ev_E} {l : Launch} (hG : ev_Good X) (hl : l.stackTraces = false) : ev_Snd X l ev_ms x_L_law tx_L_law 1489 (i_ald X ev_tI 1490) := s_iaload hG dL_law_1489
theorem s_L_law_1490 {X : ev_E} {l : Launch} (hG : ev_Good X) (hl : l.stackTraces = false) : ev_Snd X l ev_ms x_L_law tx_L_law 1490 (i_cV X 281 2 13 3 1493) := s_invokevirtual hG (mi := 281) (n := 2) (ci := 13) (r := (RX8, TX8, 5)) rfl (cal_X8_keeps (Nat.le_of_ble_eq_true rfl)) w_1673 w_1674 w_1675 dL_law_1490
theorem s_L_law_1493 {X : ev_E} {l : Launch} (hG : ev_Good X) (hl : l.stackTraces = false) : ev_Snd X l ev_ms x_L_law tx_L_law 1493 (i_is 6 1495) := s_istore dL_law_1493 (Nat.le_of_ble_eq_true rfl)
theorem s_L_law_1495 {X : ev_E} {l : Launch} (hG : ev_Good X) (hl : l.stackTraces = false) : ev_Snd X l ev_ms x_L_law tx_L_law 1495 (i_goto 1742) := s_goto dL_law_1495 rfl
theorem s_L_law_1498 {X : ev_E} {l : Launch} (hG : ev_Good X) (hl : l.stackTraces = false) : ev_Snd X l ev_ms x_L_law tx_L_law 1498 (i_al 1 1499) := s_aload_n dL_law_1498 rfl
theorem s_L_law_1499 {X : ev_E} {l : Launch} (hG : ev_Good X) (hl : l.stackTraces = false) : ev_Snd X l ev_ms x_L_law tx_L_law 1499 (i_al 0 1500) := s_aload_n dL_law_1499 rfl
theorem s_L_law_1500 {X : ev_E} {l : Launch} (hG : ev_Good X) (hl : l.stackTraces = false) : ev_Snd X l ev_ms x_L_law tx_L_law 1500 (i_il 4 1502) := s_iload dL_law_1500
theorem s_L_law_1502 {X : ev_E} {l : Launch} (hG : ev_Good X) (hl : l.stackTraces = false) : ev_Snd X l ev_ms x_L_law tx_L_law 1502 (i_psh (.int (1)) 1503) := s_iconst dL_law_1502 rfl
theorem s_L_law_1503 {X : ev_E} {l : Launch} (hG : ev_Good X) (hl : l.stackTraces = false) : ev_Snd X l ev_ms x_L_law tx_L_law 1503 (i_ii (fun a b => a + b) 1504) := s_iadd dL_law_1503
theorem s_L_law_1504 {X : ev_E} {l : Launch} (hG : ev_Good X) (hl : l.stackTraces = false) : ev_Snd X l ev_ms x_L_law tx_L_law 1504 (i_ald X ev_tI 1505) := s_iaload hG dL_law_1504
theorem s_L_law_1505 {X : ev_E} {l : Launch} (hG : ev_Good X) (hl : l.stackTraces = false) : ev_Snd X l ev_ms x_L_law tx_L_law 1505 (i_al 0 1506) := s_aload_n dL_law_1505 rfl
theorem s_L_law_1506 {X : ev_E} {l : Launch} (hG : ev_Good X) (hl : l.stackTraces = false) : ev_Snd X l ev_ms x_L_law tx_L_law 1506 (i_il 4 1508) := s_iload dL_law_1506
theorem s_L_law_1508 {X : ev_E} {l : Launch} (hG : ev_Good X) (hl : l.stackTraces = false) : ev_Snd X l ev_ms x_L_law tx_L_law 1508 (i_psh (.int (2)) 1509) := s_iconst dL_law_1508 rfl
theorem s_L_law_1509 {X : ev_E} {l : Launch} (hG : ev_Good X) (hl : l.stackTraces = false) : ev_Snd X l ev_ms x_L_law tx_L_law 1509 (i_ii (fun a b => a + b) 1510) := s_iadd dL_law_1509
theorem s_L_law_1510 {X : ev_E} {l : Launch} (hG : ev_Good X) (hl : l.stackTraces = false) : ev_Snd X l ev_ms x_L_law tx_L_law 1510 (i_ald X ev_tI 1511) := s_iaload hG dL_law_1510
theorem s_L_law_1511 {X : ev_E} {l : Launch} (hG : ev_Good X) (hl : l.stackTraces = false) : ev_Snd X l ev_ms x_L_law tx_L_law 1511 (i_al 3 1512) := s_aload_n dL_law_1511 rfl
theorem s_L_law_1512 {X : ev_E} {l : Launch} (hG : ev_Good X) (hl : l.stackTraces = false) : ev_Snd X l ev_ms x_L_law tx_L_law 1512 (i_cS 193 4 5 1515) := s_invokestaticW hG (mi := 193) (n := 4) (cal_L_takenAt (Nat.le_of_ble_eq_true rfl)) w_1152 w_1153 dL_law_1512
theorem s_L_law_1515 {X : ev_E} {l : Launch} (hG : ev_Good X) (hl : l.stackTraces = false) : ev_Snd X l ev_ms x_L_law tx_L_law 1515 (i_is 5 1517) := s_istore dL_law_1515 (Nat.le_of_ble_eq_true rfl)
theorem s_L_law_1517 {X : ev_E} {l : Launch} (hG : ev_Good X) (hl : l.stackTraces = false) : ev_Snd X l ev_ms x_L_law tx_L_law 1517 (i_al 2 1518) := s_aload_n dL_law_1517 rfl
theorem s_L_law_1518 {X : ev_E} {l : Launch} (hG : ev_Good X) (hl : l.stackTraces = false) : ev_Snd X l ev_ms x_L_law tx_L_law 1518 (i_al 0 1519) := s_aload_n dL_law_1518 rfl
theorem s_L_law_1519 {X : ev_E} {l : Launch} (hG : ev_Good X) (hl : l.stackTraces = false) : ev_Snd X l ev_ms x_L_law tx_L_law 1519 (i_il 4 1521) := s_iload dL_law_1519
theorem s_L_law_1521 {X : ev_E} {l : Launch} (hG : ev_Good X) (hl : l.stackTraces = false) : ev_Snd X l ev_ms x_L_law tx_L_law 1521 (i_psh (.int (1)) 1522) := s_iconst dL_law_1521 rfl
theorem s_L_law_1522 {X : ev_E} {l : Launch} (hG : ev_Good X) (hl : l.stackTraces = false) : ev_Snd X l ev_ms x_L_law tx_L_law 1522 (i_ii (fun a b => a + b) 1523) := s_iadd dL_law_1522
theorem s_L_law_1523 {X : ev_E} {l : Launch} (hG : ev_Good X) (hl : l.stackTraces = false) : ev_Snd X l ev_ms x_L_law tx_L_law 1523 (i_ald X ev_tI 1524) := s_iaload hG dL_law_1523
theorem s_L_law_1524 {X : ev_E} {l : Launch} (hG : ev_Good X) (hl : l.stackTraces = false) : ev_Snd X l ev_ms x_L_law tx_L_law 1524 (i_al 0 1525) := s_aload_n dL_law_1524 rfl
theorem s_L_law_1525 {X : ev_E} {l : Launch} (hG : ev_Good X) (hl : l.stackTraces = false) : ev_Snd X l ev_ms x_L_law tx_L_law 1525 (i_il 4 1527) := s_iload dL_law_1525
theorem s_L_law_1527 {X : ev_E} {l : Launch} (hG : ev_Good X) (hl : l.stackTraces = false) : ev_Snd X l ev_ms x_L_law tx_L_law 1527 (i_psh (.int (2)) 1528) := s_iconst dL_law_1527 rfl
theorem s_L_law_1528 {X : ev_E} {l : Launch} (hG : ev_Good X) (hl : l.stackTraces = false) : ev_Snd X l ev_ms x_L_law tx_L_law 1528 (i_ii (fun a b => a + b) 1529) := s_iadd dL_law_1528
theorem s_L_law_1529 {X : ev_E} {l : Launch} (hG : ev_Good X) (hl : l.stackTraces = false) : ev_Snd X l ev_ms x_L_law tx_L_law 1529 (i_ald X ev_tI 1530) := s_iaload hG dL_law_1529
theorem s_L_law_1530 {X : ev_E} {l : Launch} (hG : ev_Good X) (hl : l.stackTraces = false) : ev_Snd X l ev_ms x_L_law tx_L_law 1530 (i_cV X 296 2 13 3 1533) := s_invokevirtual hG (mi := 296) (n := 2) (ci := 13) (r := (RX8, TX8, 5)) rfl (cal_X8_takenAt (Nat.le_of_ble_eq_true rfl)) w_1681 w_1682 w_1683 dL_law_1530
theorem s_L_law_1533 {X : ev_E} {l : Launch} (hG : ev_Good X) (hl : l.stackTraces = false) : ev_Snd X l ev_ms x_L_law tx_L_law 1533 (i_is 6 1535) := s_istore dL_law_1533 (Nat.le_of_ble_eq_true rfl)
theorem s_L_law_1535 {X : ev_E} {l : Launch} (hG : ev_Good X) (hl : l.stackTraces = false) : ev_Snd X l ev_ms x_L_law tx_L_law 1535 (i_goto 1742) := s_goto dL_law_1535 rfl
theorem s_L_law_1538 {X : ev_E} {l : Launch} (hG : ev_Good X) (hl : l.stackTraces = false) : ev_Snd X l ev_ms x_L_law tx_L_law 1538 (i_al 1 1539) := s_aload_n dL_law_1538 rfl
theorem s_L_law_1539 {X : ev_E} {l : Launch} (hG : ev_Good X) (hl : l.stackTraces = false) : ev_Snd X l ev_ms x_L_law tx_L_law 1539 (i_al 0 1540) := s_aload_n dL_law_1539 rfl
theorem s_L_law_1540 {X : ev_E} {l : Launch} (hG : ev_Good X) (hl : l.stackTraces = false) : ev_Snd X l ev_ms x_L_law tx_L_law 1540 (i_il 4 1542) := s_iload dL_law_1540
theorem s_L_law_1542 {X : ev_E} {l : Launch} (hG : ev_Good X) (hl : l.stackTraces = false) : ev_Snd X l ev_ms x_L_law tx_L_law 1542 (i_psh (.int (1)) 1543) := s_iconst dL_law_1542 rfl
theorem s_L_law_1543 {X : ev_E} {l : Launch} (hG : ev_Good X) (hl : l.stackTraces = false) : ev_Snd X l ev_ms x_L_law tx_L_law 1543 (i_ii (fun a b => a + b) 1544) := s_iadd dL_law_1543
theorem s_L_law_1544 {X : ev_E} {l : Launch} (hG : ev_Good X) (hl : l.stackTraces = false) : ev_Snd X l ev_ms x_L_law tx_L_law 1544 (i_ald X ev_tI 1545) := s_iaload hG dL_law_1544
theorem s_L_law_1545 {X : ev_E} {l : Launch} (hG : ev_Good X) (hl : l.stackTraces = false) : ev_Snd X l ev_ms x_L_law tx_L_law 1545 (i_al 3 1546) := s_aload_n dL_law_1545 rfl
theorem s_L_law_1546 {X : ev_E} {l : Launch} (hG : ev_Good X) (hl : l.stackTraces = false) : ev_Snd X l ev_ms x_L_law tx_L_law 1546 (i_cS 190 3 4 1549) := s_invokestaticW hG (mi := 190) (n := 3) (cal_L_misses (Nat.le_of_ble_eq_true rfl)) w_1156 w_1157 dL_law_1546
theorem s_L_law_1549 {X : ev_E} {l : Launch} (hG : ev_Good X) (hl : l.stackTraces = false) : ev_Snd X l ev_ms x_L_law tx_L_law 1549 (i_is 5 1551) := s_istore dL_law_1549 (Nat.le_of_ble_eq_true rfl)
theorem s_L_law_1551 {X : ev_E} {l : Launch} (hG : ev_Good X) (hl : l.stackTraces = false) : ev_Snd X l ev_ms x_L_law tx_L_law 1551 (i_al 2 1552) := s_aload_n dL_law_1551 rfl
theorem s_L_law_1552 {X : ev_E} {l : Launch} (hG : ev_Good X) (hl : l.stackTraces = false) : ev_Snd X l ev_ms x_L_law tx_L_law 1552 (i_al 0 1553) := s_aload_n dL_law_1552 rfl
theorem s_L_law_1553 {X : ev_E} {l : Launch} (hG : ev_Good X) (hl : l.stackTraces = false) : ev_Snd X l ev_ms x_L_law tx_L_law 1553 (i_il 4 1555) := s_iload dL_law_1553
theorem s_L_law_1555 {X : ev_E} {l : Launch} (hG : ev_Good X) (hl : l.stackTraces = false) : ev_Snd X l ev_ms x_L_law tx_L_law 1555 (i_psh (.int (1)) 1556) := s_iconst dL_law_1555 rfl
theorem s_L_law_1556 {X : ev_E} {l : Launch} (hG : ev_Good X) (hl : l.stackTraces = false) : ev_Snd X l ev_ms x_L_law tx_L_law 1556 (i_ii (fun a b => a + b) 1557) := s_iadd dL_law_1556
theorem s_L_law_1557 {X : ev_E} {l : Launch} (hG : ev_Good X) (hl : l.stackTraces = false) : ev_Snd X l ev_ms x_L_law tx_L_law 1557 (i_ald X ev_tI 1558) := s_iaload hG dL_law_1557
theorem s_L_law_1558 {X : ev_E} {l : Launch} (hG : ev_Good X) (hl : l.stackTraces = false) : ev_Snd X l ev_ms x_L_law tx_L_law 1558 (i_cV X 293 1 13 2 1561) := s_invokevirtual hG (mi := 293) (n := 1) (ci := 13) (r := (RX8, TX8, 5)) rfl (cal_X8_misses (Nat.le_of_ble_eq_true rfl)) w_1693 w_1694 w_1695 dL_law_1558
theorem s_L_law_1561 {X : ev_E} {l : Launch} (hG : ev_Good X) (hl : l.stackTraces = false) : ev_Snd X l ev_ms x_L_law tx_L_law 1561 (i_is 6 1563) := s_istore dL_law_1561 (Nat.le_of_ble_eq_true rfl)
theorem s_L_law_1563 {X : ev_E} {l : Launch} (hG : ev_Good X) (hl : l.stackTraces = false) : ev_Snd X l ev_ms x_L_law tx_L_law 1563 (i_goto 1742) := s_goto dL_law_1563 rfl
theorem s_L_law_1566 {X : ev_E} {l : Launch} (hG : ev_Good X) (hl : l.stackTraces = false) : ev_Snd X l ev_ms x_L_law tx_L_law 1566 (i_al 1 1567) := s_aload_n dL_law_1566 rfl
theorem s_L_law_1567 {X : ev_E} {l : Launch} (hG : ev_Good X) (hl : l.stackTraces = false) : ev_Snd X l ev_ms x_L_law tx_L_law 1567 (i_al 0 1568) := s_aload_n dL_law_1567 rfl
theorem s_L_law_1568 {X : ev_E} {l : Launch} (hG : ev_Good X) (hl : l.stackTraces = false) : ev_Snd X l ev_ms x_L_law tx_L_law 1568 (i_il 4 1570) := s_iload dL_law_1568
theorem s_L_law_1570 {X : ev_E} {l : Launch} (hG : ev_Good X) (hl : l.stackTraces = false) : ev_Snd X l ev_ms x_L_law tx_L_law 1570 (i_psh (.int (1)) 1571) := s_iconst dL_law_1570 rfl
theorem s_L_law_1571 {X : ev_E} {l : Launch} (hG : ev_Good X) (hl : l.stackTraces = false) : ev_Snd X l ev_ms x_L_law tx_L_law 1571 (i_ii (fun a b => a + b) 1572) := s_iadd dL_law_1571
theorem s_L_law_1572 {X : ev_E} {l : Launch} (hG : ev_Good X) (hl : l.stackTraces = false) : ev_Snd X l ev_ms x_L_law tx_L_law 1572 (i_ald X ev_tI 1573) := s_iaload hG dL_law_1572
theorem s_L_law_1573 {X : ev_E} {l : Launch} (hG : ev_Good X) (hl : l.stackTraces = false) : ev_Snd X l ev_ms x_L_law tx_L_law 1573 (i_al 3 1574) := s_aload_n dL_law_1573 rfl
theorem s_L_law_1574 {X : ev_E} {l : Launch} (hG : ev_Good X) (hl : l.stackTraces = false) : ev_Snd X l ev_ms x_L_law tx_L_law 1574 (i_cS 184 3 4 1577) := s_invokestaticW hG (mi := 184) (n := 3) (cal_L_hits (Nat.le_of_ble_eq_true rfl)) w_1160 w_1161 dL_law_1574
theorem s_L_law_1577 {X : ev_E} {l : Launch} (hG : ev_Good X) (hl : l.stackTraces = false) : ev_Snd X l ev_ms x_L_law tx_L_law 1577 (i_is 5 1579) := s_istore dL_law_1577 (Nat.le_of_ble_eq_true rfl)
theorem s_L_law_1579 {X : ev_E} {l : Launch} (hG : ev_Good X) (hl : l.stackTraces = false) : ev_Snd X l ev_ms x_L_law tx_L_law 1579 (i_al 2 1580) := s_aload_n dL_law_1579 rfl
theorem s_L_law_1580 {X : ev_E} {l : Launch} (hG : ev_Good X) (hl : l.stackTraces = false) : ev_Snd X l ev_ms x_L_law tx_L_law 1580 (i_al 0 1581) := s_aload_n dL_law_1580 rfl
theorem s_L_law_1581 {X : ev_E} {l : Launch} (hG : ev_Good X) (hl : l.stackTraces = false) : ev_Snd X l ev_ms x_L_law tx_L_law 1581 (i_il 4 1583) := s_iload dL_law_1581
theorem s_L_law_1583 {X : ev_E} {l : Launch} (hG : ev_Good X) (hl : l.stackTraces = false) : ev_Snd X l ev_ms x_L_law tx_L_law 1583 (i_psh (.int (1)) 1584) := s_iconst dL_law_1583 rfl
theorem s_L_law_1584 {X : ev_E} {l : Launch} (hG : ev_Good X) (hl : l.stackTraces = false) : ev_Snd X l ev_ms x_L_law tx_L_law 1584 (i_ii (fun a b => a + b) 1585) := s_iadd dL_law_1584
theorem s_L_law_1585 {X : ev_E} {l : Launch} (hG : ev_Good X) (hl : l.stackTraces = false) : ev_Snd X l ev_ms x_L_law tx_L_law 1585 (i_ald X ev_tI 1586) := s_iaload hG dL_law_1585
theorem s_L_law_1586 {X : ev_E} {l : Launch} (hG : ev_Good X) (hl : l.stackTraces = false) : ev_Snd X l ev_ms x_L_law tx_L_law 1586 (i_cV X 291 1 13 2 1589) := s_invokevirtual hG (mi := 291) (n := 1) (ci := 13) (r := (RX8, TX8, 5)) rfl (cal_X8_hits (Nat.le_of_ble_eq_true rfl)) w_1701 w_1702 w_1703 dL_law_1586
theorem s_L_law_1589 {X : ev_E} {l : Launch} (hG : ev_Good X) (hl : l.stackTraces = false) : ev_Snd X l ev_ms x_L_law tx_L_law 1589 (i_is 6 1591) := s_istore dL_law_1589 (Nat.le_of_ble_eq_true rfl)
theorem s_L_law_1591 {X : ev_E} {l : Launch} (hG : ev_Good X) (hl : l.stackTraces = false) : ev_Snd X l ev_ms x_L_law tx_L_law 1591 (i_goto 1742) := s_goto dL_law_1591 rfl
theorem s_L_law_1594 {X : ev_E} {l : Launch} (hG : ev_Good X) (hl : l.stackTraces = false) : ev_Snd X l ev_ms x_L_law tx_L_law 1594 (i_al 1 1595) := s_aload_n dL_law_1594 rfl
theorem s_L_law_1595 {X : ev_E} {l : Launch} (hG : ev_Good X) (hl : l.stackTraces = false) : ev_Snd X l ev_ms x_L_law tx_L_law 1595 (i_al 0 1596) := s_aload_n dL_law_1595 rfl
theorem s_L_law_1596 {X : ev_E} {l : Launch} (hG : ev_Good X) (hl : l.stackTraces = false) : ev_Snd X l ev_ms x_L_law tx_L_law 1596 (i_il 4 1598) := s_iload dL_law_1596
theorem s_L_law_1598 {X : ev_E} {l : Launch} (hG : ev_Good X) (hl : l.stackTraces = false) : ev_Snd X l ev_ms x_L_law tx_L_law 1598 (i_psh (.int (1)) 1599) := s_iconst dL_law_1598 rfl
theorem s_L_law_1599 {X : ev_E} {l : Launch} (hG : ev_Good X) (hl : l.stackTraces = false) : ev_Snd X l ev_ms x_L_law tx_L_law 1599 (i_ii (fun a b => a + b) 1600) := s_iadd dL_law_1599
theorem s_L_law_1600 {X : ev_E} {l : Launch} (hG : ev_Good X) (hl : l.stackTraces = false) : ev_Snd X l ev_ms x_L_law tx_L_law 1600 (i_ald X ev_tI 1601) := s_iaload hG dL_law_1600
theorem s_L_law_1601 {X : ev_E} {l : Launch} (hG : ev_Good X) (hl : l.stackTraces = false) : ev_Snd X l ev_ms x_L_law tx_L_law 1601 (i_al 3 1602) := s_aload_n dL_law_1601 rfl
theorem s_L_law_1602 {X : ev_E} {l : Launch} (hG : ev_Good X) (hl : l.stackTraces = false) : ev_Snd X l ev_ms x_L_law tx_L_law 1602 (i_cS 188 3 4 1605) := s_invokestaticW hG (mi := 188) (n := 3) (cal_L_lost (Nat.le_of_ble_eq_true rfl)) w_1167 w_1168 dL_law_1602
theorem s_L_law_1605 {X : ev_E} {l : Launch} (hG : ev_Good X) (hl : l.stackTraces = false) : ev_Snd X l ev_ms x_L_law tx_L_law 1605 (i_is 5 1607) := s_istore dL_law_1605 (Nat.le_of_ble_eq_true rfl)
theorem s_L_law_1607 {X : ev_E} {l : Launch} (hG : ev_Good X) (hl : l.stackTraces = false) : ev_Snd X l ev_ms x_L_law tx_L_law 1607 (i_al 2 1608) := s_aload_n dL_law_1607 rfl
theorem s_L_law_1608 {X : ev_E} {l : Launch} (hG : ev_Good X) (hl : l.stackTraces = false) : ev_Snd X l ev_ms x_L_law tx_L_law 1608 (i_al 0 1609) := s_aload_n dL_law_1608 rfl
theorem s_L_law_1609 {X : ev_E} {l : Launch} (hG : ev_Good X) (hl : l.stackTraces = false) : ev_Snd X l ev_ms x_L_law tx_L_law 1609 (i_il 4 1611) := s_iload dL_law_1609
theorem s_L_law_1611 {X : ev_E} {l : Launch} (hG : ev_Good X) (hl : l.stackTraces = false) : ev_Snd X l ev_ms x_L_law tx_L_law 1611 (i_psh (.int (1)) 1612) := s_iconst dL_law_1611 rfl
theorem s_L_law_1612 {X : ev_E} {l : Launch} (hG : ev_Good X) (hl : l.stackTraces = false) : ev_Snd X l ev_ms x_L_law tx_L_law 1612 (i_ii (fun a b => a + b) 1613) := s_iadd dL_law_1612
theorem s_L_law_1613 {X : ev_E} {l : Launch} (hG : ev_Good X) (hl : l.stackTraces = false) : ev_Snd X l ev_ms x_L_law tx_L_law 1613 (i_ald X ev_tI 1614) := s_iaload hG dL_law_1613
theorem s_L_law_1614 {X : ev_E} {l : Launch} (hG : ev_Good X) (hl : l.stackTraces = false) : ev_Snd X l ev_ms x_L_law tx_L_law 1614 (i_cV X 292 1 13 2 1617) := s_invokevirtual hG (mi := 292) (n := 1) (ci := 13) (r := (RX8, TX8, 5)) rfl (cal_X8_lost (Nat.le_of_ble_eq_true rfl)) w_1705 w_1706 w_1707 dL_law_1614
theorem s_L_law_1617 {X : ev_E} {l : Launch} (hG : ev_Good X) (hl : l.stackTraces = false) : ev_Snd X l ev_ms x_L_law tx_L_law 1617 (i_is 6 1619) := s_istore dL_law_1617 (Nat.le_of_ble_eq_true rfl)
theorem s_L_law_1619 {X : ev_E} {l : Launch} (hG : ev_Good X) (hl : l.stackTraces = false) : ev_Snd X l ev_ms x_L_law tx_L_law 1619 (i_goto 1742) := s_goto dL_law_1619 rfl
theorem s_L_law_1622 {X : ev_E} {l : Launch} (hG : ev_Good X) (hl : l.stackTraces = false) : ev_Snd X l ev_ms x_L_law tx_L_law 1622 (i_al 1 1623) := s_aload_n dL_law_1622 rfl
theorem s_L_law_1623 {X : ev_E} {l : Launch} (hG : ev_Good X) (hl : l.stackTraces = false) : ev_Snd X l ev_ms x_L_law tx_L_law 1623 (i_al 0 1624) := s_aload_n dL_law_1623 rfl
theorem s_L_law_1624 {X : ev_E} {l : Launch} (hG : ev_Good X) (hl : l.stackTraces = false) : ev_Snd X l ev_ms x_L_law tx_L_law 1624 (i_il 4 1626) := s_iload dL_law_1624
theorem s_L_law_1626 {X : ev_E} {l : Launch} (hG : ev_Good X) (hl : l.stackTraces = false) : ev_Snd X l ev_ms x_L_law tx_L_law 1626 (i_psh (.int (1)) 1627) := s_iconst dL_law_1626 rfl
theorem s_L_law_1627 {X : ev_E} {l : Launch} (hG : ev_Good X) (hl : l.stackTraces = false) : ev_Snd X l ev_ms x_L_law tx_L_law 1627 (i_ii (fun a b => a + b) 1628) := s_iadd dL_law_1627
theorem s_L_law_1628 {X : ev_E} {l : Launch} (hG : ev_Good X) (hl : l.stackTraces = false) : ev_Snd X l ev_ms x_L_law tx_L_law 1628 (i_ald X ev_tI 1629) := s_iaload hG dL_law_1628
theorem s_L_law_1629 {X : ev_E} {l : Launch} (hG : ev_Good X) (hl : l.stackTraces = false) : ev_Snd X l ev_ms x_L_law tx_L_law 1629 (i_cV X 114 1 10 2 1632) := s_invokevirtual hG (mi := 114) (n := 1) (ci := 10) (r := (RX5, TX5, 7)) rfl (cal_X5_withDepth (Nat.le_of_ble_eq_true rfl)) w_610 w_611 w_612 dL_law_1629
theorem s_L_law_1632 {X : ev_E} {l : Launch} (hG : ev_Good X) (hl : l.stackTraces = false) : ev_Snd X l ev_ms x_L_law tx_L_law 1632 (i_pop 1633) := s_pop dL_law_1632
theorem s_L_law_1633 {X : ev_E} {l : Launch} (hG : ev_Good X) (hl : l.stackTraces = false) : ev_Snd X l ev_ms x_L_law tx_L_law 1633 (i_al 2 1634) := s_aload_n dL_law_1633 rfl
theorem s_L_law_1634 {X : ev_E} {l : Launch} (hG : ev_Good X) (hl : l.stackTraces = false) : ev_Snd X l ev_ms x_L_law tx_L_law 1634 (i_al 0 1635) := s_aload_n dL_law_1634 rfl
theorem s_L_law_1635 {X : ev_E} {l : Launch} (hG : ev_Good X) (hl : l.stackTraces = false) : ev_Snd X l ev_ms x_L_law tx_L_law 1635 (i_il 4 1637) := s_iload dL_law_1635
theorem s_L_law_1637 {X : ev_E} {l : Launch} (hG : ev_Good X) (hl : l.stackTraces = false) : ev_Snd X l ev_ms x_L_law tx_L_law 1637 (i_psh (.int (1)) 1638) := s_iconst dL_law_1637 rfl
theorem s_L_law_1638 {X : ev_E} {l : Launch} (hG : ev_Good X) (hl : l.stackTraces = false) : ev_Snd X l ev_ms x_L_law tx_L_law 1638 (i_ii (fun a b => a + b) 1639) := s_iadd dL_law_1638
theorem s_L_law_1639 {X : ev_E} {l : Launch} (hG : ev_Good X) (hl : l.stackTraces = false) : ev_Snd X l ev_ms x_L_law tx_L_law 1639 (i_ald X ev_tI 1640) := s_iaload hG dL_law_1639
theorem s_L_law_1640 {X : ev_E} {l : Launch} (hG : ev_Good X) (hl : l.stackTraces = false) : ev_Snd X l ev_ms x_L_law tx_L_law 1640 (i_cV X 272 1 13 4 1643) := s_invokevirtual hG (mi := 272) (n := 1) (ci := 13) (r := (RX8, TX8, 5)) rfl (cal_X8_withDepth (Nat.le_of_ble_eq_true rfl)) w_1713 w_1714 w_1715 dL_law_1640
theorem s_L_law_1643 {X : ev_E} {l : Launch} (hG : ev_Good X) (hl : l.stackTraces = false) : ev_Snd X l ev_ms x_L_law tx_L_law 1643 (i_pop 1644) := s_pop dL_law_1643
theorem s_L_law_1644 {X : ev_E} {l : Launch} (hG : ev_Good X) (hl : l.stackTraces = false) : ev_Snd X l ev_ms x_L_law tx_L_law 1644 (i_goto 1742) := s_goto dL_law_1644 rfl
theorem s_L_law_1647 {X : ev_E} {l : Launch} (hG : ev_Good X) (hl : l.stackTraces = false) : ev_Snd X l ev_ms x_L_law tx_L_law 1647 (i_al 1 1648) := s_aload_n dL_law_1647 rfl
theorem s_L_law_1648 {X : ev_E} {l : Launch} (hG : ev_Good X) (hl : l.stackTraces = false) : ev_Snd X l ev_ms x_L_law tx_L_law 1648 (i_al 0 1649) := s_aload_n dL_law_1648 rfl
theorem s_L_law_1649 {X : ev_E} {l : Launch} (hG : ev_Good X) (hl : l.stackTraces = false) : ev_Snd X l ev_ms x_L_law tx_L_law 1649 (i_il 4 1651) := s_iload dL_law_1649
theorem s_L_law_1651 {X : ev_E} {l : Launch} (hG : ev_Good X) (hl : l.stackTraces = false) : ev_Snd X l ev_ms x_L_law tx_L_law 1651 (i_psh (.int (1)) 1652) := s_iconst dL_law_1651 rfl
theorem s_L_law_1652 {X : ev_E} {l : Launch} (hG : ev_Good X) (hl : l.stackTraces = false) : ev_Snd X l ev_ms x_L_law tx_L_law 1652 (i_ii (fun a b => a + b) 1653) := s_iadd dL_law_1652
theorem s_L_law_1653 {X : ev_E} {l : Launch} (hG : ev_Good X) (hl : l.stackTraces = false) : ev_Snd X l ev_ms x_L_law tx_L_law 1653 (i_ald X ev_tI 1654) := s_iaload hG dL_law_1653
theorem s_L_law_1654 {X : ev_E} {l : Launch} (hG : ev_Good X) (hl : l.stackTraces = false) : ev_Snd X l ev_ms x_L_law tx_L_law 1654 (i_al 3 1655) := s_aload_n dL_law_1654 rfl
theorem s_L_law_1655 {X : ev_E} {l : Launch} (hG : ev_Good X) (hl : l.stackTraces = false) : ev_Snd X l ev_ms x_L_law tx_L_law 1655 (i_cS 180 3 4 1658) := s_invokestaticW hG (mi := 180) (n := 3) (cal_L_best (Nat.le_of_ble_eq_true rfl)) w_1171 w_1172 dL_law_1655
theorem s_L_law_1658 {X : ev_E} {l : Launch} (hG : ev_Good X) (hl : l.stackTraces = false) : ev_Snd X l ev_ms x_L_law tx_L_law 1658 (i_is 5 1660) := s_istore dL_law_1658 (Nat.le_of_ble_eq_true rfl)
theorem s_L_law_1660 {X : ev_E} {l : Launch} (hG : ev_Good X) (hl : l.stackTraces = false) : ev_Snd X l ev_ms x_L_law tx_L_law 1660 (i_al 2 1661) := s_aload_n dL_law_1660 rfl
theorem s_L_law_1661 {X : ev_E} {l : Launch} (hG : ev_Good X) (hl : l.stackTraces = false) : ev_Snd X l ev_ms x_L_law tx_L_law 1661 (i_al 0 1662) := s_aload_n dL_law_1661 rfl
theorem s_L_law_1662 {X : ev_E} {l : Launch} (hG : ev_Good X) (hl : l.stackTraces = false) : ev_Snd X l ev_ms x_L_law tx_L_law 1662 (i_il 4 1664) := s_iload dL_law_1662
theorem s_L_law_1664 {X : ev_E} {l : Launch} (hG : ev_Good X) (hl : l.stackTraces = false) : ev_Snd X l ev_ms x_L_law tx_L_law 1664 (i_psh (.int (1)) 1665) := s_iconst dL_law_1664 rfl
theorem s_L_law_1665 {X : ev_E} {l : Launch} (hG : ev_Good X) (hl : l.stackTraces = false) : ev_Snd X l ev_ms x_L_law tx_L_law 1665 (i_ii (fun a b => a + b) 1666) := s_iadd dL_law_1665
theorem s_L_law_1666 {X : ev_E} {l : Launch} (hG : ev_Good X) (hl : l.stackTraces = false) : ev_Snd X l ev_ms x_L_law tx_L_law 1666 (i_ald X ev_tI 1667) := s_iaload hG dL_law_1666
theorem s_L_law_1667 {X : ev_E} {l : Launch} (hG : ev_Good X) (hl : l.stackTraces = false) : ev_Snd X l ev_ms x_L_law tx_L_law 1667 (i_cV X 256 1 13 2 1670) := s_invokevirtual hG (mi := 256) (n := 1) (ci := 13) (r := (RX8, TX8, 5)) rfl (cal_X8_best (Nat.le_of_ble_eq_true rfl)) w_1717 w_1718 w_1719 dL_law_1667
theorem s_L_law_1670 {X : ev_E} {l : Launch} (hG : ev_Good X) (hl : l.stackTraces = false) : ev_Snd X l ev_ms x_L_law tx_L_law 1670 (i_is 6 1672) := s_istore dL_law_1670 (Nat.le_of_ble_eq_true rfl)
theorem s_L_law_1672 {X : ev_E} {l : Launch} (hG : ev_Good X) (hl : l.stackTraces = false) : ev_Snd X l ev_ms x_L_law tx_L_law 1672 (i_goto 1742) := s_goto dL_law_1672 rfl
theorem s_L_law_1675 {X : ev_E} {l : Launch} (hG : ev_Good X) (hl : l.stackTraces = false) : ev_Snd X l ev_ms x_L_law tx_L_law 1675 (i_al 1 1676) := s_aload_n dL_law_1675 rfl
theorem s_L_law_1676 {X : ev_E} {l : Launch} (hG : ev_Good X) (hl : l.stackTraces = false) : ev_Snd X l ev_ms x_L_law tx_L_law 1676 (i_al 0 1677) := s_aload_n dL_law_1676 rfl
theorem s_L_law_1677 {X : ev_E} {l : Launch} (hG : ev_Good X) (hl : l.stackTraces = false) : ev_Snd X l ev_ms x_L_law tx_L_law 1677 (i_il 4 1679) := s_iload dL_law_1677
theorem s_L_law_1679 {X : ev_E} {l : Launch} (hG : ev_Good X) (hl : l.stackTraces = false) : ev_Snd X l ev_ms x_L_law tx_L_law 1679 (i_psh (.int (1)) 1680) := s_iconst dL_law_1679 rfl
theorem s_L_law_1680 {X : ev_E} {l : Launch} (hG : ev_Good X) (hl : l.stackTraces = false) : ev_Snd X l ev_ms x_L_law tx_L_law 1680 (i_ii (fun a b => a + b) 1681) := s_iadd dL_law_1680
theorem s_L_law_1681 {X : ev_E} {l : Launch} (hG : ev_Good X) (hl : l.stackTraces = false) : ev_Snd X l ev_ms x_L_law tx_L_law 1681 (i_ald X ev_tI 1682) := s_iaload hG dL_law_1681
theorem s_L_law_1682 {X : ev_E} {l : Launch} (hG : ev_Good X) (hl : l.stackTraces = false) : ev_Snd X l ev_ms x_L_law tx_L_law 1682 (i_al 3 1683) := s_aload_n dL_law_1682 rfl
theorem s_L_law_1683 {X : ev_E} {l : Launch} (hG : ev_Good X) (hl : l.stackTraces = false) : ev_Snd X l ev_ms x_L_law tx_L_law 1683 (i_cS 134 3 4 1686) := s_invokestaticW hG (mi := 134) (n := 3) (cal_L_house (Nat.le_of_ble_eq_true rfl)) w_1175 w_1176 dL_law_1683
theorem s_L_law_1686 {X : ev_E} {l : Launch} (hG : ev_Good X) (hl : l.stackTraces = false) : ev_Snd X l ev_ms x_L_law tx_L_law 1686 (i_is 5 1688) := s_istore dL_law_1686 (Nat.le_of_ble_eq_true rfl)
theorem s_L_law_1688 {X : ev_E} {l : Launch} (hG : ev_Good X) (hl : l.stackTraces = false) : ev_Snd X l ev_ms x_L_law tx_L_law 1688 (i_al 2 1689) := s_aload_n dL_law_1688 rfl
theorem s_L_law_1689 {X : ev_E} {l : Launch} (hG : ev_Good X) (hl : l.stackTraces = false) : ev_Snd X l ev_ms x_L_law tx_L_law 1689 (i_al 0 1690) := s_aload_n dL_law_1689 rfl
theorem s_L_law_1690 {X : ev_E} {l : Launch} (hG : ev_Good X) (hl : l.stackTraces = false) : ev_Snd X l ev_ms x_L_law tx_L_law 1690 (i_il 4 1692) := s_iload dL_law_1690
theorem s_L_law_1692 {X : ev_E} {l : Launch} (hG : ev_Good X) (hl : l.stackTraces = false) : ev_Snd X l ev_ms x_L_law tx_L_law 1692 (i_psh (.int (1)) 1693) := s_iconst dL_law_1692 rfl
theorem s_L_law_1693 {X : ev_E} {l : Launch} (hG : ev_Good X) (hl : l.stackTraces = false) : ev_Snd X l ev_ms x_L_law tx_L_law 1693 (i_ii (fun a b => a + b) 1694) := s_iadd dL_law_1693
theorem s_L_law_1694 {X : ev_E} {l : Launch} (hG : ev_Good X) (hl : l.stackTraces = false) : ev_Snd X l ev_ms x_L_law tx_L_law 1694 (i_ald X ev_tI 1695) := s_iaload hG dL_law_1694
theorem s_L_law_1695 {X : ev_E} {l : Launch} (hG : ev_Good X) (hl : l.stackTraces = false) : ev_Snd X l ev_ms x_L_law tx_L_law 1695 (i_cV X 268 1 13 2 1698) := s_invokevirtual hG (mi := 268) (n := 1) (ci := 13) (r := (RX8, TX8, 5)) rfl (cal_X8_house (Nat.le_of_ble_eq_true rfl)) w_1725 w_1726 w_1727 dL_law_1695
theorem s_L_law_1698 {X : ev_E} {l : Launch} (hG : ev_Good X) (hl : l.stackTraces = false) : ev_Snd X l ev_ms x_L_law tx_L_law 1698 (i_is 6 1700) := s_istore dL_law_1698 (Nat.le_of_ble_eq_true rfl)
theorem s_L_law_1700 {X : ev_E} {l : Launch} (hG : ev_Good X) (hl : l.stackTraces = false) : ev_Snd X l ev_ms x_L_law tx_L_law 1700 (i_goto 1742) := s_goto dL_law_1700 rfl
theorem s_L_law_1703 {X : ev_E} {l : Launch} (hG : ev_Good X) (hl : l.stackTraces = false) : ev_Snd X l ev_ms x_L_law tx_L_law 1703 (i_al 1 1704) := s_aload_n dL_law_1703 rfl
theorem s_L_law_1704 {X : ev_E} {l : Launch} (hG : ev_Good X) (hl : l.stackTraces = false) : ev_Snd X l ev_ms x_L_law tx_L_law 1704 (i_cV X 55 0 10 1 1707) := s_invokevirtual hG (mi := 55) (n := 0) (ci := 10) (r := (RX5, TX5, 7)) rfl (cal_X5_knock (Nat.le_of_ble_eq_true rfl)) w_618 w_619 w_620 dL_law_1704
theorem s_L_law_1707 {X : ev_E} {l : Launch} (hG : ev_Good X) (hl : l.stackTraces = false) : ev_Snd X l ev_ms x_L_law tx_L_law 1707 (i_pop 1708) := s_pop dL_law_1707
theorem s_L_law_1708 {X : ev_E} {l : Launch} (hG : ev_Good X) (hl : l.stackTraces = false) : ev_Snd X l ev_ms x_L_law tx_L_law 1708 (i_al 2 1709) := s_aload_n dL_law_1708 rfl
theorem s_L_law_1709 {X : ev_E} {l : Launch} (hG : ev_Good X) (hl : l.stackTraces = false) : ev_Snd X l ev_ms x_L_law tx_L_law 1709 (i_cV X 68 0 13 1 1712) := s_invokevirtual hG (mi := 68) (n := 0) (ci := 13) (r := (RX8, TX8, 5)) rfl (cal_X8_knock (Nat.le_of_ble_eq_true rfl)) w_1733 w_1734 w_1735 dL_law_1709
theorem s_L_law_1712 {X : ev_E} {l : Launch} (hG : ev_Good X) (hl : l.stackTraces = false) : ev_Snd X l ev_ms x_L_law tx_L_law 1712 (i_pop 1713) := s_pop dL_law_1712
theorem s_L_law_1713 {X : ev_E} {l : Launch} (hG : ev_Good X) (hl : l.stackTraces = false) : ev_Snd X l ev_ms x_L_law tx_L_law 1713 (i_goto 1742) := s_goto dL_law_1713 rfl
theorem s_L_law_1716 {X : ev_E} {l : Launch} (hG : ev_Good X) (hl : l.stackTraces = false) : ev_Snd X l ev_ms x_L_law tx_L_law 1716 (i_al 1 1717) := s_aload_n dL_law_1716 rfl
theorem s_L_law_1717 {X : ev_E} {l : Launch} (hG : ev_Good X) (hl : l.stackTraces = false) : ev_Snd X l ev_ms x_L_law tx_L_law 1717 (i_cV X 202 0 10 2 1720) := s_invokevirtual hG (mi := 202) (n := 0) (ci := 10) (r := (RX5, TX5, 7)) rfl (cal_X5_isSound (Nat.le_of_ble_eq_true rfl)) w_622 w_623 w_624 dL_law_1717
theorem s_L_law_1720 {X : ev_E} {l : Launch} (hG : ev_Good X) (hl : l.stackTraces = false) : ev_Snd X l ev_ms x_L_law tx_L_law 1720 (i_pop 1721) := s_pop dL_law_1720
theorem s_L_law_1721 {X : ev_E} {l : Launch} (hG : ev_Good X) (hl : l.stackTraces = false) : ev_Snd X l ev_ms x_L_law tx_L_law 1721 (i_al 2 1722) := s_aload_n dL_law_1721 rfl
theorem s_L_law_1722 {X : ev_E} {l : Launch} (hG : ev_Good X) (hl : l.stackTraces = false) : ev_Snd X l ev_ms x_L_law tx_L_law 1722 (i_cV X 66 0 13 1 1725) := s_invokevirtual hG (mi := 66) (n := 0) (ci := 13) (r := (RX8, TX8, 5)) rfl (cal_X8_isSound (Nat.le_of_ble_eq_true rfl)) w_1737 w_1738 w_1739 dL_law_1722
theorem s_L_law_1725 {X : ev_E} {l : Launch} (hG : ev_Good X) (hl : l.stackTraces = false) : ev_Snd X l ev_ms x_L_law tx_L_law 1725 (i_pop 1726) := s_pop dL_law_1725
theorem s_L_law_1726 {X : ev_E} {l : Launch} (hG : ev_Good X) (hl : l.stackTraces = false) : ev_Snd X l ev_ms x_L_law tx_L_law 1726 (i_goto 1742) := s_goto dL_law_1726 rfl
theorem s_L_law_1729 {X : ev_E} {l : Launch} (hG : ev_Good X) (hl : l.stackTraces = false) : ev_Snd X l ev_ms x_L_law tx_L_law 1729 (i_al 1 1730) := s_aload_n dL_law_1729 rfl
theorem s_L_law_1730 {X : ev_E} {l : Launch} (hG : ev_Good X) (hl : l.stackTraces = false) : ev_Snd X l ev_ms x_L_law tx_L_law 1730 (i_cV X 227 0 10 4 1733) := s_invokevirtual hG (mi := 227) (n := 0) (ci := 10) (r := (RX5, TX5, 7)) rfl (cal_X5_digest (Nat.le_of_ble_eq_true rfl)) w_677 w_678 w_679 dL_law_1730
theorem s_L_law_1733 {X : ev_E} {l : Launch} (hG : ev_Good X) (hl : l.stackTraces = false) : ev_Snd X l ev_ms x_L_law tx_L_law 1733 (i_pop2l 1734) := s_pop2 dL_law_1733
theorem s_L_law_1734 {X : ev_E} {l : Launch} (hG : ev_Good X) (hl : l.stackTraces = false) : ev_Snd X l ev_ms x_L_law tx_L_law 1734 (i_al 2 1735) := s_aload_n dL_law_1734 rfl
theorem s_L_law_1735 {X : ev_E} {l : Launch} (hG : ev_Good X) (hl : l.stackTraces = false) : ev_Snd X l ev_ms x_L_law tx_L_law 1735 (i_cV X 302 0 13 5 1738) := s_invokevirtual hG (mi := 302) (n := 0) (ci := 13) (r := (RX8, TX8, 5)) rfl (cal_X8_digest (Nat.le_of_ble_eq_true rfl)) w_1741 w_1742 w_1743 dL_law_1735
theorem s_L_law_1738 {X : ev_E} {l : Launch} (hG : ev_Good X) (hl : l.stackTraces = false) : ev_Snd X l ev_ms x_L_law tx_L_law 1738 (i_pop2l 1739) := s_pop2 dL_law_1738
theorem s_L_law_1739 {X : ev_E} {l : Launch} (hG : ev_Good X) (hl : l.stackTraces = false) : ev_Snd X l ev_ms x_L_law tx_L_law 1739 (i_goto 1742) := s_goto dL_law_1739 rfl
theorem s_L_law_1742 {X : ev_E} {l : Launch} (hG : ev_Good X) (hl : l.stackTraces = false) : ev_Snd X l ev_ms x_L_law tx_L_law 1742 (i_inc 4 (4) 1745) := s_iinc dL_law_1742 rfl (Nat.le_of_ble_eq_true rfl)
theorem s_L_law_1745 {X : ev_E} {l : Launch} (hG : ev_Good X) (hl : l.stackTraces = false) : ev_Snd X l ev_ms x_L_law tx_L_law 1745 (i_goto 27) := s_goto dL_law_1745 rfl
theorem s_L_law_1748 {X : ev_E} {l : Launch} (hG : ev_Good X) (hl : l.stackTraces = false) : ev_Snd X l ev_ms x_L_law tx_L_law 1748 (i_psh (.int (1)) 1749) := s_iconst dL_law_1748 rfl
theorem s_L_law_1749 {X : ev_E} {l : Launch} (hG : ev_Good X) (hl : l.stackTraces = false) : ev_Snd X l ev_ms x_L_law tx_L_law 1749 (i_ir (.boolean)) := s_ireturn rfl dL_law_1749
theorem sa_L_law_c0 {X : ev_E} {l : Launch} (hG : ev_Good X) (hl : l.stackTraces = false) : ∀ q ∈ tb_L_law_c0 X, ev_Snd X l ev_ms x_L_law tx_L_law q.1 q.2 := by
  intro q hq
  unfold tb_L_law_c0 at hq
  simp only [List.mem_cons, List.not_mem_nil, or_false] at hq
  rcases hq with rfl | rfl | rfl | rfl | rfl | rfl | rfl | rfl | rfl | rfl | rfl | rfl | rfl | rfl | rfl | rfl | rfl | rfl | rfl | rfl | rfl | rfl | rfl | rfl | rfl | rfl | rfl | rfl | rfl | rfl | rfl | rfl | rfl | rfl | rfl | rfl | rfl | rfl | rfl | rfl | rfl | rfl | rfl | rfl | rfl | rfl | rfl | rfl | rfl | rfl | rfl | rfl | rfl | rfl | rfl | rfl | rfl | rfl | rfl | rfl
  · exact s_L_law_0 hG hl
  · exact s_L_law_3 hG hl
  · exact s_L_law_4 hG hl
  · exact s_L_law_7 hG hl
  · exact s_L_law_8 hG hl
  · exact s_L_law_11 hG hl
  · exact s_L_law_12 hG hl
  · exact s_L_law_15 hG hl
  · exact s_L_law_16 hG hl
  · exact s_L_law_19 hG hl
  · exact s_L_law_20 hG hl
  · exact s_L_law_23 hG hl
  · exact s_L_law_24 hG hl
  · exact s_L_law_25 hG hl
  · exact s_L_law_27 hG hl
  · exact s_L_law_29 hG hl
  · exact s_L_law_30 hG hl
  · exact s_L_law_31 hG hl
  · exact s_L_law_32 hG hl
  · exact s_L_law_33 hG hl
  · exact s_L_law_36 hG hl
  · exact s_L_law_37 hG hl
  · exact s_L_law_39 hG hl
  · exact s_L_law_40 hG hl
  · exact s_L_law_42 hG hl
  · exact s_L_law_43 hG hl
  · exact s_L_law_236 hG hl
  · exact s_L_law_237 hG hl
  · exact s_L_law_238 hG hl
  · exact s_L_law_240 hG hl
  · exact s_L_law_241 hG hl
  · exact s_L_law_242 hG hl
  · exact s_L_law_243 hG hl
  · exact s_L_law_244 hG hl
  · exact s_L_law_246 hG hl
  · exact s_L_law_247 hG hl
  · exact s_L_law_248 hG hl
  · exact s_L_law_249 hG hl
  · exact s_L_law_252 hG hl
  · exact s_L_law_253 hG hl
  · exact s_L_law_256 hG hl
  · exact s_L_law_257 hG hl
  · exact s_L_law_258 hG hl
  · exact s_L_law_260 hG hl
  · exact s_L_law_261 hG hl
  · exact s_L_law_262 hG hl
  · exact s_L_law_263 hG hl
  · exact s_L_law_264 hG hl
  · exact s_L_law_267 hG hl
  · exact s_L_law_269 hG hl
  · exact s_L_law_270 hG hl
  · exact s_L_law_271 hG hl
  · exact s_L_law_273 hG hl
  · exact s_L_law_274 hG hl
  · exact s_L_law_275 hG hl
  · exact s_L_law_276 hG hl
  · exact s_L_law_277 hG hl
  · exact s_L_law_279 hG hl
  · exact s_L_law_280 hG hl
  · exact s_L_law_281 hG hl
theorem sa_L_law_c1 {X : ev_E} {l : Launch} (hG : ev_Good X) (hl : l.stackTraces = false) : ∀ q ∈ tb_L_law_c1 X, ev_Snd X l ev_ms x_L_law tx_L_law q.1 q.2 := by
  intro q hq
  unfold tb_L_law_c1 at hq
  simp only [List.mem_cons, List.not_mem_nil, or_false] at hq
  rcases hq with rfl | rfl | rfl | rfl | rfl | rfl | rfl | rfl | rfl | rfl | rfl | rfl | rfl | rfl | rfl | rfl | rfl | rfl | rfl | rfl | rfl | rfl | rfl | rfl | rfl | rfl | rfl | rfl | rfl | rfl | rfl | rfl | rfl | rfl | rfl | rfl | rfl | rfl | rfl | rfl | rfl | rfl | rfl | rfl | rfl | rfl | rfl | rfl | rfl | rfl | rfl | rfl | rfl | rfl | rfl | rfl | rfl | rfl | rfl | rfl
  · exact s_L_law_282 hG hl
  · exact s_L_law_285 hG hl
  · exact s_L_law_286 hG hl
  · exact s_L_law_289 hG hl
  · exact s_L_law_290 hG hl
  · exact s_L_law_291 hG hl
  · exact s_L_law_293 hG hl
  · exact s_L_law_294 hG hl
  · exact s_L_law_295 hG hl
  · exact s_L_law_296 hG hl
  · exact s_L_law_299 hG hl
  · exact s_L_law_301 hG hl
  · exact s_L_law_304 hG hl
  · exact s_L_law_305 hG hl
  · exact s_L_law_306 hG hl
  · exact s_L_law_308 hG hl
  · exact s_L_law_309 hG hl
  · exact s_L_law_310 hG hl
  · exact s_L_law_311 hG hl
  · exact s_L_law_312 hG hl
  · exact s_L_law_314 hG hl
  · exact s_L_law_315 hG hl
  · exact s_L_law_316 hG hl
  · exact s_L_law_317 hG hl
  · exact s_L_law_318 hG hl
  · exact s_L_law_320 hG hl
  · exact s_L_law_321 hG hl
  · exact s_L_law_322 hG hl
  · exact s_L_law_323 hG hl
  · exact s_L_law_324 hG hl
  · exact s_L_law_327 hG hl
  · exact s_L_law_329 hG hl
  · exact s_L_law_330 hG hl
  · exact s_L_law_331 hG hl
  · exact s_L_law_333 hG hl
  · exact s_L_law_334 hG hl
  · exact s_L_law_335 hG hl
  · exact s_L_law_336 hG hl
  · exact s_L_law_337 hG hl
  · exact s_L_law_339 hG hl
  · exact s_L_law_340 hG hl
  · exact s_L_law_341 hG hl
  · exact s_L_law_342 hG hl
  · exact s_L_law_343 hG hl
  · exact s_L_law_345 hG hl
  · exact s_L_law_346 hG hl
  · exact s_L_law_347 hG hl
  · exact s_L_law_348 hG hl
  · exact s_L_law_351 hG hl
  · exact s_L_law_353 hG hl
  · exact s_L_law_356 hG hl
  · exact s_L_law_357 hG hl
  · exact s_L_law_358 hG hl
  · exact s_L_law_360 hG hl
  · exact s_L_law_361 hG hl
  · exact s_L_law_362 hG hl
  · exact s_L_law_363 hG hl
  · exact s_L_law_364 hG hl
  · exact s_L_law_366 hG hl
  · exact s_L_law_367 hG hl
theorem sa_L_law_c2 {X : ev_E} {l : Launch} (hG : ev_Good X) (hl : l.stackTraces = false) : ∀ q ∈ tb_L_law_c2 X, ev_Snd X l ev_ms x_L_law tx_L_law q.1 q.2 := by
  intro q hq
  unfold tb_L_law_c2 at hq
  simp only [List.mem_cons, List.not_mem_nil, or_false] at hq
  rcases hq with rfl | rfl | rfl | rfl | rfl | rfl | rfl | rfl | rfl | rfl | rfl | rfl | rfl | rfl | rfl | rfl | rfl | rfl | rfl | rfl | rfl | rfl | rfl | rfl | rfl | rfl | rfl | rfl | rfl | rfl | rfl | rfl | rfl | rfl | rfl | rfl | rfl | rfl | rfl | rfl | rfl | rfl | rfl | rfl | rfl | rfl | rfl | rfl | rfl | rfl | rfl | rfl | rfl | rfl | rfl | rfl | rfl | rfl | rfl | rfl
  · exact s_L_law_368 hG hl
  · exact s_L_law_369 hG hl
  · exact s_L_law_370 hG hl
  · exact s_L_law_372 hG hl
  · exact s_L_law_373 hG hl
  · exact s_L_law_374 hG hl
  · exact s_L_law_375 hG hl
  · exact s_L_law_376 hG hl
  · exact s_L_law_379 hG hl
  · exact s_L_law_381 hG hl
  · exact s_L_law_382 hG hl
  · exact s_L_law_383 hG hl
  · exact s_L_law_385 hG hl
  · exact s_L_law_386 hG hl
  · exact s_L_law_387 hG hl
  · exact s_L_law_388 hG hl
  · exact s_L_law_389 hG hl
  · exact s_L_law_391 hG hl
  · exact s_L_law_392 hG hl
  · exact s_L_law_393 hG hl
  · exact s_L_law_394 hG hl
  · exact s_L_law_395 hG hl
  · exact s_L_law_397 hG hl
  · exact s_L_law_398 hG hl
  · exact s_L_law_399 hG hl
  · exact s_L_law_400 hG hl
  · exact s_L_law_403 hG hl
  · exact s_L_law_405 hG hl
  · exact s_L_law_408 hG hl
  · exact s_L_law_409 hG hl
  · exact s_L_law_410 hG hl
  · exact s_L_law_412 hG hl
  · exact s_L_law_413 hG hl
  · exact s_L_law_414 hG hl
  · exact s_L_law_415 hG hl
  · exact s_L_law_416 hG hl
  · exact s_L_law_418 hG hl
  · exact s_L_law_419 hG hl
  · exact s_L_law_420 hG hl
  · exact s_L_law_421 hG hl
  · exact s_L_law_422 hG hl
  · exact s_L_law_425 hG hl
  · exact s_L_law_427 hG hl
  · exact s_L_law_428 hG hl
  · exact s_L_law_429 hG hl
  · exact s_L_law_431 hG hl
  · exact s_L_law_432 hG hl
  · exact s_L_law_433 hG hl
  · exact s_L_law_434 hG hl
  · exact s_L_law_435 hG hl
  · exact s_L_law_437 hG hl
  · exact s_L_law_438 hG hl
  · exact s_L_law_439 hG hl
  · exact s_L_law_440 hG hl
  · exact s_L_law_443 hG hl
  · exact s_L_law_445 hG hl
  · exact s_L_law_448 hG hl
  · exact s_L_law_449 hG hl
  · exact s_L_law_450 hG hl
  · exact s_L_law_452 hG hl
theorem sa_L_law_c3 {X : ev_E} {l : Launch} (hG : ev_Good X) (hl : l.stackTraces = false) : ∀ q ∈ tb_L_law_c3 X, ev_Snd X l ev_ms x_L_law tx_L_law q.1 q.2 := by
  intro q hq
  unfold tb_L_law_c3 at hq
  simp only [List.mem_cons, List.not_mem_nil, or_false] at hq
  rcases hq with rfl | rfl | rfl | rfl | rfl | rfl | rfl | rfl | rfl | rfl | rfl | rfl | rfl | rfl | rfl | rfl | rfl | rfl | rfl | rfl | rfl | rfl | rfl | rfl | rfl | rfl | rfl | rfl | rfl | rfl | rfl | rfl | rfl | rfl | rfl | rfl | rfl | rfl | rfl | rfl | rfl | rfl | rfl | rfl | rfl | rfl | rfl | rfl | rfl | rfl | rfl | rfl | rfl | rfl | rfl | rfl | rfl | rfl | rfl | rfl
  · exact s_L_law_453 hG hl
  · exact s_L_law_454 hG hl
  · exact s_L_law_455 hG hl
  · exact s_L_law_456 hG hl
  · exact s_L_law_458 hG hl
  · exact s_L_law_459 hG hl
  · exact s_L_law_460 hG hl
  · exact s_L_law_461 hG hl
  · exact s_L_law_462 hG hl
  · exact s_L_law_464 hG hl
  · exact s_L_law_465 hG hl
  · exact s_L_law_466 hG hl
  · exact s_L_law_467 hG hl
  · exact s_L_law_468 hG hl
  · exact s_L_law_471 hG hl
  · exact s_L_law_473 hG hl
  · exact s_L_law_474 hG hl
  · exact s_L_law_475 hG hl
  · exact s_L_law_477 hG hl
  · exact s_L_law_478 hG hl
  · exact s_L_law_479 hG hl
  · exact s_L_law_480 hG hl
  · exact s_L_law_481 hG hl
  · exact s_L_law_483 hG hl
  · exact s_L_law_484 hG hl
  · exact s_L_law_485 hG hl
  · exact s_L_law_486 hG hl
  · exact s_L_law_487 hG hl
  · exact s_L_law_489 hG hl
  · exact s_L_law_490 hG hl
  · exact s_L_law_491 hG hl
  · exact s_L_law_492 hG hl
  · exact s_L_law_495 hG hl
  · exact s_L_law_497 hG hl
  · exact s_L_law_500 hG hl
  · exact s_L_law_501 hG hl
  · exact s_L_law_502 hG hl
  · exact s_L_law_504 hG hl
  · exact s_L_law_505 hG hl
  · exact s_L_law_506 hG hl
  · exact s_L_law_507 hG hl
  · exact s_L_law_508 hG hl
  · exact s_L_law_510 hG hl
  · exact s_L_law_511 hG hl
  · exact s_L_law_512 hG hl
  · exact s_L_law_513 hG hl
  · exact s_L_law_514 hG hl
  · exact s_L_law_517 hG hl
  · exact s_L_law_519 hG hl
  · exact s_L_law_520 hG hl
  · exact s_L_law_521 hG hl
  · exact s_L_law_523 hG hl
  · exact s_L_law_524 hG hl
  · exact s_L_law_525 hG hl
  · exact s_L_law_526 hG hl
  · exact s_L_law_527 hG hl
  · exact s_L_law_529 hG hl
  · exact s_L_law_530 hG hl
  · exact s_L_law_531 hG hl
  · exact s_L_law_532 hG hl
theorem sa_L_law_c4 {X : ev_E} {l : Launch} (hG : ev_Good X) (hl : l.stackTraces = false) : ∀ q ∈ tb_L_law_c4 X, ev_Snd X l ev_ms x_L_law tx_L_law q.1 q.2 := by
  intro q hq
  unfold tb_L_law_c4 at hq
  simp only [List.mem_cons, List.not_mem_nil, or_false] at hq
  rcases hq with rfl | rfl | rfl | rfl | rfl | rfl | rfl | rfl | rfl | rfl | rfl | rfl | rfl | rfl | rfl | rfl | rfl | rfl | rfl | rfl | rfl | rfl | rfl | rfl | rfl | rfl | rfl | rfl | rfl | rfl | rfl | rfl | rfl | rfl | rfl | rfl | rfl | rfl | rfl | rfl | rfl | rfl | rfl | rfl | rfl | rfl | rfl | rfl | rfl | rfl | rfl | rfl | rfl | rfl | rfl | rfl | rfl | rfl | rfl | rfl
  · exact s_L_law_535 hG hl
  · exact s_L_law_537 hG hl
  · exact s_L_law_540 hG hl
  · exact s_L_law_541 hG hl
  · exact s_L_law_542 hG hl
  · exact s_L_law_544 hG hl
  · exact s_L_law_545 hG hl
  · exact s_L_law_546 hG hl
  · exact s_L_law_547 hG hl
  · exact s_L_law_548 hG hl
  · exact s_L_law_551 hG hl
  · exact s_L_law_553 hG hl
  · exact s_L_law_554 hG hl
  · exact s_L_law_555 hG hl
  · exact s_L_law_557 hG hl
  · exact s_L_law_558 hG hl
  · exact s_L_law_559 hG hl
  · exact s_L_law_560 hG hl
  · exact s_L_law_563 hG hl
  · exact s_L_law_565 hG hl
  · exact s_L_law_566 hG hl
  · exact s_L_law_569 hG hl
  · exact s_L_law_571 hG hl
  · exact s_L_law_574 hG hl
  · exact s_L_law_575 hG hl
  · exact s_L_law_576 hG hl
  · exact s_L_law_578 hG hl
  · exact s_L_law_581 hG hl
  · exact s_L_law_582 hG hl
  · exact s_L_law_585 hG hl
  · exact s_L_law_587 hG hl
  · exact s_L_law_588 hG hl
  · exact s_L_law_589 hG hl
  · exact s_L_law_592 hG hl
  · exact s_L_law_593 hG hl
  · exact s_L_law_594 hG hl
  · exact s_L_law_597 hG hl
  · exact s_L_law_598 hG hl
  · exact s_L_law_599 hG hl
  · exact s_L_law_601 hG hl
  · exact s_L_law_602 hG hl
  · exact s_L_law_603 hG hl
  · exact s_L_law_604 hG hl
  · exact s_L_law_605 hG hl
  · exact s_L_law_607 hG hl
  · exact s_L_law_608 hG hl
  · exact s_L_law_609 hG hl
  · exact s_L_law_610 hG hl
  · exact s_L_law_611 hG hl
  · exact s_L_law_613 hG hl
  · exact s_L_law_614 hG hl
  · exact s_L_law_615 hG hl
  · exact s_L_law_616 hG hl
  · exact s_L_law_617 hG hl
  · exact s_L_law_620 hG hl
  · exact s_L_law_622 hG hl
  · exact s_L_law_623 hG hl
  · exact s_L_law_624 hG hl
  · exact s_L_law_626 hG hl
  · exact s_L_law_627 hG hl
theorem sa_L_law_c5 {X : ev_E} {l : Launch} (hG : ev_Good X) (hl : l.stackTraces = false) : ∀ q ∈ tb_L_law_c5 X, ev_Snd X l ev_ms x_L_law tx_L_law q.1 q.2 := by
  intro q hq
  unfold tb_L_law_c5 at hq
  simp only [List.mem_cons, List.not_mem_nil, or_false] at hq
  rcases hq with rfl | rfl | rfl | rfl | rfl | rfl | rfl | rfl | rfl | rfl | rfl | rfl | rfl | rfl | rfl | rfl | rfl | rfl | rfl | rfl | rfl | rfl | rfl | rfl | rfl | rfl | rfl | rfl | rfl | rfl | rfl | rfl | rfl | rfl | rfl | rfl | rfl | rfl | rfl | rfl | rfl | rfl | rfl | rfl | rfl | rfl | rfl | rfl | rfl | rfl | rfl | rfl | rfl | rfl | rfl | rfl | rfl | rfl | rfl | rfl
  · exact s_L_law_628 hG hl
  · exact s_L_law_629 hG hl
  · exact s_L_law_630 hG hl
  · exact s_L_law_632 hG hl
  · exact s_L_law_633 hG hl
  · exact s_L_law_634 hG hl
  · exact s_L_law_635 hG hl
  · exact s_L_law_636 hG hl
  · exact s_L_law_638 hG hl
  · exact s_L_law_639 hG hl
  · exact s_L_law_640 hG hl
  · exact s_L_law_641 hG hl
  · exact s_L_law_644 hG hl
  · exact s_L_law_646 hG hl
  · exact s_L_law_649 hG hl
  · exact s_L_law_650 hG hl
  · exact s_L_law_651 hG hl
  · exact s_L_law_653 hG hl
  · exact s_L_law_654 hG hl
  · exact s_L_law_655 hG hl
  · exact s_L_law_656 hG hl
  · exact s_L_law_657 hG hl
  · exact s_L_law_659 hG hl
  · exact s_L_law_660 hG hl
  · exact s_L_law_661 hG hl
  · exact s_L_law_662 hG hl
  · exact s_L_law_663 hG hl
  · exact s_L_law_666 hG hl
  · exact s_L_law_668 hG hl
  · exact s_L_law_669 hG hl
  · exact s_L_law_670 hG hl
  · exact s_L_law_672 hG hl
  · exact s_L_law_673 hG hl
  · exact s_L_law_674 hG hl
  · exact s_L_law_675 hG hl
  · exact s_L_law_676 hG hl
  · exact s_L_law_678 hG hl
  · exact s_L_law_679 hG hl
  · exact s_L_law_680 hG hl
  · exact s_L_law_681 hG hl
  · exact s_L_law_684 hG hl
  · exact s_L_law_686 hG hl
  · exact s_L_law_689 hG hl
  · exact s_L_law_690 hG hl
  · exact s_L_law_691 hG hl
  · exact s_L_law_693 hG hl
  · exact s_L_law_694 hG hl
  · exact s_L_law_695 hG hl
  · exact s_L_law_696 hG hl
  · exact s_L_law_697 hG hl
  · exact s_L_law_699 hG hl
  · exact s_L_law_700 hG hl
  · exact s_L_law_701 hG hl
  · exact s_L_law_702 hG hl
  · exact s_L_law_703 hG hl
  · exact s_L_law_706 hG hl
  · exact s_L_law_708 hG hl
  · exact s_L_law_709 hG hl
  · exact s_L_law_710 hG hl
  · exact s_L_law_712 hG hl
theorem sa_L_law_c6 {X : ev_E} {l : Launch} (hG : ev_Good X) (hl : l.stackTraces = false) : ∀ q ∈ tb_L_law_c6 X, ev_Snd X l ev_ms x_L_law tx_L_law q.1 q.2 := by
  intro q hq
  unfold tb_L_law_c6 at hq
  simp only [List.mem_cons, List.not_mem_nil, or_false] at hq
  rcases hq with rfl | rfl | rfl | rfl | rfl | rfl | rfl | rfl | rfl | rfl | rfl | rfl | rfl | rfl | rfl | rfl | rfl | rfl | rfl | rfl | rfl | rfl | rfl | rfl | rfl | rfl | rfl | rfl | rfl | rfl | rfl | rfl | rfl | rfl | rfl | rfl | rfl | rfl | rfl | rfl | rfl | rfl | rfl | rfl | rfl | rfl | rfl | rfl | rfl | rfl | rfl | rfl | rfl | rfl | rfl | rfl | rfl | rfl | rfl | rfl
  · exact s_L_law_713 hG hl
  · exact s_L_law_714 hG hl
  · exact s_L_law_715 hG hl
  · exact s_L_law_716 hG hl
  · exact s_L_law_718 hG hl
  · exact s_L_law_719 hG hl
  · exact s_L_law_720 hG hl
  · exact s_L_law_721 hG hl
  · exact s_L_law_724 hG hl
  · exact s_L_law_726 hG hl
  · exact s_L_law_729 hG hl
  · exact s_L_law_730 hG hl
  · exact s_L_law_731 hG hl
  · exact s_L_law_733 hG hl
  · exact s_L_law_734 hG hl
  · exact s_L_law_735 hG hl
  · exact s_L_law_736 hG hl
  · exact s_L_law_737 hG hl
  · exact s_L_law_740 hG hl
  · exact s_L_law_742 hG hl
  · exact s_L_law_743 hG hl
  · exact s_L_law_744 hG hl
  · exact s_L_law_746 hG hl
  · exact s_L_law_747 hG hl
  · exact s_L_law_748 hG hl
  · exact s_L_law_749 hG hl
  · exact s_L_law_752 hG hl
  · exact s_L_law_754 hG hl
  · exact s_L_law_757 hG hl
  · exact s_L_law_758 hG hl
  · exact s_L_law_759 hG hl
  · exact s_L_law_761 hG hl
  · exact s_L_law_762 hG hl
  · exact s_L_law_763 hG hl
  · exact s_L_law_764 hG hl
  · exact s_L_law_765 hG hl
  · exact s_L_law_767 hG hl
  · exact s_L_law_768 hG hl
  · exact s_L_law_769 hG hl
  · exact s_L_law_770 hG hl
  · exact s_L_law_771 hG hl
  · exact s_L_law_774 hG hl
  · exact s_L_law_776 hG hl
  · exact s_L_law_777 hG hl
  · exact s_L_law_778 hG hl
  · exact s_L_law_780 hG hl
  · exact s_L_law_781 hG hl
  · exact s_L_law_782 hG hl
  · exact s_L_law_783 hG hl
  · exact s_L_law_784 hG hl
  · exact s_L_law_786 hG hl
  · exact s_L_law_787 hG hl
  · exact s_L_law_788 hG hl
  · exact s_L_law_789 hG hl
  · exact s_L_law_792 hG hl
  · exact s_L_law_794 hG hl
  · exact s_L_law_797 hG hl
  · exact s_L_law_798 hG hl
  · exact s_L_law_799 hG hl
  · exact s_L_law_801 hG hl
theorem sa_L_law_c7 {X : ev_E} {l : Launch} (hG : ev_Good X) (hl : l.stackTraces = false) : ∀ q ∈ tb_L_law_c7 X, ev_Snd X l ev_ms x_L_law tx_L_law q.1 q.2 := by
  intro q hq
  unfold tb_L_law_c7 at hq
  simp only [List.mem_cons, List.not_mem_nil, or_false] at hq
  rcases hq with rfl | rfl | rfl | rfl | rfl | rfl | rfl | rfl | rfl | rfl | rfl | rfl | rfl | rfl | rfl | rfl | rfl | rfl | rfl | rfl | rfl | rfl | rfl | rfl | rfl | rfl | rfl | rfl | rfl | rfl | rfl | rfl | rfl | rfl | rfl | rfl | rfl | rfl | rfl | rfl | rfl | rfl | rfl | rfl | rfl | rfl | rfl | rfl | rfl | rfl | rfl | rfl | rfl | rfl | rfl | rfl | rfl | rfl | rfl | rfl
  · exact s_L_law_802 hG hl
  · exact s_L_law_803 hG hl
  · exact s_L_law_804 hG hl
  · exact s_L_law_805 hG hl
  · exact s_L_law_807 hG hl
  · exact s_L_law_808 hG hl
  · exact s_L_law_809 hG hl
  · exact s_L_law_810 hG hl
  · exact s_L_law_811 hG hl
  · exact s_L_law_814 hG hl
  · exact s_L_law_816 hG hl
  · exact s_L_law_817 hG hl
  · exact s_L_law_818 hG hl
  · exact s_L_law_820 hG hl
  · exact s_L_law_821 hG hl
  · exact s_L_law_822 hG hl
  · exact s_L_law_823 hG hl
  · exact s_L_law_824 hG hl
  · exact s_L_law_826 hG hl
  · exact s_L_law_827 hG hl
  · exact s_L_law_828 hG hl
  · exact s_L_law_829 hG hl
  · exact s_L_law_832 hG hl
  · exact s_L_law_834 hG hl
  · exact s_L_law_837 hG hl
  · exact s_L_law_838 hG hl
  · exact s_L_law_839 hG hl
  · exact s_L_law_841 hG hl
  · exact s_L_law_842 hG hl
  · exact s_L_law_843 hG hl
  · exact s_L_law_844 hG hl
  · exact s_L_law_845 hG hl
  · exact s_L_law_847 hG hl
  · exact s_L_law_848 hG hl
  · exact s_L_law_849 hG hl
  · exact s_L_law_850 hG hl
  · exact s_L_law_851 hG hl
  · exact s_L_law_854 hG hl
  · exact s_L_law_856 hG hl
  · exact s_L_law_857 hG hl
  · exact s_L_law_858 hG hl
  · exact s_L_law_860 hG hl
  · exact s_L_law_861 hG hl
  · exact s_L_law_862 hG hl
  · exact s_L_law_863 hG hl
  · exact s_L_law_864 hG hl
  · exact s_L_law_866 hG hl
  · exact s_L_law_867 hG hl
  · exact s_L_law_868 hG hl
  · exact s_L_law_869 hG hl
  · exact s_L_law_872 hG hl
  · exact s_L_law_874 hG hl
  · exact s_L_law_877 hG hl
  · exact s_L_law_878 hG hl
  · exact s_L_law_879 hG hl
  · exact s_L_law_881 hG hl
  · exact s_L_law_882 hG hl
  · exact s_L_law_883 hG hl
  · exact s_L_law_884 hG hl
  · exact s_L_law_885 hG hl
theorem sa_L_law_c8 {X : ev_E} {l : Launch} (hG : ev_Good X) (hl : l.stackTraces = false) : ∀ q ∈ tb_L_law_c8 X, ev_Snd X l ev_ms x_L_law tx_L_law q.1 q.2 := by
  intro q hq
  unfold tb_L_law_c8 at hq
  simp only [List.mem_cons, List.not_mem_nil, or_false] at hq
  rcases hq with rfl | rfl | rfl | rfl | rfl | rfl | rfl | rfl | rfl | rfl | rfl | rfl | rfl | rfl | rfl | rfl | rfl | rfl | rfl | rfl | rfl | rfl | rfl | rfl | rfl | rfl | rfl | rfl | rfl | rfl | rfl | rfl | rfl | rfl | rfl | rfl | rfl | rfl | rfl | rfl | rfl | rfl | rfl | rfl | rfl | rfl | rfl | rfl | rfl | rfl | rfl | rfl | rfl | rfl | rfl | rfl | rfl | rfl | rfl | rfl
  · exact s_L_law_887 hG hl
  · exact s_L_law_888 hG hl
  · exact s_L_law_889 hG hl
  · exact s_L_law_890 hG hl
  · exact s_L_law_891 hG hl
  · exact s_L_law_894 hG hl
  · exact s_L_law_896 hG hl
  · exact s_L_law_897 hG hl
  · exact s_L_law_898 hG hl
  · exact s_L_law_900 hG hl
  · exact s_L_law_901 hG hl
  · exact s_L_law_902 hG hl
  · exact s_L_law_903 hG hl
  · exact s_L_law_904 hG hl
  · exact s_L_law_906 hG hl
  · exact s_L_law_907 hG hl
  · exact s_L_law_908 hG hl
  · exact s_L_law_909 hG hl
  · exact s_L_law_912 hG hl
  · exact s_L_law_914 hG hl
  · exact s_L_law_917 hG hl
  · exact s_L_law_918 hG hl
  · exact s_L_law_919 hG hl
  · exact s_L_law_921 hG hl
  · exact s_L_law_922 hG hl
  · exact s_L_law_923 hG hl
  · exact s_L_law_924 hG hl
  · exact s_L_law_925 hG hl
  · exact s_L_law_928 hG hl
  · exact s_L_law_930 hG hl
  · exact s_L_law_931 hG hl
  · exact s_L_law_932 hG hl
  · exact s_L_law_934 hG hl
  · exact s_L_law_935 hG hl
  · exact s_L_law_936 hG hl
  · exact s_L_law_937 hG hl
  · exact s_L_law_940 hG hl
  · exact s_L_law_942 hG hl
  · exact s_L_law_945 hG hl
  · exact s_L_law_946 hG hl
  · exact s_L_law_947 hG hl
  · exact s_L_law_949 hG hl
  · exact s_L_law_950 hG hl
  · exact s_L_law_951 hG hl
  · exact s_L_law_952 hG hl
  · exact s_L_law_953 hG hl
  · exact s_L_law_956 hG hl
  · exact s_L_law_958 hG hl
  · exact s_L_law_959 hG hl
  · exact s_L_law_960 hG hl
  · exact s_L_law_962 hG hl
  · exact s_L_law_963 hG hl
  · exact s_L_law_964 hG hl
  · exact s_L_law_965 hG hl
  · exact s_L_law_968 hG hl
  · exact s_L_law_970 hG hl
  · exact s_L_law_973 hG hl
  · exact s_L_law_974 hG hl
  · exact s_L_law_975 hG hl
  · exact s_L_law_977 hG hl
theorem sa_L_law_c9 {X : ev_E} {l : Launch} (hG : ev_Good X) (hl : l.stackTraces = false) : ∀ q ∈ tb_L_law_c9 X, ev_Snd X l ev_ms x_L_law tx_L_law q.1 q.2 := by
  intro q hq
  unfold tb_L_law_c9 at hq
  simp only [List.mem_cons, List.not_mem_nil, or_false] at hq
  rcases hq with rfl | rfl | rfl | rfl | rfl | rfl | rfl | rfl | rfl | rfl | rfl | rfl | rfl | rfl | rfl | rfl | rfl | rfl | rfl | rfl | rfl | rfl | rfl | rfl | rfl | rfl | rfl | rfl | rfl | rfl | rfl | rfl | rfl | rfl | rfl | rfl | rfl | rfl | rfl | rfl | rfl | rfl | rfl | rfl | rfl | rfl | rfl | rfl | rfl | rfl | rfl | rfl | rfl | rfl | rfl | rfl | rfl | rfl | rfl | rfl
  · exact s_L_law_978 hG hl
  · exact s_L_law_979 hG hl
  · exact s_L_law_980 hG hl
  · exact s_L_law_981 hG hl
  · exact s_L_law_983 hG hl
  · exact s_L_law_984 hG hl
  · exact s_L_law_985 hG hl
  · exact s_L_law_986 hG hl
  · exact s_L_law_987 hG hl
  · exact s_L_law_990 hG hl
  · exact s_L_law_992 hG hl
  · exact s_L_law_993 hG hl
  · exact s_L_law_994 hG hl
  · exact s_L_law_996 hG hl
  · exact s_L_law_997 hG hl
  · exact s_L_law_998 hG hl
  · exact s_L_law_999 hG hl
  · exact s_L_law_1000 hG hl
  · exact s_L_law_1002 hG hl
  · exact s_L_law_1003 hG hl
  · exact s_L_law_1004 hG hl
  · exact s_L_law_1005 hG hl
  · exact s_L_law_1008 hG hl
  · exact s_L_law_1010 hG hl
  · exact s_L_law_1013 hG hl
  · exact s_L_law_1014 hG hl
  · exact s_L_law_1015 hG hl
  · exact s_L_law_1017 hG hl
  · exact s_L_law_1018 hG hl
  · exact s_L_law_1019 hG hl
  · exact s_L_law_1020 hG hl
  · exact s_L_law_1021 hG hl
  · exact s_L_law_1023 hG hl
  · exact s_L_law_1024 hG hl
  · exact s_L_law_1025 hG hl
  · exact s_L_law_1026 hG hl
  · exact s_L_law_1027 hG hl
  · exact s_L_law_1030 hG hl
  · exact s_L_law_1032 hG hl
  · exact s_L_law_1033 hG hl
  · exact s_L_law_1034 hG hl
  · exact s_L_law_1036 hG hl
  · exact s_L_law_1037 hG hl
  · exact s_L_law_1038 hG hl
  · exact s_L_law_1039 hG hl
  · exact s_L_law_1040 hG hl
  · exact s_L_law_1042 hG hl
  · exact s_L_law_1043 hG hl
  · exact s_L_law_1044 hG hl
  · exact s_L_law_1045 hG hl
  · exact s_L_law_1048 hG hl
  · exact s_L_law_1050 hG hl
  · exact s_L_law_1053 hG hl
  · exact s_L_law_1054 hG hl
  · exact s_L_law_1055 hG hl
  · exact s_L_law_1057 hG hl
  · exact s_L_law_1058 hG hl
  · exact s_L_law_1059 hG hl
  · exact s_L_law_1060 hG hl
  · exact s_L_law_1061 hG hl
theorem sa_L_law_c10 {X : ev_E} {l : Launch} (hG : ev_Good X) (hl : l.stackTraces = false) : ∀ q ∈ tb_L_law_c10 X, ev_Snd X l ev_ms x_L_law tx_L_law q.1 q.2 := by
  intro q hq
  unfold tb_L_law_c10 at hq
  simp only [List.mem_cons, List.not_mem_nil, or_false] at hq
  rcases hq with rfl | rfl | rfl | rfl | rfl | rfl | rfl | rfl | rfl | rfl | rfl | rfl | rfl | rfl | rfl | rfl | rfl | rfl | rfl | rfl | rfl | rfl | rfl | rfl | rfl | rfl | rfl | rfl | rfl | rfl | rfl | rfl | rfl | rfl | rfl | rfl | rfl | rfl | rfl | rfl | rfl | rfl | rfl | rfl | rfl | rfl | rfl | rfl | rfl | rfl | rfl | rfl | rfl | rfl | rfl | rfl | rfl | rfl | rfl | rfl
  · exact s_L_law_1063 hG hl
  · exact s_L_law_1064 hG hl
  · exact s_L_law_1065 hG hl
  · exact s_L_law_1066 hG hl
  · exact s_L_law_1067 hG hl
  · exact s_L_law_1070 hG hl
  · exact s_L_law_1072 hG hl
  · exact s_L_law_1073 hG hl
  · exact s_L_law_1074 hG hl
  · exact s_L_law_1076 hG hl
  · exact s_L_law_1077 hG hl
  · exact s_L_law_1078 hG hl
  · exact s_L_law_1079 hG hl
  · exact s_L_law_1080 hG hl
  · exact s_L_law_1082 hG hl
  · exact s_L_law_1083 hG hl
  · exact s_L_law_1084 hG hl
  · exact s_L_law_1085 hG hl
  · exact s_L_law_1088 hG hl
  · exact s_L_law_1090 hG hl
  · exact s_L_law_1093 hG hl
  · exact s_L_law_1094 hG hl
  · exact s_L_law_1095 hG hl
  · exact s_L_law_1097 hG hl
  · exact s_L_law_1098 hG hl
  · exact s_L_law_1099 hG hl
  · exact s_L_law_1100 hG hl
  · exact s_L_law_1101 hG hl
  · exact s_L_law_1104 hG hl
  · exact s_L_law_1106 hG hl
  · exact s_L_law_1107 hG hl
  · exact s_L_law_1108 hG hl
  · exact s_L_law_1110 hG hl
  · exact s_L_law_1111 hG hl
  · exact s_L_law_1112 hG hl
  · exact s_L_law_1113 hG hl
  · exact s_L_law_1116 hG hl
  · exact s_L_law_1118 hG hl
  · exact s_L_law_1121 hG hl
  · exact s_L_law_1122 hG hl
  · exact s_L_law_1123 hG hl
  · exact s_L_law_1125 hG hl
  · exact s_L_law_1126 hG hl
  · exact s_L_law_1127 hG hl
  · exact s_L_law_1128 hG hl
  · exact s_L_law_1129 hG hl
  · exact s_L_law_1132 hG hl
  · exact s_L_law_1134 hG hl
  · exact s_L_law_1135 hG hl
  · exact s_L_law_1136 hG hl
  · exact s_L_law_1138 hG hl
  · exact s_L_law_1139 hG hl
  · exact s_L_law_1140 hG hl
  · exact s_L_law_1141 hG hl
  · exact s_L_law_1144 hG hl
  · exact s_L_law_1146 hG hl
  · exact s_L_law_1149 hG hl
  · exact s_L_law_1150 hG hl
  · exact s_L_law_1151 hG hl
  · exact s_L_law_1153 hG hl
theorem sa_L_law_c11 {X : ev_E} {l : Launch} (hG : ev_Good X) (hl : l.stackTraces = false) : ∀ q ∈ tb_L_law_c11 X, ev_Snd X l ev_ms x_L_law tx_L_law q.1 q.2 := by
  intro q hq
  unfold tb_L_law_c11 at hq
  simp only [List.mem_cons, List.not_mem_nil, or_false] at hq
  rcases hq with rfl | rfl | rfl | rfl | rfl | rfl | rfl | rfl | rfl | rfl | rfl | rfl | rfl | rfl | rfl | rfl | rfl | rfl | rfl | rfl | rfl | rfl | rfl | rfl | rfl | rfl | rfl | rfl | rfl | rfl | rfl | rfl | rfl | rfl | rfl | rfl | rfl | rfl | rfl | rfl | rfl | rfl | rfl | rfl | rfl | rfl | rfl | rfl | rfl | rfl | rfl | rfl | rfl | rfl | rfl | rfl | rfl | rfl | rfl | rfl
  · exact s_L_law_1154 hG hl
  · exact s_L_law_1155 hG hl
  · exact s_L_law_1156 hG hl
  · exact s_L_law_1157 hG hl
  · exact s_L_law_1160 hG hl
  · exact s_L_law_1162 hG hl
  · exact s_L_law_1163 hG hl
  · exact s_L_law_1164 hG hl
  · exact s_L_law_1166 hG hl
  · exact s_L_law_1167 hG hl
  · exact s_L_law_1168 hG hl
  · exact s_L_law_1169 hG hl
  · exact s_L_law_1172 hG hl
  · exact s_L_law_1174 hG hl
  · exact s_L_law_1177 hG hl
  · exact s_L_law_1178 hG hl
  · exact s_L_law_1179 hG hl
  · exact s_L_law_1181 hG hl
  · exact s_L_law_1182 hG hl
  · exact s_L_law_1183 hG hl
  · exact s_L_law_1184 hG hl
  · exact s_L_law_1185 hG hl
  · exact s_L_law_1188 hG hl
  · exact s_L_law_1190 hG hl
  · exact s_L_law_1191 hG hl
  · exact s_L_law_1192 hG hl
  · exact s_L_law_1194 hG hl
  · exact s_L_law_1195 hG hl
  · exact s_L_law_1196 hG hl
  · exact s_L_law_1197 hG hl
  · exact s_L_law_1200 hG hl
  · exact s_L_law_1202 hG hl
  · exact s_L_law_1205 hG hl
  · exact s_L_law_1206 hG hl
  · exact s_L_law_1207 hG hl
  · exact s_L_law_1209 hG hl
  · exact s_L_law_1210 hG hl
  · exact s_L_law_1211 hG hl
  · exact s_L_law_1212 hG hl
  · exact s_L_law_1213 hG hl
  · exact s_L_law_1216 hG hl
  · exact s_L_law_1218 hG hl
  · exact s_L_law_1219 hG hl
  · exact s_L_law_1220 hG hl
  · exact s_L_law_1222 hG hl
  · exact s_L_law_1223 hG hl
  · exact s_L_law_1224 hG hl
  · exact s_L_law_1225 hG hl
  · exact s_L_law_1228 hG hl
  · exact s_L_law_1230 hG hl
  · exact s_L_law_1233 hG hl
  · exact s_L_law_1234 hG hl
  · exact s_L_law_1235 hG hl
  · exact s_L_law_1237 hG hl
  · exact s_L_law_1238 hG hl
  · exact s_L_law_1239 hG hl
  · exact s_L_law_1240 hG hl
  · exact s_L_law_1241 hG hl
  · exact s_L_law_1244 hG hl
  · exact s_L_law_1246 hG hl
theorem sa_L_law_c12 {X : ev_E} {l : Launch} (hG : ev_Good X) (hl : l.stackTraces = false) : ∀ q ∈ tb_L_law_c12 X, ev_Snd X l ev_ms x_L_law tx_L_law q.1 q.2 := by
  intro q hq
  unfold tb_L_law_c12 at hq
  simp only [List.mem_cons, List.not_mem_nil, or_false] at hq
  rcases hq with rfl | rfl | rfl | rfl | rfl | rfl | rfl | rfl | rfl | rfl | rfl | rfl | rfl | rfl | rfl | rfl | rfl | rfl | rfl | rfl | rfl | rfl | rfl | rfl | rfl | rfl | rfl | rfl | rfl | rfl | rfl | rfl | rfl | rfl | rfl | rfl | rfl | rfl | rfl | rfl | rfl | rfl | rfl | rfl | rfl | rfl | rfl | rfl | rfl | rfl | rfl | rfl | rfl | rfl | rfl | rfl | rfl | rfl | rfl | rfl
  · exact s_L_law_1247 hG hl
  · exact s_L_law_1248 hG hl
  · exact s_L_law_1250 hG hl
  · exact s_L_law_1251 hG hl
  · exact s_L_law_1252 hG hl
  · exact s_L_law_1253 hG hl
  · exact s_L_law_1256 hG hl
  · exact s_L_law_1258 hG hl
  · exact s_L_law_1261 hG hl
  · exact s_L_law_1262 hG hl
  · exact s_L_law_1263 hG hl
  · exact s_L_law_1265 hG hl
  · exact s_L_law_1266 hG hl
  · exact s_L_law_1267 hG hl
  · exact s_L_law_1268 hG hl
  · exact s_L_law_1269 hG hl
  · exact s_L_law_1271 hG hl
  · exact s_L_law_1272 hG hl
  · exact s_L_law_1273 hG hl
  · exact s_L_law_1274 hG hl
  · exact s_L_law_1275 hG hl
  · exact s_L_law_1277 hG hl
  · exact s_L_law_1278 hG hl
  · exact s_L_law_1279 hG hl
  · exact s_L_law_1280 hG hl
  · exact s_L_law_1281 hG hl
  · exact s_L_law_1284 hG hl
  · exact s_L_law_1286 hG hl
  · exact s_L_law_1287 hG hl
  · exact s_L_law_1288 hG hl
  · exact s_L_law_1290 hG hl
  · exact s_L_law_1291 hG hl
  · exact s_L_law_1292 hG hl
  · exact s_L_law_1293 hG hl
  · exact s_L_law_1294 hG hl
  · exact s_L_law_1296 hG hl
  · exact s_L_law_1297 hG hl
  · exact s_L_law_1298 hG hl
  · exact s_L_law_1299 hG hl
  · exact s_L_law_1300 hG hl
  · exact s_L_law_1302 hG hl
  · exact s_L_law_1303 hG hl
  · exact s_L_law_1304 hG hl
  · exact s_L_law_1305 hG hl
  · exact s_L_law_1308 hG hl
  · exact s_L_law_1310 hG hl
  · exact s_L_law_1313 hG hl
  · exact s_L_law_1314 hG hl
  · exact s_L_law_1317 hG hl
  · exact s_L_law_1318 hG hl
  · exact s_L_law_1319 hG hl
  · exact s_L_law_1322 hG hl
  · exact s_L_law_1323 hG hl
  · exact s_L_law_1326 hG hl
  · exact s_L_law_1327 hG hl
  · exact s_L_law_1330 hG hl
  · exact s_L_law_1331 hG hl
  · exact s_L_law_1332 hG hl
  · exact s_L_law_1335 hG hl
  · exact s_L_law_1336 hG hl
theorem sa_L_law_c13 {X : ev_E} {l : Launch} (hG : ev_Good X) (hl : l.stackTraces = false) : ∀ q ∈ tb_L_law_c13 X, ev_Snd X l ev_ms x_L_law tx_L_law q.1 q.2 := by
  intro q hq
  unfold tb_L_law_c13 at hq
  simp only [List.mem_cons, List.not_mem_nil, or_false] at hq
  rcases hq with rfl | rfl | rfl | rfl | rfl | rfl | rfl | rfl | rfl | rfl | rfl | rfl | rfl | rfl | rfl | rfl | rfl | rfl | rfl | rfl | rfl | rfl | rfl | rfl | rfl | rfl | rfl | rfl | rfl | rfl | rfl | rfl | rfl | rfl | rfl | rfl | rfl | rfl | rfl | rfl | rfl | rfl | rfl | rfl | rfl | rfl | rfl | rfl | rfl | rfl | rfl | rfl | rfl | rfl | rfl | rfl | rfl | rfl | rfl | rfl
  · exact s_L_law_1339 hG hl
  · exact s_L_law_1340 hG hl
  · exact s_L_law_1341 hG hl
  · exact s_L_law_1343 hG hl
  · exact s_L_law_1344 hG hl
  · exact s_L_law_1345 hG hl
  · exact s_L_law_1346 hG hl
  · exact s_L_law_1349 hG hl
  · exact s_L_law_1350 hG hl
  · exact s_L_law_1351 hG hl
  · exact s_L_law_1352 hG hl
  · exact s_L_law_1354 hG hl
  · exact s_L_law_1355 hG hl
  · exact s_L_law_1356 hG hl
  · exact s_L_law_1357 hG hl
  · exact s_L_law_1360 hG hl
  · exact s_L_law_1361 hG hl
  · exact s_L_law_1364 hG hl
  · exact s_L_law_1365 hG hl
  · exact s_L_law_1366 hG hl
  · exact s_L_law_1368 hG hl
  · exact s_L_law_1369 hG hl
  · exact s_L_law_1370 hG hl
  · exact s_L_law_1371 hG hl
  · exact s_L_law_1374 hG hl
  · exact s_L_law_1375 hG hl
  · exact s_L_law_1376 hG hl
  · exact s_L_law_1377 hG hl
  · exact s_L_law_1379 hG hl
  · exact s_L_law_1380 hG hl
  · exact s_L_law_1381 hG hl
  · exact s_L_law_1382 hG hl
  · exact s_L_law_1385 hG hl
  · exact s_L_law_1386 hG hl
  · exact s_L_law_1389 hG hl
  · exact s_L_law_1390 hG hl
  · exact s_L_law_1391 hG hl
  · exact s_L_law_1393 hG hl
  · exact s_L_law_1394 hG hl
  · exact s_L_law_1395 hG hl
  · exact s_L_law_1396 hG hl
  · exact s_L_law_1397 hG hl
  · exact s_L_law_1400 hG hl
  · exact s_L_law_1402 hG hl
  · exact s_L_law_1403 hG hl
  · exact s_L_law_1404 hG hl
  · exact s_L_law_1406 hG hl
  · exact s_L_law_1407 hG hl
  · exact s_L_law_1408 hG hl
  · exact s_L_law_1409 hG hl
  · exact s_L_law_1412 hG hl
  · exact s_L_law_1414 hG hl
  · exact s_L_law_1417 hG hl
  · exact s_L_law_1418 hG hl
  · exact s_L_law_1421 hG hl
  · exact s_L_law_1422 hG hl
  · exact s_L_law_1423 hG hl
  · exact s_L_law_1426 hG hl
  · exact s_L_law_1427 hG hl
  · exact s_L_law_1430 hG hl
theorem sa_L_law_c14 {X : ev_E} {l : Launch} (hG : ev_Good X) (hl : l.stackTraces = false) : ∀ q ∈ tb_L_law_c14 X, ev_Snd X l ev_ms x_L_law tx_L_law q.1 q.2 := by
  intro q hq
  unfold tb_L_law_c14 at hq
  simp only [List.mem_cons, List.not_mem_nil, or_false] at hq
  rcases hq with rfl | rfl | rfl | rfl | rfl | rfl | rfl | rfl | rfl | rfl | rfl | rfl | rfl | rfl | rfl | rfl | rfl | rfl | rfl | rfl | rfl | rfl | rfl | rfl | rfl | rfl | rfl | rfl | rfl | rfl | rfl | rfl | rfl | rfl | rfl | rfl | rfl | rfl | rfl | rfl | rfl | rfl | rfl | rfl | rfl | rfl | rfl | rfl | rfl | rfl | rfl | rfl | rfl | rfl | rfl | rfl | rfl | rfl | rfl | rfl
  · exact s_L_law_1431 hG hl
  · exact s_L_law_1432 hG hl
  · exact s_L_law_1434 hG hl
  · exact s_L_law_1435 hG hl
  · exact s_L_law_1436 hG hl
  · exact s_L_law_1437 hG hl
  · exact s_L_law_1438 hG hl
  · exact s_L_law_1441 hG hl
  · exact s_L_law_1443 hG hl
  · exact s_L_law_1444 hG hl
  · exact s_L_law_1445 hG hl
  · exact s_L_law_1447 hG hl
  · exact s_L_law_1448 hG hl
  · exact s_L_law_1449 hG hl
  · exact s_L_law_1450 hG hl
  · exact s_L_law_1453 hG hl
  · exact s_L_law_1455 hG hl
  · exact s_L_law_1458 hG hl
  · exact s_L_law_1459 hG hl
  · exact s_L_law_1460 hG hl
  · exact s_L_law_1462 hG hl
  · exact s_L_law_1463 hG hl
  · exact s_L_law_1464 hG hl
  · exact s_L_law_1465 hG hl
  · exact s_L_law_1466 hG hl
  · exact s_L_law_1468 hG hl
  · exact s_L_law_1469 hG hl
  · exact s_L_law_1470 hG hl
  · exact s_L_law_1471 hG hl
  · exact s_L_law_1472 hG hl
  · exact s_L_law_1475 hG hl
  · exact s_L_law_1477 hG hl
  · exact s_L_law_1478 hG hl
  · exact s_L_law_1479 hG hl
  · exact s_L_law_1481 hG hl
  · exact s_L_law_1482 hG hl
  · exact s_L_law_1483 hG hl
  · exact s_L_law_1484 hG hl
  · exact s_L_law_1485 hG hl
  · exact s_L_law_1487 hG hl
  · exact s_L_law_1488 hG hl
  · exact s_L_law_1489 hG hl
  · exact s_L_law_1490 hG hl
  · exact s_L_law_1493 hG hl
  · exact s_L_law_1495 hG hl
  · exact s_L_law_1498 hG hl
  · exact s_L_law_1499 hG hl
  · exact s_L_law_1500 hG hl
  · exact s_L_law_1502 hG hl
  · exact s_L_law_1503 hG hl
  · exact s_L_law_1504 hG hl
  · exact s_L_law_1505 hG hl
  · exact s_L_law_1506 hG hl
  · exact s_L_law_1508 hG hl
  · exact s_L_law_1509 hG hl
  · exact s_L_law_1510 hG hl
  · exact s_L_law_1511 hG hl
  · exact s_L_law_1512 hG hl
  · exact s_L_law_1515 hG hl
  · exact s_L_law_1517 hG hl
theorem sa_L_law_c15 {X : ev_E} {l : Launch} (hG : ev_Good X) (hl : l.stackTraces = false) : ∀ q ∈ tb_L_law_c15 X, ev_Snd X l ev_ms x_L_law tx_L_law q.1 q.2 := by
  intro q hq
  unfold tb_L_law_c15 at hq
  simp only [List.mem_cons, List.not_mem_nil, or_false] at hq
  rcases hq with rfl | rfl | rfl | rfl | rfl | rfl | rfl | rfl | rfl | rfl | rfl | rfl | rfl | rfl | rfl | rfl | rfl | rfl | rfl | rfl | rfl | rfl | rfl | rfl | rfl | rfl | rfl | rfl | rfl | rfl | rfl | rfl | rfl | rfl | rfl | rfl | rfl | rfl | rfl | rfl | rfl | rfl | rfl | rfl | rfl | rfl | rfl | rfl | rfl | rfl | rfl | rfl | rfl | rfl | rfl | rfl | rfl | rfl | rfl | rfl
  · exact s_L_law_1518 hG hl
  · exact s_L_law_1519 hG hl
  · exact s_L_law_1521 hG hl
  · exact s_L_law_1522 hG hl
  · exact s_L_law_1523 hG hl
  · exact s_L_law_1524 hG hl
  · exact s_L_law_1525 hG hl
  · exact s_L_law_1527 hG hl
  · exact s_L_law_1528 hG hl
  · exact s_L_law_1529 hG hl
  · exact s_L_law_1530 hG hl
  · exact s_L_law_1533 hG hl
  · exact s_L_law_1535 hG hl
  · exact s_L_law_1538 hG hl
  · exact s_L_law_1539 hG hl
  · exact s_L_law_1540 hG hl
  · exact s_L_law_1542 hG hl
  · exact s_L_law_1543 hG hl
  · exact s_L_law_1544 hG hl
  · exact s_L_law_1545 hG hl
  · exact s_L_law_1546 hG hl
  · exact s_L_law_1549 hG hl
  · exact s_L_law_1551 hG hl
  · exact s_L_law_1552 hG hl
  · exact s_L_law_1553 hG hl
  · exact s_L_law_1555 hG hl
  · exact s_L_law_1556 hG hl
  · exact s_L_law_1557 hG hl
  · exact s_L_law_1558 hG hl
  · exact s_L_law_1561 hG hl
  · exact s_L_law_1563 hG hl
  · exact s_L_law_1566 hG hl
  · exact s_L_law_1567 hG hl
  · exact s_L_law_1568 hG hl
  · exact s_L_law_1570 hG hl
  · exact s_L_law_1571 hG hl
  · exact s_L_law_1572 hG hl
  · exact s_L_law_1573 hG hl
  · exact s_L_law_1574 hG hl
  · exact s_L_law_1577 hG hl
  · exact s_L_law_1579 hG hl
  · exact s_L_law_1580 hG hl
  · exact s_L_law_1581 hG hl
  · exact s_L_law_1583 hG hl
  · exact s_L_law_1584 hG hl
  · exact s_L_law_1585 hG hl
  · exact s_L_law_1586 hG hl
  · exact s_L_law_1589 hG hl
  · exact s_L_law_1591 hG hl
  · exact s_L_law_1594 hG hl
  · exact s_L_law_1595 hG hl
  · exact s_L_law_1596 hG hl
  · exact s_L_law_1598 hG hl
  · exact s_L_law_1599 hG hl
  · exact s_L_law_1600 hG hl
  · exact s_L_law_1601 hG hl
  · exact s_L_law_1602 hG hl
  · exact s_L_law_1605 hG hl
  · exact s_L_law_1607 hG hl
  · exact s_L_law_1608 hG hl
theorem sa_L_law_c16 {X : ev_E} {l : Launch} (hG : ev_Good X) (hl : l.stackTraces = false) : ∀ q ∈ tb_L_law_c16 X, ev_Snd X l ev_ms x_L_law tx_L_law q.1 q.2 := by
  intro q hq
  unfold tb_L_law_c16 at hq
  simp only [List.mem_cons, List.not_mem_nil, or_false] at hq
  rcases hq with rfl | rfl | rfl | rfl | rfl | rfl | rfl | rfl | rfl | rfl | rfl | rfl | rfl | rfl | rfl | rfl | rfl | rfl | rfl | rfl | rfl | rfl | rfl | rfl | rfl | rfl | rfl | rfl | rfl | rfl | rfl | rfl | rfl | rfl | rfl | rfl | rfl | rfl | rfl | rfl | rfl | rfl | rfl | rfl | rfl | rfl | rfl | rfl | rfl | rfl | rfl | rfl | rfl | rfl | rfl | rfl | rfl | rfl | rfl | rfl
  · exact s_L_law_1609 hG hl
  · exact s_L_law_1611 hG hl
  · exact s_L_law_1612 hG hl
  · exact s_L_law_1613 hG hl
  · exact s_L_law_1614 hG hl
  · exact s_L_law_1617 hG hl
  · exact s_L_law_1619 hG hl
  · exact s_L_law_1622 hG hl
  · exact s_L_law_1623 hG hl
  · exact s_L_law_1624 hG hl
  · exact s_L_law_1626 hG hl
  · exact s_L_law_1627 hG hl
  · exact s_L_law_1628 hG hl
  · exact s_L_law_1629 hG hl
  · exact s_L_law_1632 hG hl
  · exact s_L_law_1633 hG hl
  · exact s_L_law_1634 hG hl
  · exact s_L_law_1635 hG hl
  · exact s_L_law_1637 hG hl
  · exact s_L_law_1638 hG hl
  · exact s_L_law_1639 hG hl
  · exact s_L_law_1640 hG hl
  · exact s_L_law_1643 hG hl
  · exact s_L_law_1644 hG hl
  · exact s_L_law_1647 hG hl
  · exact s_L_law_1648 hG hl
  · exact s_L_law_1649 hG hl
  · exact s_L_law_1651 hG hl
  · exact s_L_law_1652 hG hl
  · exact s_L_law_1653 hG hl
  · exact s_L_law_1654 hG hl
  · exact s_L_law_1655 hG hl
  · exact s_L_law_1658 hG hl
  · exact s_L_law_1660 hG hl
  · exact s_L_law_1661 hG hl
  · exact s_L_law_1662 hG hl
  · exact s_L_law_1664 hG hl
  · exact s_L_law_1665 hG hl
  · exact s_L_law_1666 hG hl
  · exact s_L_law_1667 hG hl
  · exact s_L_law_1670 hG hl
  · exact s_L_law_1672 hG hl
  · exact s_L_law_1675 hG hl
  · exact s_L_law_1676 hG hl
  · exact s_L_law_1677 hG hl
  · exact s_L_law_1679 hG hl
  · exact s_L_law_1680 hG hl
  · exact s_L_law_1681 hG hl
  · exact s_L_law_1682 hG hl
  · exact s_L_law_1683 hG hl
  · exact s_L_law_1686 hG hl
  · exact s_L_law_1688 hG hl
  · exact s_L_law_1689 hG hl
  · exact s_L_law_1690 hG hl
  · exact s_L_law_1692 hG hl
  · exact s_L_law_1693 hG hl
  · exact s_L_law_1694 hG hl
  · exact s_L_law_1695 hG hl
  · exact s_L_law_1698 hG hl
  · exact s_L_law_1700 hG hl
theorem sa_L_law_c17 {X : ev_E} {l : Launch} (hG : ev_Good X) (hl : l.stackTraces = false) : ∀ q ∈ tb_L_law_c17 X, ev_Snd X l ev_ms x_L_law tx_L_law q.1 q.2 := by
  intro q hq
  unfold tb_L_law_c17 at hq
  simp only [List.mem_cons, List.not_mem_nil, or_false] at hq
  rcases hq with rfl | rfl | rfl | rfl | rfl | rfl | rfl | rfl | rfl | rfl | rfl | rfl | rfl | rfl | rfl | rfl | rfl | rfl | rfl | rfl | rfl | rfl | rfl | rfl | rfl
  · exact s_L_law_1703 hG hl
  · exact s_L_law_1704 hG hl
  · exact s_L_law_1707 hG hl
  · exact s_L_law_1708 hG hl
  · exact s_L_law_1709 hG hl
  · exact s_L_law_1712 hG hl
  · exact s_L_law_1713 hG hl
  · exact s_L_law_1716 hG hl
  · exact s_L_law_1717 hG hl
  · exact s_L_law_1720 hG hl
  · exact s_L_law_1721 hG hl
  · exact s_L_law_1722 hG hl
  · exact s_L_law_1725 hG hl
  · exact s_L_law_1726 hG hl
  · exact s_L_law_1729 hG hl
  · exact s_L_law_1730 hG hl
  · exact s_L_law_1733 hG hl
  · exact s_L_law_1734 hG hl
  · exact s_L_law_1735 hG hl
  · exact s_L_law_1738 hG hl
  · exact s_L_law_1739 hG hl
  · exact s_L_law_1742 hG hl
  · exact s_L_law_1745 hG hl
  · exact s_L_law_1748 hG hl
  · exact s_L_law_1749 hG hl
theorem sa_L_law {X : ev_E} {l : Launch} (hG : ev_Good X) (hl : l.stackTraces = false) : ∀ q ∈ tb_L_law X, ev_Snd X l ev_ms x_L_law tx_L_law q.1 q.2 := List.forall_mem_append.mpr ⟨sa_L_law_c0 hG hl, List.forall_mem_append.mpr ⟨sa_L_law_c1 hG hl, List.forall_mem_append.mpr ⟨sa_L_law_c2 hG hl, List.forall_mem_append.mpr ⟨sa_L_law_c3 hG hl, List.forall_mem_append.mpr ⟨sa_L_law_c4 hG hl, List.forall_mem_append.mpr ⟨sa_L_law_c5 hG hl, List.forall_mem_append.mpr ⟨sa_L_law_c6 hG hl, List.forall_mem_append.mpr ⟨sa_L_law_c7 hG hl, List.forall_mem_append.mpr ⟨sa_L_law_c8 hG hl, List.forall_mem_append.mpr ⟨sa_L_law_c9 hG hl, List.forall_mem_append.mpr ⟨sa_L_law_c10 hG hl, List.forall_mem_append.mpr ⟨sa_L_law_c11 hG hl, List.forall_mem_append.mpr ⟨sa_L_law_c12 hG hl, List.forall_mem_append.mpr ⟨sa_L_law_c13 hG hl, List.forall_mem_append.mpr ⟨sa_L_law_c14 hG hl, List.forall_mem_append.mpr ⟨sa_L_law_c15 hG hl, List.forall_mem_append.mpr ⟨sa_L_law_c16 hG hl, sa_L_law_c17 hG hl⟩⟩⟩⟩⟩⟩⟩⟩⟩⟩⟩⟩⟩⟩⟩⟩⟩
