theorem mw42 : Cond.classLink RL 7 RX4 ∈ wsL_law := wr1 _ (List.mem_of_getElem? (i := 0) (by decide +kernel))
theorem mw43 : Cond.instantiable RX4 9 ∈ wsL_law := wr1 _ (List.mem_of_getElem? (i := 1) (by decide +kernel))
theorem mw44 : Cond.initialized RX4 ∈ wsL_law := wr1 _ (List.mem_of_getElem? (i := 2) (by decide +kernel))
theorem mw45 : Cond.code yX4_init cX4_init 5 none ∈ wsL_law := wr1 _ (List.mem_of_getElem? (i := 8) rfl)
theorem mw46 : Cond.methodLink RL 9 yX4_init ∈ wsL_law := wr1 _ (List.mem_of_getElem? (i := 6) (by decide +kernel))
theorem mw47 : Cond.instanceMethod yX4_init ∈ wsL_law := wr1 _ (List.mem_of_getElem? (i := 7) (by decide +kernel))
theorem mw48 : Cond.classLink RL 10 RX5 ∈ wsL_law := wr1 _ (List.mem_of_getElem? (i := 3) (by decide +kernel))
theorem mw49 : Cond.instantiable RX5 35 ∈ wsL_law := wr1 _ (List.mem_of_getElem? (i := 4) (by decide +kernel))
theorem mw50 : Cond.initialized RX5 ∈ wsL_law := wr1 _ (List.mem_of_getElem? (i := 5) (by decide +kernel))
theorem mw51 : Cond.code yX5_init cX5_init 2 none ∈ wsL_law := wr3 _ (List.mem_of_getElem? (i := 21) rfl)
theorem mw52 : Cond.methodLink RL 12 yX5_init ∈ wsL_law := wr3 _ (List.mem_of_getElem? (i := 19) (by decide +kernel))
theorem mw53 : Cond.instanceMethod yX5_init ∈ wsL_law := wr3 _ (List.mem_of_getElem? (i := 20) (by decide +kernel))
def tL (xs : Nat → Int32) (N : Nat) : bT := [
  (0, (.new 7, 3), b_new 4 9 600000 7302250 3),
  (3, (.dup, 1), bL (o_dup 4)),
  (4, (.invokespecial 9, 3), b_cI CX4_init 4 0 51 1685 600000 7302250 7),
  (7, (.astore_n 1, 1), bL (o_as 1 8)),
  (8, (.new 10, 3), b_new 5 35 600000 7302250 11),
  (11, (.dup, 1), bL (o_dup 12)),
  (12, (.invokespecial 12, 3), b_cI CX5_init 5 0 20 2823 600000 7302250 15),
  (15, (.astore_n 2, 1), bL (o_as 2 16)),
  (16, (.iconst 0, 1), bL (o_ii 0 17)),
  (17, (.istore_n 3, 1), bL (o_is 3 18)),
  (18, (.iload_n 3, 1), bL (o_il 3 19)),
  (19, (.aload_n 0, 1), bL (o_al 0 20)),
  (20, (.arraylength, 1), b_sle N 21),
  (21, (.bipush 7, 2), bL (o_ii 7 23)),
  (23, (.isub, 1), bL (o_bi (fun x y => x - y) 24)),
  (24, (.if_icmp .gt 1487, 3), bL (o_ic (fun x y => y < x) 1511 27)),
  (27, (.aload_n 0, 1), bL (o_al 0 28)),
  (28, (.iload_n 3, 1), bL (o_il 3 29)),
  (29, (.iaload, 1), b_sld xs N 30),
  (30, (.bipush 63, 2), bL (o_ii 63 32)),
  (32, (.iand, 1), bL (o_bi (fun x y => x &&& y) 33)),
  (33, (.tableswitch 1472 0 38 #[171, 194, 217, 292, 305, 328, 371, 414, 447, 490, 523, 556, 599, 632, 665, 678, 711, 734, 757, 790, 833, 856, 869, 893, 916, 959, 992, 1045, 1068, 1091, 1124, 1157, 1211, 1224, 1237, 1280, 1323, 1386, 1439], 171), bL (o_sw [(0, 204), (1, 227), (2, 250), (3, 325), (4, 338), (5, 361), (6, 404), (7, 447), (8, 480), (9, 523), (10, 556), (11, 589), (12, 632), (13, 665), (14, 698), (15, 711), (16, 744), (17, 767), (18, 790), (19, 823), (20, 866), (21, 889), (22, 902), (23, 926), (24, 949), (25, 992), (26, 1025), (27, 1078), (28, 1101), (29, 1124), (30, 1157), (31, 1190), (32, 1244), (33, 1257), (34, 1270), (35, 1313), (36, 1356), (37, 1419), (38, 1472)] 1505)),
  (204, (.aload_n 1, 1), bL (o_al 1 205)),
  (205, (.aload_n 0, 1), bL (o_al 0 206)),
  (206, (.iload_n 3, 1), bL (o_il 3 207)),
  (207, (.iconst 1, 1), bL (o_ii 1 208)),
  (208, (.iadd, 1), bL (o_bi (fun x y => x + y) 209)),
  (209, (.iaload, 1), b_sld xs N 210),
  (210, (.invokevirtual 13, 3), bL (o_cV CX4_count 4 1 213)),
  (213, (.aload_n 2, 1), bL (o_al 2 214)),
  (214, (.aload_n 0, 1), bL (o_al 0 215)),
  (215, (.iload_n 3, 1), bL (o_il 3 216)),
  (216, (.iconst 1, 1), bL (o_ii 1 217)),
  (217, (.iadd, 1), bL (o_bi (fun x y => x + y) 218)),
  (218, (.iaload, 1), b_sld xs N 219),
  (219, (.invokevirtual 17, 3), bL (o_cV CX5_count 5 1 222)),
  (222, (.if_icmp .eq 1283, 3), bL (o_ic (fun x y => x = y) 1505 225)),
  (225, (.iconst 0, 1), bL (o_ii 0 226)),
  (226, (.ireturn, 1), b_ri),
  (227, (.aload_n 1, 1), bL (o_al 1 228)),
  (228, (.aload_n 0, 1), bL (o_al 0 229)),
  (229, (.iload_n 3, 1), bL (o_il 3 230)),
  (230, (.iconst 1, 1), bL (o_ii 1 231)),
  (231, (.iadd, 1), bL (o_bi (fun x y => x + y) 232)),
  (232, (.iaload, 1), b_sld xs N 233),
  (233, (.invokevirtual 18, 3), bL (o_cV CX4_dawn 4 1 236)),
  (236, (.aload_n 2, 1), bL (o_al 2 237)),
  (237, (.aload_n 0, 1), bL (o_al 0 238)),
  (238, (.iload_n 3, 1), bL (o_il 3 239)),
  (239, (.iconst 1, 1), bL (o_ii 1 240)),
  (240, (.iadd, 1), bL (o_bi (fun x y => x + y) 241)),
  (241, (.iaload, 1), b_sld xs N 242),
  (242, (.invokevirtual 21, 3), bL (o_cV CX5_dawn 5 1 245)),
  (245, (.if_icmp .eq 1260, 3), bL (o_ic (fun x y => x = y) 1505 248)),
  (248, (.iconst 0, 1), bL (o_ii 0 249)),
  (249, (.ireturn, 1), b_ri),
  (250, (.aload_n 1, 1), bL (o_al 1 251)),
  (251, (.aload_n 0, 1), bL (o_al 0 252)),
  (252, (.iload_n 3, 1), bL (o_il 3 253)),
  (253, (.iconst 1, 1), bL (o_ii 1 254)),
  (254, (.iadd, 1), bL (o_bi (fun x y => x + y) 255)),
  (255, (.iaload, 1), b_sld xs N 256),
  (256, (.aload_n 0, 1), bL (o_al 0 257)),
  (257, (.iload_n 3, 1), bL (o_il 3 258)),
  (258, (.iconst 2, 1), bL (o_ii 2 259)),
  (259, (.iadd, 1), bL (o_bi (fun x y => x + y) 260)),
  (260, (.iaload, 1), b_sld xs N 261),
  (261, (.aload_n 0, 1), bL (o_al 0 262)),
  (262, (.iload_n 3, 1), bL (o_il 3 263)),
  (263, (.iconst 3, 1), bL (o_ii 3 264)),
  (264, (.iadd, 1), bL (o_bi (fun x y => x + y) 265)),
  (265, (.iaload, 1), b_sld xs N 266),
  (266, (.aload_n 0, 1), bL (o_al 0 267)),
  (267, (.iload_n 3, 1), bL (o_il 3 268)),
  (268, (.iconst 4, 1), bL (o_ii 4 269)),
  (269, (.iadd, 1), bL (o_bi (fun x y => x + y) 270)),
  (270, (.iaload, 1), b_sld xs N 271),
  (271, (.aload_n 0, 1), bL (o_al 0 272)),
  (272, (.iload_n 3, 1), bL (o_il 3 273)),
  (273, (.iconst 5, 1), bL (o_ii 5 274)),
  (274, (.iadd, 1), bL (o_bi (fun x y => x + y) 275)),
  (275, (.iaload, 1), b_sld xs N 276),
  (276, (.aload_n 0, 1), bL (o_al 0 277)),
  (277, (.iload_n 3, 1), bL (o_il 3 278)),
  (278, (.bipush 6, 2), bL (o_ii 6 280)),
  (280, (.iadd, 1), bL (o_bi (fun x y => x + y) 281)),
  (281, (.iaload, 1), b_sld xs N 282),
  (282, (.invokevirtual 22, 3), bL (o_cV CX4_feed 4 6 285)),
  (285, (.aload_n 2, 1), bL (o_al 2 286)),
  (286, (.aload_n 0, 1), bL (o_al 0 287)),
  (287, (.iload_n 3, 1), bL (o_il 3 288)),
  (288, (.iconst 1, 1), bL (o_ii 1 289)),
  (289, (.iadd, 1), bL (o_bi (fun x y => x + y) 290)),
  (290, (.iaload, 1), b_sld xs N 291),
  (291, (.aload_n 0, 1), bL (o_al 0 292)),
  (292, (.iload_n 3, 1), bL (o_il 3 293)),
  (293, (.iconst 2, 1), bL (o_ii 2 294)),
  (294, (.iadd, 1), bL (o_bi (fun x y => x + y) 295)),
  (295, (.iaload, 1), b_sld xs N 296),
  (296, (.aload_n 0, 1), bL (o_al 0 297)),
  (297, (.iload_n 3, 1), bL (o_il 3 298)),
  (298, (.iconst 3, 1), bL (o_ii 3 299)),
  (299, (.iadd, 1), bL (o_bi (fun x y => x + y) 300)),
  (300, (.iaload, 1), b_sld xs N 301),
  (301, (.aload_n 0, 1), bL (o_al 0 302)),
  (302, (.iload_n 3, 1), bL (o_il 3 303)),
  (303, (.iconst 4, 1), bL (o_ii 4 304)),
  (304, (.iadd, 1), bL (o_bi (fun x y => x + y) 305)),
  (305, (.iaload, 1), b_sld xs N 306),
  (306, (.aload_n 0, 1), bL (o_al 0 307)),
  (307, (.iload_n 3, 1), bL (o_il 3 308)),
  (308, (.iconst 5, 1), bL (o_ii 5 309)),
  (309, (.iadd, 1), bL (o_bi (fun x y => x + y) 310)),
  (310, (.iaload, 1), b_sld xs N 311),
  (311, (.aload_n 0, 1), bL (o_al 0 312)),
  (312, (.iload_n 3, 1), bL (o_il 3 313)),
  (313, (.bipush 6, 2), bL (o_ii 6 315)),
  (315, (.iadd, 1), bL (o_bi (fun x y => x + y) 316)),
  (316, (.iaload, 1), b_sld xs N 317),
  (317, (.invokevirtual 26, 3), bL (o_cV CX5_feed 5 6 320)),
  (320, (.if_icmp .eq 1185, 3), bL (o_ic (fun x y => x = y) 1505 323)),
  (323, (.iconst 0, 1), bL (o_ii 0 324)),
  (324, (.ireturn, 1), b_ri),
  (325, (.aload_n 1, 1), bL (o_al 1 326)),
  (326, (.invokevirtual 27, 3), b_cV CX4_text 4 0 4 206 600000 7302250 329),
  (329, (.aload_n 2, 1), bL (o_al 2 330)),
  (330, (.invokevirtual 31, 3), bL (o_cV CX5_text 5 0 333)),
  (333, (.if_icmp .eq 1172, 3), bL (o_ic (fun x y => x = y) 1505 336)),
  (336, (.iconst 0, 1), bL (o_ii 0 337)),
  (337, (.ireturn, 1), b_ri),
  (338, (.aload_n 1, 1), bL (o_al 1 339)),
  (339, (.aload_n 0, 1), bL (o_al 0 340)),
  (340, (.iload_n 3, 1), bL (o_il 3 341)),
  (341, (.iconst 1, 1), bL (o_ii 1 342)),
  (342, (.iadd, 1), bL (o_bi (fun x y => x + y) 343)),
  (343, (.iaload, 1), b_sld xs N 344),
  (344, (.invokevirtual 32, 3), bL (o_cV CX4_force 4 1 347)),
  (347, (.aload_n 2, 1), bL (o_al 2 348)),
  (348, (.aload_n 0, 1), bL (o_al 0 349)),
  (349, (.iload_n 3, 1), bL (o_il 3 350)),
  (350, (.iconst 1, 1), bL (o_ii 1 351)),
  (351, (.iadd, 1), bL (o_bi (fun x y => x + y) 352)),
  (352, (.iaload, 1), b_sld xs N 353),
  (353, (.invokevirtual 35, 3), bL (o_cV CX5_force 5 1 356)),
  (356, (.if_icmp .eq 1149, 3), bL (o_ic (fun x y => x = y) 1505 359)),
  (359, (.iconst 0, 1), bL (o_ii 0 360)),
  (360, (.ireturn, 1), b_ri),
  (361, (.aload_n 1, 1), bL (o_al 1 362)),
  (362, (.aload_n 0, 1), bL (o_al 0 363)),
  (363, (.iload_n 3, 1), bL (o_il 3 364)),
  (364, (.iconst 1, 1), bL (o_ii 1 365)),
  (365, (.iadd, 1), bL (o_bi (fun x y => x + y) 366)),
  (366, (.iaload, 1), b_sld xs N 367),
  (367, (.aload_n 0, 1), bL (o_al 0 368)),
  (368, (.iload_n 3, 1), bL (o_il 3 369)),
  (369, (.iconst 2, 1), bL (o_ii 2 370)),
  (370, (.iadd, 1), bL (o_bi (fun x y => x + y) 371)),
  (371, (.iaload, 1), b_sld xs N 372),
  (372, (.aload_n 0, 1), bL (o_al 0 373)),
  (373, (.iload_n 3, 1), bL (o_il 3 374)),
  (374, (.iconst 3, 1), bL (o_ii 3 375)),
  (375, (.iadd, 1), bL (o_bi (fun x y => x + y) 376)),
  (376, (.iaload, 1), b_sld xs N 377),
  (377, (.invokevirtual 36, 3), bL (o_cV CX4_asks 4 3 380)),
  (380, (.aload_n 2, 1), bL (o_al 2 381)),
  (381, (.aload_n 0, 1), bL (o_al 0 382)),
  (382, (.iload_n 3, 1), bL (o_il 3 383)),
  (383, (.iconst 1, 1), bL (o_ii 1 384)),
  (384, (.iadd, 1), bL (o_bi (fun x y => x + y) 385)),
  (385, (.iaload, 1), b_sld xs N 386),
  (386, (.aload_n 0, 1), bL (o_al 0 387)),
  (387, (.iload_n 3, 1), bL (o_il 3 388)),
  (388, (.iconst 2, 1), bL (o_ii 2 389)),
  (389, (.iadd, 1), bL (o_bi (fun x y => x + y) 390)),
  (390, (.iaload, 1), b_sld xs N 391),
  (391, (.aload_n 0, 1), bL (o_al 0 392)),
  (392, (.iload_n 3, 1), bL (o_il 3 393)),
  (393, (.iconst 3, 1), bL (o_ii 3 394)),
  (394, (.iadd, 1), bL (o_bi (fun x y => x + y) 395)),
  (395, (.iaload, 1), b_sld xs N 396),
  (396, (.invokevirtual 40, 3), bL (o_cV CX5_asks 5 3 399)),
  (399, (.if_icmp .eq 1106, 3), bL (o_ic (fun x y => x = y) 1505 402)),
  (402, (.iconst 0, 1), bL (o_ii 0 403)),
  (403, (.ireturn, 1), b_ri),
  (404, (.aload_n 1, 1), bL (o_al 1 405)),
  (405, (.aload_n 0, 1), bL (o_al 0 406)),
  (406, (.iload_n 3, 1), bL (o_il 3 407)),
  (407, (.iconst 1, 1), bL (o_ii 1 408)),
  (408, (.iadd, 1), bL (o_bi (fun x y => x + y) 409)),
  (409, (.iaload, 1), b_sld xs N 410),
  (410, (.aload_n 0, 1), bL (o_al 0 411)),
  (411, (.iload_n 3, 1), bL (o_il 3 412)),
  (412, (.iconst 2, 1), bL (o_ii 2 413)),
  (413, (.iadd, 1), bL (o_bi (fun x y => x + y) 414)),
  (414, (.iaload, 1), b_sld xs N 415),
  (415, (.aload_n 0, 1), bL (o_al 0 416)),
  (416, (.iload_n 3, 1), bL (o_il 3 417)),
  (417, (.iconst 3, 1), bL (o_ii 3 418)),
  (418, (.iadd, 1), bL (o_bi (fun x y => x + y) 419)),
  (419, (.iaload, 1), b_sld xs N 420),
  (420, (.invokevirtual 41, 3), bL (o_cV CX4_judge 4 3 423)),
  (423, (.aload_n 2, 1), bL (o_al 2 424)),
  (424, (.aload_n 0, 1), bL (o_al 0 425)),
  (425, (.iload_n 3, 1), bL (o_il 3 426)),
  (426, (.iconst 1, 1), bL (o_ii 1 427)),
  (427, (.iadd, 1), bL (o_bi (fun x y => x + y) 428)),
  (428, (.iaload, 1), b_sld xs N 429),
  (429, (.aload_n 0, 1), bL (o_al 0 430)),
  (430, (.iload_n 3, 1), bL (o_il 3 431)),
  (431, (.iconst 2, 1), bL (o_ii 2 432)),
  (432, (.iadd, 1), bL (o_bi (fun x y => x + y) 433)),
  (433, (.iaload, 1), b_sld xs N 434),
  (434, (.aload_n 0, 1), bL (o_al 0 435)),
  (435, (.iload_n 3, 1), bL (o_il 3 436)),
  (436, (.iconst 3, 1), bL (o_ii 3 437)),
  (437, (.iadd, 1), bL (o_bi (fun x y => x + y) 438)),
  (438, (.iaload, 1), b_sld xs N 439),
  (439, (.invokevirtual 44, 3), bL (o_cV CX5_judge 5 3 442)),
  (442, (.if_icmp .eq 1063, 3), bL (o_ic (fun x y => x = y) 1505 445)),
  (445, (.iconst 0, 1), bL (o_ii 0 446)),
  (446, (.ireturn, 1), b_ri),
  (447, (.aload_n 1, 1), bL (o_al 1 448)),
  (448, (.aload_n 0, 1), bL (o_al 0 449)),
  (449, (.iload_n 3, 1), bL (o_il 3 450)),
  (450, (.iconst 1, 1), bL (o_ii 1 451)),
  (451, (.iadd, 1), bL (o_bi (fun x y => x + y) 452)),
  (452, (.iaload, 1), b_sld xs N 453),
  (453, (.aload_n 0, 1), bL (o_al 0 454)),
  (454, (.iload_n 3, 1), bL (o_il 3 455)),
  (455, (.iconst 2, 1), bL (o_ii 2 456)),
  (456, (.iadd, 1), bL (o_bi (fun x y => x + y) 457)),
  (457, (.iaload, 1), b_sld xs N 458),
  (458, (.invokevirtual 45, 3), bL (o_cV CX4_file 4 2 461)),
  (461, (.aload_n 2, 1), bL (o_al 2 462)),
  (462, (.aload_n 0, 1), bL (o_al 0 463)),
  (463, (.iload_n 3, 1), bL (o_il 3 464)),
  (464, (.iconst 1, 1), bL (o_ii 1 465)),
  (465, (.iadd, 1), bL (o_bi (fun x y => x + y) 466)),
  (466, (.iaload, 1), b_sld xs N 467),
  (467, (.aload_n 0, 1), bL (o_al 0 468)),
  (468, (.iload_n 3, 1), bL (o_il 3 469)),
  (469, (.iconst 2, 1), bL (o_ii 2 470)),
  (470, (.iadd, 1), bL (o_bi (fun x y => x + y) 471)),
  (471, (.iaload, 1), b_sld xs N 472),
  (472, (.invokevirtual 49, 3), bL (o_cV CX5_file 5 2 475)),
  (475, (.if_icmp .eq 1030, 3), bL (o_ic (fun x y => x = y) 1505 478)),
  (478, (.iconst 0, 1), bL (o_ii 0 479)),
  (479, (.ireturn, 1), b_ri),
  (480, (.aload_n 1, 1), bL (o_al 1 481)),
  (481, (.aload_n 0, 1), bL (o_al 0 482)),
  (482, (.iload_n 3, 1), bL (o_il 3 483)),
  (483, (.iconst 1, 1), bL (o_ii 1 484)),
  (484, (.iadd, 1), bL (o_bi (fun x y => x + y) 485)),
  (485, (.iaload, 1), b_sld xs N 486),
  (486, (.aload_n 0, 1), bL (o_al 0 487)),
  (487, (.iload_n 3, 1), bL (o_il 3 488)),
  (488, (.iconst 2, 1), bL (o_ii 2 489)),
  (489, (.iadd, 1), bL (o_bi (fun x y => x + y) 490)),
  (490, (.iaload, 1), b_sld xs N 491),
  (491, (.aload_n 0, 1), bL (o_al 0 492)),
  (492, (.iload_n 3, 1), bL (o_il 3 493)),
  (493, (.iconst 3, 1), bL (o_ii 3 494)),
  (494, (.iadd, 1), bL (o_bi (fun x y => x + y) 495)),
  (495, (.iaload, 1), b_sld xs N 496),
  (496, (.invokevirtual 50, 3), bL (o_cV CX4_put 4 3 499)),
  (499, (.aload_n 2, 1), bL (o_al 2 500)),
  (500, (.aload_n 0, 1), bL (o_al 0 501)),
  (501, (.iload_n 3, 1), bL (o_il 3 502)),
  (502, (.iconst 1, 1), bL (o_ii 1 503)),
  (503, (.iadd, 1), bL (o_bi (fun x y => x + y) 504)),
  (504, (.iaload, 1), b_sld xs N 505),
  (505, (.aload_n 0, 1), bL (o_al 0 506)),
  (506, (.iload_n 3, 1), bL (o_il 3 507)),
  (507, (.iconst 2, 1), bL (o_ii 2 508)),
  (508, (.iadd, 1), bL (o_bi (fun x y => x + y) 509)),
  (509, (.iaload, 1), b_sld xs N 510),
  (510, (.aload_n 0, 1), bL (o_al 0 511)),
  (511, (.iload_n 3, 1), bL (o_il 3 512)),
  (512, (.iconst 3, 1), bL (o_ii 3 513)),
  (513, (.iadd, 1), bL (o_bi (fun x y => x + y) 514)),
  (514, (.iaload, 1), b_sld xs N 515),
  (515, (.invokevirtual 53, 3), bL (o_cV CX5_put 5 3 518)),
  (518, (.if_icmp .eq 987, 3), bL (o_ic (fun x y => x = y) 1505 521)),
  (521, (.iconst 0, 1), bL (o_ii 0 522)),
  (522, (.ireturn, 1), b_ri),
  (523, (.aload_n 1, 1), bL (o_al 1 524)),
  (524, (.aload_n 0, 1), bL (o_al 0 525)),
  (525, (.iload_n 3, 1), bL (o_il 3 526)),
  (526, (.iconst 1, 1), bL (o_ii 1 527)),
  (527, (.iadd, 1), bL (o_bi (fun x y => x + y) 528)),
  (528, (.iaload, 1), b_sld xs N 529),
  (529, (.aload_n 0, 1), bL (o_al 0 530)),
  (530, (.iload_n 3, 1), bL (o_il 3 531)),
  (531, (.iconst 2, 1), bL (o_ii 2 532)),
  (532, (.iadd, 1), bL (o_bi (fun x y => x + y) 533)),
  (533, (.iaload, 1), b_sld xs N 534),
  (534, (.invokevirtual 54, 3), bL (o_cV CX4_told 4 2 537)),
  (537, (.aload_n 2, 1), bL (o_al 2 538)),
  (538, (.aload_n 0, 1), bL (o_al 0 539)),
  (539, (.iload_n 3, 1), bL (o_il 3 540)),
  (540, (.iconst 1, 1), bL (o_ii 1 541)),
  (541, (.iadd, 1), bL (o_bi (fun x y => x + y) 542)),
  (542, (.iaload, 1), b_sld xs N 543),
  (543, (.aload_n 0, 1), bL (o_al 0 544)),
  (544, (.iload_n 3, 1), bL (o_il 3 545)),
  (545, (.iconst 2, 1), bL (o_ii 2 546)),
  (546, (.iadd, 1), bL (o_bi (fun x y => x + y) 547)),
  (547, (.iaload, 1), b_sld xs N 548),
  (548, (.invokevirtual 57, 3), bL (o_cV CX5_told 5 2 551)),
  (551, (.if_icmp .eq 954, 3), bL (o_ic (fun x y => x = y) 1505 554)),
  (554, (.iconst 0, 1), bL (o_ii 0 555)),
  (555, (.ireturn, 1), b_ri),
  (556, (.aload_n 1, 1), bL (o_al 1 557)),
  (557, (.aload_n 0, 1), bL (o_al 0 558)),
  (558, (.iload_n 3, 1), bL (o_il 3 559)),
  (559, (.iconst 1, 1), bL (o_ii 1 560)),
  (560, (.iadd, 1), bL (o_bi (fun x y => x + y) 561)),
  (561, (.iaload, 1), b_sld xs N 562),
  (562, (.aload_n 0, 1), bL (o_al 0 563)),
  (563, (.iload_n 3, 1), bL (o_il 3 564)),
  (564, (.iconst 2, 1), bL (o_ii 2 565)),
  (565, (.iadd, 1), bL (o_bi (fun x y => x + y) 566)),
  (566, (.iaload, 1), b_sld xs N 567),
  (567, (.invokevirtual 58, 3), bL (o_cV CX4_paper 4 2 570)),
  (570, (.aload_n 2, 1), bL (o_al 2 571)),
  (571, (.aload_n 0, 1), bL (o_al 0 572)),
  (572, (.iload_n 3, 1), bL (o_il 3 573)),
  (573, (.iconst 1, 1), bL (o_ii 1 574)),
  (574, (.iadd, 1), bL (o_bi (fun x y => x + y) 575)),
  (575, (.iaload, 1), b_sld xs N 576),
  (576, (.aload_n 0, 1), bL (o_al 0 577)),
  (577, (.iload_n 3, 1), bL (o_il 3 578)),
  (578, (.iconst 2, 1), bL (o_ii 2 579)),
  (579, (.iadd, 1), bL (o_bi (fun x y => x + y) 580)),
  (580, (.iaload, 1), b_sld xs N 581),
  (581, (.invokevirtual 61, 3), bL (o_cV CX5_paper 5 2 584)),
  (584, (.if_icmp .eq 921, 3), bL (o_ic (fun x y => x = y) 1505 587)),
  (587, (.iconst 0, 1), bL (o_ii 0 588)),
  (588, (.ireturn, 1), b_ri),
  (589, (.aload_n 1, 1), bL (o_al 1 590)),
  (590, (.aload_n 0, 1), bL (o_al 0 591)),
  (591, (.iload_n 3, 1), bL (o_il 3 592)),
  (592, (.iconst 1, 1), bL (o_ii 1 593)),
  (593, (.iadd, 1), bL (o_bi (fun x y => x + y) 594)),
  (594, (.iaload, 1), b_sld xs N 595),
  (595, (.aload_n 0, 1), bL (o_al 0 596)),
  (596, (.iload_n 3, 1), bL (o_il 3 597)),
  (597, (.iconst 2, 1), bL (o_ii 2 598)),
  (598, (.iadd, 1), bL (o_bi (fun x y => x + y) 599)),
  (599, (.iaload, 1), b_sld xs N 600),
  (600, (.aload_n 0, 1), bL (o_al 0 601)),
  (601, (.iload_n 3, 1), bL (o_il 3 602)),
  (602, (.iconst 3, 1), bL (o_ii 3 603)),
  (603, (.iadd, 1), bL (o_bi (fun x y => x + y) 604)),
  (604, (.iaload, 1), b_sld xs N 605),
  (605, (.invokevirtual 62, 3), bL (o_cV CX4_hearing 4 3 608)),
  (608, (.aload_n 2, 1), bL (o_al 2 609)),
  (609, (.aload_n 0, 1), bL (o_al 0 610)),
  (610, (.iload_n 3, 1), bL (o_il 3 611)),
  (611, (.iconst 1, 1), bL (o_ii 1 612)),
  (612, (.iadd, 1), bL (o_bi (fun x y => x + y) 613)),
  (613, (.iaload, 1), b_sld xs N 614),
  (614, (.aload_n 0, 1), bL (o_al 0 615)),
  (615, (.iload_n 3, 1), bL (o_il 3 616)),
  (616, (.iconst 2, 1), bL (o_ii 2 617)),
  (617, (.iadd, 1), bL (o_bi (fun x y => x + y) 618)),
  (618, (.iaload, 1), b_sld xs N 619),
  (619, (.aload_n 0, 1), bL (o_al 0 620)),
  (620, (.iload_n 3, 1), bL (o_il 3 621)),
  (621, (.iconst 3, 1), bL (o_ii 3 622)),
  (622, (.iadd, 1), bL (o_bi (fun x y => x + y) 623)),
  (623, (.iaload, 1), b_sld xs N 624),
  (624, (.invokevirtual 65, 3), bL (o_cV CX5_hearing 5 3 627)),
  (627, (.if_icmp .eq 878, 3), bL (o_ic (fun x y => x = y) 1505 630)),
  (630, (.iconst 0, 1), bL (o_ii 0 631)),
  (631, (.ireturn, 1), b_ri),
  (632, (.aload_n 1, 1), bL (o_al 1 633)),
  (633, (.aload_n 0, 1), bL (o_al 0 634)),
  (634, (.iload_n 3, 1), bL (o_il 3 635)),
  (635, (.iconst 1, 1), bL (o_ii 1 636)),
  (636, (.iadd, 1), bL (o_bi (fun x y => x + y) 637)),
  (637, (.iaload, 1), b_sld xs N 638),
  (638, (.aload_n 0, 1), bL (o_al 0 639)),
  (639, (.iload_n 3, 1), bL (o_il 3 640)),
  (640, (.iconst 2, 1), bL (o_ii 2 641)),
  (641, (.iadd, 1), bL (o_bi (fun x y => x + y) 642)),
  (642, (.iaload, 1), b_sld xs N 643),
  (643, (.invokevirtual 66, 3), bL (o_cV CX4_hear 4 2 646)),
  (646, (.aload_n 2, 1), bL (o_al 2 647)),
  (647, (.aload_n 0, 1), bL (o_al 0 648)),
  (648, (.iload_n 3, 1), bL (o_il 3 649)),
  (649, (.iconst 1, 1), bL (o_ii 1 650)),
  (650, (.iadd, 1), bL (o_bi (fun x y => x + y) 651)),
  (651, (.iaload, 1), b_sld xs N 652),
  (652, (.aload_n 0, 1), bL (o_al 0 653)),
  (653, (.iload_n 3, 1), bL (o_il 3 654)),
  (654, (.iconst 2, 1), bL (o_ii 2 655)),
  (655, (.iadd, 1), bL (o_bi (fun x y => x + y) 656)),
  (656, (.iaload, 1), b_sld xs N 657),
  (657, (.invokevirtual 69, 3), bL (o_cV CX5_hear 5 2 660)),
  (660, (.if_icmp .eq 845, 3), bL (o_ic (fun x y => x = y) 1505 663)),
  (663, (.iconst 0, 1), bL (o_ii 0 664)),
  (664, (.ireturn, 1), b_ri),
  (665, (.aload_n 1, 1), bL (o_al 1 666)),
  (666, (.aload_n 0, 1), bL (o_al 0 667)),
  (667, (.iload_n 3, 1), bL (o_il 3 668)),
  (668, (.iconst 1, 1), bL (o_ii 1 669)),
  (669, (.iadd, 1), bL (o_bi (fun x y => x + y) 670)),
  (670, (.iaload, 1), b_sld xs N 671),
  (671, (.aload_n 0, 1), bL (o_al 0 672)),
  (672, (.iload_n 3, 1), bL (o_il 3 673)),
  (673, (.iconst 2, 1), bL (o_ii 2 674)),
  (674, (.iadd, 1), bL (o_bi (fun x y => x + y) 675)),
  (675, (.iaload, 1), b_sld xs N 676),
  (676, (.invokevirtual 70, 3), bL (o_cV CX4_rob 4 2 679)),
  (679, (.aload_n 2, 1), bL (o_al 2 680)),
  (680, (.aload_n 0, 1), bL (o_al 0 681)),
  (681, (.iload_n 3, 1), bL (o_il 3 682)),
  (682, (.iconst 1, 1), bL (o_ii 1 683)),
  (683, (.iadd, 1), bL (o_bi (fun x y => x + y) 684)),
  (684, (.iaload, 1), b_sld xs N 685),
  (685, (.aload_n 0, 1), bL (o_al 0 686)),
  (686, (.iload_n 3, 1), bL (o_il 3 687)),
  (687, (.iconst 2, 1), bL (o_ii 2 688)),
  (688, (.iadd, 1), bL (o_bi (fun x y => x + y) 689)),
  (689, (.iaload, 1), b_sld xs N 690),
  (690, (.invokevirtual 73, 3), bL (o_cV CX5_rob 5 2 693)),
  (693, (.if_icmp .eq 812, 3), bL (o_ic (fun x y => x = y) 1505 696)),
  (696, (.iconst 0, 1), bL (o_ii 0 697)),
  (697, (.ireturn, 1), b_ri),
  (698, (.aload_n 1, 1), bL (o_al 1 699)),
  (699, (.invokevirtual 74, 3), bL (o_cV CX4_day 4 0 702)),
  (702, (.aload_n 2, 1), bL (o_al 2 703)),
  (703, (.invokevirtual 77, 3), bL (o_cV CX5_day 5 0 706)),
  (706, (.if_icmp .eq 799, 3), bL (o_ic (fun x y => x = y) 1505 709)),
  (709, (.iconst 0, 1), bL (o_ii 0 710)),
  (710, (.ireturn, 1), b_ri),
  (711, (.aload_n 1, 1), bL (o_al 1 712)),
  (712, (.aload_n 0, 1), bL (o_al 0 713)),
  (713, (.iload_n 3, 1), bL (o_il 3 714)),
  (714, (.iconst 1, 1), bL (o_ii 1 715)),
  (715, (.iadd, 1), bL (o_bi (fun x y => x + y) 716)),
  (716, (.iaload, 1), b_sld xs N 717),
  (717, (.aload_n 0, 1), bL (o_al 0 718)),
  (718, (.iload_n 3, 1), bL (o_il 3 719)),
  (719, (.iconst 2, 1), bL (o_ii 2 720)),
  (720, (.iadd, 1), bL (o_bi (fun x y => x + y) 721)),
  (721, (.iaload, 1), b_sld xs N 722),
  (722, (.invokevirtual 78, 3), bL (o_cV CX4_run 4 2 725)),
  (725, (.aload_n 2, 1), bL (o_al 2 726)),
  (726, (.aload_n 0, 1), bL (o_al 0 727)),
  (727, (.iload_n 3, 1), bL (o_il 3 728)),
  (728, (.iconst 1, 1), bL (o_ii 1 729)),
  (729, (.iadd, 1), bL (o_bi (fun x y => x + y) 730)),
  (730, (.iaload, 1), b_sld xs N 731),
  (731, (.aload_n 0, 1), bL (o_al 0 732)),
  (732, (.iload_n 3, 1), bL (o_il 3 733)),
  (733, (.iconst 2, 1), bL (o_ii 2 734)),
  (734, (.iadd, 1), bL (o_bi (fun x y => x + y) 735)),
  (735, (.iaload, 1), b_sld xs N 736),
  (736, (.invokevirtual 81, 3), bL (o_cV CX5_run 5 2 739)),
  (739, (.if_icmp .eq 766, 3), bL (o_ic (fun x y => x = y) 1505 742)),
  (742, (.iconst 0, 1), bL (o_ii 0 743)),
  (743, (.ireturn, 1), b_ri),
  (744, (.aload_n 1, 1), bL (o_al 1 745)),
  (745, (.aload_n 0, 1), bL (o_al 0 746)),
  (746, (.iload_n 3, 1), bL (o_il 3 747)),
  (747, (.iconst 1, 1), bL (o_ii 1 748)),
  (748, (.iadd, 1), bL (o_bi (fun x y => x + y) 749)),
  (749, (.iaload, 1), b_sld xs N 750),
  (750, (.invokevirtual 82, 3), bL (o_cV CX4_when 4 1 753)),
  (753, (.aload_n 2, 1), bL (o_al 2 754)),
  (754, (.aload_n 0, 1), bL (o_al 0 755)),
  (755, (.iload_n 3, 1), bL (o_il 3 756)),
  (756, (.iconst 1, 1), bL (o_ii 1 757)),
  (757, (.iadd, 1), bL (o_bi (fun x y => x + y) 758)),
  (758, (.iaload, 1), b_sld xs N 759),
  (759, (.invokevirtual 85, 3), bL (o_cV CX5_when 5 1 762)),
  (762, (.if_icmp .eq 743, 3), bL (o_ic (fun x y => x = y) 1505 765)),
  (765, (.iconst 0, 1), bL (o_ii 0 766)),
  (766, (.ireturn, 1), b_ri),
  (767, (.aload_n 1, 1), bL (o_al 1 768)),
  (768, (.aload_n 0, 1), bL (o_al 0 769)),
  (769, (.iload_n 3, 1), bL (o_il 3 770)),
  (770, (.iconst 1, 1), bL (o_ii 1 771)),
  (771, (.iadd, 1), bL (o_bi (fun x y => x + y) 772)),
  (772, (.iaload, 1), b_sld xs N 773),
  (773, (.invokevirtual 86, 3), bL (o_cV CX4_sitting 4 1 776)),
  (776, (.aload_n 2, 1), bL (o_al 2 777)),
  (777, (.aload_n 0, 1), bL (o_al 0 778)),
  (778, (.iload_n 3, 1), bL (o_il 3 779)),
  (779, (.iconst 1, 1), bL (o_ii 1 780)),
  (780, (.iadd, 1), bL (o_bi (fun x y => x + y) 781)),
  (781, (.iaload, 1), b_sld xs N 782),
  (782, (.invokevirtual 89, 3), bL (o_cV CX5_sitting 5 1 785)),
  (785, (.if_icmp .eq 720, 3), bL (o_ic (fun x y => x = y) 1505 788)),
  (788, (.iconst 0, 1), bL (o_ii 0 789)),
  (789, (.ireturn, 1), b_ri),
  (790, (.aload_n 1, 1), bL (o_al 1 791)),
  (791, (.aload_n 0, 1), bL (o_al 0 792)),
  (792, (.iload_n 3, 1), bL (o_il 3 793)),
  (793, (.iconst 1, 1), bL (o_ii 1 794)),
  (794, (.iadd, 1), bL (o_bi (fun x y => x + y) 795)),
  (795, (.iaload, 1), b_sld xs N 796),
  (796, (.aload_n 0, 1), bL (o_al 0 797)),
  (797, (.iload_n 3, 1), bL (o_il 3 798)),
  (798, (.iconst 2, 1), bL (o_ii 2 799)),
  (799, (.iadd, 1), bL (o_bi (fun x y => x + y) 800)),
  (800, (.iaload, 1), b_sld xs N 801),
  (801, (.invokevirtual 90, 3), bL (o_cV CX4_burglary 4 2 804)),
  (804, (.aload_n 2, 1), bL (o_al 2 805)),
  (805, (.aload_n 0, 1), bL (o_al 0 806)),
  (806, (.iload_n 3, 1), bL (o_il 3 807)),
  (807, (.iconst 1, 1), bL (o_ii 1 808)),
  (808, (.iadd, 1), bL (o_bi (fun x y => x + y) 809)),
  (809, (.iaload, 1), b_sld xs N 810),
  (810, (.aload_n 0, 1), bL (o_al 0 811)),
  (811, (.iload_n 3, 1), bL (o_il 3 812)),
  (812, (.iconst 2, 1), bL (o_ii 2 813)),
  (813, (.iadd, 1), bL (o_bi (fun x y => x + y) 814)),
  (814, (.iaload, 1), b_sld xs N 815),
  (815, (.invokevirtual 93, 3), bL (o_cV CX5_burglary 5 2 818)),
  (818, (.if_icmp .eq 687, 3), bL (o_ic (fun x y => x = y) 1505 821)),
  (821, (.iconst 0, 1), bL (o_ii 0 822)),
  (822, (.ireturn, 1), b_ri),
  (823, (.aload_n 1, 1), bL (o_al 1 824)),
  (824, (.aload_n 0, 1), bL (o_al 0 825)),
  (825, (.iload_n 3, 1), bL (o_il 3 826)),
  (826, (.iconst 1, 1), bL (o_ii 1 827)),
  (827, (.iadd, 1), bL (o_bi (fun x y => x + y) 828)),
  (828, (.iaload, 1), b_sld xs N 829),
  (829, (.aload_n 0, 1), bL (o_al 0 830)),
  (830, (.iload_n 3, 1), bL (o_il 3 831)),
  (831, (.iconst 2, 1), bL (o_ii 2 832)),
  (832, (.iadd, 1), bL (o_bi (fun x y => x + y) 833)),
  (833, (.iaload, 1), b_sld xs N 834),
  (834, (.aload_n 0, 1), bL (o_al 0 835)),
  (835, (.iload_n 3, 1), bL (o_il 3 836)),
  (836, (.iconst 3, 1), bL (o_ii 3 837)),
  (837, (.iadd, 1), bL (o_bi (fun x y => x + y) 838)),
  (838, (.iaload, 1), b_sld xs N 839),
  (839, (.invokevirtual 94, 3), bL (o_cV CX4_wants 4 3 842)),
  (842, (.aload_n 2, 1), bL (o_al 2 843)),
  (843, (.aload_n 0, 1), bL (o_al 0 844)),
  (844, (.iload_n 3, 1), bL (o_il 3 845)),
  (845, (.iconst 1, 1), bL (o_ii 1 846)),
  (846, (.iadd, 1), bL (o_bi (fun x y => x + y) 847)),
  (847, (.iaload, 1), b_sld xs N 848),
  (848, (.aload_n 0, 1), bL (o_al 0 849)),
  (849, (.iload_n 3, 1), bL (o_il 3 850)),
  (850, (.iconst 2, 1), bL (o_ii 2 851)),
  (851, (.iadd, 1), bL (o_bi (fun x y => x + y) 852)),
  (852, (.iaload, 1), b_sld xs N 853),
  (853, (.aload_n 0, 1), bL (o_al 0 854)),
  (854, (.iload_n 3, 1), bL (o_il 3 855)),
  (855, (.iconst 3, 1), bL (o_ii 3 856)),
  (856, (.iadd, 1), bL (o_bi (fun x y => x + y) 857)),
  (857, (.iaload, 1), b_sld xs N 858),
  (858, (.invokevirtual 97, 3), bL (o_cV CX5_wants 5 3 861)),
  (861, (.if_icmp .eq 644, 3), bL (o_ic (fun x y => x = y) 1505 864)),
  (864, (.iconst 0, 1), bL (o_ii 0 865)),
  (865, (.ireturn, 1), b_ri),
  (866, (.aload_n 1, 1), bL (o_al 1 867)),
  (867, (.aload_n 0, 1), bL (o_al 0 868)),
  (868, (.iload_n 3, 1), bL (o_il 3 869)),
  (869, (.iconst 1, 1), bL (o_ii 1 870)),
  (870, (.iadd, 1), bL (o_bi (fun x y => x + y) 871)),
  (871, (.iaload, 1), b_sld xs N 872),
  (872, (.invokevirtual 98, 3), bL (o_cV CX4_fullest 4 1 875)),
  (875, (.aload_n 2, 1), bL (o_al 2 876)),
  (876, (.aload_n 0, 1), bL (o_al 0 877)),
  (877, (.iload_n 3, 1), bL (o_il 3 878)),
  (878, (.iconst 1, 1), bL (o_ii 1 879)),
  (879, (.iadd, 1), bL (o_bi (fun x y => x + y) 880)),
  (880, (.iaload, 1), b_sld xs N 881),
  (881, (.invokevirtual 101, 3), bL (o_cV CX5_fullest 5 1 884)),
  (884, (.if_icmp .eq 621, 3), bL (o_ic (fun x y => x = y) 1505 887)),
  (887, (.iconst 0, 1), bL (o_ii 0 888)),
  (888, (.ireturn, 1), b_ri),
  (889, (.aload_n 1, 1), bL (o_al 1 890)),
  (890, (.invokevirtual 102, 3), bL (o_cV CX4_cruel 4 0 893)),
  (893, (.aload_n 2, 1), bL (o_al 2 894)),
  (894, (.invokevirtual 105, 3), bL (o_cV CX5_cruel 5 0 897)),
  (897, (.if_icmp .eq 608, 3), bL (o_ic (fun x y => x = y) 1505 900)),
  (900, (.iconst 0, 1), bL (o_ii 0 901)),
  (901, (.ireturn, 1), b_ri),
  (902, (.aload_n 1, 1), bL (o_al 1 903)),
  (903, (.aload_n 0, 1), bL (o_al 0 904)),
  (904, (.iload_n 3, 1), bL (o_il 3 905)),
  (905, (.iconst 1, 1), bL (o_ii 1 906)),
  (906, (.iadd, 1), bL (o_bi (fun x y => x + y) 907)),
  (907, (.iaload, 1), b_sld xs N 908),
  (908, (.invokevirtual 106, 3), bL (o_cV CX4_ruin 4 1 911)),
  (911, (.aload_n 2, 1), bL (o_al 2 912)),
  (912, (.aload_n 0, 1), bL (o_al 0 913)),
  (913, (.iload_n 3, 1), bL (o_il 3 914)),
  (914, (.iconst 1, 1), bL (o_ii 1 915)),
  (915, (.iadd, 1), bL (o_bi (fun x y => x + y) 916)),
  (916, (.iaload, 1), b_sld xs N 917),
  (917, (.invokevirtual 110, 3), bL (o_cV CX5_ruin 5 1 920)),
  (920, (.lcmp, 1), bL (o_lcm 921)),
  (921, (.ifCond .eq 584, 3), bL (o_if (fun x => x = 0) 1505 924)),
  (924, (.iconst 0, 1), bL (o_ii 0 925)),
  (925, (.ireturn, 1), b_ri),
  (926, (.aload_n 1, 1), bL (o_al 1 927)),
  (927, (.aload_n 0, 1), bL (o_al 0 928)),
  (928, (.iload_n 3, 1), bL (o_il 3 929)),
  (929, (.iconst 1, 1), bL (o_ii 1 930)),
  (930, (.iadd, 1), bL (o_bi (fun x y => x + y) 931)),
  (931, (.iaload, 1), b_sld xs N 932),
  (932, (.invokevirtual 111, 3), bL (o_cV CX4_tells 4 1 935)),
  (935, (.aload_n 2, 1), bL (o_al 2 936)),
  (936, (.aload_n 0, 1), bL (o_al 0 937)),
  (937, (.iload_n 3, 1), bL (o_il 3 938)),
  (938, (.iconst 1, 1), bL (o_ii 1 939)),
  (939, (.iadd, 1), bL (o_bi (fun x y => x + y) 940)),
  (940, (.iaload, 1), b_sld xs N 941),
  (941, (.invokevirtual 114, 3), bL (o_cV CX5_tells 5 1 944)),
  (944, (.if_icmp .eq 561, 3), bL (o_ic (fun x y => x = y) 1505 947)),
  (947, (.iconst 0, 1), bL (o_ii 0 948)),
  (948, (.ireturn, 1), b_ri),
  (949, (.aload_n 1, 1), bL (o_al 1 950)),
  (950, (.aload_n 0, 1), bL (o_al 0 951)),
  (951, (.iload_n 3, 1), bL (o_il 3 952)),
  (952, (.iconst 1, 1), bL (o_ii 1 953)),
  (953, (.iadd, 1), bL (o_bi (fun x y => x + y) 954)),
  (954, (.iaload, 1), b_sld xs N 955),
  (955, (.aload_n 0, 1), bL (o_al 0 956)),
  (956, (.iload_n 3, 1), bL (o_il 3 957)),
  (957, (.iconst 2, 1), bL (o_ii 2 958)),
  (958, (.iadd, 1), bL (o_bi (fun x y => x + y) 959)),
  (959, (.iaload, 1), b_sld xs N 960),
  (960, (.aload_n 0, 1), bL (o_al 0 961)),
  (961, (.iload_n 3, 1), bL (o_il 3 962)),
  (962, (.iconst 3, 1), bL (o_ii 3 963)),
  (963, (.iadd, 1), bL (o_bi (fun x y => x + y) 964)),
  (964, (.iaload, 1), b_sld xs N 965),
  (965, (.invokevirtual 115, 3), bL (o_cV CX4_kinds 4 3 968)),
  (968, (.aload_n 2, 1), bL (o_al 2 969)),
  (969, (.aload_n 0, 1), bL (o_al 0 970)),
  (970, (.iload_n 3, 1), bL (o_il 3 971)),
  (971, (.iconst 1, 1), bL (o_ii 1 972)),
  (972, (.iadd, 1), bL (o_bi (fun x y => x + y) 973)),
  (973, (.iaload, 1), b_sld xs N 974),
  (974, (.aload_n 0, 1), bL (o_al 0 975)),
  (975, (.iload_n 3, 1), bL (o_il 3 976)),
  (976, (.iconst 2, 1), bL (o_ii 2 977)),
  (977, (.iadd, 1), bL (o_bi (fun x y => x + y) 978)),
  (978, (.iaload, 1), b_sld xs N 979),
  (979, (.aload_n 0, 1), bL (o_al 0 980)),
  (980, (.iload_n 3, 1), bL (o_il 3 981)),
  (981, (.iconst 3, 1), bL (o_ii 3 982)),
  (982, (.iadd, 1), bL (o_bi (fun x y => x + y) 983)),
  (983, (.iaload, 1), b_sld xs N 984),
  (984, (.invokevirtual 118, 3), bL (o_cV CX5_kinds 5 3 987)),
  (987, (.if_icmp .eq 518, 3), bL (o_ic (fun x y => x = y) 1505 990)),
  (990, (.iconst 0, 1), bL (o_ii 0 991)),
  (991, (.ireturn, 1), b_ri),
  (992, (.aload_n 1, 1), bL (o_al 1 993)),
  (993, (.aload_n 0, 1), bL (o_al 0 994)),
  (994, (.iload_n 3, 1), bL (o_il 3 995)),
  (995, (.iconst 1, 1), bL (o_ii 1 996)),
  (996, (.iadd, 1), bL (o_bi (fun x y => x + y) 997)),
  (997, (.iaload, 1), b_sld xs N 998),
  (998, (.aload_n 0, 1), bL (o_al 0 999)),
  (999, (.iload_n 3, 1), bL (o_il 3 1000)),
  (1000, (.iconst 2, 1), bL (o_ii 2 1001)),
  (1001, (.iadd, 1), bL (o_bi (fun x y => x + y) 1002)),
  (1002, (.iaload, 1), b_sld xs N 1003),
  (1003, (.invokevirtual 119, 3), bL (o_cV CX4_turned 4 2 1006)),
  (1006, (.aload_n 2, 1), bL (o_al 2 1007)),
  (1007, (.aload_n 0, 1), bL (o_al 0 1008)),
  (1008, (.iload_n 3, 1), bL (o_il 3 1009)),
  (1009, (.iconst 1, 1), bL (o_ii 1 1010)),
  (1010, (.iadd, 1), bL (o_bi (fun x y => x + y) 1011)),
  (1011, (.iaload, 1), b_sld xs N 1012),
  (1012, (.aload_n 0, 1), bL (o_al 0 1013)),
  (1013, (.iload_n 3, 1), bL (o_il 3 1014)),
  (1014, (.iconst 2, 1), bL (o_ii 2 1015)),
  (1015, (.iadd, 1), bL (o_bi (fun x y => x + y) 1016)),
  (1016, (.iaload, 1), b_sld xs N 1017),
  (1017, (.invokevirtual 122, 3), bL (o_cV CX5_turned 5 2 1020)),
  (1020, (.if_icmp .eq 485, 3), bL (o_ic (fun x y => x = y) 1505 1023)),
  (1023, (.iconst 0, 1), bL (o_ii 0 1024)),
  (1024, (.ireturn, 1), b_ri),
  (1025, (.aload_n 1, 1), bL (o_al 1 1026)),
  (1026, (.aload_n 0, 1), bL (o_al 0 1027)),
  (1027, (.iload_n 3, 1), bL (o_il 3 1028)),
  (1028, (.iconst 1, 1), bL (o_ii 1 1029)),
  (1029, (.iadd, 1), bL (o_bi (fun x y => x + y) 1030)),
  (1030, (.iaload, 1), b_sld xs N 1031),
  (1031, (.aload_n 0, 1), bL (o_al 0 1032)),
  (1032, (.iload_n 3, 1), bL (o_il 3 1033)),
  (1033, (.iconst 2, 1), bL (o_ii 2 1034)),
  (1034, (.iadd, 1), bL (o_bi (fun x y => x + y) 1035)),
  (1035, (.iaload, 1), b_sld xs N 1036),
  (1036, (.aload_n 0, 1), bL (o_al 0 1037)),
  (1037, (.iload_n 3, 1), bL (o_il 3 1038)),
  (1038, (.iconst 3, 1), bL (o_ii 3 1039)),
  (1039, (.iadd, 1), bL (o_bi (fun x y => x + y) 1040)),
  (1040, (.iaload, 1), b_sld xs N 1041),
  (1041, (.aload_n 0, 1), bL (o_al 0 1042)),
  (1042, (.iload_n 3, 1), bL (o_il 3 1043)),
  (1043, (.iconst 4, 1), bL (o_ii 4 1044)),
  (1044, (.iadd, 1), bL (o_bi (fun x y => x + y) 1045)),
  (1045, (.iaload, 1), b_sld xs N 1046),
  (1046, (.invokevirtual 123, 3), bL (o_cV CX4_states 4 4 1049)),
  (1049, (.aload_n 2, 1), bL (o_al 2 1050)),
  (1050, (.aload_n 0, 1), bL (o_al 0 1051)),
  (1051, (.iload_n 3, 1), bL (o_il 3 1052)),
  (1052, (.iconst 1, 1), bL (o_ii 1 1053)),
  (1053, (.iadd, 1), bL (o_bi (fun x y => x + y) 1054)),
  (1054, (.iaload, 1), b_sld xs N 1055),
  (1055, (.aload_n 0, 1), bL (o_al 0 1056)),
  (1056, (.iload_n 3, 1), bL (o_il 3 1057)),
  (1057, (.iconst 2, 1), bL (o_ii 2 1058)),
  (1058, (.iadd, 1), bL (o_bi (fun x y => x + y) 1059)),
  (1059, (.iaload, 1), b_sld xs N 1060),
  (1060, (.aload_n 0, 1), bL (o_al 0 1061)),
  (1061, (.iload_n 3, 1), bL (o_il 3 1062)),
  (1062, (.iconst 3, 1), bL (o_ii 3 1063)),
  (1063, (.iadd, 1), bL (o_bi (fun x y => x + y) 1064)),
  (1064, (.iaload, 1), b_sld xs N 1065),
  (1065, (.aload_n 0, 1), bL (o_al 0 1066)),
  (1066, (.iload_n 3, 1), bL (o_il 3 1067)),
  (1067, (.iconst 4, 1), bL (o_ii 4 1068)),
  (1068, (.iadd, 1), bL (o_bi (fun x y => x + y) 1069)),
  (1069, (.iaload, 1), b_sld xs N 1070),
  (1070, (.invokevirtual 127, 3), bL (o_cV CX5_states 5 4 1073)),
  (1073, (.if_icmp .eq 432, 3), bL (o_ic (fun x y => x = y) 1505 1076)),
  (1076, (.iconst 0, 1), bL (o_ii 0 1077)),
  (1077, (.ireturn, 1), b_ri),
  (1078, (.aload_n 1, 1), bL (o_al 1 1079)),
  (1079, (.aload_n 0, 1), bL (o_al 0 1080)),
  (1080, (.iload_n 3, 1), bL (o_il 3 1081)),
  (1081, (.iconst 1, 1), bL (o_ii 1 1082)),
  (1082, (.iadd, 1), bL (o_bi (fun x y => x + y) 1083)),
  (1083, (.iaload, 1), b_sld xs N 1084),
  (1084, (.invokevirtual 128, 3), bL (o_cV CX4_dropped 4 1 1087)),
  (1087, (.aload_n 2, 1), bL (o_al 2 1088)),
  (1088, (.aload_n 0, 1), bL (o_al 0 1089)),
  (1089, (.iload_n 3, 1), bL (o_il 3 1090)),
  (1090, (.iconst 1, 1), bL (o_ii 1 1091)),
  (1091, (.iadd, 1), bL (o_bi (fun x y => x + y) 1092)),
  (1092, (.iaload, 1), b_sld xs N 1093),
  (1093, (.invokevirtual 131, 3), bL (o_cV CX5_dropped 5 1 1096)),
  (1096, (.if_icmp .eq 409, 3), bL (o_ic (fun x y => x = y) 1505 1099)),
  (1099, (.iconst 0, 1), bL (o_ii 0 1100)),
  (1100, (.ireturn, 1), b_ri),
  (1101, (.aload_n 1, 1), bL (o_al 1 1102)),
  (1102, (.aload_n 0, 1), bL (o_al 0 1103)),
  (1103, (.iload_n 3, 1), bL (o_il 3 1104)),
  (1104, (.iconst 1, 1), bL (o_ii 1 1105)),
  (1105, (.iadd, 1), bL (o_bi (fun x y => x + y) 1106)),
  (1106, (.iaload, 1), b_sld xs N 1107),
  (1107, (.invokevirtual 132, 3), bL (o_cV CX4_laws 4 1 1110)),
  (1110, (.aload_n 2, 1), bL (o_al 2 1111)),
  (1111, (.aload_n 0, 1), bL (o_al 0 1112)),
  (1112, (.iload_n 3, 1), bL (o_il 3 1113)),
  (1113, (.iconst 1, 1), bL (o_ii 1 1114)),
  (1114, (.iadd, 1), bL (o_bi (fun x y => x + y) 1115)),
  (1115, (.iaload, 1), b_sld xs N 1116),
  (1116, (.invokevirtual 135, 3), bL (o_cV CX5_laws 5 1 1119)),
  (1119, (.if_icmp .eq 386, 3), bL (o_ic (fun x y => x = y) 1505 1122)),
  (1122, (.iconst 0, 1), bL (o_ii 0 1123)),
  (1123, (.ireturn, 1), b_ri),
  (1124, (.aload_n 1, 1), bL (o_al 1 1125)),
  (1125, (.aload_n 0, 1), bL (o_al 0 1126)),
  (1126, (.iload_n 3, 1), bL (o_il 3 1127)),
  (1127, (.iconst 1, 1), bL (o_ii 1 1128)),
  (1128, (.iadd, 1), bL (o_bi (fun x y => x + y) 1129)),
  (1129, (.iaload, 1), b_sld xs N 1130),
  (1130, (.aload_n 0, 1), bL (o_al 0 1131)),
  (1131, (.iload_n 3, 1), bL (o_il 3 1132)),
  (1132, (.iconst 2, 1), bL (o_ii 2 1133)),
  (1133, (.iadd, 1), bL (o_bi (fun x y => x + y) 1134)),
  (1134, (.iaload, 1), b_sld xs N 1135),
  (1135, (.invokevirtual 136, 3), bL (o_cV CX4_film 4 2 1138)),
  (1138, (.aload_n 2, 1), bL (o_al 2 1139)),
  (1139, (.aload_n 0, 1), bL (o_al 0 1140)),
  (1140, (.iload_n 3, 1), bL (o_il 3 1141)),
  (1141, (.iconst 1, 1), bL (o_ii 1 1142)),
  (1142, (.iadd, 1), bL (o_bi (fun x y => x + y) 1143)),
  (1143, (.iaload, 1), b_sld xs N 1144),
  (1144, (.aload_n 0, 1), bL (o_al 0 1145)),
  (1145, (.iload_n 3, 1), bL (o_il 3 1146)),
  (1146, (.iconst 2, 1), bL (o_ii 2 1147)),
  (1147, (.iadd, 1), bL (o_bi (fun x y => x + y) 1148)),
  (1148, (.iaload, 1), b_sld xs N 1149),
  (1149, (.invokevirtual 139, 3), bL (o_cV CX5_film 5 2 1152)),
  (1152, (.if_icmp .eq 353, 3), bL (o_ic (fun x y => x = y) 1505 1155)),
  (1155, (.iconst 0, 1), bL (o_ii 0 1156)),
  (1156, (.ireturn, 1), b_ri),
  (1157, (.aload_n 1, 1), bL (o_al 1 1158)),
  (1158, (.aload_n 0, 1), bL (o_al 0 1159)),
  (1159, (.iload_n 3, 1), bL (o_il 3 1160)),
  (1160, (.iconst 1, 1), bL (o_ii 1 1161)),
  (1161, (.iadd, 1), bL (o_bi (fun x y => x + y) 1162)),
  (1162, (.iaload, 1), b_sld xs N 1163),
  (1163, (.aload_n 0, 1), bL (o_al 0 1164)),
  (1164, (.iload_n 3, 1), bL (o_il 3 1165)),
  (1165, (.iconst 2, 1), bL (o_ii 2 1166)),
  (1166, (.iadd, 1), bL (o_bi (fun x y => x + y) 1167)),
  (1167, (.iaload, 1), b_sld xs N 1168),
  (1168, (.invokevirtual 140, 3), bL (o_cV CX4_drawn 4 2 1171)),
  (1171, (.aload_n 2, 1), bL (o_al 2 1172)),
  (1172, (.aload_n 0, 1), bL (o_al 0 1173)),
  (1173, (.iload_n 3, 1), bL (o_il 3 1174)),
  (1174, (.iconst 1, 1), bL (o_ii 1 1175)),
  (1175, (.iadd, 1), bL (o_bi (fun x y => x + y) 1176)),
  (1176, (.iaload, 1), b_sld xs N 1177),
  (1177, (.aload_n 0, 1), bL (o_al 0 1178)),
  (1178, (.iload_n 3, 1), bL (o_il 3 1179)),
  (1179, (.iconst 2, 1), bL (o_ii 2 1180)),
  (1180, (.iadd, 1), bL (o_bi (fun x y => x + y) 1181)),
  (1181, (.iaload, 1), b_sld xs N 1182),
  (1182, (.invokevirtual 143, 3), bL (o_cV CX5_drawn 5 2 1185)),
  (1185, (.if_icmp .eq 320, 3), bL (o_ic (fun x y => x = y) 1505 1188)),
  (1188, (.iconst 0, 1), bL (o_ii 0 1189)),
  (1189, (.ireturn, 1), b_ri),
  (1190, (.aload_n 1, 1), bL (o_al 1 1191)),
  (1191, (.aload_n 0, 1), bL (o_al 0 1192)),
  (1192, (.iload_n 3, 1), bL (o_il 3 1193)),
  (1193, (.iconst 1, 1), bL (o_ii 1 1194)),
  (1194, (.iadd, 1), bL (o_bi (fun x y => x + y) 1195)),
  (1195, (.iaload, 1), b_sld xs N 1196),
  (1196, (.aload_n 0, 1), bL (o_al 0 1197)),
  (1197, (.iload_n 3, 1), bL (o_il 3 1198)),
  (1198, (.iconst 2, 1), bL (o_ii 2 1199)),
  (1199, (.iadd, 1), bL (o_bi (fun x y => x + y) 1200)),
  (1200, (.iaload, 1), b_sld xs N 1201),
  (1201, (.aload_n 0, 1), bL (o_al 0 1202)),
  (1202, (.iload_n 3, 1), bL (o_il 3 1203)),
  (1203, (.iconst 3, 1), bL (o_ii 3 1204)),
  (1204, (.iadd, 1), bL (o_bi (fun x y => x + y) 1205)),
  (1205, (.iaload, 1), b_sld xs N 1206),
  (1206, (.aload_n 0, 1), bL (o_al 0 1207)),
  (1207, (.iload_n 3, 1), bL (o_il 3 1208)),
  (1208, (.iconst 4, 1), bL (o_ii 4 1209)),
  (1209, (.iadd, 1), bL (o_bi (fun x y => x + y) 1210)),
  (1210, (.iaload, 1), b_sld xs N 1211),
  (1211, (.invokevirtual 144, 3), bL (o_cV CX4_odds 4 4 1214)),
  (1214, (.aload_n 2, 1), bL (o_al 2 1215)),
  (1215, (.aload_n 0, 1), bL (o_al 0 1216)),
  (1216, (.iload_n 3, 1), bL (o_il 3 1217)),
  (1217, (.iconst 1, 1), bL (o_ii 1 1218)),
  (1218, (.iadd, 1), bL (o_bi (fun x y => x + y) 1219)),
  (1219, (.iaload, 1), b_sld xs N 1220),
  (1220, (.aload_n 0, 1), bL (o_al 0 1221)),
  (1221, (.iload_n 3, 1), bL (o_il 3 1222)),
  (1222, (.iconst 2, 1), bL (o_ii 2 1223)),
  (1223, (.iadd, 1), bL (o_bi (fun x y => x + y) 1224)),
  (1224, (.iaload, 1), b_sld xs N 1225),
  (1225, (.aload_n 0, 1), bL (o_al 0 1226)),
  (1226, (.iload_n 3, 1), bL (o_il 3 1227)),
  (1227, (.iconst 3, 1), bL (o_ii 3 1228)),
  (1228, (.iadd, 1), bL (o_bi (fun x y => x + y) 1229)),
  (1229, (.iaload, 1), b_sld xs N 1230),
  (1230, (.aload_n 0, 1), bL (o_al 0 1231)),
  (1231, (.iload_n 3, 1), bL (o_il 3 1232)),
  (1232, (.iconst 4, 1), bL (o_ii 4 1233)),
  (1233, (.iadd, 1), bL (o_bi (fun x y => x + y) 1234)),
  (1234, (.iaload, 1), b_sld xs N 1235),
  (1235, (.invokevirtual 148, 3), bL (o_cV CX5_odds 5 4 1238)),
  (1238, (.lcmp, 1), bL (o_lcm 1239)),
  (1239, (.ifCond .eq 266, 3), bL (o_if (fun x => x = 0) 1505 1242)),
  (1242, (.iconst 0, 1), bL (o_ii 0 1243)),
  (1243, (.ireturn, 1), b_ri),
  (1244, (.aload_n 1, 1), bL (o_al 1 1245)),
  (1245, (.invokevirtual 149, 3), bL (o_cV CX4_image 4 0 1248)),
  (1248, (.aload_n 2, 1), bL (o_al 2 1249)),
  (1249, (.invokevirtual 152, 3), bL (o_cV CX5_image 5 0 1252)),
  (1252, (.if_icmp .eq 253, 3), bL (o_ic (fun x y => x = y) 1505 1255)),
  (1255, (.iconst 0, 1), bL (o_ii 0 1256)),
  (1256, (.ireturn, 1), b_ri),
  (1257, (.aload_n 1, 1), bL (o_al 1 1258)),
  (1258, (.invokevirtual 153, 3), bL (o_cV CX4_back 4 0 1261)),
  (1261, (.aload_n 2, 1), bL (o_al 2 1262)),
  (1262, (.invokevirtual 156, 3), bL (o_cV CX5_back 5 0 1265)),
  (1265, (.if_icmp .eq 240, 3), bL (o_ic (fun x y => x = y) 1505 1268)),
  (1268, (.iconst 0, 1), bL (o_ii 0 1269)),
  (1269, (.ireturn, 1), b_ri),
  (1270, (.aload_n 1, 1), bL (o_al 1 1271)),
  (1271, (.aload_n 0, 1), bL (o_al 0 1272)),
  (1272, (.iload_n 3, 1), bL (o_il 3 1273)),
  (1273, (.iconst 1, 1), bL (o_ii 1 1274)),
  (1274, (.iadd, 1), bL (o_bi (fun x y => x + y) 1275)),
  (1275, (.iaload, 1), b_sld xs N 1276),
  (1276, (.aload_n 0, 1), bL (o_al 0 1277)),
  (1277, (.iload_n 3, 1), bL (o_il 3 1278)),
  (1278, (.iconst 2, 1), bL (o_ii 2 1279)),
  (1279, (.iadd, 1), bL (o_bi (fun x y => x + y) 1280)),
  (1280, (.iaload, 1), b_sld xs N 1281),
  (1281, (.aload_n 0, 1), bL (o_al 0 1282)),
  (1282, (.iload_n 3, 1), bL (o_il 3 1283)),
  (1283, (.iconst 3, 1), bL (o_ii 3 1284)),
  (1284, (.iadd, 1), bL (o_bi (fun x y => x + y) 1285)),
  (1285, (.iaload, 1), b_sld xs N 1286),
  (1286, (.invokevirtual 157, 3), bL (o_cV CX4_sheet 4 3 1289)),
  (1289, (.aload_n 2, 1), bL (o_al 2 1290)),
  (1290, (.aload_n 0, 1), bL (o_al 0 1291)),
  (1291, (.iload_n 3, 1), bL (o_il 3 1292)),
  (1292, (.iconst 1, 1), bL (o_ii 1 1293)),
  (1293, (.iadd, 1), bL (o_bi (fun x y => x + y) 1294)),
  (1294, (.iaload, 1), b_sld xs N 1295),
  (1295, (.aload_n 0, 1), bL (o_al 0 1296)),
  (1296, (.iload_n 3, 1), bL (o_il 3 1297)),
  (1297, (.iconst 2, 1), bL (o_ii 2 1298)),
  (1298, (.iadd, 1), bL (o_bi (fun x y => x + y) 1299)),
  (1299, (.iaload, 1), b_sld xs N 1300),
  (1300, (.aload_n 0, 1), bL (o_al 0 1301)),
  (1301, (.iload_n 3, 1), bL (o_il 3 1302)),
  (1302, (.iconst 3, 1), bL (o_ii 3 1303)),
  (1303, (.iadd, 1), bL (o_bi (fun x y => x + y) 1304)),
  (1304, (.iaload, 1), b_sld xs N 1305),
  (1305, (.invokevirtual 160, 3), bL (o_cV CX5_sheet 5 3 1308)),
  (1308, (.if_icmp .eq 197, 3), bL (o_ic (fun x y => x = y) 1505 1311)),
  (1311, (.iconst 0, 1), bL (o_ii 0 1312)),
  (1312, (.ireturn, 1), b_ri),
  (1313, (.aload_n 1, 1), bL (o_al 1 1314)),
  (1314, (.aload_n 0, 1), bL (o_al 0 1315)),
  (1315, (.iload_n 3, 1), bL (o_il 3 1316)),
  (1316, (.iconst 1, 1), bL (o_ii 1 1317)),
  (1317, (.iadd, 1), bL (o_bi (fun x y => x + y) 1318)),
  (1318, (.iaload, 1), b_sld xs N 1319),
  (1319, (.aload_n 0, 1), bL (o_al 0 1320)),
  (1320, (.iload_n 3, 1), bL (o_il 3 1321)),
  (1321, (.iconst 2, 1), bL (o_ii 2 1322)),
  (1322, (.iadd, 1), bL (o_bi (fun x y => x + y) 1323)),
  (1323, (.iaload, 1), b_sld xs N 1324),
  (1324, (.aload_n 0, 1), bL (o_al 0 1325)),
  (1325, (.iload_n 3, 1), bL (o_il 3 1326)),
  (1326, (.iconst 3, 1), bL (o_ii 3 1327)),
  (1327, (.iadd, 1), bL (o_bi (fun x y => x + y) 1328)),
  (1328, (.iaload, 1), b_sld xs N 1329),
  (1329, (.invokevirtual 161, 3), bL (o_cV CX4_cell 4 3 1332)),
  (1332, (.aload_n 2, 1), bL (o_al 2 1333)),
  (1333, (.aload_n 0, 1), bL (o_al 0 1334)),
  (1334, (.iload_n 3, 1), bL (o_il 3 1335)),
  (1335, (.iconst 1, 1), bL (o_ii 1 1336)),
  (1336, (.iadd, 1), bL (o_bi (fun x y => x + y) 1337)),
  (1337, (.iaload, 1), b_sld xs N 1338),
  (1338, (.aload_n 0, 1), bL (o_al 0 1339)),
  (1339, (.iload_n 3, 1), bL (o_il 3 1340)),
  (1340, (.iconst 2, 1), bL (o_ii 2 1341)),
  (1341, (.iadd, 1), bL (o_bi (fun x y => x + y) 1342)),
  (1342, (.iaload, 1), b_sld xs N 1343),
  (1343, (.aload_n 0, 1), bL (o_al 0 1344)),
  (1344, (.iload_n 3, 1), bL (o_il 3 1345)),
  (1345, (.iconst 3, 1), bL (o_ii 3 1346)),
  (1346, (.iadd, 1), bL (o_bi (fun x y => x + y) 1347)),
  (1347, (.iaload, 1), b_sld xs N 1348),
  (1348, (.invokevirtual 164, 3), bL (o_cV CX5_cell 5 3 1351)),
  (1351, (.if_icmp .eq 154, 3), bL (o_ic (fun x y => x = y) 1505 1354)),
  (1354, (.iconst 0, 1), bL (o_ii 0 1355)),
  (1355, (.ireturn, 1), b_ri),
  (1356, (.aload_n 1, 1), bL (o_al 1 1357)),
  (1357, (.aload_n 0, 1), bL (o_al 0 1358)),
  (1358, (.iload_n 3, 1), bL (o_il 3 1359)),
  (1359, (.iconst 1, 1), bL (o_ii 1 1360)),
  (1360, (.iadd, 1), bL (o_bi (fun x y => x + y) 1361)),
  (1361, (.iaload, 1), b_sld xs N 1362),
  (1362, (.aload_n 0, 1), bL (o_al 0 1363)),
  (1363, (.iload_n 3, 1), bL (o_il 3 1364)),
  (1364, (.iconst 2, 1), bL (o_ii 2 1365)),
  (1365, (.iadd, 1), bL (o_bi (fun x y => x + y) 1366)),
  (1366, (.iaload, 1), b_sld xs N 1367),
  (1367, (.aload_n 0, 1), bL (o_al 0 1368)),
  (1368, (.iload_n 3, 1), bL (o_il 3 1369)),
  (1369, (.iconst 3, 1), bL (o_ii 3 1370)),
  (1370, (.iadd, 1), bL (o_bi (fun x y => x + y) 1371)),
  (1371, (.iaload, 1), b_sld xs N 1372),
  (1372, (.aload_n 0, 1), bL (o_al 0 1373)),
  (1373, (.iload_n 3, 1), bL (o_il 3 1374)),
  (1374, (.iconst 4, 1), bL (o_ii 4 1375)),
  (1375, (.iadd, 1), bL (o_bi (fun x y => x + y) 1376)),
  (1376, (.iaload, 1), b_sld xs N 1377),
  (1377, (.aload_n 0, 1), bL (o_al 0 1378)),
  (1378, (.iload_n 3, 1), bL (o_il 3 1379)),
  (1379, (.iconst 5, 1), bL (o_ii 5 1380)),
  (1380, (.iadd, 1), bL (o_bi (fun x y => x + y) 1381)),
  (1381, (.iaload, 1), b_sld xs N 1382),
  (1382, (.invokevirtual 165, 3), bL (o_cV CX4_copy 4 5 1385)),
  (1385, (.aload_n 2, 1), bL (o_al 2 1386)),
  (1386, (.aload_n 0, 1), bL (o_al 0 1387)),
  (1387, (.iload_n 3, 1), bL (o_il 3 1388)),
  (1388, (.iconst 1, 1), bL (o_ii 1 1389)),
  (1389, (.iadd, 1), bL (o_bi (fun x y => x + y) 1390)),
  (1390, (.iaload, 1), b_sld xs N 1391),
  (1391, (.aload_n 0, 1), bL (o_al 0 1392)),
  (1392, (.iload_n 3, 1), bL (o_il 3 1393)),
  (1393, (.iconst 2, 1), bL (o_ii 2 1394)),
  (1394, (.iadd, 1), bL (o_bi (fun x y => x + y) 1395)),
  (1395, (.iaload, 1), b_sld xs N 1396),
  (1396, (.aload_n 0, 1), bL (o_al 0 1397)),
  (1397, (.iload_n 3, 1), bL (o_il 3 1398)),
  (1398, (.iconst 3, 1), bL (o_ii 3 1399)),
  (1399, (.iadd, 1), bL (o_bi (fun x y => x + y) 1400)),
  (1400, (.iaload, 1), b_sld xs N 1401),
  (1401, (.aload_n 0, 1), bL (o_al 0 1402)),
  (1402, (.iload_n 3, 1), bL (o_il 3 1403)),
  (1403, (.iconst 4, 1), bL (o_ii 4 1404)),
  (1404, (.iadd, 1), bL (o_bi (fun x y => x + y) 1405)),
  (1405, (.iaload, 1), b_sld xs N 1406),
  (1406, (.aload_n 0, 1), bL (o_al 0 1407)),
  (1407, (.iload_n 3, 1), bL (o_il 3 1408)),
  (1408, (.iconst 5, 1), bL (o_ii 5 1409)),
  (1409, (.iadd, 1), bL (o_bi (fun x y => x + y) 1410)),
  (1410, (.iaload, 1), b_sld xs N 1411),
  (1411, (.invokevirtual 169, 3), bL (o_cV CX5_copy 5 5 1414)),
  (1414, (.if_icmp .eq 91, 3), bL (o_ic (fun x y => x = y) 1505 1417)),
  (1417, (.iconst 0, 1), bL (o_ii 0 1418)),
  (1418, (.ireturn, 1), b_ri),
  (1419, (.aload_n 1, 1), bL (o_al 1 1420)),
  (1420, (.aload_n 0, 1), bL (o_al 0 1421)),
  (1421, (.iload_n 3, 1), bL (o_il 3 1422)),
  (1422, (.iconst 1, 1), bL (o_ii 1 1423)),
  (1423, (.iadd, 1), bL (o_bi (fun x y => x + y) 1424)),
  (1424, (.iaload, 1), b_sld xs N 1425),
  (1425, (.aload_n 0, 1), bL (o_al 0 1426)),
  (1426, (.iload_n 3, 1), bL (o_il 3 1427)),
  (1427, (.iconst 2, 1), bL (o_ii 2 1428)),
  (1428, (.iadd, 1), bL (o_bi (fun x y => x + y) 1429)),
  (1429, (.iaload, 1), b_sld xs N 1430),
  (1430, (.aload_n 0, 1), bL (o_al 0 1431)),
  (1431, (.iload_n 3, 1), bL (o_il 3 1432)),
  (1432, (.iconst 3, 1), bL (o_ii 3 1433)),
  (1433, (.iadd, 1), bL (o_bi (fun x y => x + y) 1434)),
  (1434, (.iaload, 1), b_sld xs N 1435),
  (1435, (.aload_n 0, 1), bL (o_al 0 1436)),
  (1436, (.iload_n 3, 1), bL (o_il 3 1437)),
  (1437, (.iconst 4, 1), bL (o_ii 4 1438)),
  (1438, (.iadd, 1), bL (o_bi (fun x y => x + y) 1439)),
  (1439, (.iaload, 1), b_sld xs N 1440),
  (1440, (.invokevirtual 170, 3), bL (o_cV CX4_judgesBy 4 4 1443)),
  (1443, (.aload_n 2, 1), bL (o_al 2 1444)),
  (1444, (.aload_n 0, 1), bL (o_al 0 1445)),
  (1445, (.iload_n 3, 1), bL (o_il 3 1446)),
  (1446, (.iconst 1, 1), bL (o_ii 1 1447)),
  (1447, (.iadd, 1), bL (o_bi (fun x y => x + y) 1448)),
  (1448, (.iaload, 1), b_sld xs N 1449),
  (1449, (.aload_n 0, 1), bL (o_al 0 1450)),
  (1450, (.iload_n 3, 1), bL (o_il 3 1451)),
  (1451, (.iconst 2, 1), bL (o_ii 2 1452)),
  (1452, (.iadd, 1), bL (o_bi (fun x y => x + y) 1453)),
  (1453, (.iaload, 1), b_sld xs N 1454),
  (1454, (.aload_n 0, 1), bL (o_al 0 1455)),
  (1455, (.iload_n 3, 1), bL (o_il 3 1456)),
  (1456, (.iconst 3, 1), bL (o_ii 3 1457)),
  (1457, (.iadd, 1), bL (o_bi (fun x y => x + y) 1458)),
  (1458, (.iaload, 1), b_sld xs N 1459),
  (1459, (.aload_n 0, 1), bL (o_al 0 1460)),
  (1460, (.iload_n 3, 1), bL (o_il 3 1461)),
  (1461, (.iconst 4, 1), bL (o_ii 4 1462)),
  (1462, (.iadd, 1), bL (o_bi (fun x y => x + y) 1463)),
  (1463, (.iaload, 1), b_sld xs N 1464),
  (1464, (.invokevirtual 173, 3), bL (o_cV CX5_judgesBy 5 4 1467)),
  (1467, (.if_icmp .eq 38, 3), bL (o_ic (fun x y => x = y) 1505 1470)),
  (1470, (.iconst 0, 1), bL (o_ii 0 1471)),
  (1471, (.ireturn, 1), b_ri),
  (1472, (.aload_n 1, 1), bL (o_al 1 1473)),
  (1473, (.aload_n 0, 1), bL (o_al 0 1474)),
  (1474, (.iload_n 3, 1), bL (o_il 3 1475)),
  (1475, (.iconst 1, 1), bL (o_ii 1 1476)),
  (1476, (.iadd, 1), bL (o_bi (fun x y => x + y) 1477)),
  (1477, (.iaload, 1), b_sld xs N 1478),
  (1478, (.aload_n 0, 1), bL (o_al 0 1479)),
  (1479, (.iload_n 3, 1), bL (o_il 3 1480)),
  (1480, (.iconst 2, 1), bL (o_ii 2 1481)),
  (1481, (.iadd, 1), bL (o_bi (fun x y => x + y) 1482)),
  (1482, (.iaload, 1), b_sld xs N 1483),
  (1483, (.invokevirtual 174, 3), bL (o_cV CX4_taken 4 2 1486)),
  (1486, (.aload_n 2, 1), bL (o_al 2 1487)),
  (1487, (.aload_n 0, 1), bL (o_al 0 1488)),
  (1488, (.iload_n 3, 1), bL (o_il 3 1489)),
  (1489, (.iconst 1, 1), bL (o_ii 1 1490)),
  (1490, (.iadd, 1), bL (o_bi (fun x y => x + y) 1491)),
  (1491, (.iaload, 1), b_sld xs N 1492),
  (1492, (.aload_n 0, 1), bL (o_al 0 1493)),
  (1493, (.iload_n 3, 1), bL (o_il 3 1494)),
  (1494, (.iconst 2, 1), bL (o_ii 2 1495)),
  (1495, (.iadd, 1), bL (o_bi (fun x y => x + y) 1496)),
  (1496, (.iaload, 1), b_sld xs N 1497),
  (1497, (.invokevirtual 177, 3), bL (o_cV CX5_taken 5 2 1500)),
  (1500, (.if_icmp .eq 5, 3), bL (o_ic (fun x y => x = y) 1505 1503)),
  (1503, (.iconst 0, 1), bL (o_ii 0 1504)),
  (1504, (.ireturn, 1), b_ri),
  (1505, (.iinc 3 7, 3), bL (o_inc 3 7 1508)),
  (1508, (.goto (-1490), 3), bL (o_go 18)),
  (1511, (.iconst 1, 1), bL (o_ii 1 1512)),
  (1512, (.ireturn, 1), b_ri)]
def eL_0 : List (Nat × (Instr × Nat)) := [(0, (.new 7, 3)), (3, (.dup, 1)), (4, (.invokespecial 9, 3)), (7, (.astore_n 1, 1)), (8, (.new 10, 3)), (11, (.dup, 1)), (12, (.invokespecial 12, 3)), (15, (.astore_n 2, 1)), (16, (.iconst 0, 1)), (17, (.istore_n 3, 1)), (18, (.iload_n 3, 1)), (19, (.aload_n 0, 1)), (20, (.arraylength, 1)), (21, (.bipush 7, 2)), (23, (.isub, 1)), (24, (.if_icmp .gt 1487, 3)), (27, (.aload_n 0, 1)), (28, (.iload_n 3, 1)), (29, (.iaload, 1)), (30, (.bipush 63, 2)), (32, (.iand, 1)), (33, (.tableswitch 1472 0 38 #[171, 194, 217, 292, 305, 328, 371, 414, 447, 490, 523, 556, 599, 632, 665, 678, 711, 734, 757, 790, 833, 856, 869, 893, 916, 959, 992, 1045, 1068, 1091, 1124, 1157, 1211, 1224, 1237, 1280, 1323, 1386, 1439], 171)), (204, (.aload_n 1, 1)), (205, (.aload_n 0, 1)), (206, (.iload_n 3, 1)), (207, (.iconst 1, 1)), (208, (.iadd, 1)), (209, (.iaload, 1)), (210, (.invokevirtual 13, 3)), (213, (.aload_n 2, 1)), (214, (.aload_n 0, 1)), (215, (.iload_n 3, 1)), (216, (.iconst 1, 1)), (217, (.iadd, 1)), (218, (.iaload, 1)), (219, (.invokevirtual 17, 3)), (222, (.if_icmp .eq 1283, 3)), (225, (.iconst 0, 1)), (226, (.ireturn, 1)), (227, (.aload_n 1, 1))]
set_option maxRecDepth 100000 in
theorem dL_0 : eL_0.all (fun q => decide (decode code q.1 = .ok q.2)) = true := by decide +kernel
def eL_1 : List (Nat × (Instr × Nat)) := [(228, (.aload_n 0, 1)), (229, (.iload_n 3, 1)), (230, (.iconst 1, 1)), (231, (.iadd, 1)), (232, (.iaload, 1)), (233, (.invokevirtual 18, 3)), (236, (.aload_n 2, 1)), (237, (.aload_n 0, 1)), (238, (.iload_n 3, 1)), (239, (.iconst 1, 1)), (240, (.iadd, 1)), (241, (.iaload, 1)), (242, (.invokevirtual 21, 3)), (245, (.if_icmp .eq 1260, 3)), (248, (.iconst 0, 1)), (249, (.ireturn, 1)), (250, (.aload_n 1, 1)), (251, (.aload_n 0, 1)), (252, (.iload_n 3, 1)), (253, (.iconst 1, 1)), (254, (.iadd, 1)), (255, (.iaload, 1)), (256, (.aload_n 0, 1)), (257, (.iload_n 3, 1)), (258, (.iconst 2, 1)), (259, (.iadd, 1)), (260, (.iaload, 1)), (261, (.aload_n 0, 1)), (262, (.iload_n 3, 1)), (263, (.iconst 3, 1)), (264, (.iadd, 1)), (265, (.iaload, 1)), (266, (.aload_n 0, 1)), (267, (.iload_n 3, 1)), (268, (.iconst 4, 1)), (269, (.iadd, 1)), (270, (.iaload, 1)), (271, (.aload_n 0, 1)), (272, (.iload_n 3, 1)), (273, (.iconst 5, 1))]
set_option maxRecDepth 100000 in
theorem dL_1 : eL_1.all (fun q => decide (decode code q.1 = .ok q.2)) = true := by decide +kernel
def eL_2 : List (Nat × (Instr × Nat)) := [(274, (.iadd, 1)), (275, (.iaload, 1)), (276, (.aload_n 0, 1)), (277, (.iload_n 3, 1)), (278, (.bipush 6, 2)), (280, (.iadd, 1)), (281, (.iaload, 1)), (282, (.invokevirtual 22, 3)), (285, (.aload_n 2, 1)), (286, (.aload_n 0, 1)), (287, (.iload_n 3, 1)), (288, (.iconst 1, 1)), (289, (.iadd, 1)), (290, (.iaload, 1)), (291, (.aload_n 0, 1)), (292, (.iload_n 3, 1)), (293, (.iconst 2, 1)), (294, (.iadd, 1)), (295, (.iaload, 1)), (296, (.aload_n 0, 1)), (297, (.iload_n 3, 1)), (298, (.iconst 3, 1)), (299, (.iadd, 1)), (300, (.iaload, 1)), (301, (.aload_n 0, 1)), (302, (.iload_n 3, 1)), (303, (.iconst 4, 1)), (304, (.iadd, 1)), (305, (.iaload, 1)), (306, (.aload_n 0, 1)), (307, (.iload_n 3, 1)), (308, (.iconst 5, 1)), (309, (.iadd, 1)), (310, (.iaload, 1)), (311, (.aload_n 0, 1)), (312, (.iload_n 3, 1)), (313, (.bipush 6, 2)), (315, (.iadd, 1)), (316, (.iaload, 1)), (317, (.invokevirtual 26, 3))]
set_option maxRecDepth 100000 in
theorem dL_2 : eL_2.all (fun q => decide (decode code q.1 = .ok q.2)) = true := by decide +kernel
def eL_3 : List (Nat × (Instr × Nat)) := [(320, (.if_icmp .eq 1185, 3)), (323, (.iconst 0, 1)), (324, (.ireturn, 1)), (325, (.aload_n 1, 1)), (326, (.invokevirtual 27, 3)), (329, (.aload_n 2, 1)), (330, (.invokevirtual 31, 3)), (333, (.if_icmp .eq 1172, 3)), (336, (.iconst 0, 1)), (337, (.ireturn, 1)), (338, (.aload_n 1, 1)), (339, (.aload_n 0, 1)), (340, (.iload_n 3, 1)), (341, (.iconst 1, 1)), (342, (.iadd, 1)), (343, (.iaload, 1)), (344, (.invokevirtual 32, 3)), (347, (.aload_n 2, 1)), (348, (.aload_n 0, 1)), (349, (.iload_n 3, 1)), (350, (.iconst 1, 1)), (351, (.iadd, 1)), (352, (.iaload, 1)), (353, (.invokevirtual 35, 3)), (356, (.if_icmp .eq 1149, 3)), (359, (.iconst 0, 1)), (360, (.ireturn, 1)), (361, (.aload_n 1, 1)), (362, (.aload_n 0, 1)), (363, (.iload_n 3, 1)), (364, (.iconst 1, 1)), (365, (.iadd, 1)), (366, (.iaload, 1)), (367, (.aload_n 0, 1)), (368, (.iload_n 3, 1)), (369, (.iconst 2, 1)), (370, (.iadd, 1)), (371, (.iaload, 1)), (372, (.aload_n 0, 1)), (373, (.iload_n 3, 1))]
set_option maxRecDepth 100000 in
theorem dL_3 : eL_3.all (fun q => decide (decode code q.1 = .ok q.2)) = true := by decide +kernel
def eL_4 : List (Nat × (Instr × Nat)) := [(374, (.iconst 3, 1)), (375, (.iadd, 1)), (376, (.iaload, 1)), (377, (.invokevirtual 36, 3)), (380, (.aload_n 2, 1)), (381, (.aload_n 0, 1)), (382, (.iload_n 3, 1)), (383, (.iconst 1, 1)), (384, (.iadd, 1)), (385, (.iaload, 1)), (386, (.aload_n 0, 1)), (387, (.iload_n 3, 1)), (388, (.iconst 2, 1)), (389, (.iadd, 1)), (390, (.iaload, 1)), (391, (.aload_n 0, 1)), (392, (.iload_n 3, 1)), (393, (.iconst 3, 1)), (394, (.iadd, 1)), (395, (.iaload, 1)), (396, (.invokevirtual 40, 3)), (399, (.if_icmp .eq 1106, 3)), (402, (.iconst 0, 1)), (403, (.ireturn, 1)), (404, (.aload_n 1, 1)), (405, (.aload_n 0, 1)), (406, (.iload_n 3, 1)), (407, (.iconst 1, 1)), (408, (.iadd, 1)), (409, (.iaload, 1)), (410, (.aload_n 0, 1)), (411, (.iload_n 3, 1)), (412, (.iconst 2, 1)), (413, (.iadd, 1)), (414, (.iaload, 1)), (415, (.aload_n 0, 1)), (416, (.iload_n 3, 1)), (417, (.iconst 3, 1)), (418, (.iadd, 1)), (419, (.iaload, 1))]
set_option maxRecDepth 100000 in
theorem dL_4 : eL_4.all (fun q => decide (decode code q.1 = .ok q.2)) = true := by decide +kernel
def eL_5 : List (Nat × (Instr × Nat)) := [(420, (.invokevirtual 41, 3)), (423, (.aload_n 2, 1)), (424, (.aload_n 0, 1)), (425, (.iload_n 3, 1)), (426, (.iconst 1, 1)), (427, (.iadd, 1)), (428, (.iaload, 1)), (429, (.aload_n 0, 1)), (430, (.iload_n 3, 1)), (431, (.iconst 2, 1)), (432, (.iadd, 1)), (433, (.iaload, 1)), (434, (.aload_n 0, 1)), (435, (.iload_n 3, 1)), (436, (.iconst 3, 1)), (437, (.iadd, 1)), (438, (.iaload, 1)), (439, (.invokevirtual 44, 3)), (442, (.if_icmp .eq 1063, 3)), (445, (.iconst 0, 1)), (446, (.ireturn, 1)), (447, (.aload_n 1, 1)), (448, (.aload_n 0, 1)), (449, (.iload_n 3, 1)), (450, (.iconst 1, 1)), (451, (.iadd, 1)), (452, (.iaload, 1)), (453, (.aload_n 0, 1)), (454, (.iload_n 3, 1)), (455, (.iconst 2, 1)), (456, (.iadd, 1)), (457, (.iaload, 1)), (458, (.invokevirtual 45, 3)), (461, (.aload_n 2, 1)), (462, (.aload_n 0, 1)), (463, (.iload_n 3, 1)), (464, (.iconst 1, 1)), (465, (.iadd, 1)), (466, (.iaload, 1)), (467, (.aload_n 0, 1))]
set_option maxRecDepth 100000 in
theorem dL_5 : eL_5.all (fun q => decide (decode code q.1 = .ok q.2)) = true := by decide +kernel
def eL_6 : List (Nat × (Instr × Nat)) := [(468, (.iload_n 3, 1)), (469, (.iconst 2, 1)), (470, (.iadd, 1)), (471, (.iaload, 1)), (472, (.invokevirtual 49, 3)), (475, (.if_icmp .eq 1030, 3)), (478, (.iconst 0, 1)), (479, (.ireturn, 1)), (480, (.aload_n 1, 1)), (481, (.aload_n 0, 1)), (482, (.iload_n 3, 1)), (483, (.iconst 1, 1)), (484, (.iadd, 1)), (485, (.iaload, 1)), (486, (.aload_n 0, 1)), (487, (.iload_n 3, 1)), (488, (.iconst 2, 1)), (489, (.iadd, 1)), (490, (.iaload, 1)), (491, (.aload_n 0, 1)), (492, (.iload_n 3, 1)), (493, (.iconst 3, 1)), (494, (.iadd, 1)), (495, (.iaload, 1)), (496, (.invokevirtual 50, 3)), (499, (.aload_n 2, 1)), (500, (.aload_n 0, 1)), (501, (.iload_n 3, 1)), (502, (.iconst 1, 1)), (503, (.iadd, 1)), (504, (.iaload, 1)), (505, (.aload_n 0, 1)), (506, (.iload_n 3, 1)), (507, (.iconst 2, 1)), (508, (.iadd, 1)), (509, (.iaload, 1)), (510, (.aload_n 0, 1)), (511, (.iload_n 3, 1)), (512, (.iconst 3, 1)), (513, (.iadd, 1))]
set_option maxRecDepth 100000 in
theorem dL_6 : eL_6.all (fun q => decide (decode code q.1 = .ok q.2)) = true := by decide +kernel
def eL_7 : List (Nat × (Instr × Nat)) := [(514, (.iaload, 1)), (515, (.invokevirtual 53, 3)), (518, (.if_icmp .eq 987, 3)), (521, (.iconst 0, 1)), (522, (.ireturn, 1)), (523, (.aload_n 1, 1)), (524, (.aload_n 0, 1)), (525, (.iload_n 3, 1)), (526, (.iconst 1, 1)), (527, (.iadd, 1)), (528, (.iaload, 1)), (529, (.aload_n 0, 1)), (530, (.iload_n 3, 1)), (531, (.iconst 2, 1)), (532, (.iadd, 1)), (533, (.iaload, 1)), (534, (.invokevirtual 54, 3)), (537, (.aload_n 2, 1)), (538, (.aload_n 0, 1)), (539, (.iload_n 3, 1)), (540, (.iconst 1, 1)), (541, (.iadd, 1)), (542, (.iaload, 1)), (543, (.aload_n 0, 1)), (544, (.iload_n 3, 1)), (545, (.iconst 2, 1)), (546, (.iadd, 1)), (547, (.iaload, 1)), (548, (.invokevirtual 57, 3)), (551, (.if_icmp .eq 954, 3)), (554, (.iconst 0, 1)), (555, (.ireturn, 1)), (556, (.aload_n 1, 1)), (557, (.aload_n 0, 1)), (558, (.iload_n 3, 1)), (559, (.iconst 1, 1)), (560, (.iadd, 1)), (561, (.iaload, 1)), (562, (.aload_n 0, 1)), (563, (.iload_n 3, 1))]
set_option maxRecDepth 100000 in
theorem dL_7 : eL_7.all (fun q => decide (decode code q.1 = .ok q.2)) = true := by decide +kernel
def eL_8 : List (Nat × (Instr × Nat)) := [(564, (.iconst 2, 1)), (565, (.iadd, 1)), (566, (.iaload, 1)), (567, (.invokevirtual 58, 3)), (570, (.aload_n 2, 1)), (571, (.aload_n 0, 1)), (572, (.iload_n 3, 1)), (573, (.iconst 1, 1)), (574, (.iadd, 1)), (575, (.iaload, 1)), (576, (.aload_n 0, 1)), (577, (.iload_n 3, 1)), (578, (.iconst 2, 1)), (579, (.iadd, 1)), (580, (.iaload, 1)), (581, (.invokevirtual 61, 3)), (584, (.if_icmp .eq 921, 3)), (587, (.iconst 0, 1)), (588, (.ireturn, 1)), (589, (.aload_n 1, 1)), (590, (.aload_n 0, 1)), (591, (.iload_n 3, 1)), (592, (.iconst 1, 1)), (593, (.iadd, 1)), (594, (.iaload, 1)), (595, (.aload_n 0, 1)), (596, (.iload_n 3, 1)), (597, (.iconst 2, 1)), (598, (.iadd, 1)), (599, (.iaload, 1)), (600, (.aload_n 0, 1)), (601, (.iload_n 3, 1)), (602, (.iconst 3, 1)), (603, (.iadd, 1)), (604, (.iaload, 1)), (605, (.invokevirtual 62, 3)), (608, (.aload_n 2, 1)), (609, (.aload_n 0, 1)), (610, (.iload_n 3, 1)), (611, (.iconst 1, 1))]
set_option maxRecDepth 100000 in
theorem dL_8 : eL_8.all (fun q => decide (decode code q.1 = .ok q.2)) = true := by decide +kernel
def eL_9 : List (Nat × (Instr × Nat)) := [(612, (.iadd, 1)), (613, (.iaload, 1)), (614, (.aload_n 0, 1)), (615, (.iload_n 3, 1)), (616, (.iconst 2, 1)), (617, (.iadd, 1)), (618, (.iaload, 1)), (619, (.aload_n 0, 1)), (620, (.iload_n 3, 1)), (621, (.iconst 3, 1)), (622, (.iadd, 1)), (623, (.iaload, 1)), (624, (.invokevirtual 65, 3)), (627, (.if_icmp .eq 878, 3)), (630, (.iconst 0, 1)), (631, (.ireturn, 1)), (632, (.aload_n 1, 1)), (633, (.aload_n 0, 1)), (634, (.iload_n 3, 1)), (635, (.iconst 1, 1)), (636, (.iadd, 1)), (637, (.iaload, 1)), (638, (.aload_n 0, 1)), (639, (.iload_n 3, 1)), (640, (.iconst 2, 1)), (641, (.iadd, 1)), (642, (.iaload, 1)), (643, (.invokevirtual 66, 3)), (646, (.aload_n 2, 1)), (647, (.aload_n 0, 1)), (648, (.iload_n 3, 1)), (649, (.iconst 1, 1)), (650, (.iadd, 1)), (651, (.iaload, 1)), (652, (.aload_n 0, 1)), (653, (.iload_n 3, 1)), (654, (.iconst 2, 1)), (655, (.iadd, 1)), (656, (.iaload, 1)), (657, (.invokevirtual 69, 3))]
set_option maxRecDepth 100000 in
theorem dL_9 : eL_9.all (fun q => decide (decode code q.1 = .ok q.2)) = true := by decide +kernel
def eL_10 : List (Nat × (Instr × Nat)) := [(660, (.if_icmp .eq 845, 3)), (663, (.iconst 0, 1)), (664, (.ireturn, 1)), (665, (.aload_n 1, 1)), (666, (.aload_n 0, 1)), (667, (.iload_n 3, 1)), (668, (.iconst 1, 1)), (669, (.iadd, 1)), (670, (.iaload, 1)), (671, (.aload_n 0, 1)), (672, (.iload_n 3, 1)), (673, (.iconst 2, 1)), (674, (.iadd, 1)), (675, (.iaload, 1)), (676, (.invokevirtual 70, 3)), (679, (.aload_n 2, 1)), (680, (.aload_n 0, 1)), (681, (.iload_n 3, 1)), (682, (.iconst 1, 1)), (683, (.iadd, 1)), (684, (.iaload, 1)), (685, (.aload_n 0, 1)), (686, (.iload_n 3, 1)), (687, (.iconst 2, 1)), (688, (.iadd, 1)), (689, (.iaload, 1)), (690, (.invokevirtual 73, 3)), (693, (.if_icmp .eq 812, 3)), (696, (.iconst 0, 1)), (697, (.ireturn, 1)), (698, (.aload_n 1, 1)), (699, (.invokevirtual 74, 3)), (702, (.aload_n 2, 1)), (703, (.invokevirtual 77, 3)), (706, (.if_icmp .eq 799, 3)), (709, (.iconst 0, 1)), (710, (.ireturn, 1)), (711, (.aload_n 1, 1)), (712, (.aload_n 0, 1)), (713, (.iload_n 3, 1))]
set_option maxRecDepth 100000 in
theorem dL_10 : eL_10.all (fun q => decide (decode code q.1 = .ok q.2)) = true := by decide +kernel
def eL_11 : List (Nat × (Instr × Nat)) := [(714, (.iconst 1, 1)), (715, (.iadd, 1)), (716, (.iaload, 1)), (717, (.aload_n 0, 1)), (718, (.iload_n 3, 1)), (719, (.iconst 2, 1)), (720, (.iadd, 1)), (721, (.iaload, 1)), (722, (.invokevirtual 78, 3)), (725, (.aload_n 2, 1)), (726, (.aload_n 0, 1)), (727, (.iload_n 3, 1)), (728, (.iconst 1, 1)), (729, (.iadd, 1)), (730, (.iaload, 1)), (731, (.aload_n 0, 1)), (732, (.iload_n 3, 1)), (733, (.iconst 2, 1)), (734, (.iadd, 1)), (735, (.iaload, 1)), (736, (.invokevirtual 81, 3)), (739, (.if_icmp .eq 766, 3)), (742, (.iconst 0, 1)), (743, (.ireturn, 1)), (744, (.aload_n 1, 1)), (745, (.aload_n 0, 1)), (746, (.iload_n 3, 1)), (747, (.iconst 1, 1)), (748, (.iadd, 1)), (749, (.iaload, 1)), (750, (.invokevirtual 82, 3)), (753, (.aload_n 2, 1)), (754, (.aload_n 0, 1)), (755, (.iload_n 3, 1)), (756, (.iconst 1, 1)), (757, (.iadd, 1)), (758, (.iaload, 1)), (759, (.invokevirtual 85, 3)), (762, (.if_icmp .eq 743, 3)), (765, (.iconst 0, 1))]
set_option maxRecDepth 100000 in
theorem dL_11 : eL_11.all (fun q => decide (decode code q.1 = .ok q.2)) = true := by decide +kernel
def eL_12 : List (Nat × (Instr × Nat)) := [(766, (.ireturn, 1)), (767, (.aload_n 1, 1)), (768, (.aload_n 0, 1)), (769, (.iload_n 3, 1)), (770, (.iconst 1, 1)), (771, (.iadd, 1)), (772, (.iaload, 1)), (773, (.invokevirtual 86, 3)), (776, (.aload_n 2, 1)), (777, (.aload_n 0, 1)), (778, (.iload_n 3, 1)), (779, (.iconst 1, 1)), (780, (.iadd, 1)), (781, (.iaload, 1)), (782, (.invokevirtual 89, 3)), (785, (.if_icmp .eq 720, 3)), (788, (.iconst 0, 1)), (789, (.ireturn, 1)), (790, (.aload_n 1, 1)), (791, (.aload_n 0, 1)), (792, (.iload_n 3, 1)), (793, (.iconst 1, 1)), (794, (.iadd, 1)), (795, (.iaload, 1)), (796, (.aload_n 0, 1)), (797, (.iload_n 3, 1)), (798, (.iconst 2, 1)), (799, (.iadd, 1)), (800, (.iaload, 1)), (801, (.invokevirtual 90, 3)), (804, (.aload_n 2, 1)), (805, (.aload_n 0, 1)), (806, (.iload_n 3, 1)), (807, (.iconst 1, 1)), (808, (.iadd, 1)), (809, (.iaload, 1)), (810, (.aload_n 0, 1)), (811, (.iload_n 3, 1)), (812, (.iconst 2, 1)), (813, (.iadd, 1))]
set_option maxRecDepth 100000 in
theorem dL_12 : eL_12.all (fun q => decide (decode code q.1 = .ok q.2)) = true := by decide +kernel
def eL_13 : List (Nat × (Instr × Nat)) := [(814, (.iaload, 1)), (815, (.invokevirtual 93, 3)), (818, (.if_icmp .eq 687, 3)), (821, (.iconst 0, 1)), (822, (.ireturn, 1)), (823, (.aload_n 1, 1)), (824, (.aload_n 0, 1)), (825, (.iload_n 3, 1)), (826, (.iconst 1, 1)), (827, (.iadd, 1)), (828, (.iaload, 1)), (829, (.aload_n 0, 1)), (830, (.iload_n 3, 1)), (831, (.iconst 2, 1)), (832, (.iadd, 1)), (833, (.iaload, 1)), (834, (.aload_n 0, 1)), (835, (.iload_n 3, 1)), (836, (.iconst 3, 1)), (837, (.iadd, 1)), (838, (.iaload, 1)), (839, (.invokevirtual 94, 3)), (842, (.aload_n 2, 1)), (843, (.aload_n 0, 1)), (844, (.iload_n 3, 1)), (845, (.iconst 1, 1)), (846, (.iadd, 1)), (847, (.iaload, 1)), (848, (.aload_n 0, 1)), (849, (.iload_n 3, 1)), (850, (.iconst 2, 1)), (851, (.iadd, 1)), (852, (.iaload, 1)), (853, (.aload_n 0, 1)), (854, (.iload_n 3, 1)), (855, (.iconst 3, 1)), (856, (.iadd, 1)), (857, (.iaload, 1)), (858, (.invokevirtual 97, 3)), (861, (.if_icmp .eq 644, 3))]
set_option maxRecDepth 100000 in
theorem dL_13 : eL_13.all (fun q => decide (decode code q.1 = .ok q.2)) = true := by decide +kernel
def eL_14 : List (Nat × (Instr × Nat)) := [(864, (.iconst 0, 1)), (865, (.ireturn, 1)), (866, (.aload_n 1, 1)), (867, (.aload_n 0, 1)), (868, (.iload_n 3, 1)), (869, (.iconst 1, 1)), (870, (.iadd, 1)), (871, (.iaload, 1)), (872, (.invokevirtual 98, 3)), (875, (.aload_n 2, 1)), (876, (.aload_n 0, 1)), (877, (.iload_n 3, 1)), (878, (.iconst 1, 1)), (879, (.iadd, 1)), (880, (.iaload, 1)), (881, (.invokevirtual 101, 3)), (884, (.if_icmp .eq 621, 3)), (887, (.iconst 0, 1)), (888, (.ireturn, 1)), (889, (.aload_n 1, 1)), (890, (.invokevirtual 102, 3)), (893, (.aload_n 2, 1)), (894, (.invokevirtual 105, 3)), (897, (.if_icmp .eq 608, 3)), (900, (.iconst 0, 1)), (901, (.ireturn, 1)), (902, (.aload_n 1, 1)), (903, (.aload_n 0, 1)), (904, (.iload_n 3, 1)), (905, (.iconst 1, 1)), (906, (.iadd, 1)), (907, (.iaload, 1)), (908, (.invokevirtual 106, 3)), (911, (.aload_n 2, 1)), (912, (.aload_n 0, 1)), (913, (.iload_n 3, 1)), (914, (.iconst 1, 1)), (915, (.iadd, 1)), (916, (.iaload, 1)), (917, (.invokevirtual 110, 3))]
set_option maxRecDepth 100000 in
theorem dL_14 : eL_14.all (fun q => decide (decode code q.1 = .ok q.2)) = true := by decide +kernel
def eL_15 : List (Nat × (Instr × Nat)) := [(920, (.lcmp, 1)), (921, (.ifCond .eq 584, 3)), (924, (.iconst 0, 1)), (925, (.ireturn, 1)), (926, (.aload_n 1, 1)), (927, (.aload_n 0, 1)), (928, (.iload_n 3, 1)), (929, (.iconst 1, 1)), (930, (.iadd, 1)), (931, (.iaload, 1)), (932, (.invokevirtual 111, 3)), (935, (.aload_n 2, 1)), (936, (.aload_n 0, 1)), (937, (.iload_n 3, 1)), (938, (.iconst 1, 1)), (939, (.iadd, 1)), (940, (.iaload, 1)), (941, (.invokevirtual 114, 3)), (944, (.if_icmp .eq 561, 3)), (947, (.iconst 0, 1)), (948, (.ireturn, 1)), (949, (.aload_n 1, 1)), (950, (.aload_n 0, 1)), (951, (.iload_n 3, 1)), (952, (.iconst 1, 1)), (953, (.iadd, 1)), (954, (.iaload, 1)), (955, (.aload_n 0, 1)), (956, (.iload_n 3, 1)), (957, (.iconst 2, 1)), (958, (.iadd, 1)), (959, (.iaload, 1)), (960, (.aload_n 0, 1)), (961, (.iload_n 3, 1)), (962, (.iconst 3, 1)), (963, (.iadd, 1)), (964, (.iaload, 1)), (965, (.invokevirtual 115, 3)), (968, (.aload_n 2, 1)), (969, (.aload_n 0, 1))]
set_option maxRecDepth 100000 in
theorem dL_15 : eL_15.all (fun q => decide (decode code q.1 = .ok q.2)) = true := by decide +kernel
def eL_16 : List (Nat × (Instr × Nat)) := [(970, (.iload_n 3, 1)), (971, (.iconst 1, 1)), (972, (.iadd, 1)), (973, (.iaload, 1)), (974, (.aload_n 0, 1)), (975, (.iload_n 3, 1)), (976, (.iconst 2, 1)), (977, (.iadd, 1)), (978, (.iaload, 1)), (979, (.aload_n 0, 1)), (980, (.iload_n 3, 1)), (981, (.iconst 3, 1)), (982, (.iadd, 1)), (983, (.iaload, 1)), (984, (.invokevirtual 118, 3)), (987, (.if_icmp .eq 518, 3)), (990, (.iconst 0, 1)), (991, (.ireturn, 1)), (992, (.aload_n 1, 1)), (993, (.aload_n 0, 1)), (994, (.iload_n 3, 1)), (995, (.iconst 1, 1)), (996, (.iadd, 1)), (997, (.iaload, 1)), (998, (.aload_n 0, 1)), (999, (.iload_n 3, 1)), (1000, (.iconst 2, 1)), (1001, (.iadd, 1)), (1002, (.iaload, 1)), (1003, (.invokevirtual 119, 3)), (1006, (.aload_n 2, 1)), (1007, (.aload_n 0, 1)), (1008, (.iload_n 3, 1)), (1009, (.iconst 1, 1)), (1010, (.iadd, 1)), (1011, (.iaload, 1)), (1012, (.aload_n 0, 1)), (1013, (.iload_n 3, 1)), (1014, (.iconst 2, 1)), (1015, (.iadd, 1))]
set_option maxRecDepth 100000 in
theorem dL_16 : eL_16.all (fun q => decide (decode code q.1 = .ok q.2)) = true := by decide +kernel
def eL_17 : List (Nat × (Instr × Nat)) := [(1016, (.iaload, 1)), (1017, (.invokevirtual 122, 3)), (1020, (.if_icmp .eq 485, 3)), (1023, (.iconst 0, 1)), (1024, (.ireturn, 1)), (1025, (.aload_n 1, 1)), (1026, (.aload_n 0, 1)), (1027, (.iload_n 3, 1)), (1028, (.iconst 1, 1)), (1029, (.iadd, 1)), (1030, (.iaload, 1)), (1031, (.aload_n 0, 1)), (1032, (.iload_n 3, 1)), (1033, (.iconst 2, 1)), (1034, (.iadd, 1)), (1035, (.iaload, 1)), (1036, (.aload_n 0, 1)), (1037, (.iload_n 3, 1)), (1038, (.iconst 3, 1)), (1039, (.iadd, 1)), (1040, (.iaload, 1)), (1041, (.aload_n 0, 1)), (1042, (.iload_n 3, 1)), (1043, (.iconst 4, 1)), (1044, (.iadd, 1)), (1045, (.iaload, 1)), (1046, (.invokevirtual 123, 3)), (1049, (.aload_n 2, 1)), (1050, (.aload_n 0, 1)), (1051, (.iload_n 3, 1)), (1052, (.iconst 1, 1)), (1053, (.iadd, 1)), (1054, (.iaload, 1)), (1055, (.aload_n 0, 1)), (1056, (.iload_n 3, 1)), (1057, (.iconst 2, 1)), (1058, (.iadd, 1)), (1059, (.iaload, 1)), (1060, (.aload_n 0, 1)), (1061, (.iload_n 3, 1))]
set_option maxRecDepth 100000 in
theorem dL_17 : eL_17.all (fun q => decide (decode code q.1 = .ok q.2)) = true := by decide +kernel
def eL_18 : List (Nat × (Instr × Nat)) := [(1062, (.iconst 3, 1)), (1063, (.iadd, 1)), (1064, (.iaload, 1)), (1065, (.aload_n 0, 1)), (1066, (.iload_n 3, 1)), (1067, (.iconst 4, 1)), (1068, (.iadd, 1)), (1069, (.iaload, 1)), (1070, (.invokevirtual 127, 3)), (1073, (.if_icmp .eq 432, 3)), (1076, (.iconst 0, 1)), (1077, (.ireturn, 1)), (1078, (.aload_n 1, 1)), (1079, (.aload_n 0, 1)), (1080, (.iload_n 3, 1)), (1081, (.iconst 1, 1)), (1082, (.iadd, 1)), (1083, (.iaload, 1)), (1084, (.invokevirtual 128, 3)), (1087, (.aload_n 2, 1)), (1088, (.aload_n 0, 1)), (1089, (.iload_n 3, 1)), (1090, (.iconst 1, 1)), (1091, (.iadd, 1)), (1092, (.iaload, 1)), (1093, (.invokevirtual 131, 3)), (1096, (.if_icmp .eq 409, 3)), (1099, (.iconst 0, 1)), (1100, (.ireturn, 1)), (1101, (.aload_n 1, 1)), (1102, (.aload_n 0, 1)), (1103, (.iload_n 3, 1)), (1104, (.iconst 1, 1)), (1105, (.iadd, 1)), (1106, (.iaload, 1)), (1107, (.invokevirtual 132, 3)), (1110, (.aload_n 2, 1)), (1111, (.aload_n 0, 1)), (1112, (.iload_n 3, 1)), (1113, (.iconst 1, 1))]
set_option maxRecDepth 100000 in
theorem dL_18 : eL_18.all (fun q => decide (decode code q.1 = .ok q.2)) = true := by decide +kernel
def eL_19 : List (Nat × (Instr × Nat)) := [(1114, (.iadd, 1)), (1115, (.iaload, 1)), (1116, (.invokevirtual 135, 3)), (1119, (.if_icmp .eq 386, 3)), (1122, (.iconst 0, 1)), (1123, (.ireturn, 1)), (1124, (.aload_n 1, 1)), (1125, (.aload_n 0, 1)), (1126, (.iload_n 3, 1)), (1127, (.iconst 1, 1)), (1128, (.iadd, 1)), (1129, (.iaload, 1)), (1130, (.aload_n 0, 1)), (1131, (.iload_n 3, 1)), (1132, (.iconst 2, 1)), (1133, (.iadd, 1)), (1134, (.iaload, 1)), (1135, (.invokevirtual 136, 3)), (1138, (.aload_n 2, 1)), (1139, (.aload_n 0, 1)), (1140, (.iload_n 3, 1)), (1141, (.iconst 1, 1)), (1142, (.iadd, 1)), (1143, (.iaload, 1)), (1144, (.aload_n 0, 1)), (1145, (.iload_n 3, 1)), (1146, (.iconst 2, 1)), (1147, (.iadd, 1)), (1148, (.iaload, 1)), (1149, (.invokevirtual 139, 3)), (1152, (.if_icmp .eq 353, 3)), (1155, (.iconst 0, 1)), (1156, (.ireturn, 1)), (1157, (.aload_n 1, 1)), (1158, (.aload_n 0, 1)), (1159, (.iload_n 3, 1)), (1160, (.iconst 1, 1)), (1161, (.iadd, 1)), (1162, (.iaload, 1)), (1163, (.aload_n 0, 1))]
set_option maxRecDepth 100000 in
theorem dL_19 : eL_19.all (fun q => decide (decode code q.1 = .ok q.2)) = true := by decide +kernel
def eL_20 : List (Nat × (Instr × Nat)) := [(1164, (.iload_n 3, 1)), (1165, (.iconst 2, 1)), (1166, (.iadd, 1)), (1167, (.iaload, 1)), (1168, (.invokevirtual 140, 3)), (1171, (.aload_n 2, 1)), (1172, (.aload_n 0, 1)), (1173, (.iload_n 3, 1)), (1174, (.iconst 1, 1)), (1175, (.iadd, 1)), (1176, (.iaload, 1)), (1177, (.aload_n 0, 1)), (1178, (.iload_n 3, 1)), (1179, (.iconst 2, 1)), (1180, (.iadd, 1)), (1181, (.iaload, 1)), (1182, (.invokevirtual 143, 3)), (1185, (.if_icmp .eq 320, 3)), (1188, (.iconst 0, 1)), (1189, (.ireturn, 1)), (1190, (.aload_n 1, 1)), (1191, (.aload_n 0, 1)), (1192, (.iload_n 3, 1)), (1193, (.iconst 1, 1)), (1194, (.iadd, 1)), (1195, (.iaload, 1)), (1196, (.aload_n 0, 1)), (1197, (.iload_n 3, 1)), (1198, (.iconst 2, 1)), (1199, (.iadd, 1)), (1200, (.iaload, 1)), (1201, (.aload_n 0, 1)), (1202, (.iload_n 3, 1)), (1203, (.iconst 3, 1)), (1204, (.iadd, 1)), (1205, (.iaload, 1)), (1206, (.aload_n 0, 1)), (1207, (.iload_n 3, 1)), (1208, (.iconst 4, 1)), (1209, (.iadd, 1))]
set_option maxRecDepth 100000 in
theorem dL_20 : eL_20.all (fun q => decide (decode code q.1 = .ok q.2)) = true := by decide +kernel
def eL_21 : List (Nat × (Instr × Nat)) := [(1210, (.iaload, 1)), (1211, (.invokevirtual 144, 3)), (1214, (.aload_n 2, 1)), (1215, (.aload_n 0, 1)), (1216, (.iload_n 3, 1)), (1217, (.iconst 1, 1)), (1218, (.iadd, 1)), (1219, (.iaload, 1)), (1220, (.aload_n 0, 1)), (1221, (.iload_n 3, 1)), (1222, (.iconst 2, 1)), (1223, (.iadd, 1)), (1224, (.iaload, 1)), (1225, (.aload_n 0, 1)), (1226, (.iload_n 3, 1)), (1227, (.iconst 3, 1)), (1228, (.iadd, 1)), (1229, (.iaload, 1)), (1230, (.aload_n 0, 1)), (1231, (.iload_n 3, 1)), (1232, (.iconst 4, 1)), (1233, (.iadd, 1)), (1234, (.iaload, 1)), (1235, (.invokevirtual 148, 3)), (1238, (.lcmp, 1)), (1239, (.ifCond .eq 266, 3)), (1242, (.iconst 0, 1)), (1243, (.ireturn, 1)), (1244, (.aload_n 1, 1)), (1245, (.invokevirtual 149, 3)), (1248, (.aload_n 2, 1)), (1249, (.invokevirtual 152, 3)), (1252, (.if_icmp .eq 253, 3)), (1255, (.iconst 0, 1)), (1256, (.ireturn, 1)), (1257, (.aload_n 1, 1)), (1258, (.invokevirtual 153, 3)), (1261, (.aload_n 2, 1)), (1262, (.invokevirtual 156, 3)), (1265, (.if_icmp .eq 240, 3))]
set_option maxRecDepth 100000 in
theorem dL_21 : eL_21.all (fun q => decide (decode code q.1 = .ok q.2)) = true := by decide +kernel
def eL_22 : List (Nat × (Instr × Nat)) := [(1268, (.iconst 0, 1)), (1269, (.ireturn, 1)), (1270, (.aload_n 1, 1)), (1271, (.aload_n 0, 1)), (1272, (.iload_n 3, 1)), (1273, (.iconst 1, 1)), (1274, (.iadd, 1)), (1275, (.iaload, 1)), (1276, (.aload_n 0, 1)), (1277, (.iload_n 3, 1)), (1278, (.iconst 2, 1)), (1279, (.iadd, 1)), (1280, (.iaload, 1)), (1281, (.aload_n 0, 1)), (1282, (.iload_n 3, 1)), (1283, (.iconst 3, 1)), (1284, (.iadd, 1)), (1285, (.iaload, 1)), (1286, (.invokevirtual 157, 3)), (1289, (.aload_n 2, 1)), (1290, (.aload_n 0, 1)), (1291, (.iload_n 3, 1)), (1292, (.iconst 1, 1)), (1293, (.iadd, 1)), (1294, (.iaload, 1)), (1295, (.aload_n 0, 1)), (1296, (.iload_n 3, 1)), (1297, (.iconst 2, 1)), (1298, (.iadd, 1)), (1299, (.iaload, 1)), (1300, (.aload_n 0, 1)), (1301, (.iload_n 3, 1)), (1302, (.iconst 3, 1)), (1303, (.iadd, 1)), (1304, (.iaload, 1)), (1305, (.invokevirtual 160, 3)), (1308, (.if_icmp .eq 197, 3)), (1311, (.iconst 0, 1)), (1312, (.ireturn, 1)), (1313, (.aload_n 1, 1))]
set_option maxRecDepth 100000 in
theorem dL_22 : eL_22.all (fun q => decide (decode code q.1 = .ok q.2)) = true := by decide +kernel
def eL_23 : List (Nat × (Instr × Nat)) := [(1314, (.aload_n 0, 1)), (1315, (.iload_n 3, 1)), (1316, (.iconst 1, 1)), (1317, (.iadd, 1)), (1318, (.iaload, 1)), (1319, (.aload_n 0, 1)), (1320, (.iload_n 3, 1)), (1321, (.iconst 2, 1)), (1322, (.iadd, 1)), (1323, (.iaload, 1)), (1324, (.aload_n 0, 1)), (1325, (.iload_n 3, 1)), (1326, (.iconst 3, 1)), (1327, (.iadd, 1)), (1328, (.iaload, 1)), (1329, (.invokevirtual 161, 3)), (1332, (.aload_n 2, 1)), (1333, (.aload_n 0, 1)), (1334, (.iload_n 3, 1)), (1335, (.iconst 1, 1)), (1336, (.iadd, 1)), (1337, (.iaload, 1)), (1338, (.aload_n 0, 1)), (1339, (.iload_n 3, 1)), (1340, (.iconst 2, 1)), (1341, (.iadd, 1)), (1342, (.iaload, 1)), (1343, (.aload_n 0, 1)), (1344, (.iload_n 3, 1)), (1345, (.iconst 3, 1)), (1346, (.iadd, 1)), (1347, (.iaload, 1)), (1348, (.invokevirtual 164, 3)), (1351, (.if_icmp .eq 154, 3)), (1354, (.iconst 0, 1)), (1355, (.ireturn, 1)), (1356, (.aload_n 1, 1)), (1357, (.aload_n 0, 1)), (1358, (.iload_n 3, 1)), (1359, (.iconst 1, 1))]
set_option maxRecDepth 100000 in
theorem dL_23 : eL_23.all (fun q => decide (decode code q.1 = .ok q.2)) = true := by decide +kernel
def eL_24 : List (Nat × (Instr × Nat)) := [(1360, (.iadd, 1)), (1361, (.iaload, 1)), (1362, (.aload_n 0, 1)), (1363, (.iload_n 3, 1)), (1364, (.iconst 2, 1)), (1365, (.iadd, 1)), (1366, (.iaload, 1)), (1367, (.aload_n 0, 1)), (1368, (.iload_n 3, 1)), (1369, (.iconst 3, 1)), (1370, (.iadd, 1)), (1371, (.iaload, 1)), (1372, (.aload_n 0, 1)), (1373, (.iload_n 3, 1)), (1374, (.iconst 4, 1)), (1375, (.iadd, 1)), (1376, (.iaload, 1)), (1377, (.aload_n 0, 1)), (1378, (.iload_n 3, 1)), (1379, (.iconst 5, 1)), (1380, (.iadd, 1)), (1381, (.iaload, 1)), (1382, (.invokevirtual 165, 3)), (1385, (.aload_n 2, 1)), (1386, (.aload_n 0, 1)), (1387, (.iload_n 3, 1)), (1388, (.iconst 1, 1)), (1389, (.iadd, 1)), (1390, (.iaload, 1)), (1391, (.aload_n 0, 1)), (1392, (.iload_n 3, 1)), (1393, (.iconst 2, 1)), (1394, (.iadd, 1)), (1395, (.iaload, 1)), (1396, (.aload_n 0, 1)), (1397, (.iload_n 3, 1)), (1398, (.iconst 3, 1)), (1399, (.iadd, 1)), (1400, (.iaload, 1)), (1401, (.aload_n 0, 1))]
set_option maxRecDepth 100000 in
theorem dL_24 : eL_24.all (fun q => decide (decode code q.1 = .ok q.2)) = true := by decide +kernel
def eL_25 : List (Nat × (Instr × Nat)) := [(1402, (.iload_n 3, 1)), (1403, (.iconst 4, 1)), (1404, (.iadd, 1)), (1405, (.iaload, 1)), (1406, (.aload_n 0, 1)), (1407, (.iload_n 3, 1)), (1408, (.iconst 5, 1)), (1409, (.iadd, 1)), (1410, (.iaload, 1)), (1411, (.invokevirtual 169, 3)), (1414, (.if_icmp .eq 91, 3)), (1417, (.iconst 0, 1)), (1418, (.ireturn, 1)), (1419, (.aload_n 1, 1)), (1420, (.aload_n 0, 1)), (1421, (.iload_n 3, 1)), (1422, (.iconst 1, 1)), (1423, (.iadd, 1)), (1424, (.iaload, 1)), (1425, (.aload_n 0, 1)), (1426, (.iload_n 3, 1)), (1427, (.iconst 2, 1)), (1428, (.iadd, 1)), (1429, (.iaload, 1)), (1430, (.aload_n 0, 1)), (1431, (.iload_n 3, 1)), (1432, (.iconst 3, 1)), (1433, (.iadd, 1)), (1434, (.iaload, 1)), (1435, (.aload_n 0, 1)), (1436, (.iload_n 3, 1)), (1437, (.iconst 4, 1)), (1438, (.iadd, 1)), (1439, (.iaload, 1)), (1440, (.invokevirtual 170, 3)), (1443, (.aload_n 2, 1)), (1444, (.aload_n 0, 1)), (1445, (.iload_n 3, 1)), (1446, (.iconst 1, 1)), (1447, (.iadd, 1))]
set_option maxRecDepth 100000 in
theorem dL_25 : eL_25.all (fun q => decide (decode code q.1 = .ok q.2)) = true := by decide +kernel
def eL_26 : List (Nat × (Instr × Nat)) := [(1448, (.iaload, 1)), (1449, (.aload_n 0, 1)), (1450, (.iload_n 3, 1)), (1451, (.iconst 2, 1)), (1452, (.iadd, 1)), (1453, (.iaload, 1)), (1454, (.aload_n 0, 1)), (1455, (.iload_n 3, 1)), (1456, (.iconst 3, 1)), (1457, (.iadd, 1)), (1458, (.iaload, 1)), (1459, (.aload_n 0, 1)), (1460, (.iload_n 3, 1)), (1461, (.iconst 4, 1)), (1462, (.iadd, 1)), (1463, (.iaload, 1)), (1464, (.invokevirtual 173, 3)), (1467, (.if_icmp .eq 38, 3)), (1470, (.iconst 0, 1)), (1471, (.ireturn, 1)), (1472, (.aload_n 1, 1)), (1473, (.aload_n 0, 1)), (1474, (.iload_n 3, 1)), (1475, (.iconst 1, 1)), (1476, (.iadd, 1)), (1477, (.iaload, 1)), (1478, (.aload_n 0, 1)), (1479, (.iload_n 3, 1)), (1480, (.iconst 2, 1)), (1481, (.iadd, 1)), (1482, (.iaload, 1)), (1483, (.invokevirtual 174, 3)), (1486, (.aload_n 2, 1)), (1487, (.aload_n 0, 1)), (1488, (.iload_n 3, 1)), (1489, (.iconst 1, 1)), (1490, (.iadd, 1)), (1491, (.iaload, 1)), (1492, (.aload_n 0, 1)), (1493, (.iload_n 3, 1))]
set_option maxRecDepth 100000 in
theorem dL_26 : eL_26.all (fun q => decide (decode code q.1 = .ok q.2)) = true := by decide +kernel
def eL_27 : List (Nat × (Instr × Nat)) := [(1494, (.iconst 2, 1)), (1495, (.iadd, 1)), (1496, (.iaload, 1)), (1497, (.invokevirtual 177, 3)), (1500, (.if_icmp .eq 5, 3)), (1503, (.iconst 0, 1)), (1504, (.ireturn, 1)), (1505, (.iinc 3 7, 3)), (1508, (.goto (-1490), 3)), (1511, (.iconst 1, 1)), (1512, (.ireturn, 1))]
set_option maxRecDepth 100000 in
theorem dL_27 : eL_27.all (fun q => decide (decode code q.1 = .ok q.2)) = true := by decide +kernel
set_option maxRecDepth 100000 in
theorem dL (xs : Nat → Int32) (N : Nat) : (tL xs N).all (fun q => decide (decode code q.1 = .ok q.2.1)) = true := by
  have h : (tL xs N).map (fun q => (q.1, q.2.1)) = eL_0 ++ (eL_1 ++ (eL_2 ++ (eL_3 ++ (eL_4 ++ (eL_5 ++ (eL_6 ++ (eL_7 ++ (eL_8 ++ (eL_9 ++ (eL_10 ++ (eL_11 ++ (eL_12 ++ (eL_13 ++ (eL_14 ++ (eL_15 ++ (eL_16 ++ (eL_17 ++ (eL_18 ++ (eL_19 ++ (eL_20 ++ (eL_21 ++ (eL_22 ++ (eL_23 ++ (eL_24 ++ (eL_25 ++ (eL_26 ++ (eL_27))))))))))))))))))))))))))) := rfl
  have k : (eL_0 ++ (eL_1 ++ (eL_2 ++ (eL_3 ++ (eL_4 ++ (eL_5 ++ (eL_6 ++ (eL_7 ++ (eL_8 ++ (eL_9 ++ (eL_10 ++ (eL_11 ++ (eL_12 ++ (eL_13 ++ (eL_14 ++ (eL_15 ++ (eL_16 ++ (eL_17 ++ (eL_18 ++ (eL_19 ++ (eL_20 ++ (eL_21 ++ (eL_22 ++ (eL_23 ++ (eL_24 ++ (eL_25 ++ (eL_26 ++ (eL_27)))))))))))))))))))))))))))).all (fun q => decide (decode code q.1 = .ok q.2)) = true := by simp only [List.all_append, Bool.and_true, dL_0, dL_1, dL_2, dL_3, dL_4, dL_5, dL_6, dL_7, dL_8, dL_9, dL_10, dL_11, dL_12, dL_13, dL_14, dL_15, dL_16, dL_17, dL_18, dL_19, dL_20, dL_21, dL_22, dL_23, dL_24, dL_25, dL_26, dL_27]
  rw [← h, List.all_map] at k
  exact k
set_option maxRecDepth 100000 in
theorem kL (xs : Nat → Int32) (N : Nat) : bKl (tL xs N) := by
  unfold tL
  refine bK_c bl_new ?_
  refine bK_c (bl_L lin_dup) ?_
  refine bK_c bl_cI ?_
  refine bK_c (bl_L lin_as) ?_
  refine bK_c bl_new ?_
  refine bK_c (bl_L lin_dup) ?_
  refine bK_c bl_cI ?_
  refine bK_c (bl_L lin_as) ?_
  refine bK_c (bl_L lin_ii) ?_
  refine bK_c (bl_L lin_is) ?_
  refine bK_c (bl_L lin_il) ?_
  refine bK_c (bl_L lin_al) ?_
  refine bK_c bl_sle ?_
  refine bK_c (bl_L lin_ii) ?_
  refine bK_c (bl_L lin_bi) ?_
  refine bK_c (bl_L lin_ic) ?_
  refine bK_c (bl_L lin_al) ?_
  refine bK_c (bl_L lin_il) ?_
  refine bK_c bl_sld ?_
  refine bK_c (bl_L lin_ii) ?_
  refine bK_c (bl_L lin_bi) ?_
  refine bK_c (bl_L lin_sw) ?_
  refine bK_c (bl_L lin_al) ?_
  refine bK_c (bl_L lin_al) ?_
  refine bK_c (bl_L lin_il) ?_
  refine bK_c (bl_L lin_ii) ?_
  refine bK_c (bl_L lin_bi) ?_
  refine bK_c bl_sld ?_
  refine bK_c (bl_L lin_cV) ?_
  refine bK_c (bl_L lin_al) ?_
  refine bK_c (bl_L lin_al) ?_
  refine bK_c (bl_L lin_il) ?_
  refine bK_c (bl_L lin_ii) ?_
  refine bK_c (bl_L lin_bi) ?_
  refine bK_c bl_sld ?_
  refine bK_c (bl_L lin_cV) ?_
  refine bK_c (bl_L lin_ic) ?_
  refine bK_c (bl_L lin_ii) ?_
  refine bK_c bl_ri ?_
  refine bK_c (bl_L lin_al) ?_
  refine bK_c (bl_L lin_al) ?_
  refine bK_c (bl_L lin_il) ?_
  refine bK_c (bl_L lin_ii) ?_
  refine bK_c (bl_L lin_bi) ?_
  refine bK_c bl_sld ?_
  refine bK_c (bl_L lin_cV) ?_
  refine bK_c (bl_L lin_al) ?_
  refine bK_c (bl_L lin_al) ?_
  refine bK_c (bl_L lin_il) ?_
  refine bK_c (bl_L lin_ii) ?_
  refine bK_c (bl_L lin_bi) ?_
  refine bK_c bl_sld ?_
  refine bK_c (bl_L lin_cV) ?_
  refine bK_c (bl_L lin_ic) ?_
  refine bK_c (bl_L lin_ii) ?_
  refine bK_c bl_ri ?_
  refine bK_c (bl_L lin_al) ?_
  refine bK_c (bl_L lin_al) ?_
  refine bK_c (bl_L lin_il) ?_
  refine bK_c (bl_L lin_ii) ?_
  refine bK_c (bl_L lin_bi) ?_
  refine bK_c bl_sld ?_
  refine bK_c (bl_L lin_al) ?_
  refine bK_c (bl_L lin_il) ?_
  refine bK_c (bl_L lin_ii) ?_
  refine bK_c (bl_L lin_bi) ?_
  refine bK_c bl_sld ?_
  refine bK_c (bl_L lin_al) ?_
  refine bK_c (bl_L lin_il) ?_
  refine bK_c (bl_L lin_ii) ?_
  refine bK_c (bl_L lin_bi) ?_
  refine bK_c bl_sld ?_
  refine bK_c (bl_L lin_al) ?_
  refine bK_c (bl_L lin_il) ?_
  refine bK_c (bl_L lin_ii) ?_
  refine bK_c (bl_L lin_bi) ?_
  refine bK_c bl_sld ?_
  refine bK_c (bl_L lin_al) ?_
  refine bK_c (bl_L lin_il) ?_
  refine bK_c (bl_L lin_ii) ?_
  refine bK_c (bl_L lin_bi) ?_
  refine bK_c bl_sld ?_
  refine bK_c (bl_L lin_al) ?_
  refine bK_c (bl_L lin_il) ?_
  refine bK_c (bl_L lin_ii) ?_
  refine bK_c (bl_L lin_bi) ?_
  refine bK_c bl_sld ?_
  refine bK_c (bl_L lin_cV) ?_
  refine bK_c (bl_L lin_al) ?_
  refine bK_c (bl_L lin_al) ?_
  refine bK_c (bl_L lin_il) ?_
  refine bK_c (bl_L lin_ii) ?_
  refine bK_c (bl_L lin_bi) ?_
  refine bK_c bl_sld ?_
  refine bK_c (bl_L lin_al) ?_
  refine bK_c (bl_L lin_il) ?_
  refine bK_c (bl_L lin_ii) ?_
  refine bK_c (bl_L lin_bi) ?_
  refine bK_c bl_sld ?_
  refine bK_c (bl_L lin_al) ?_
  refine bK_c (bl_L lin_il) ?_
  refine bK_c (bl_L lin_ii) ?_
  refine bK_c (bl_L lin_bi) ?_
  refine bK_c bl_sld ?_
  refine bK_c (bl_L lin_al) ?_
  refine bK_c (bl_L lin_il) ?_
  refine bK_c (bl_L lin_ii) ?_
  refine bK_c (bl_L lin_bi) ?_
  refine bK_c bl_sld ?_
  refine bK_c (bl_L lin_al) ?_
  refine bK_c (bl_L lin_il) ?_
  refine bK_c (bl_L lin_ii) ?_
  refine bK_c (bl_L lin_bi) ?_
  refine bK_c bl_sld ?_
  refine bK_c (bl_L lin_al) ?_
  refine bK_c (bl_L lin_il) ?_
  refine bK_c (bl_L lin_ii) ?_
  refine bK_c (bl_L lin_bi) ?_
  refine bK_c bl_sld ?_
  refine bK_c (bl_L lin_cV) ?_
  refine bK_c (bl_L lin_ic) ?_
  refine bK_c (bl_L lin_ii) ?_
  refine bK_c bl_ri ?_
  refine bK_c (bl_L lin_al) ?_
  refine bK_c bl_cV ?_
  refine bK_c (bl_L lin_al) ?_
  refine bK_c (bl_L lin_cV) ?_
  refine bK_c (bl_L lin_ic) ?_
  refine bK_c (bl_L lin_ii) ?_
  refine bK_c bl_ri ?_
  refine bK_c (bl_L lin_al) ?_
  refine bK_c (bl_L lin_al) ?_
  refine bK_c (bl_L lin_il) ?_
  refine bK_c (bl_L lin_ii) ?_
  refine bK_c (bl_L lin_bi) ?_
  refine bK_c bl_sld ?_
  refine bK_c (bl_L lin_cV) ?_
  refine bK_c (bl_L lin_al) ?_
  refine bK_c (bl_L lin_al) ?_
  refine bK_c (bl_L lin_il) ?_
  refine bK_c (bl_L lin_ii) ?_
  refine bK_c (bl_L lin_bi) ?_
  refine bK_c bl_sld ?_
  refine bK_c (bl_L lin_cV) ?_
  refine bK_c (bl_L lin_ic) ?_
  refine bK_c (bl_L lin_ii) ?_
  refine bK_c bl_ri ?_
  refine bK_c (bl_L lin_al) ?_
  refine bK_c (bl_L lin_al) ?_
  refine bK_c (bl_L lin_il) ?_
  refine bK_c (bl_L lin_ii) ?_
  refine bK_c (bl_L lin_bi) ?_
  refine bK_c bl_sld ?_
  refine bK_c (bl_L lin_al) ?_
  refine bK_c (bl_L lin_il) ?_
  refine bK_c (bl_L lin_ii) ?_
  refine bK_c (bl_L lin_bi) ?_
  refine bK_c bl_sld ?_
  refine bK_c (bl_L lin_al) ?_
  refine bK_c (bl_L lin_il) ?_
  refine bK_c (bl_L lin_ii) ?_
  refine bK_c (bl_L lin_bi) ?_
  refine bK_c bl_sld ?_
  refine bK_c (bl_L lin_cV) ?_
  refine bK_c (bl_L lin_al) ?_
  refine bK_c (bl_L lin_al) ?_
  refine bK_c (bl_L lin_il) ?_
  refine bK_c (bl_L lin_ii) ?_
  refine bK_c (bl_L lin_bi) ?_
  refine bK_c bl_sld ?_
  refine bK_c (bl_L lin_al) ?_
  refine bK_c (bl_L lin_il) ?_
  refine bK_c (bl_L lin_ii) ?_
  refine bK_c (bl_L lin_bi) ?_
  refine bK_c bl_sld ?_
  refine bK_c (bl_L lin_al) ?_
  refine bK_c (bl_L lin_il) ?_
  refine bK_c (bl_L lin_ii) ?_
  refine bK_c (bl_L lin_bi) ?_
  refine bK_c bl_sld ?_
  refine bK_c (bl_L lin_cV) ?_
  refine bK_c (bl_L lin_ic) ?_
  refine bK_c (bl_L lin_ii) ?_
  refine bK_c bl_ri ?_
  refine bK_c (bl_L lin_al) ?_
  refine bK_c (bl_L lin_al) ?_
  refine bK_c (bl_L lin_il) ?_
  refine bK_c (bl_L lin_ii) ?_
  refine bK_c (bl_L lin_bi) ?_
  refine bK_c bl_sld ?_
  refine bK_c (bl_L lin_al) ?_
  refine bK_c (bl_L lin_il) ?_
  refine bK_c (bl_L lin_ii) ?_
  refine bK_c (bl_L lin_bi) ?_
  refine bK_c bl_sld ?_
  refine bK_c (bl_L lin_al) ?_
  refine bK_c (bl_L lin_il) ?_
  refine bK_c (bl_L lin_ii) ?_
  refine bK_c (bl_L lin_bi) ?_
  refine bK_c bl_sld ?_
  refine bK_c (bl_L lin_cV) ?_
  refine bK_c (bl_L lin_al) ?_
  refine bK_c (bl_L lin_al) ?_
  refine bK_c (bl_L lin_il) ?_
  refine bK_c (bl_L lin_ii) ?_
  refine bK_c (bl_L lin_bi) ?_
  refine bK_c bl_sld ?_
  refine bK_c (bl_L lin_al) ?_
  refine bK_c (bl_L lin_il) ?_
  refine bK_c (bl_L lin_ii) ?_
  refine bK_c (bl_L lin_bi) ?_
  refine bK_c bl_sld ?_
  refine bK_c (bl_L lin_al) ?_
  refine bK_c (bl_L lin_il) ?_
  refine bK_c (bl_L lin_ii) ?_
  refine bK_c (bl_L lin_bi) ?_
  refine bK_c bl_sld ?_
  refine bK_c (bl_L lin_cV) ?_
  refine bK_c (bl_L lin_ic) ?_
  refine bK_c (bl_L lin_ii) ?_
  refine bK_c bl_ri ?_
  refine bK_c (bl_L lin_al) ?_
  refine bK_c (bl_L lin_al) ?_
  refine bK_c (bl_L lin_il) ?_
  refine bK_c (bl_L lin_ii) ?_
  refine bK_c (bl_L lin_bi) ?_
  refine bK_c bl_sld ?_
  refine bK_c (bl_L lin_al) ?_
  refine bK_c (bl_L lin_il) ?_
  refine bK_c (bl_L lin_ii) ?_
  refine bK_c (bl_L lin_bi) ?_
  refine bK_c bl_sld ?_
  refine bK_c (bl_L lin_cV) ?_
  refine bK_c (bl_L lin_al) ?_
  refine bK_c (bl_L lin_al) ?_
  refine bK_c (bl_L lin_il) ?_
  refine bK_c (bl_L lin_ii) ?_
  refine bK_c (bl_L lin_bi) ?_
  refine bK_c bl_sld ?_
  refine bK_c (bl_L lin_al) ?_
  refine bK_c (bl_L lin_il) ?_
  refine bK_c (bl_L lin_ii) ?_
  refine bK_c (bl_L lin_bi) ?_
  refine bK_c bl_sld ?_
  refine bK_c (bl_L lin_cV) ?_
  refine bK_c (bl_L lin_ic) ?_
  refine bK_c (bl_L lin_ii) ?_
  refine bK_c bl_ri ?_
  refine bK_c (bl_L lin_al) ?_
  refine bK_c (bl_L lin_al) ?_
  refine bK_c (bl_L lin_il) ?_
  refine bK_c (bl_L lin_ii) ?_
  refine bK_c (bl_L lin_bi) ?_
  refine bK_c bl_sld ?_
  refine bK_c (bl_L lin_al) ?_
  refine bK_c (bl_L lin_il) ?_
  refine bK_c (bl_L lin_ii) ?_
  refine bK_c (bl_L lin_bi) ?_
  refine bK_c bl_sld ?_
  refine bK_c (bl_L lin_al) ?_
  refine bK_c (bl_L lin_il) ?_
  refine bK_c (bl_L lin_ii) ?_
  refine bK_c (bl_L lin_bi) ?_
  refine bK_c bl_sld ?_
  refine bK_c (bl_L lin_cV) ?_
  refine bK_c (bl_L lin_al) ?_
  refine bK_c (bl_L lin_al) ?_
  refine bK_c (bl_L lin_il) ?_
  refine bK_c (bl_L lin_ii) ?_
  refine bK_c (bl_L lin_bi) ?_
  refine bK_c bl_sld ?_
  refine bK_c (bl_L lin_al) ?_
  refine bK_c (bl_L lin_il) ?_
  refine bK_c (bl_L lin_ii) ?_
  refine bK_c (bl_L lin_bi) ?_
  refine bK_c bl_sld ?_
  refine bK_c (bl_L lin_al) ?_
  refine bK_c (bl_L lin_il) ?_
  refine bK_c (bl_L lin_ii) ?_
  refine bK_c (bl_L lin_bi) ?_
  refine bK_c bl_sld ?_
  refine bK_c (bl_L lin_cV) ?_
  refine bK_c (bl_L lin_ic) ?_
  refine bK_c (bl_L lin_ii) ?_
  refine bK_c bl_ri ?_
  refine bK_c (bl_L lin_al) ?_
  refine bK_c (bl_L lin_al) ?_
  refine bK_c (bl_L lin_il) ?_
  refine bK_c (bl_L lin_ii) ?_
  refine bK_c (bl_L lin_bi) ?_
  refine bK_c bl_sld ?_
  refine bK_c (bl_L lin_al) ?_
  refine bK_c (bl_L lin_il) ?_
  refine bK_c (bl_L lin_ii) ?_
  refine bK_c (bl_L lin_bi) ?_
  refine bK_c bl_sld ?_
  refine bK_c (bl_L lin_cV) ?_
  refine bK_c (bl_L lin_al) ?_
  refine bK_c (bl_L lin_al) ?_
  refine bK_c (bl_L lin_il) ?_
  refine bK_c (bl_L lin_ii) ?_
  refine bK_c (bl_L lin_bi) ?_
  refine bK_c bl_sld ?_
  refine bK_c (bl_L lin_al) ?_
  refine bK_c (bl_L lin_il) ?_
  refine bK_c (bl_L lin_ii) ?_
  refine bK_c (bl_L lin_bi) ?_
  refine bK_c bl_sld ?_
  refine bK_c (bl_L lin_cV) ?_
  refine bK_c (bl_L lin_ic) ?_
  refine bK_c (bl_L lin_ii) ?_
  refine bK_c bl_ri ?_
  refine bK_c (bl_L lin_al) ?_
  refine bK_c (bl_L lin_al) ?_
  refine bK_c (bl_L lin_il) ?_
  refine bK_c (bl_L lin_ii) ?_
  refine bK_c (bl_L lin_bi) ?_
  refine bK_c bl_sld ?_
  refine bK_c (bl_L lin_al) ?_
  refine bK_c (bl_L lin_il) ?_
  refine bK_c (bl_L lin_ii) ?_
  refine bK_c (bl_L lin_bi) ?_
  refine bK_c bl_sld ?_
  refine bK_c (bl_L lin_cV) ?_
  refine bK_c (bl_L lin_al) ?_
  refine bK_c (bl_L lin_al) ?_
  refine bK_c (bl_L lin_il) ?_
  refine bK_c (bl_L lin_ii) ?_
  refine bK_c (bl_L lin_bi) ?_
  refine bK_c bl_sld ?_
  refine bK_c (bl_L lin_al) ?_
  refine bK_c (bl_L lin_il) ?_
  refine bK_c (bl_L lin_ii) ?_
  refine bK_c (bl_L lin_bi) ?_
  refine bK_c bl_sld ?_
  refine bK_c (bl_L lin_cV) ?_
  refine bK_c (bl_L lin_ic) ?_
  refine bK_c (bl_L lin_ii) ?_
  refine bK_c bl_ri ?_
  refine bK_c (bl_L lin_al) ?_
  refine bK_c (bl_L lin_al) ?_
  refine bK_c (bl_L lin_il) ?_
  refine bK_c (bl_L lin_ii) ?_
  refine bK_c (bl_L lin_bi) ?_
  refine bK_c bl_sld ?_
  refine bK_c (bl_L lin_al) ?_
  refine bK_c (bl_L lin_il) ?_
  refine bK_c (bl_L lin_ii) ?_
  refine bK_c (bl_L lin_bi) ?_
  refine bK_c bl_sld ?_
  refine bK_c (bl_L lin_al) ?_
  refine bK_c (bl_L lin_il) ?_
  refine bK_c (bl_L lin_ii) ?_
  refine bK_c (bl_L lin_bi) ?_
  refine bK_c bl_sld ?_
  refine bK_c (bl_L lin_cV) ?_
  refine bK_c (bl_L lin_al) ?_
  refine bK_c (bl_L lin_al) ?_
  refine bK_c (bl_L lin_il) ?_
  refine bK_c (bl_L lin_ii) ?_
  refine bK_c (bl_L lin_bi) ?_
  refine bK_c bl_sld ?_
  refine bK_c (bl_L lin_al) ?_
  refine bK_c (bl_L lin_il) ?_
  refine bK_c (bl_L lin_ii) ?_
  refine bK_c (bl_L lin_bi) ?_
  refine bK_c bl_sld ?_
  refine bK_c (bl_L lin_al) ?_
  refine bK_c (bl_L lin_il) ?_
  refine bK_c (bl_L lin_ii) ?_
  refine bK_c (bl_L lin_bi) ?_
  refine bK_c bl_sld ?_
  refine bK_c (bl_L lin_cV) ?_
  refine bK_c (bl_L lin_ic) ?_
  refine bK_c (bl_L lin_ii) ?_
  refine bK_c bl_ri ?_
  refine bK_c (bl_L lin_al) ?_
  refine bK_c (bl_L lin_al) ?_
  refine bK_c (bl_L lin_il) ?_
  refine bK_c (bl_L lin_ii) ?_
  refine bK_c (bl_L lin_bi) ?_
  refine bK_c bl_sld ?_
  refine bK_c (bl_L lin_al) ?_
  refine bK_c (bl_L lin_il) ?_
  refine bK_c (bl_L lin_ii) ?_
  refine bK_c (bl_L lin_bi) ?_
  refine bK_c bl_sld ?_
  refine bK_c (bl_L lin_cV) ?_
  refine bK_c (bl_L lin_al) ?_
  refine bK_c (bl_L lin_al) ?_
  refine bK_c (bl_L lin_il) ?_
  refine bK_c (bl_L lin_ii) ?_
  refine bK_c (bl_L lin_bi) ?_
  refine bK_c bl_sld ?_
  refine bK_c (bl_L lin_al) ?_
  refine bK_c (bl_L lin_il) ?_
  refine bK_c (bl_L lin_ii) ?_
  refine bK_c (bl_L lin_bi) ?_
  refine bK_c bl_sld ?_
  refine bK_c (bl_L lin_cV) ?_
  refine bK_c (bl_L lin_ic) ?_
  refine bK_c (bl_L lin_ii) ?_
  refine bK_c bl_ri ?_
  refine bK_c (bl_L lin_al) ?_
  refine bK_c (bl_L lin_al) ?_
  refine bK_c (bl_L lin_il) ?_
  refine bK_c (bl_L lin_ii) ?_
  refine bK_c (bl_L lin_bi) ?_
  refine bK_c bl_sld ?_
  refine bK_c (bl_L lin_al) ?_
  refine bK_c (bl_L lin_il) ?_
  refine bK_c (bl_L lin_ii) ?_
  refine bK_c (bl_L lin_bi) ?_
  refine bK_c bl_sld ?_
  refine bK_c (bl_L lin_cV) ?_
  refine bK_c (bl_L lin_al) ?_
  refine bK_c (bl_L lin_al) ?_
  refine bK_c (bl_L lin_il) ?_
  refine bK_c (bl_L lin_ii) ?_
  refine bK_c (bl_L lin_bi) ?_
  refine bK_c bl_sld ?_
  refine bK_c (bl_L lin_al) ?_
  refine bK_c (bl_L lin_il) ?_
  refine bK_c (bl_L lin_ii) ?_
  refine bK_c (bl_L lin_bi) ?_
  refine bK_c bl_sld ?_
  refine bK_c (bl_L lin_cV) ?_
  refine bK_c (bl_L lin_ic) ?_
  refine bK_c (bl_L lin_ii) ?_
  refine bK_c bl_ri ?_
  refine bK_c (bl_L lin_al) ?_
  refine bK_c (bl_L lin_cV) ?_
  refine bK_c (bl_L lin_al) ?_
  refine bK_c (bl_L lin_cV) ?_
  refine bK_c (bl_L lin_ic) ?_
  refine bK_c (bl_L lin_ii) ?_
  refine bK_c bl_ri ?_
  refine bK_c (bl_L lin_al) ?_
  refine bK_c (bl_L lin_al) ?_
  refine bK_c (bl_L lin_il) ?_
  refine bK_c (bl_L lin_ii) ?_
  refine bK_c (bl_L lin_bi) ?_
  refine bK_c bl_sld ?_
  refine bK_c (bl_L lin_al) ?_
  refine bK_c (bl_L lin_il) ?_
  refine bK_c (bl_L lin_ii) ?_
  refine bK_c (bl_L lin_bi) ?_
  refine bK_c bl_sld ?_
  refine bK_c (bl_L lin_cV) ?_
  refine bK_c (bl_L lin_al) ?_
  refine bK_c (bl_L lin_al) ?_
  refine bK_c (bl_L lin_il) ?_
  refine bK_c (bl_L lin_ii) ?_
  refine bK_c (bl_L lin_bi) ?_
  refine bK_c bl_sld ?_
  refine bK_c (bl_L lin_al) ?_
  refine bK_c (bl_L lin_il) ?_
  refine bK_c (bl_L lin_ii) ?_
  refine bK_c (bl_L lin_bi) ?_
  refine bK_c bl_sld ?_
  refine bK_c (bl_L lin_cV) ?_
  refine bK_c (bl_L lin_ic) ?_
  refine bK_c (bl_L lin_ii) ?_
  refine bK_c bl_ri ?_
  refine bK_c (bl_L lin_al) ?_
  refine bK_c (bl_L lin_al) ?_
  refine bK_c (bl_L lin_il) ?_
  refine bK_c (bl_L lin_ii) ?_
  refine bK_c (bl_L lin_bi) ?_
  refine bK_c bl_sld ?_
  refine bK_c (bl_L lin_cV) ?_
  refine bK_c (bl_L lin_al) ?_
  refine bK_c (bl_L lin_al) ?_
  refine bK_c (bl_L lin_il) ?_
  refine bK_c (bl_L lin_ii) ?_
  refine bK_c (bl_L lin_bi) ?_
  refine bK_c bl_sld ?_
  refine bK_c (bl_L lin_cV) ?_
  refine bK_c (bl_L lin_ic) ?_
  refine bK_c (bl_L lin_ii) ?_
  refine bK_c bl_ri ?_
  refine bK_c (bl_L lin_al) ?_
  refine bK_c (bl_L lin_al) ?_
  refine bK_c (bl_L lin_il) ?_
  refine bK_c (bl_L lin_ii) ?_
  refine bK_c (bl_L lin_bi) ?_
  refine bK_c bl_sld ?_
  refine bK_c (bl_L lin_cV) ?_
  refine bK_c (bl_L lin_al) ?_
  refine bK_c (bl_L lin_al) ?_
  refine bK_c (bl_L lin_il) ?_
  refine bK_c (bl_L lin_ii) ?_
  refine bK_c (bl_L lin_bi) ?_
  refine bK_c bl_sld ?_
  refine bK_c (bl_L lin_cV) ?_
  refine bK_c (bl_L lin_ic) ?_
  refine bK_c (bl_L lin_ii) ?_
  refine bK_c bl_ri ?_
  refine bK_c (bl_L lin_al) ?_
  refine bK_c (bl_L lin_al) ?_
  refine bK_c (bl_L lin_il) ?_
  refine bK_c (bl_L lin_ii) ?_
  refine bK_c (bl_L lin_bi) ?_
  refine bK_c bl_sld ?_
  refine bK_c (bl_L lin_al) ?_
  refine bK_c (bl_L lin_il) ?_
  refine bK_c (bl_L lin_ii) ?_
  refine bK_c (bl_L lin_bi) ?_
  refine bK_c bl_sld ?_
  refine bK_c (bl_L lin_cV) ?_
  refine bK_c (bl_L lin_al) ?_
  refine bK_c (bl_L lin_al) ?_
  refine bK_c (bl_L lin_il) ?_
  refine bK_c (bl_L lin_ii) ?_
  refine bK_c (bl_L lin_bi) ?_
  refine bK_c bl_sld ?_
  refine bK_c (bl_L lin_al) ?_
  refine bK_c (bl_L lin_il) ?_
  refine bK_c (bl_L lin_ii) ?_
  refine bK_c (bl_L lin_bi) ?_
  refine bK_c bl_sld ?_
  refine bK_c (bl_L lin_cV) ?_
  refine bK_c (bl_L lin_ic) ?_
  refine bK_c (bl_L lin_ii) ?_
  refine bK_c bl_ri ?_
  refine bK_c (bl_L lin_al) ?_
  refine bK_c (bl_L lin_al) ?_
  refine bK_c (bl_L lin_il) ?_
  refine bK_c (bl_L lin_ii) ?_
  refine bK_c (bl_L lin_bi) ?_
  refine bK_c bl_sld ?_
  refine bK_c (bl_L lin_al) ?_
  refine bK_c (bl_L lin_il) ?_
  refine bK_c (bl_L lin_ii) ?_
  refine bK_c (bl_L lin_bi) ?_
  refine bK_c bl_sld ?_
  refine bK_c (bl_L lin_al) ?_
  refine bK_c (bl_L lin_il) ?_
  refine bK_c (bl_L lin_ii) ?_
  refine bK_c (bl_L lin_bi) ?_
  refine bK_c bl_sld ?_
  refine bK_c (bl_L lin_cV) ?_
  refine bK_c (bl_L lin_al) ?_
  refine bK_c (bl_L lin_al) ?_
  refine bK_c (bl_L lin_il) ?_
  refine bK_c (bl_L lin_ii) ?_
  refine bK_c (bl_L lin_bi) ?_
  refine bK_c bl_sld ?_
  refine bK_c (bl_L lin_al) ?_
  refine bK_c (bl_L lin_il) ?_
  refine bK_c (bl_L lin_ii) ?_
  refine bK_c (bl_L lin_bi) ?_
  refine bK_c bl_sld ?_
  refine bK_c (bl_L lin_al) ?_
  refine bK_c (bl_L lin_il) ?_
  refine bK_c (bl_L lin_ii) ?_
  refine bK_c (bl_L lin_bi) ?_
  refine bK_c bl_sld ?_
  refine bK_c (bl_L lin_cV) ?_
  refine bK_c (bl_L lin_ic) ?_
  refine bK_c (bl_L lin_ii) ?_
  refine bK_c bl_ri ?_
  refine bK_c (bl_L lin_al) ?_
  refine bK_c (bl_L lin_al) ?_
  refine bK_c (bl_L lin_il) ?_
  refine bK_c (bl_L lin_ii) ?_
  refine bK_c (bl_L lin_bi) ?_
  refine bK_c bl_sld ?_
  refine bK_c (bl_L lin_cV) ?_
  refine bK_c (bl_L lin_al) ?_
  refine bK_c (bl_L lin_al) ?_
  refine bK_c (bl_L lin_il) ?_
  refine bK_c (bl_L lin_ii) ?_
  refine bK_c (bl_L lin_bi) ?_
  refine bK_c bl_sld ?_
  refine bK_c (bl_L lin_cV) ?_
  refine bK_c (bl_L lin_ic) ?_
  refine bK_c (bl_L lin_ii) ?_
  refine bK_c bl_ri ?_
  refine bK_c (bl_L lin_al) ?_
  refine bK_c (bl_L lin_cV) ?_
  refine bK_c (bl_L lin_al) ?_
  refine bK_c (bl_L lin_cV) ?_
  refine bK_c (bl_L lin_ic) ?_
  refine bK_c (bl_L lin_ii) ?_
  refine bK_c bl_ri ?_
  refine bK_c (bl_L lin_al) ?_
  refine bK_c (bl_L lin_al) ?_
  refine bK_c (bl_L lin_il) ?_
  refine bK_c (bl_L lin_ii) ?_
  refine bK_c (bl_L lin_bi) ?_
  refine bK_c bl_sld ?_
  refine bK_c (bl_L lin_cV) ?_
  refine bK_c (bl_L lin_al) ?_
  refine bK_c (bl_L lin_al) ?_
  refine bK_c (bl_L lin_il) ?_
  refine bK_c (bl_L lin_ii) ?_
  refine bK_c (bl_L lin_bi) ?_
  refine bK_c bl_sld ?_
  refine bK_c (bl_L lin_cV) ?_
  refine bK_c (bl_L lin_lcm) ?_
  refine bK_c (bl_L lin_if) ?_
  refine bK_c (bl_L lin_ii) ?_
  refine bK_c bl_ri ?_
  refine bK_c (bl_L lin_al) ?_
  refine bK_c (bl_L lin_al) ?_
  refine bK_c (bl_L lin_il) ?_
  refine bK_c (bl_L lin_ii) ?_
  refine bK_c (bl_L lin_bi) ?_
  refine bK_c bl_sld ?_
  refine bK_c (bl_L lin_cV) ?_
  refine bK_c (bl_L lin_al) ?_
  refine bK_c (bl_L lin_al) ?_
  refine bK_c (bl_L lin_il) ?_
  refine bK_c (bl_L lin_ii) ?_
  refine bK_c (bl_L lin_bi) ?_
  refine bK_c bl_sld ?_
  refine bK_c (bl_L lin_cV) ?_
  refine bK_c (bl_L lin_ic) ?_
  refine bK_c (bl_L lin_ii) ?_
  refine bK_c bl_ri ?_
  refine bK_c (bl_L lin_al) ?_
  refine bK_c (bl_L lin_al) ?_
  refine bK_c (bl_L lin_il) ?_
  refine bK_c (bl_L lin_ii) ?_
  refine bK_c (bl_L lin_bi) ?_
  refine bK_c bl_sld ?_
  refine bK_c (bl_L lin_al) ?_
  refine bK_c (bl_L lin_il) ?_
  refine bK_c (bl_L lin_ii) ?_
  refine bK_c (bl_L lin_bi) ?_
  refine bK_c bl_sld ?_
  refine bK_c (bl_L lin_al) ?_
  refine bK_c (bl_L lin_il) ?_
  refine bK_c (bl_L lin_ii) ?_
  refine bK_c (bl_L lin_bi) ?_
  refine bK_c bl_sld ?_
  refine bK_c (bl_L lin_cV) ?_
  refine bK_c (bl_L lin_al) ?_
  refine bK_c (bl_L lin_al) ?_
  refine bK_c (bl_L lin_il) ?_
  refine bK_c (bl_L lin_ii) ?_
  refine bK_c (bl_L lin_bi) ?_
  refine bK_c bl_sld ?_
  refine bK_c (bl_L lin_al) ?_
  refine bK_c (bl_L lin_il) ?_
  refine bK_c (bl_L lin_ii) ?_
  refine bK_c (bl_L lin_bi) ?_
  refine bK_c bl_sld ?_
  refine bK_c (bl_L lin_al) ?_
  refine bK_c (bl_L lin_il) ?_
  refine bK_c (bl_L lin_ii) ?_
  refine bK_c (bl_L lin_bi) ?_
  refine bK_c bl_sld ?_
  refine bK_c (bl_L lin_cV) ?_
  refine bK_c (bl_L lin_ic) ?_
  refine bK_c (bl_L lin_ii) ?_
  refine bK_c bl_ri ?_
  refine bK_c (bl_L lin_al) ?_
  refine bK_c (bl_L lin_al) ?_
  refine bK_c (bl_L lin_il) ?_
  refine bK_c (bl_L lin_ii) ?_
  refine bK_c (bl_L lin_bi) ?_
  refine bK_c bl_sld ?_
  refine bK_c (bl_L lin_al) ?_
  refine bK_c (bl_L lin_il) ?_
  refine bK_c (bl_L lin_ii) ?_
  refine bK_c (bl_L lin_bi) ?_
  refine bK_c bl_sld ?_
  refine bK_c (bl_L lin_cV) ?_
  refine bK_c (bl_L lin_al) ?_
  refine bK_c (bl_L lin_al) ?_
  refine bK_c (bl_L lin_il) ?_
  refine bK_c (bl_L lin_ii) ?_
  refine bK_c (bl_L lin_bi) ?_
  refine bK_c bl_sld ?_
  refine bK_c (bl_L lin_al) ?_
  refine bK_c (bl_L lin_il) ?_
  refine bK_c (bl_L lin_ii) ?_
  refine bK_c (bl_L lin_bi) ?_
  refine bK_c bl_sld ?_
  refine bK_c (bl_L lin_cV) ?_
  refine bK_c (bl_L lin_ic) ?_
  refine bK_c (bl_L lin_ii) ?_
  refine bK_c bl_ri ?_
  refine bK_c (bl_L lin_al) ?_
  refine bK_c (bl_L lin_al) ?_
  refine bK_c (bl_L lin_il) ?_
  refine bK_c (bl_L lin_ii) ?_
  refine bK_c (bl_L lin_bi) ?_
  refine bK_c bl_sld ?_
  refine bK_c (bl_L lin_al) ?_
  refine bK_c (bl_L lin_il) ?_
  refine bK_c (bl_L lin_ii) ?_
  refine bK_c (bl_L lin_bi) ?_
  refine bK_c bl_sld ?_
  refine bK_c (bl_L lin_al) ?_
  refine bK_c (bl_L lin_il) ?_
  refine bK_c (bl_L lin_ii) ?_
  refine bK_c (bl_L lin_bi) ?_
  refine bK_c bl_sld ?_
  refine bK_c (bl_L lin_al) ?_
  refine bK_c (bl_L lin_il) ?_
  refine bK_c (bl_L lin_ii) ?_
  refine bK_c (bl_L lin_bi) ?_
  refine bK_c bl_sld ?_
  refine bK_c (bl_L lin_cV) ?_
  refine bK_c (bl_L lin_al) ?_
  refine bK_c (bl_L lin_al) ?_
  refine bK_c (bl_L lin_il) ?_
  refine bK_c (bl_L lin_ii) ?_
  refine bK_c (bl_L lin_bi) ?_
  refine bK_c bl_sld ?_
  refine bK_c (bl_L lin_al) ?_
  refine bK_c (bl_L lin_il) ?_
  refine bK_c (bl_L lin_ii) ?_
  refine bK_c (bl_L lin_bi) ?_
  refine bK_c bl_sld ?_
  refine bK_c (bl_L lin_al) ?_
  refine bK_c (bl_L lin_il) ?_
  refine bK_c (bl_L lin_ii) ?_
  refine bK_c (bl_L lin_bi) ?_
  refine bK_c bl_sld ?_
  refine bK_c (bl_L lin_al) ?_
  refine bK_c (bl_L lin_il) ?_
  refine bK_c (bl_L lin_ii) ?_
  refine bK_c (bl_L lin_bi) ?_
  refine bK_c bl_sld ?_
  refine bK_c (bl_L lin_cV) ?_
  refine bK_c (bl_L lin_ic) ?_
  refine bK_c (bl_L lin_ii) ?_
  refine bK_c bl_ri ?_
  refine bK_c (bl_L lin_al) ?_
  refine bK_c (bl_L lin_al) ?_
  refine bK_c (bl_L lin_il) ?_
  refine bK_c (bl_L lin_ii) ?_
  refine bK_c (bl_L lin_bi) ?_
  refine bK_c bl_sld ?_
  refine bK_c (bl_L lin_cV) ?_
  refine bK_c (bl_L lin_al) ?_
  refine bK_c (bl_L lin_al) ?_
  refine bK_c (bl_L lin_il) ?_
  refine bK_c (bl_L lin_ii) ?_
  refine bK_c (bl_L lin_bi) ?_
  refine bK_c bl_sld ?_
  refine bK_c (bl_L lin_cV) ?_
  refine bK_c (bl_L lin_ic) ?_
  refine bK_c (bl_L lin_ii) ?_
  refine bK_c bl_ri ?_
  refine bK_c (bl_L lin_al) ?_
  refine bK_c (bl_L lin_al) ?_
  refine bK_c (bl_L lin_il) ?_
  refine bK_c (bl_L lin_ii) ?_
  refine bK_c (bl_L lin_bi) ?_
  refine bK_c bl_sld ?_
  refine bK_c (bl_L lin_cV) ?_
  refine bK_c (bl_L lin_al) ?_
  refine bK_c (bl_L lin_al) ?_
  refine bK_c (bl_L lin_il) ?_
  refine bK_c (bl_L lin_ii) ?_
  refine bK_c (bl_L lin_bi) ?_
  refine bK_c bl_sld ?_
  refine bK_c (bl_L lin_cV) ?_
  refine bK_c (bl_L lin_ic) ?_
  refine bK_c (bl_L lin_ii) ?_
  refine bK_c bl_ri ?_
  refine bK_c (bl_L lin_al) ?_
  refine bK_c (bl_L lin_al) ?_
  refine bK_c (bl_L lin_il) ?_
  refine bK_c (bl_L lin_ii) ?_
  refine bK_c (bl_L lin_bi) ?_
  refine bK_c bl_sld ?_
  refine bK_c (bl_L lin_al) ?_
  refine bK_c (bl_L lin_il) ?_
  refine bK_c (bl_L lin_ii) ?_
  refine bK_c (bl_L lin_bi) ?_
  refine bK_c bl_sld ?_
  refine bK_c (bl_L lin_cV) ?_
  refine bK_c (bl_L lin_al) ?_
  refine bK_c (bl_L lin_al) ?_
  refine bK_c (bl_L lin_il) ?_
  refine bK_c (bl_L lin_ii) ?_
  refine bK_c (bl_L lin_bi) ?_
  refine bK_c bl_sld ?_
  refine bK_c (bl_L lin_al) ?_
  refine bK_c (bl_L lin_il) ?_
  refine bK_c (bl_L lin_ii) ?_
  refine bK_c (bl_L lin_bi) ?_
  refine bK_c bl_sld ?_
  refine bK_c (bl_L lin_cV) ?_
  refine bK_c (bl_L lin_ic) ?_
  refine bK_c (bl_L lin_ii) ?_
  refine bK_c bl_ri ?_
  refine bK_c (bl_L lin_al) ?_
  refine bK_c (bl_L lin_al) ?_
  refine bK_c (bl_L lin_il) ?_
  refine bK_c (bl_L lin_ii) ?_
  refine bK_c (bl_L lin_bi) ?_
  refine bK_c bl_sld ?_
  refine bK_c (bl_L lin_al) ?_
  refine bK_c (bl_L lin_il) ?_
  refine bK_c (bl_L lin_ii) ?_
  refine bK_c (bl_L lin_bi) ?_
  refine bK_c bl_sld ?_
  refine bK_c (bl_L lin_cV) ?_
  refine bK_c (bl_L lin_al) ?_
  refine bK_c (bl_L lin_al) ?_
  refine bK_c (bl_L lin_il) ?_
  refine bK_c (bl_L lin_ii) ?_
  refine bK_c (bl_L lin_bi) ?_
  refine bK_c bl_sld ?_
  refine bK_c (bl_L lin_al) ?_
  refine bK_c (bl_L lin_il) ?_
  refine bK_c (bl_L lin_ii) ?_
  refine bK_c (bl_L lin_bi) ?_
  refine bK_c bl_sld ?_
  refine bK_c (bl_L lin_cV) ?_
  refine bK_c (bl_L lin_ic) ?_
  refine bK_c (bl_L lin_ii) ?_
  refine bK_c bl_ri ?_
  refine bK_c (bl_L lin_al) ?_
  refine bK_c (bl_L lin_al) ?_
  refine bK_c (bl_L lin_il) ?_
  refine bK_c (bl_L lin_ii) ?_
  refine bK_c (bl_L lin_bi) ?_
  refine bK_c bl_sld ?_
  refine bK_c (bl_L lin_al) ?_
  refine bK_c (bl_L lin_il) ?_
  refine bK_c (bl_L lin_ii) ?_
  refine bK_c (bl_L lin_bi) ?_
  refine bK_c bl_sld ?_
  refine bK_c (bl_L lin_al) ?_
  refine bK_c (bl_L lin_il) ?_
  refine bK_c (bl_L lin_ii) ?_
  refine bK_c (bl_L lin_bi) ?_
  refine bK_c bl_sld ?_
  refine bK_c (bl_L lin_al) ?_
  refine bK_c (bl_L lin_il) ?_
  refine bK_c (bl_L lin_ii) ?_
  refine bK_c (bl_L lin_bi) ?_
  refine bK_c bl_sld ?_
  refine bK_c (bl_L lin_cV) ?_
  refine bK_c (bl_L lin_al) ?_
  refine bK_c (bl_L lin_al) ?_
  refine bK_c (bl_L lin_il) ?_
  refine bK_c (bl_L lin_ii) ?_
  refine bK_c (bl_L lin_bi) ?_
  refine bK_c bl_sld ?_
  refine bK_c (bl_L lin_al) ?_
  refine bK_c (bl_L lin_il) ?_
  refine bK_c (bl_L lin_ii) ?_
  refine bK_c (bl_L lin_bi) ?_
  refine bK_c bl_sld ?_
  refine bK_c (bl_L lin_al) ?_
  refine bK_c (bl_L lin_il) ?_
  refine bK_c (bl_L lin_ii) ?_
  refine bK_c (bl_L lin_bi) ?_
  refine bK_c bl_sld ?_
  refine bK_c (bl_L lin_al) ?_
  refine bK_c (bl_L lin_il) ?_
  refine bK_c (bl_L lin_ii) ?_
  refine bK_c (bl_L lin_bi) ?_
  refine bK_c bl_sld ?_
  refine bK_c (bl_L lin_cV) ?_
  refine bK_c (bl_L lin_lcm) ?_
  refine bK_c (bl_L lin_if) ?_
  refine bK_c (bl_L lin_ii) ?_
  refine bK_c bl_ri ?_
  refine bK_c (bl_L lin_al) ?_
  refine bK_c (bl_L lin_cV) ?_
  refine bK_c (bl_L lin_al) ?_
  refine bK_c (bl_L lin_cV) ?_
  refine bK_c (bl_L lin_ic) ?_
  refine bK_c (bl_L lin_ii) ?_
  refine bK_c bl_ri ?_
  refine bK_c (bl_L lin_al) ?_
  refine bK_c (bl_L lin_cV) ?_
  refine bK_c (bl_L lin_al) ?_
  refine bK_c (bl_L lin_cV) ?_
  refine bK_c (bl_L lin_ic) ?_
  refine bK_c (bl_L lin_ii) ?_
  refine bK_c bl_ri ?_
  refine bK_c (bl_L lin_al) ?_
  refine bK_c (bl_L lin_al) ?_
  refine bK_c (bl_L lin_il) ?_
  refine bK_c (bl_L lin_ii) ?_
  refine bK_c (bl_L lin_bi) ?_
  refine bK_c bl_sld ?_
  refine bK_c (bl_L lin_al) ?_
  refine bK_c (bl_L lin_il) ?_
  refine bK_c (bl_L lin_ii) ?_
  refine bK_c (bl_L lin_bi) ?_
  refine bK_c bl_sld ?_
  refine bK_c (bl_L lin_al) ?_
  refine bK_c (bl_L lin_il) ?_
  refine bK_c (bl_L lin_ii) ?_
  refine bK_c (bl_L lin_bi) ?_
  refine bK_c bl_sld ?_
  refine bK_c (bl_L lin_cV) ?_
  refine bK_c (bl_L lin_al) ?_
  refine bK_c (bl_L lin_al) ?_
  refine bK_c (bl_L lin_il) ?_
  refine bK_c (bl_L lin_ii) ?_
  refine bK_c (bl_L lin_bi) ?_
  refine bK_c bl_sld ?_
  refine bK_c (bl_L lin_al) ?_
  refine bK_c (bl_L lin_il) ?_
  refine bK_c (bl_L lin_ii) ?_
  refine bK_c (bl_L lin_bi) ?_
  refine bK_c bl_sld ?_
  refine bK_c (bl_L lin_al) ?_
  refine bK_c (bl_L lin_il) ?_
  refine bK_c (bl_L lin_ii) ?_
  refine bK_c (bl_L lin_bi) ?_
  refine bK_c bl_sld ?_
  refine bK_c (bl_L lin_cV) ?_
  refine bK_c (bl_L lin_ic) ?_
  refine bK_c (bl_L lin_ii) ?_
  refine bK_c bl_ri ?_
  refine bK_c (bl_L lin_al) ?_
  refine bK_c (bl_L lin_al) ?_
  refine bK_c (bl_L lin_il) ?_
  refine bK_c (bl_L lin_ii) ?_
  refine bK_c (bl_L lin_bi) ?_
  refine bK_c bl_sld ?_
  refine bK_c (bl_L lin_al) ?_
  refine bK_c (bl_L lin_il) ?_
  refine bK_c (bl_L lin_ii) ?_
  refine bK_c (bl_L lin_bi) ?_
  refine bK_c bl_sld ?_
  refine bK_c (bl_L lin_al) ?_
  refine bK_c (bl_L lin_il) ?_
  refine bK_c (bl_L lin_ii) ?_
  refine bK_c (bl_L lin_bi) ?_
  refine bK_c bl_sld ?_
  refine bK_c (bl_L lin_cV) ?_
  refine bK_c (bl_L lin_al) ?_
  refine bK_c (bl_L lin_al) ?_
  refine bK_c (bl_L lin_il) ?_
  refine bK_c (bl_L lin_ii) ?_
  refine bK_c (bl_L lin_bi) ?_
  refine bK_c bl_sld ?_
  refine bK_c (bl_L lin_al) ?_
  refine bK_c (bl_L lin_il) ?_
  refine bK_c (bl_L lin_ii) ?_
  refine bK_c (bl_L lin_bi) ?_
  refine bK_c bl_sld ?_
  refine bK_c (bl_L lin_al) ?_
  refine bK_c (bl_L lin_il) ?_
  refine bK_c (bl_L lin_ii) ?_
  refine bK_c (bl_L lin_bi) ?_
  refine bK_c bl_sld ?_
  refine bK_c (bl_L lin_cV) ?_
  refine bK_c (bl_L lin_ic) ?_
  refine bK_c (bl_L lin_ii) ?_
  refine bK_c bl_ri ?_
  refine bK_c (bl_L lin_al) ?_
  refine bK_c (bl_L lin_al) ?_
  refine bK_c (bl_L lin_il) ?_
  refine bK_c (bl_L lin_ii) ?_
  refine bK_c (bl_L lin_bi) ?_
  refine bK_c bl_sld ?_
  refine bK_c (bl_L lin_al) ?_
  refine bK_c (bl_L lin_il) ?_
  refine bK_c (bl_L lin_ii) ?_
  refine bK_c (bl_L lin_bi) ?_
  refine bK_c bl_sld ?_
  refine bK_c (bl_L lin_al) ?_
  refine bK_c (bl_L lin_il) ?_
  refine bK_c (bl_L lin_ii) ?_
  refine bK_c (bl_L lin_bi) ?_
  refine bK_c bl_sld ?_
  refine bK_c (bl_L lin_al) ?_
  refine bK_c (bl_L lin_il) ?_
  refine bK_c (bl_L lin_ii) ?_
  refine bK_c (bl_L lin_bi) ?_
  refine bK_c bl_sld ?_
  refine bK_c (bl_L lin_al) ?_
  refine bK_c (bl_L lin_il) ?_
  refine bK_c (bl_L lin_ii) ?_
  refine bK_c (bl_L lin_bi) ?_
  refine bK_c bl_sld ?_
  refine bK_c (bl_L lin_cV) ?_
  refine bK_c (bl_L lin_al) ?_
  refine bK_c (bl_L lin_al) ?_
  refine bK_c (bl_L lin_il) ?_
  refine bK_c (bl_L lin_ii) ?_
  refine bK_c (bl_L lin_bi) ?_
  refine bK_c bl_sld ?_
  refine bK_c (bl_L lin_al) ?_
  refine bK_c (bl_L lin_il) ?_
  refine bK_c (bl_L lin_ii) ?_
  refine bK_c (bl_L lin_bi) ?_
  refine bK_c bl_sld ?_
  refine bK_c (bl_L lin_al) ?_
  refine bK_c (bl_L lin_il) ?_
  refine bK_c (bl_L lin_ii) ?_
  refine bK_c (bl_L lin_bi) ?_
  refine bK_c bl_sld ?_
  refine bK_c (bl_L lin_al) ?_
  refine bK_c (bl_L lin_il) ?_
  refine bK_c (bl_L lin_ii) ?_
  refine bK_c (bl_L lin_bi) ?_
  refine bK_c bl_sld ?_
  refine bK_c (bl_L lin_al) ?_
  refine bK_c (bl_L lin_il) ?_
  refine bK_c (bl_L lin_ii) ?_
  refine bK_c (bl_L lin_bi) ?_
  refine bK_c bl_sld ?_
  refine bK_c (bl_L lin_cV) ?_
  refine bK_c (bl_L lin_ic) ?_
  refine bK_c (bl_L lin_ii) ?_
  refine bK_c bl_ri ?_
  refine bK_c (bl_L lin_al) ?_
  refine bK_c (bl_L lin_al) ?_
  refine bK_c (bl_L lin_il) ?_
  refine bK_c (bl_L lin_ii) ?_
  refine bK_c (bl_L lin_bi) ?_
  refine bK_c bl_sld ?_
  refine bK_c (bl_L lin_al) ?_
  refine bK_c (bl_L lin_il) ?_
  refine bK_c (bl_L lin_ii) ?_
  refine bK_c (bl_L lin_bi) ?_
  refine bK_c bl_sld ?_
  refine bK_c (bl_L lin_al) ?_
  refine bK_c (bl_L lin_il) ?_
  refine bK_c (bl_L lin_ii) ?_
  refine bK_c (bl_L lin_bi) ?_
  refine bK_c bl_sld ?_
  refine bK_c (bl_L lin_al) ?_
  refine bK_c (bl_L lin_il) ?_
  refine bK_c (bl_L lin_ii) ?_
  refine bK_c (bl_L lin_bi) ?_
  refine bK_c bl_sld ?_
  refine bK_c (bl_L lin_cV) ?_
  refine bK_c (bl_L lin_al) ?_
  refine bK_c (bl_L lin_al) ?_
  refine bK_c (bl_L lin_il) ?_
  refine bK_c (bl_L lin_ii) ?_
  refine bK_c (bl_L lin_bi) ?_
  refine bK_c bl_sld ?_
  refine bK_c (bl_L lin_al) ?_
  refine bK_c (bl_L lin_il) ?_
  refine bK_c (bl_L lin_ii) ?_
  refine bK_c (bl_L lin_bi) ?_
  refine bK_c bl_sld ?_
  refine bK_c (bl_L lin_al) ?_
  refine bK_c (bl_L lin_il) ?_
  refine bK_c (bl_L lin_ii) ?_
  refine bK_c (bl_L lin_bi) ?_
  refine bK_c bl_sld ?_
  refine bK_c (bl_L lin_al) ?_
  refine bK_c (bl_L lin_il) ?_
  refine bK_c (bl_L lin_ii) ?_
  refine bK_c (bl_L lin_bi) ?_
  refine bK_c bl_sld ?_
  refine bK_c (bl_L lin_cV) ?_
  refine bK_c (bl_L lin_ic) ?_
  refine bK_c (bl_L lin_ii) ?_
  refine bK_c bl_ri ?_
  refine bK_c (bl_L lin_al) ?_
  refine bK_c (bl_L lin_al) ?_
  refine bK_c (bl_L lin_il) ?_
  refine bK_c (bl_L lin_ii) ?_
  refine bK_c (bl_L lin_bi) ?_
  refine bK_c bl_sld ?_
  refine bK_c (bl_L lin_al) ?_
  refine bK_c (bl_L lin_il) ?_
  refine bK_c (bl_L lin_ii) ?_
  refine bK_c (bl_L lin_bi) ?_
  refine bK_c bl_sld ?_
  refine bK_c (bl_L lin_cV) ?_
  refine bK_c (bl_L lin_al) ?_
  refine bK_c (bl_L lin_al) ?_
  refine bK_c (bl_L lin_il) ?_
  refine bK_c (bl_L lin_ii) ?_
  refine bK_c (bl_L lin_bi) ?_
  refine bK_c bl_sld ?_
  refine bK_c (bl_L lin_al) ?_
  refine bK_c (bl_L lin_il) ?_
  refine bK_c (bl_L lin_ii) ?_
  refine bK_c (bl_L lin_bi) ?_
  refine bK_c bl_sld ?_
  refine bK_c (bl_L lin_cV) ?_
  refine bK_c (bl_L lin_ic) ?_
  refine bK_c (bl_L lin_ii) ?_
  refine bK_c bl_ri ?_
  refine bK_c (bl_L lin_inc) ?_
  refine bK_c (bl_L lin_go) ?_
  refine bK_c (bl_L lin_ii) ?_
  refine bK_c bl_ri ?_
  exact bK_n
set_option maxRecDepth 100000 in
set_option maxHeartbeats 8000000 in
theorem nL {p : Program} {l : Launch} {e : Env} {s : State} {m : MethodId} {args : Array Value} {below : List Frame} {meth : Method} {c : Code} {Q : State → Prop} {Ts : List Cond} {D : va_G} {Z : aZ} {ad0 : Nat → Nat} {G0 : Nat → Nat × Nat} {A : Nat → Prop} {E : bR} {b N : Nat} {xs : Nat → Int32} (hX : bX p s m args c code RL Ts 4 D Z A) (up : ∀ w ∈ wsL_law, w ∈ Ts) (hSc : bSc b N xs s A ad0) (hri : ∀ pc, decode code pc = .ok (.ireturn, 1) → bSd p l e room_1 s m args below meth c Q 4 D Z ad0 G0 A E b_ri pc) : ∀ q ∈ tL xs N, bSd p l e room_1 s m args below meth c Q 4 D Z ad0 G0 A E q.2.2 q.1 := by
  refine bImp_all _ (dL xs N) ?_
  unfold tL
  refine bI_c (fun hd => t_new hX (C := RX4) (T := TX4) rfl rfl (fun w h => up w (inlX4 w h)) tyX4 tyX4_ok hdfX4 (up _ mw42) (up _ mw43) (up _ mw44) hd rfl) ?_
  refine bI_c (fun hd => t_L hX cls_dup (fun ad P G cells slots F hX h => s_dup hX hd rfl)) ?_
  refine bI_c (fun hd => t_cI hX (nX4_init l) (wg_I up mw45) (up _ mw44) (up _ mw46) (up _ mw47) rfl rfl rfl rfl (by decide +kernel) ⟨by decide, by decide⟩ hd rfl) ?_
  refine bI_c (fun hd => t_L hX cls_as (fun ad P G cells slots F hX h => s_as_n hX hd rfl rfl (by decide))) ?_
  refine bI_c (fun hd => t_new hX (C := RX5) (T := TX5) rfl rfl (fun w h => up w (inlX5 w h)) tyX5 tyX5_ok hdfX5 (up _ mw48) (up _ mw49) (up _ mw50) hd rfl) ?_
  refine bI_c (fun hd => t_L hX cls_dup (fun ad P G cells slots F hX h => s_dup hX hd rfl)) ?_
  refine bI_c (fun hd => t_cI hX (nX5_init l) (wg_I up mw51) (up _ mw50) (up _ mw52) (up _ mw53) rfl rfl rfl rfl (by decide +kernel) ⟨by decide, by decide⟩ hd rfl) ?_
  refine bI_c (fun hd => t_L hX cls_as (fun ad P G cells slots F hX h => s_as_n hX hd rfl rfl (by decide))) ?_
  refine bI_c (fun hd => t_L hX cls_ii (fun ad P G cells slots F hX h => s_ii hX hd (by decide) rfl)) ?_
  refine bI_c (fun hd => t_L hX cls_is (fun ad P G cells slots F hX h => s_is_n hX hd rfl rfl (by decide))) ?_
  refine bI_c (fun hd => t_L hX cls_il (fun ad P G cells slots F hX h => s_il_n hX hd rfl rfl)) ?_
  refine bI_c (fun hd => t_L hX cls_al (fun ad P G cells slots F hX h => s_al_n hX hd rfl rfl)) ?_
  refine bI_c (fun hd => t_sle hX hSc hd rfl) ?_
  refine bI_c (fun hd => t_L hX cls_ii (fun ad P G cells slots F hX h => s_bp hX hd (by decide) rfl)) ?_
  refine bI_c (fun hd => t_L hX cls_bi (fun ad P G cells slots F hX h => s_isub hX hd rfl)) ?_
  refine bI_c (fun hd => t_L hX cls_ic (fun ad P G cells slots F hX h => s_ic_gt hX hd (by decide) rfl)) ?_
  refine bI_c (fun hd => t_L hX cls_al (fun ad P G cells slots F hX h => s_al_n hX hd rfl rfl)) ?_
  refine bI_c (fun hd => t_L hX cls_il (fun ad P G cells slots F hX h => s_il_n hX hd rfl rfl)) ?_
  refine bI_c (fun hd => t_sld hX hSc hd rfl) ?_
  refine bI_c (fun hd => t_L hX cls_ii (fun ad P G cells slots F hX h => s_bp hX hd (by decide) rfl)) ?_
  refine bI_c (fun hd => t_L hX cls_bi (fun ad P G cells slots F hX h => s_iand hX hd rfl)) ?_
  refine bI_c (fun hd => t_L hX cls_sw (fun ad P G cells slots F hX h => s_sw hX hd (by decide) (by decide +kernel))) ?_
  refine bI_c (fun hd => t_L hX cls_al (fun ad P G cells slots F hX h => s_al_n hX hd rfl rfl)) ?_
  refine bI_c (fun hd => t_L hX cls_al (fun ad P G cells slots F hX h => s_al_n hX hd rfl rfl)) ?_
  refine bI_c (fun hd => t_L hX cls_il (fun ad P G cells slots F hX h => s_il_n hX hd rfl rfl)) ?_
  refine bI_c (fun hd => t_L hX cls_ii (fun ad P G cells slots F hX h => s_ii hX hd (by decide) rfl)) ?_
  refine bI_c (fun hd => t_L hX cls_bi (fun ad P G cells slots F hX h => s_iadd hX hd rfl)) ?_
  refine bI_c (fun hd => t_sld hX hSc hd rfl) ?_
  refine bI_c (fun hd => t_L hX (cls_cV zX4_count) (fun ad P G cells slots F hX h => s_cV hX (T := TX4) (N := 9) (nX4_count l) rfl (wg_V up lmL_13 loX4_count) rfl rfl rfl (by decide +kernel) ⟨by decide, by decide⟩ h hd rfl)) ?_
  refine bI_c (fun hd => t_L hX cls_al (fun ad P G cells slots F hX h => s_al_n hX hd rfl rfl)) ?_
  refine bI_c (fun hd => t_L hX cls_al (fun ad P G cells slots F hX h => s_al_n hX hd rfl rfl)) ?_
  refine bI_c (fun hd => t_L hX cls_il (fun ad P G cells slots F hX h => s_il_n hX hd rfl rfl)) ?_
  refine bI_c (fun hd => t_L hX cls_ii (fun ad P G cells slots F hX h => s_ii hX hd (by decide) rfl)) ?_
  refine bI_c (fun hd => t_L hX cls_bi (fun ad P G cells slots F hX h => s_iadd hX hd rfl)) ?_
  refine bI_c (fun hd => t_sld hX hSc hd rfl) ?_
  refine bI_c (fun hd => t_L hX (cls_cV zX5_count) (fun ad P G cells slots F hX h => s_cV hX (T := TX5) (N := 35) (nX5_count l) rfl (wg_V up lmL_17 loX5_count) rfl rfl rfl (by decide +kernel) ⟨by decide, by decide⟩ h hd rfl)) ?_
  refine bI_c (fun hd => t_L hX cls_ic (fun ad P G cells slots F hX h => s_ic_eq hX hd (by decide) rfl)) ?_
  refine bI_c (fun hd => t_L hX cls_ii (fun ad P G cells slots F hX h => s_ii hX hd (by decide) rfl)) ?_
  refine bI_c (fun hd => hri _ hd) ?_
  refine bI_c (fun hd => t_L hX cls_al (fun ad P G cells slots F hX h => s_al_n hX hd rfl rfl)) ?_
  refine bI_c (fun hd => t_L hX cls_al (fun ad P G cells slots F hX h => s_al_n hX hd rfl rfl)) ?_
  refine bI_c (fun hd => t_L hX cls_il (fun ad P G cells slots F hX h => s_il_n hX hd rfl rfl)) ?_
  refine bI_c (fun hd => t_L hX cls_ii (fun ad P G cells slots F hX h => s_ii hX hd (by decide) rfl)) ?_
  refine bI_c (fun hd => t_L hX cls_bi (fun ad P G cells slots F hX h => s_iadd hX hd rfl)) ?_
  refine bI_c (fun hd => t_sld hX hSc hd rfl) ?_
  refine bI_c (fun hd => t_L hX (cls_cV zX4_dawn) (fun ad P G cells slots F hX h => s_cV hX (T := TX4) (N := 9) (nX4_dawn l) rfl (wg_V up lmL_18 loX4_dawn) rfl rfl rfl (by decide +kernel) ⟨by decide, by decide⟩ h hd rfl)) ?_
  refine bI_c (fun hd => t_L hX cls_al (fun ad P G cells slots F hX h => s_al_n hX hd rfl rfl)) ?_
  refine bI_c (fun hd => t_L hX cls_al (fun ad P G cells slots F hX h => s_al_n hX hd rfl rfl)) ?_
  refine bI_c (fun hd => t_L hX cls_il (fun ad P G cells slots F hX h => s_il_n hX hd rfl rfl)) ?_
  refine bI_c (fun hd => t_L hX cls_ii (fun ad P G cells slots F hX h => s_ii hX hd (by decide) rfl)) ?_
  refine bI_c (fun hd => t_L hX cls_bi (fun ad P G cells slots F hX h => s_iadd hX hd rfl)) ?_
  refine bI_c (fun hd => t_sld hX hSc hd rfl) ?_
  refine bI_c (fun hd => t_L hX (cls_cV zX5_dawn) (fun ad P G cells slots F hX h => s_cV hX (T := TX5) (N := 35) (nX5_dawn l) rfl (wg_V up lmL_21 loX5_dawn) rfl rfl rfl (by decide +kernel) ⟨by decide, by decide⟩ h hd rfl)) ?_
  refine bI_c (fun hd => t_L hX cls_ic (fun ad P G cells slots F hX h => s_ic_eq hX hd (by decide) rfl)) ?_
  refine bI_c (fun hd => t_L hX cls_ii (fun ad P G cells slots F hX h => s_ii hX hd (by decide) rfl)) ?_
  refine bI_c (fun hd => hri _ hd) ?_
  refine bI_c (fun hd => t_L hX cls_al (fun ad P G cells slots F hX h => s_al_n hX hd rfl rfl)) ?_
  refine bI_c (fun hd => t_L hX cls_al (fun ad P G cells slots F hX h => s_al_n hX hd rfl rfl)) ?_
  refine bI_c (fun hd => t_L hX cls_il (fun ad P G cells slots F hX h => s_il_n hX hd rfl rfl)) ?_
  refine bI_c (fun hd => t_L hX cls_ii (fun ad P G cells slots F hX h => s_ii hX hd (by decide) rfl)) ?_
  refine bI_c (fun hd => t_L hX cls_bi (fun ad P G cells slots F hX h => s_iadd hX hd rfl)) ?_
  refine bI_c (fun hd => t_sld hX hSc hd rfl) ?_
  refine bI_c (fun hd => t_L hX cls_al (fun ad P G cells slots F hX h => s_al_n hX hd rfl rfl)) ?_
  refine bI_c (fun hd => t_L hX cls_il (fun ad P G cells slots F hX h => s_il_n hX hd rfl rfl)) ?_
  refine bI_c (fun hd => t_L hX cls_ii (fun ad P G cells slots F hX h => s_ii hX hd (by decide) rfl)) ?_
  refine bI_c (fun hd => t_L hX cls_bi (fun ad P G cells slots F hX h => s_iadd hX hd rfl)) ?_
  refine bI_c (fun hd => t_sld hX hSc hd rfl) ?_
  refine bI_c (fun hd => t_L hX cls_al (fun ad P G cells slots F hX h => s_al_n hX hd rfl rfl)) ?_
  refine bI_c (fun hd => t_L hX cls_il (fun ad P G cells slots F hX h => s_il_n hX hd rfl rfl)) ?_
  refine bI_c (fun hd => t_L hX cls_ii (fun ad P G cells slots F hX h => s_ii hX hd (by decide) rfl)) ?_
  refine bI_c (fun hd => t_L hX cls_bi (fun ad P G cells slots F hX h => s_iadd hX hd rfl)) ?_
  refine bI_c (fun hd => t_sld hX hSc hd rfl) ?_
  refine bI_c (fun hd => t_L hX cls_al (fun ad P G cells slots F hX h => s_al_n hX hd rfl rfl)) ?_
  refine bI_c (fun hd => t_L hX cls_il (fun ad P G cells slots F hX h => s_il_n hX hd rfl rfl)) ?_
  refine bI_c (fun hd => t_L hX cls_ii (fun ad P G cells slots F hX h => s_ii hX hd (by decide) rfl)) ?_
  refine bI_c (fun hd => t_L hX cls_bi (fun ad P G cells slots F hX h => s_iadd hX hd rfl)) ?_
  refine bI_c (fun hd => t_sld hX hSc hd rfl) ?_
  refine bI_c (fun hd => t_L hX cls_al (fun ad P G cells slots F hX h => s_al_n hX hd rfl rfl)) ?_
  refine bI_c (fun hd => t_L hX cls_il (fun ad P G cells slots F hX h => s_il_n hX hd rfl rfl)) ?_
  refine bI_c (fun hd => t_L hX cls_ii (fun ad P G cells slots F hX h => s_ii hX hd (by decide) rfl)) ?_
  refine bI_c (fun hd => t_L hX cls_bi (fun ad P G cells slots F hX h => s_iadd hX hd rfl)) ?_
  refine bI_c (fun hd => t_sld hX hSc hd rfl) ?_
  refine bI_c (fun hd => t_L hX cls_al (fun ad P G cells slots F hX h => s_al_n hX hd rfl rfl)) ?_
  refine bI_c (fun hd => t_L hX cls_il (fun ad P G cells slots F hX h => s_il_n hX hd rfl rfl)) ?_
  refine bI_c (fun hd => t_L hX cls_ii (fun ad P G cells slots F hX h => s_bp hX hd (by decide) rfl)) ?_
  refine bI_c (fun hd => t_L hX cls_bi (fun ad P G cells slots F hX h => s_iadd hX hd rfl)) ?_
  refine bI_c (fun hd => t_sld hX hSc hd rfl) ?_
  refine bI_c (fun hd => t_L hX (cls_cV zX4_feed) (fun ad P G cells slots F hX h => s_cV hX (T := TX4) (N := 9) (nX4_feed l) rfl (wg_V up lmL_22 loX4_feed) rfl rfl rfl (by decide +kernel) ⟨by decide, by decide⟩ h hd rfl)) ?_
  refine bI_c (fun hd => t_L hX cls_al (fun ad P G cells slots F hX h => s_al_n hX hd rfl rfl)) ?_
  refine bI_c (fun hd => t_L hX cls_al (fun ad P G cells slots F hX h => s_al_n hX hd rfl rfl)) ?_
  refine bI_c (fun hd => t_L hX cls_il (fun ad P G cells slots F hX h => s_il_n hX hd rfl rfl)) ?_
  refine bI_c (fun hd => t_L hX cls_ii (fun ad P G cells slots F hX h => s_ii hX hd (by decide) rfl)) ?_
  refine bI_c (fun hd => t_L hX cls_bi (fun ad P G cells slots F hX h => s_iadd hX hd rfl)) ?_
  refine bI_c (fun hd => t_sld hX hSc hd rfl) ?_
  refine bI_c (fun hd => t_L hX cls_al (fun ad P G cells slots F hX h => s_al_n hX hd rfl rfl)) ?_
  refine bI_c (fun hd => t_L hX cls_il (fun ad P G cells slots F hX h => s_il_n hX hd rfl rfl)) ?_
  refine bI_c (fun hd => t_L hX cls_ii (fun ad P G cells slots F hX h => s_ii hX hd (by decide) rfl)) ?_
  refine bI_c (fun hd => t_L hX cls_bi (fun ad P G cells slots F hX h => s_iadd hX hd rfl)) ?_
  refine bI_c (fun hd => t_sld hX hSc hd rfl) ?_
  refine bI_c (fun hd => t_L hX cls_al (fun ad P G cells slots F hX h => s_al_n hX hd rfl rfl)) ?_
  refine bI_c (fun hd => t_L hX cls_il (fun ad P G cells slots F hX h => s_il_n hX hd rfl rfl)) ?_
  refine bI_c (fun hd => t_L hX cls_ii (fun ad P G cells slots F hX h => s_ii hX hd (by decide) rfl)) ?_
  refine bI_c (fun hd => t_L hX cls_bi (fun ad P G cells slots F hX h => s_iadd hX hd rfl)) ?_
  refine bI_c (fun hd => t_sld hX hSc hd rfl) ?_
  refine bI_c (fun hd => t_L hX cls_al (fun ad P G cells slots F hX h => s_al_n hX hd rfl rfl)) ?_
  refine bI_c (fun hd => t_L hX cls_il (fun ad P G cells slots F hX h => s_il_n hX hd rfl rfl)) ?_
  refine bI_c (fun hd => t_L hX cls_ii (fun ad P G cells slots F hX h => s_ii hX hd (by decide) rfl)) ?_
  refine bI_c (fun hd => t_L hX cls_bi (fun ad P G cells slots F hX h => s_iadd hX hd rfl)) ?_
  refine bI_c (fun hd => t_sld hX hSc hd rfl) ?_
  refine bI_c (fun hd => t_L hX cls_al (fun ad P G cells slots F hX h => s_al_n hX hd rfl rfl)) ?_
  refine bI_c (fun hd => t_L hX cls_il (fun ad P G cells slots F hX h => s_il_n hX hd rfl rfl)) ?_
  refine bI_c (fun hd => t_L hX cls_ii (fun ad P G cells slots F hX h => s_ii hX hd (by decide) rfl)) ?_
  refine bI_c (fun hd => t_L hX cls_bi (fun ad P G cells slots F hX h => s_iadd hX hd rfl)) ?_
  refine bI_c (fun hd => t_sld hX hSc hd rfl) ?_
  refine bI_c (fun hd => t_L hX cls_al (fun ad P G cells slots F hX h => s_al_n hX hd rfl rfl)) ?_
  refine bI_c (fun hd => t_L hX cls_il (fun ad P G cells slots F hX h => s_il_n hX hd rfl rfl)) ?_
  refine bI_c (fun hd => t_L hX cls_ii (fun ad P G cells slots F hX h => s_bp hX hd (by decide) rfl)) ?_
  refine bI_c (fun hd => t_L hX cls_bi (fun ad P G cells slots F hX h => s_iadd hX hd rfl)) ?_
  refine bI_c (fun hd => t_sld hX hSc hd rfl) ?_
  refine bI_c (fun hd => t_L hX (cls_cV zX5_feed) (fun ad P G cells slots F hX h => s_cV hX (T := TX5) (N := 35) (nX5_feed l) rfl (wg_V up lmL_26 loX5_feed) rfl rfl rfl (by decide +kernel) ⟨by decide, by decide⟩ h hd rfl)) ?_
  refine bI_c (fun hd => t_L hX cls_ic (fun ad P G cells slots F hX h => s_ic_eq hX hd (by decide) rfl)) ?_
  refine bI_c (fun hd => t_L hX cls_ii (fun ad P G cells slots F hX h => s_ii hX hd (by decide) rfl)) ?_
  refine bI_c (fun hd => hri _ hd) ?_
  refine bI_c (fun hd => t_L hX cls_al (fun ad P G cells slots F hX h => s_al_n hX hd rfl rfl)) ?_
  refine bI_c (fun hd => t_cV hX (T := TX4) (N := 9) (nX4_text l) rfl (wg_V up lmL_27 loX4_text) rfl rfl rfl (by decide +kernel) ⟨by decide, by decide⟩ hd rfl) ?_
  refine bI_c (fun hd => t_L hX cls_al (fun ad P G cells slots F hX h => s_al_n hX hd rfl rfl)) ?_
  refine bI_c (fun hd => t_L hX (cls_cV zX5_text) (fun ad P G cells slots F hX h => s_cV hX (T := TX5) (N := 35) (nX5_text l) rfl (wg_V up lmL_31 loX5_text) rfl rfl rfl (by decide +kernel) ⟨by decide, by decide⟩ h hd rfl)) ?_
  refine bI_c (fun hd => t_L hX cls_ic (fun ad P G cells slots F hX h => s_ic_eq hX hd (by decide) rfl)) ?_
  refine bI_c (fun hd => t_L hX cls_ii (fun ad P G cells slots F hX h => s_ii hX hd (by decide) rfl)) ?_
  refine bI_c (fun hd => hri _ hd) ?_
  refine bI_c (fun hd => t_L hX cls_al (fun ad P G cells slots F hX h => s_al_n hX hd rfl rfl)) ?_
  refine bI_c (fun hd => t_L hX cls_al (fun ad P G cells slots F hX h => s_al_n hX hd rfl rfl)) ?_
  refine bI_c (fun hd => t_L hX cls_il (fun ad P G cells slots F hX h => s_il_n hX hd rfl rfl)) ?_
  refine bI_c (fun hd => t_L hX cls_ii (fun ad P G cells slots F hX h => s_ii hX hd (by decide) rfl)) ?_
  refine bI_c (fun hd => t_L hX cls_bi (fun ad P G cells slots F hX h => s_iadd hX hd rfl)) ?_
  refine bI_c (fun hd => t_sld hX hSc hd rfl) ?_
  refine bI_c (fun hd => t_L hX (cls_cV zX4_force) (fun ad P G cells slots F hX h => s_cV hX (T := TX4) (N := 9) (nX4_force l) rfl (wg_V up lmL_32 loX4_force) rfl rfl rfl (by decide +kernel) ⟨by decide, by decide⟩ h hd rfl)) ?_
  refine bI_c (fun hd => t_L hX cls_al (fun ad P G cells slots F hX h => s_al_n hX hd rfl rfl)) ?_
  refine bI_c (fun hd => t_L hX cls_al (fun ad P G cells slots F hX h => s_al_n hX hd rfl rfl)) ?_
  refine bI_c (fun hd => t_L hX cls_il (fun ad P G cells slots F hX h => s_il_n hX hd rfl rfl)) ?_
  refine bI_c (fun hd => t_L hX cls_ii (fun ad P G cells slots F hX h => s_ii hX hd (by decide) rfl)) ?_
  refine bI_c (fun hd => t_L hX cls_bi (fun ad P G cells slots F hX h => s_iadd hX hd rfl)) ?_
  refine bI_c (fun hd => t_sld hX hSc hd rfl) ?_
  refine bI_c (fun hd => t_L hX (cls_cV zX5_force) (fun ad P G cells slots F hX h => s_cV hX (T := TX5) (N := 35) (nX5_force l) rfl (wg_V up lmL_35 loX5_force) rfl rfl rfl (by decide +kernel) ⟨by decide, by decide⟩ h hd rfl)) ?_
  refine bI_c (fun hd => t_L hX cls_ic (fun ad P G cells slots F hX h => s_ic_eq hX hd (by decide) rfl)) ?_
  refine bI_c (fun hd => t_L hX cls_ii (fun ad P G cells slots F hX h => s_ii hX hd (by decide) rfl)) ?_
  refine bI_c (fun hd => hri _ hd) ?_
  refine bI_c (fun hd => t_L hX cls_al (fun ad P G cells slots F hX h => s_al_n hX hd rfl rfl)) ?_
  refine bI_c (fun hd => t_L hX cls_al (fun ad P G cells slots F hX h => s_al_n hX hd rfl rfl)) ?_
  refine bI_c (fun hd => t_L hX cls_il (fun ad P G cells slots F hX h => s_il_n hX hd rfl rfl)) ?_
  refine bI_c (fun hd => t_L hX cls_ii (fun ad P G cells slots F hX h => s_ii hX hd (by decide) rfl)) ?_
  refine bI_c (fun hd => t_L hX cls_bi (fun ad P G cells slots F hX h => s_iadd hX hd rfl)) ?_
  refine bI_c (fun hd => t_sld hX hSc hd rfl) ?_
  refine bI_c (fun hd => t_L hX cls_al (fun ad P G cells slots F hX h => s_al_n hX hd rfl rfl)) ?_
  refine bI_c (fun hd => t_L hX cls_il (fun ad P G cells slots F hX h => s_il_n hX hd rfl rfl)) ?_
  refine bI_c (fun hd => t_L hX cls_ii (fun ad P G cells slots F hX h => s_ii hX hd (by decide) rfl)) ?_
  refine bI_c (fun hd => t_L hX cls_bi (fun ad P G cells slots F hX h => s_iadd hX hd rfl)) ?_
  refine bI_c (fun hd => t_sld hX hSc hd rfl) ?_
  refine bI_c (fun hd => t_L hX cls_al (fun ad P G cells slots F hX h => s_al_n hX hd rfl rfl)) ?_
  refine bI_c (fun hd => t_L hX cls_il (fun ad P G cells slots F hX h => s_il_n hX hd rfl rfl)) ?_
  refine bI_c (fun hd => t_L hX cls_ii (fun ad P G cells slots F hX h => s_ii hX hd (by decide) rfl)) ?_
  refine bI_c (fun hd => t_L hX cls_bi (fun ad P G cells slots F hX h => s_iadd hX hd rfl)) ?_
  refine bI_c (fun hd => t_sld hX hSc hd rfl) ?_
  refine bI_c (fun hd => t_L hX (cls_cV zX4_asks) (fun ad P G cells slots F hX h => s_cV hX (T := TX4) (N := 9) (nX4_asks l) rfl (wg_V up lmL_36 loX4_asks) rfl rfl rfl (by decide +kernel) ⟨by decide, by decide⟩ h hd rfl)) ?_
  refine bI_c (fun hd => t_L hX cls_al (fun ad P G cells slots F hX h => s_al_n hX hd rfl rfl)) ?_
  refine bI_c (fun hd => t_L hX cls_al (fun ad P G cells slots F hX h => s_al_n hX hd rfl rfl)) ?_
  refine bI_c (fun hd => t_L hX cls_il (fun ad P G cells slots F hX h => s_il_n hX hd rfl rfl)) ?_
  refine bI_c (fun hd => t_L hX cls_ii (fun ad P G cells slots F hX h => s_ii hX hd (by decide) rfl)) ?_
  refine bI_c (fun hd => t_L hX cls_bi (fun ad P G cells slots F hX h => s_iadd hX hd rfl)) ?_
  refine bI_c (fun hd => t_sld hX hSc hd rfl) ?_
  refine bI_c (fun hd => t_L hX cls_al (fun ad P G cells slots F hX h => s_al_n hX hd rfl rfl)) ?_
  refine bI_c (fun hd => t_L hX cls_il (fun ad P G cells slots F hX h => s_il_n hX hd rfl rfl)) ?_
  refine bI_c (fun hd => t_L hX cls_ii (fun ad P G cells slots F hX h => s_ii hX hd (by decide) rfl)) ?_
  refine bI_c (fun hd => t_L hX cls_bi (fun ad P G cells slots F hX h => s_iadd hX hd rfl)) ?_
  refine bI_c (fun hd => t_sld hX hSc hd rfl) ?_
  refine bI_c (fun hd => t_L hX cls_al (fun ad P G cells slots F hX h => s_al_n hX hd rfl rfl)) ?_
  refine bI_c (fun hd => t_L hX cls_il (fun ad P G cells slots F hX h => s_il_n hX hd rfl rfl)) ?_
  refine bI_c (fun hd => t_L hX cls_ii (fun ad P G cells slots F hX h => s_ii hX hd (by decide) rfl)) ?_
  refine bI_c (fun hd => t_L hX cls_bi (fun ad P G cells slots F hX h => s_iadd hX hd rfl)) ?_
  refine bI_c (fun hd => t_sld hX hSc hd rfl) ?_
  refine bI_c (fun hd => t_L hX (cls_cV zX5_asks) (fun ad P G cells slots F hX h => s_cV hX (T := TX5) (N := 35) (nX5_asks l) rfl (wg_V up lmL_40 loX5_asks) rfl rfl rfl (by decide +kernel) ⟨by decide, by decide⟩ h hd rfl)) ?_
  refine bI_c (fun hd => t_L hX cls_ic (fun ad P G cells slots F hX h => s_ic_eq hX hd (by decide) rfl)) ?_
  refine bI_c (fun hd => t_L hX cls_ii (fun ad P G cells slots F hX h => s_ii hX hd (by decide) rfl)) ?_
  refine bI_c (fun hd => hri _ hd) ?_
  refine bI_c (fun hd => t_L hX cls_al (fun ad P G cells slots F hX h => s_al_n hX hd rfl rfl)) ?_
  refine bI_c (fun hd => t_L hX cls_al (fun ad P G cells slots F hX h => s_al_n hX hd rfl rfl)) ?_
  refine bI_c (fun hd => t_L hX cls_il (fun ad P G cells slots F hX h => s_il_n hX hd rfl rfl)) ?_
  refine bI_c (fun hd => t_L hX cls_ii (fun ad P G cells slots F hX h => s_ii hX hd (by decide) rfl)) ?_
  refine bI_c (fun hd => t_L hX cls_bi (fun ad P G cells slots F hX h => s_iadd hX hd rfl)) ?_
  refine bI_c (fun hd => t_sld hX hSc hd rfl) ?_
  refine bI_c (fun hd => t_L hX cls_al (fun ad P G cells slots F hX h => s_al_n hX hd rfl rfl)) ?_
  refine bI_c (fun hd => t_L hX cls_il (fun ad P G cells slots F hX h => s_il_n hX hd rfl rfl)) ?_
  refine bI_c (fun hd => t_L hX cls_ii (fun ad P G cells slots F hX h => s_ii hX hd (by decide) rfl)) ?_
  refine bI_c (fun hd => t_L hX cls_bi (fun ad P G cells slots F hX h => s_iadd hX hd rfl)) ?_
  refine bI_c (fun hd => t_sld hX hSc hd rfl) ?_
  refine bI_c (fun hd => t_L hX cls_al (fun ad P G cells slots F hX h => s_al_n hX hd rfl rfl)) ?_
  refine bI_c (fun hd => t_L hX cls_il (fun ad P G cells slots F hX h => s_il_n hX hd rfl rfl)) ?_
  refine bI_c (fun hd => t_L hX cls_ii (fun ad P G cells slots F hX h => s_ii hX hd (by decide) rfl)) ?_
  refine bI_c (fun hd => t_L hX cls_bi (fun ad P G cells slots F hX h => s_iadd hX hd rfl)) ?_
  refine bI_c (fun hd => t_sld hX hSc hd rfl) ?_
  refine bI_c (fun hd => t_L hX (cls_cV zX4_judge) (fun ad P G cells slots F hX h => s_cV hX (T := TX4) (N := 9) (nX4_judge l) rfl (wg_V up lmL_41 loX4_judge) rfl rfl rfl (by decide +kernel) ⟨by decide, by decide⟩ h hd rfl)) ?_
  refine bI_c (fun hd => t_L hX cls_al (fun ad P G cells slots F hX h => s_al_n hX hd rfl rfl)) ?_
  refine bI_c (fun hd => t_L hX cls_al (fun ad P G cells slots F hX h => s_al_n hX hd rfl rfl)) ?_
  refine bI_c (fun hd => t_L hX cls_il (fun ad P G cells slots F hX h => s_il_n hX hd rfl rfl)) ?_
  refine bI_c (fun hd => t_L hX cls_ii (fun ad P G cells slots F hX h => s_ii hX hd (by decide) rfl)) ?_
  refine bI_c (fun hd => t_L hX cls_bi (fun ad P G cells slots F hX h => s_iadd hX hd rfl)) ?_
  refine bI_c (fun hd => t_sld hX hSc hd rfl) ?_
  refine bI_c (fun hd => t_L hX cls_al (fun ad P G cells slots F hX h => s_al_n hX hd rfl rfl)) ?_
  refine bI_c (fun hd => t_L hX cls_il (fun ad P G cells slots F hX h => s_il_n hX hd rfl rfl)) ?_
  refine bI_c (fun hd => t_L hX cls_ii (fun ad P G cells slots F hX h => s_ii hX hd (by decide) rfl)) ?_
  refine bI_c (fun hd => t_L hX cls_bi (fun ad P G cells slots F hX h => s_iadd hX hd rfl)) ?_
  refine bI_c (fun hd => t_sld hX hSc hd rfl) ?_
  refine bI_c (fun hd => t_L hX cls_al (fun ad P G cells slots F hX h => s_al_n hX hd rfl rfl)) ?_
  refine bI_c (fun hd => t_L hX cls_il (fun ad P G cells slots F hX h => s_il_n hX hd rfl rfl)) ?_
  refine bI_c (fun hd => t_L hX cls_ii (fun ad P G cells slots F hX h => s_ii hX hd (by decide) rfl)) ?_
  refine bI_c (fun hd => t_L hX cls_bi (fun ad P G cells slots F hX h => s_iadd hX hd rfl)) ?_
  refine bI_c (fun hd => t_sld hX hSc hd rfl) ?_
  refine bI_c (fun hd => t_L hX (cls_cV zX5_judge) (fun ad P G cells slots F hX h => s_cV hX (T := TX5) (N := 35) (nX5_judge l) rfl (wg_V up lmL_44 loX5_judge) rfl rfl rfl (by decide +kernel) ⟨by decide, by decide⟩ h hd rfl)) ?_
  refine bI_c (fun hd => t_L hX cls_ic (fun ad P G cells slots F hX h => s_ic_eq hX hd (by decide) rfl)) ?_
  refine bI_c (fun hd => t_L hX cls_ii (fun ad P G cells slots F hX h => s_ii hX hd (by decide) rfl)) ?_
  refine bI_c (fun hd => hri _ hd) ?_
  refine bI_c (fun hd => t_L hX cls_al (fun ad P G cells slots F hX h => s_al_n hX hd rfl rfl)) ?_
  refine bI_c (fun hd => t_L hX cls_al (fun ad P G cells slots F hX h => s_al_n hX hd rfl rfl)) ?_
  refine bI_c (fun hd => t_L hX cls_il (fun ad P G cells slots F hX h => s_il_n hX hd rfl rfl)) ?_
  refine bI_c (fun hd => t_L hX cls_ii (fun ad P G cells slots F hX h => s_ii hX hd (by decide) rfl)) ?_
  refine bI_c (fun hd => t_L hX cls_bi (fun ad P G cells slots F hX h => s_iadd hX hd rfl)) ?_
  refine bI_c (fun hd => t_sld hX hSc hd rfl) ?_
  refine bI_c (fun hd => t_L hX cls_al (fun ad P G cells slots F hX h => s_al_n hX hd rfl rfl)) ?_
  refine bI_c (fun hd => t_L hX cls_il (fun ad P G cells slots F hX h => s_il_n hX hd rfl rfl)) ?_
  refine bI_c (fun hd => t_L hX cls_ii (fun ad P G cells slots F hX h => s_ii hX hd (by decide) rfl)) ?_
  refine bI_c (fun hd => t_L hX cls_bi (fun ad P G cells slots F hX h => s_iadd hX hd rfl)) ?_
  refine bI_c (fun hd => t_sld hX hSc hd rfl) ?_
  refine bI_c (fun hd => t_L hX (cls_cV zX4_file) (fun ad P G cells slots F hX h => s_cV hX (T := TX4) (N := 9) (nX4_file l) rfl (wg_V up lmL_45 loX4_file) rfl rfl rfl (by decide +kernel) ⟨by decide, by decide⟩ h hd rfl)) ?_
  refine bI_c (fun hd => t_L hX cls_al (fun ad P G cells slots F hX h => s_al_n hX hd rfl rfl)) ?_
  refine bI_c (fun hd => t_L hX cls_al (fun ad P G cells slots F hX h => s_al_n hX hd rfl rfl)) ?_
  refine bI_c (fun hd => t_L hX cls_il (fun ad P G cells slots F hX h => s_il_n hX hd rfl rfl)) ?_
  refine bI_c (fun hd => t_L hX cls_ii (fun ad P G cells slots F hX h => s_ii hX hd (by decide) rfl)) ?_
  refine bI_c (fun hd => t_L hX cls_bi (fun ad P G cells slots F hX h => s_iadd hX hd rfl)) ?_
  refine bI_c (fun hd => t_sld hX hSc hd rfl) ?_
  refine bI_c (fun hd => t_L hX cls_al (fun ad P G cells slots F hX h => s_al_n hX hd rfl rfl)) ?_
  refine bI_c (fun hd => t_L hX cls_il (fun ad P G cells slots F hX h => s_il_n hX hd rfl rfl)) ?_
  refine bI_c (fun hd => t_L hX cls_ii (fun ad P G cells slots F hX h => s_ii hX hd (by decide) rfl)) ?_
  refine bI_c (fun hd => t_L hX cls_bi (fun ad P G cells slots F hX h => s_iadd hX hd rfl)) ?_
  refine bI_c (fun hd => t_sld hX hSc hd rfl) ?_
  refine bI_c (fun hd => t_L hX (cls_cV zX5_file) (fun ad P G cells slots F hX h => s_cV hX (T := TX5) (N := 35) (nX5_file l) rfl (wg_V up lmL_49 loX5_file) rfl rfl rfl (by decide +kernel) ⟨by decide, by decide⟩ h hd rfl)) ?_
  refine bI_c (fun hd => t_L hX cls_ic (fun ad P G cells slots F hX h => s_ic_eq hX hd (by decide) rfl)) ?_
  refine bI_c (fun hd => t_L hX cls_ii (fun ad P G cells slots F hX h => s_ii hX hd (by decide) rfl)) ?_
  refine bI_c (fun hd => hri _ hd) ?_
  refine bI_c (fun hd => t_L hX cls_al (fun ad P G cells slots F hX h => s_al_n hX hd rfl rfl)) ?_
  refine bI_c (fun hd => t_L hX cls_al (fun ad P G cells slots F hX h => s_al_n hX hd rfl rfl)) ?_
  refine bI_c (fun hd => t_L hX cls_il (fun ad P G cells slots F hX h => s_il_n hX hd rfl rfl)) ?_
  refine bI_c (fun hd => t_L hX cls_ii (fun ad P G cells slots F hX h => s_ii hX hd (by decide) rfl)) ?_
  refine bI_c (fun hd => t_L hX cls_bi (fun ad P G cells slots F hX h => s_iadd hX hd rfl)) ?_
  refine bI_c (fun hd => t_sld hX hSc hd rfl) ?_
  refine bI_c (fun hd => t_L hX cls_al (fun ad P G cells slots F hX h => s_al_n hX hd rfl rfl)) ?_
  refine bI_c (fun hd => t_L hX cls_il (fun ad P G cells slots F hX h => s_il_n hX hd rfl rfl)) ?_
  refine bI_c (fun hd => t_L hX cls_ii (fun ad P G cells slots F hX h => s_ii hX hd (by decide) rfl)) ?_
  refine bI_c (fun hd => t_L hX cls_bi (fun ad P G cells slots F hX h => s_iadd hX hd rfl)) ?_
  refine bI_c (fun hd => t_sld hX hSc hd rfl) ?_
  refine bI_c (fun hd => t_L hX cls_al (fun ad P G cells slots F hX h => s_al_n hX hd rfl rfl)) ?_
  refine bI_c (fun hd => t_L hX cls_il (fun ad P G cells slots F hX h => s_il_n hX hd rfl rfl)) ?_
  refine bI_c (fun hd => t_L hX cls_ii (fun ad P G cells slots F hX h => s_ii hX hd (by decide) rfl)) ?_
  refine bI_c (fun hd => t_L hX cls_bi (fun ad P G cells slots F hX h => s_iadd hX hd rfl)) ?_
  refine bI_c (fun hd => t_sld hX hSc hd rfl) ?_
  refine bI_c (fun hd => t_L hX (cls_cV zX4_put) (fun ad P G cells slots F hX h => s_cV hX (T := TX4) (N := 9) (nX4_put l) rfl (wg_V up lmL_50 loX4_put) rfl rfl rfl (by decide +kernel) ⟨by decide, by decide⟩ h hd rfl)) ?_
  refine bI_c (fun hd => t_L hX cls_al (fun ad P G cells slots F hX h => s_al_n hX hd rfl rfl)) ?_
  refine bI_c (fun hd => t_L hX cls_al (fun ad P G cells slots F hX h => s_al_n hX hd rfl rfl)) ?_
  refine bI_c (fun hd => t_L hX cls_il (fun ad P G cells slots F hX h => s_il_n hX hd rfl rfl)) ?_
  refine bI_c (fun hd => t_L hX cls_ii (fun ad P G cells slots F hX h => s_ii hX hd (by decide) rfl)) ?_
  refine bI_c (fun hd => t_L hX cls_bi (fun ad P G cells slots F hX h => s_iadd hX hd rfl)) ?_
  refine bI_c (fun hd => t_sld hX hSc hd rfl) ?_
  refine bI_c (fun hd => t_L hX cls_al (fun ad P G cells slots F hX h => s_al_n hX hd rfl rfl)) ?_
  refine bI_c (fun hd => t_L hX cls_il (fun ad P G cells slots F hX h => s_il_n hX hd rfl rfl)) ?_
  refine bI_c (fun hd => t_L hX cls_ii (fun ad P G cells slots F hX h => s_ii hX hd (by decide) rfl)) ?_
  refine bI_c (fun hd => t_L hX cls_bi (fun ad P G cells slots F hX h => s_iadd hX hd rfl)) ?_
  refine bI_c (fun hd => t_sld hX hSc hd rfl) ?_
  refine bI_c (fun hd => t_L hX cls_al (fun ad P G cells slots F hX h => s_al_n hX hd rfl rfl)) ?_
  refine bI_c (fun hd => t_L hX cls_il (fun ad P G cells slots F hX h => s_il_n hX hd rfl rfl)) ?_
  refine bI_c (fun hd => t_L hX cls_ii (fun ad P G cells slots F hX h => s_ii hX hd (by decide) rfl)) ?_
  refine bI_c (fun hd => t_L hX cls_bi (fun ad P G cells slots F hX h => s_iadd hX hd rfl)) ?_
  refine bI_c (fun hd => t_sld hX hSc hd rfl) ?_
  refine bI_c (fun hd => t_L hX (cls_cV zX5_put) (fun ad P G cells slots F hX h => s_cV hX (T := TX5) (N := 35) (nX5_put l) rfl (wg_V up lmL_53 loX5_put) rfl rfl rfl (by decide +kernel) ⟨by decide, by decide⟩ h hd rfl)) ?_
  refine bI_c (fun hd => t_L hX cls_ic (fun ad P G cells slots F hX h => s_ic_eq hX hd (by decide) rfl)) ?_
  refine bI_c (fun hd => t_L hX cls_ii (fun ad P G cells slots F hX h => s_ii hX hd (by decide) rfl)) ?_
  refine bI_c (fun hd => hri _ hd) ?_
  refine bI_c (fun hd => t_L hX cls_al (fun ad P G cells slots F hX h => s_al_n hX hd rfl rfl)) ?_
  refine bI_c (fun hd => t_L hX cls_al (fun ad P G cells slots F hX h => s_al_n hX hd rfl rfl)) ?_
  refine bI_c (fun hd => t_L hX cls_il (fun ad P G cells slots F hX h => s_il_n hX hd rfl rfl)) ?_
  refine bI_c (fun hd => t_L hX cls_ii (fun ad P G cells slots F hX h => s_ii hX hd (by decide) rfl)) ?_
  refine bI_c (fun hd => t_L hX cls_bi (fun ad P G cells slots F hX h => s_iadd hX hd rfl)) ?_
  refine bI_c (fun hd => t_sld hX hSc hd rfl) ?_
  refine bI_c (fun hd => t_L hX cls_al (fun ad P G cells slots F hX h => s_al_n hX hd rfl rfl)) ?_
  refine bI_c (fun hd => t_L hX cls_il (fun ad P G cells slots F hX h => s_il_n hX hd rfl rfl)) ?_
  refine bI_c (fun hd => t_L hX cls_ii (fun ad P G cells slots F hX h => s_ii hX hd (by decide) rfl)) ?_
  refine bI_c (fun hd => t_L hX cls_bi (fun ad P G cells slots F hX h => s_iadd hX hd rfl)) ?_
  refine bI_c (fun hd => t_sld hX hSc hd rfl) ?_
  refine bI_c (fun hd => t_L hX (cls_cV zX4_told) (fun ad P G cells slots F hX h => s_cV hX (T := TX4) (N := 9) (nX4_told l) rfl (wg_V up lmL_54 loX4_told) rfl rfl rfl (by decide +kernel) ⟨by decide, by decide⟩ h hd rfl)) ?_
  refine bI_c (fun hd => t_L hX cls_al (fun ad P G cells slots F hX h => s_al_n hX hd rfl rfl)) ?_
  refine bI_c (fun hd => t_L hX cls_al (fun ad P G cells slots F hX h => s_al_n hX hd rfl rfl)) ?_
  refine bI_c (fun hd => t_L hX cls_il (fun ad P G cells slots F hX h => s_il_n hX hd rfl rfl)) ?_
  refine bI_c (fun hd => t_L hX cls_ii (fun ad P G cells slots F hX h => s_ii hX hd (by decide) rfl)) ?_
  refine bI_c (fun hd => t_L hX cls_bi (fun ad P G cells slots F hX h => s_iadd hX hd rfl)) ?_
  refine bI_c (fun hd => t_sld hX hSc hd rfl) ?_
  refine bI_c (fun hd => t_L hX cls_al (fun ad P G cells slots F hX h => s_al_n hX hd rfl rfl)) ?_
  refine bI_c (fun hd => t_L hX cls_il (fun ad P G cells slots F hX h => s_il_n hX hd rfl rfl)) ?_
  refine bI_c (fun hd => t_L hX cls_ii (fun ad P G cells slots F hX h => s_ii hX hd (by decide) rfl)) ?_
  refine bI_c (fun hd => t_L hX cls_bi (fun ad P G cells slots F hX h => s_iadd hX hd rfl)) ?_
  refine bI_c (fun hd => t_sld hX hSc hd rfl) ?_
  refine bI_c (fun hd => t_L hX (cls_cV zX5_told) (fun ad P G cells slots F hX h => s_cV hX (T := TX5) (N := 35) (nX5_told l) rfl (wg_V up lmL_57 loX5_told) rfl rfl rfl (by decide +kernel) ⟨by decide, by decide⟩ h hd rfl)) ?_
  refine bI_c (fun hd => t_L hX cls_ic (fun ad P G cells slots F hX h => s_ic_eq hX hd (by decide) rfl)) ?_
  refine bI_c (fun hd => t_L hX cls_ii (fun ad P G cells slots F hX h => s_ii hX hd (by decide) rfl)) ?_
  refine bI_c (fun hd => hri _ hd) ?_
  refine bI_c (fun hd => t_L hX cls_al (fun ad P G cells slots F hX h => s_al_n hX hd rfl rfl)) ?_
  refine bI_c (fun hd => t_L hX cls_al (fun ad P G cells slots F hX h => s_al_n hX hd rfl rfl)) ?_
  refine bI_c (fun hd => t_L hX cls_il (fun ad P G cells slots F hX h => s_il_n hX hd rfl rfl)) ?_
  refine bI_c (fun hd => t_L hX cls_ii (fun ad P G cells slots F hX h => s_ii hX hd (by decide) rfl)) ?_
  refine bI_c (fun hd => t_L hX cls_bi (fun ad P G cells slots F hX h => s_iadd hX hd rfl)) ?_
  refine bI_c (fun hd => t_sld hX hSc hd rfl) ?_
  refine bI_c (fun hd => t_L hX cls_al (fun ad P G cells slots F hX h => s_al_n hX hd rfl rfl)) ?_
  refine bI_c (fun hd => t_L hX cls_il (fun ad P G cells slots F hX h => s_il_n hX hd rfl rfl)) ?_
  refine bI_c (fun hd => t_L hX cls_ii (fun ad P G cells slots F hX h => s_ii hX hd (by decide) rfl)) ?_
  refine bI_c (fun hd => t_L hX cls_bi (fun ad P G cells slots F hX h => s_iadd hX hd rfl)) ?_
  refine bI_c (fun hd => t_sld hX hSc hd rfl) ?_
  refine bI_c (fun hd => t_L hX (cls_cV zX4_paper) (fun ad P G cells slots F hX h => s_cV hX (T := TX4) (N := 9) (nX4_paper l) rfl (wg_V up lmL_58 loX4_paper) rfl rfl rfl (by decide +kernel) ⟨by decide, by decide⟩ h hd rfl)) ?_
  refine bI_c (fun hd => t_L hX cls_al (fun ad P G cells slots F hX h => s_al_n hX hd rfl rfl)) ?_
  refine bI_c (fun hd => t_L hX cls_al (fun ad P G cells slots F hX h => s_al_n hX hd rfl rfl)) ?_
  refine bI_c (fun hd => t_L hX cls_il (fun ad P G cells slots F hX h => s_il_n hX hd rfl rfl)) ?_
  refine bI_c (fun hd => t_L hX cls_ii (fun ad P G cells slots F hX h => s_ii hX hd (by decide) rfl)) ?_
  refine bI_c (fun hd => t_L hX cls_bi (fun ad P G cells slots F hX h => s_iadd hX hd rfl)) ?_
  refine bI_c (fun hd => t_sld hX hSc hd rfl) ?_
  refine bI_c (fun hd => t_L hX cls_al (fun ad P G cells slots F hX h => s_al_n hX hd rfl rfl)) ?_
  refine bI_c (fun hd => t_L hX cls_il (fun ad P G cells slots F hX h => s_il_n hX hd rfl rfl)) ?_
  refine bI_c (fun hd => t_L hX cls_ii (fun ad P G cells slots F hX h => s_ii hX hd (by decide) rfl)) ?_
  refine bI_c (fun hd => t_L hX cls_bi (fun ad P G cells slots F hX h => s_iadd hX hd rfl)) ?_
  refine bI_c (fun hd => t_sld hX hSc hd rfl) ?_
  refine bI_c (fun hd => t_L hX (cls_cV zX5_paper) (fun ad P G cells slots F hX h => s_cV hX (T := TX5) (N := 35) (nX5_paper l) rfl (wg_V up lmL_61 loX5_paper) rfl rfl rfl (by decide +kernel) ⟨by decide, by decide⟩ h hd rfl)) ?_
  refine bI_c (fun hd => t_L hX cls_ic (fun ad P G cells slots F hX h => s_ic_eq hX hd (by decide) rfl)) ?_
  refine bI_c (fun hd => t_L hX cls_ii (fun ad P G cells slots F hX h => s_ii hX hd (by decide) rfl)) ?_
  refine bI_c (fun hd => hri _ hd) ?_
  refine bI_c (fun hd => t_L hX cls_al (fun ad P G cells slots F hX h => s_al_n hX hd rfl rfl)) ?_
  refine bI_c (fun hd => t_L hX cls_al (fun ad P G cells slots F hX h => s_al_n hX hd rfl rfl)) ?_
  refine bI_c (fun hd => t_L hX cls_il (fun ad P G cells slots F hX h => s_il_n hX hd rfl rfl)) ?_
  refine bI_c (fun hd => t_L hX cls_ii (fun ad P G cells slots F hX h => s_ii hX hd (by decide) rfl)) ?_
  refine bI_c (fun hd => t_L hX cls_bi (fun ad P G cells slots F hX h => s_iadd hX hd rfl)) ?_
  refine bI_c (fun hd => t_sld hX hSc hd rfl) ?_
  refine bI_c (fun hd => t_L hX cls_al (fun ad P G cells slots F hX h => s_al_n hX hd rfl rfl)) ?_
  refine bI_c (fun hd => t_L hX cls_il (fun ad P G cells slots F hX h => s_il_n hX hd rfl rfl)) ?_
  refine bI_c (fun hd => t_L hX cls_ii (fun ad P G cells slots F hX h => s_ii hX hd (by decide) rfl)) ?_
  refine bI_c (fun hd => t_L hX cls_bi (fun ad P G cells slots F hX h => s_iadd hX hd rfl)) ?_
  refine bI_c (fun hd => t_sld hX hSc hd rfl) ?_
  refine bI_c (fun hd => t_L hX cls_al (fun ad P G cells slots F hX h => s_al_n hX hd rfl rfl)) ?_
  refine bI_c (fun hd => t_L hX cls_il (fun ad P G cells slots F hX h => s_il_n hX hd rfl rfl)) ?_
  refine bI_c (fun hd => t_L hX cls_ii (fun ad P G cells slots F hX h => s_ii hX hd (by decide) rfl)) ?_
  refine bI_c (fun hd => t_L hX cls_bi (fun ad P G cells slots F hX h => s_iadd hX hd rfl)) ?_
  refine bI_c (fun hd => t_sld hX hSc hd rfl) ?_
  refine bI_c (fun hd => t_L hX (cls_cV zX4_hearing) (fun ad P G cells slots F hX h => s_cV hX (T := TX4) (N := 9) (nX4_hearing l) rfl (wg_V up lmL_62 loX4_hearing) rfl rfl rfl (by decide +kernel) ⟨by decide, by decide⟩ h hd rfl)) ?_
  refine bI_c (fun hd => t_L hX cls_al (fun ad P G cells slots F hX h => s_al_n hX hd rfl rfl)) ?_
  refine bI_c (fun hd => t_L hX cls_al (fun ad P G cells slots F hX h => s_al_n hX hd rfl rfl)) ?_
  refine bI_c (fun hd => t_L hX cls_il (fun ad P G cells slots F hX h => s_il_n hX hd rfl rfl)) ?_
  refine bI_c (fun hd => t_L hX cls_ii (fun ad P G cells slots F hX h => s_ii hX hd (by decide) rfl)) ?_
  refine bI_c (fun hd => t_L hX cls_bi (fun ad P G cells slots F hX h => s_iadd hX hd rfl)) ?_
  refine bI_c (fun hd => t_sld hX hSc hd rfl) ?_
  refine bI_c (fun hd => t_L hX cls_al (fun ad P G cells slots F hX h => s_al_n hX hd rfl rfl)) ?_
  refine bI_c (fun hd => t_L hX cls_il (fun ad P G cells slots F hX h => s_il_n hX hd rfl rfl)) ?_
  refine bI_c (fun hd => t_L hX cls_ii (fun ad P G cells slots F hX h => s_ii hX hd (by decide) rfl)) ?_
  refine bI_c (fun hd => t_L hX cls_bi (fun ad P G cells slots F hX h => s_iadd hX hd rfl)) ?_
  refine bI_c (fun hd => t_sld hX hSc hd rfl) ?_
  refine bI_c (fun hd => t_L hX cls_al (fun ad P G cells slots F hX h => s_al_n hX hd rfl rfl)) ?_
  refine bI_c (fun hd => t_L hX cls_il (fun ad P G cells slots F hX h => s_il_n hX hd rfl rfl)) ?_
  refine bI_c (fun hd => t_L hX cls_ii (fun ad P G cells slots F hX h => s_ii hX hd (by decide) rfl)) ?_
  refine bI_c (fun hd => t_L hX cls_bi (fun ad P G cells slots F hX h => s_iadd hX hd rfl)) ?_
  refine bI_c (fun hd => t_sld hX hSc hd rfl) ?_
  refine bI_c (fun hd => t_L hX (cls_cV zX5_hearing) (fun ad P G cells slots F hX h => s_cV hX (T := TX5) (N := 35) (nX5_hearing l) rfl (wg_V up lmL_65 loX5_hearing) rfl rfl rfl (by decide +kernel) ⟨by decide, by decide⟩ h hd rfl)) ?_
  refine bI_c (fun hd => t_L hX cls_ic (fun ad P G cells slots F hX h => s_ic_eq hX hd (by decide) rfl)) ?_
  refine bI_c (fun hd => t_L hX cls_ii (fun ad P G cells slots F hX h => s_ii hX hd (by decide) rfl)) ?_
  refine bI_c (fun hd => hri _ hd) ?_
  refine bI_c (fun hd => t_L hX cls_al (fun ad P G cells slots F hX h => s_al_n hX hd rfl rfl)) ?_
  refine bI_c (fun hd => t_L hX cls_al (fun ad P G cells slots F hX h => s_al_n hX hd rfl rfl)) ?_
  refine bI_c (fun hd => t_L hX cls_il (fun ad P G cells slots F hX h => s_il_n hX hd rfl rfl)) ?_
  refine bI_c (fun hd => t_L hX cls_ii (fun ad P G cells slots F hX h => s_ii hX hd (by decide) rfl)) ?_
  refine bI_c (fun hd => t_L hX cls_bi (fun ad P G cells slots F hX h => s_iadd hX hd rfl)) ?_
  refine bI_c (fun hd => t_sld hX hSc hd rfl) ?_
  refine bI_c (fun hd => t_L hX cls_al (fun ad P G cells slots F hX h => s_al_n hX hd rfl rfl)) ?_
  refine bI_c (fun hd => t_L hX cls_il (fun ad P G cells slots F hX h => s_il_n hX hd rfl rfl)) ?_
  refine bI_c (fun hd => t_L hX cls_ii (fun ad P G cells slots F hX h => s_ii hX hd (by decide) rfl)) ?_
  refine bI_c (fun hd => t_L hX cls_bi (fun ad P G cells slots F hX h => s_iadd hX hd rfl)) ?_
  refine bI_c (fun hd => t_sld hX hSc hd rfl) ?_
  refine bI_c (fun hd => t_L hX (cls_cV zX4_hear) (fun ad P G cells slots F hX h => s_cV hX (T := TX4) (N := 9) (nX4_hear l) rfl (wg_V up lmL_66 loX4_hear) rfl rfl rfl (by decide +kernel) ⟨by decide, by decide⟩ h hd rfl)) ?_
  refine bI_c (fun hd => t_L hX cls_al (fun ad P G cells slots F hX h => s_al_n hX hd rfl rfl)) ?_
  refine bI_c (fun hd => t_L hX cls_al (fun ad P G cells slots F hX h => s_al_n hX hd rfl rfl)) ?_
  refine bI_c (fun hd => t_L hX cls_il (fun ad P G cells slots F hX h => s_il_n hX hd rfl rfl)) ?_
  refine bI_c (fun hd => t_L hX cls_ii (fun ad P G cells slots F hX h => s_ii hX hd (by decide) rfl)) ?_
  refine bI_c (fun hd => t_L hX cls_bi (fun ad P G cells slots F hX h => s_iadd hX hd rfl)) ?_
  refine bI_c (fun hd => t_sld hX hSc hd rfl) ?_
  refine bI_c (fun hd => t_L hX cls_al (fun ad P G cells slots F hX h => s_al_n hX hd rfl rfl)) ?_
  refine bI_c (fun hd => t_L hX cls_il (fun ad P G cells slots F hX h => s_il_n hX hd rfl rfl)) ?_
  refine bI_c (fun hd => t_L hX cls_ii (fun ad P G cells slots F hX h => s_ii hX hd (by decide) rfl)) ?_
  refine bI_c (fun hd => t_L hX cls_bi (fun ad P G cells slots F hX h => s_iadd hX hd rfl)) ?_
  refine bI_c (fun hd => t_sld hX hSc hd rfl) ?_
  refine bI_c (fun hd => t_L hX (cls_cV zX5_hear) (fun ad P G cells slots F hX h => s_cV hX (T := TX5) (N := 35) (nX5_hear l) rfl (wg_V up lmL_69 loX5_hear) rfl rfl rfl (by decide +kernel) ⟨by decide, by decide⟩ h hd rfl)) ?_
  refine bI_c (fun hd => t_L hX cls_ic (fun ad P G cells slots F hX h => s_ic_eq hX hd (by decide) rfl)) ?_
  refine bI_c (fun hd => t_L hX cls_ii (fun ad P G cells slots F hX h => s_ii hX hd (by decide) rfl)) ?_
  refine bI_c (fun hd => hri _ hd) ?_
  refine bI_c (fun hd => t_L hX cls_al (fun ad P G cells slots F hX h => s_al_n hX hd rfl rfl)) ?_
  refine bI_c (fun hd => t_L hX cls_al (fun ad P G cells slots F hX h => s_al_n hX hd rfl rfl)) ?_
  refine bI_c (fun hd => t_L hX cls_il (fun ad P G cells slots F hX h => s_il_n hX hd rfl rfl)) ?_
  refine bI_c (fun hd => t_L hX cls_ii (fun ad P G cells slots F hX h => s_ii hX hd (by decide) rfl)) ?_
  refine bI_c (fun hd => t_L hX cls_bi (fun ad P G cells slots F hX h => s_iadd hX hd rfl)) ?_
  refine bI_c (fun hd => t_sld hX hSc hd rfl) ?_
  refine bI_c (fun hd => t_L hX cls_al (fun ad P G cells slots F hX h => s_al_n hX hd rfl rfl)) ?_
  refine bI_c (fun hd => t_L hX cls_il (fun ad P G cells slots F hX h => s_il_n hX hd rfl rfl)) ?_
  refine bI_c (fun hd => t_L hX cls_ii (fun ad P G cells slots F hX h => s_ii hX hd (by decide) rfl)) ?_
  refine bI_c (fun hd => t_L hX cls_bi (fun ad P G cells slots F hX h => s_iadd hX hd rfl)) ?_
  refine bI_c (fun hd => t_sld hX hSc hd rfl) ?_
  refine bI_c (fun hd => t_L hX (cls_cV zX4_rob) (fun ad P G cells slots F hX h => s_cV hX (T := TX4) (N := 9) (nX4_rob l) rfl (wg_V up lmL_70 loX4_rob) rfl rfl rfl (by decide +kernel) ⟨by decide, by decide⟩ h hd rfl)) ?_
  refine bI_c (fun hd => t_L hX cls_al (fun ad P G cells slots F hX h => s_al_n hX hd rfl rfl)) ?_
  refine bI_c (fun hd => t_L hX cls_al (fun ad P G cells slots F hX h => s_al_n hX hd rfl rfl)) ?_
  refine bI_c (fun hd => t_L hX cls_il (fun ad P G cells slots F hX h => s_il_n hX hd rfl rfl)) ?_
  refine bI_c (fun hd => t_L hX cls_ii (fun ad P G cells slots F hX h => s_ii hX hd (by decide) rfl)) ?_
  refine bI_c (fun hd => t_L hX cls_bi (fun ad P G cells slots F hX h => s_iadd hX hd rfl)) ?_
  refine bI_c (fun hd => t_sld hX hSc hd rfl) ?_
  refine bI_c (fun hd => t_L hX cls_al (fun ad P G cells slots F hX h => s_al_n hX hd rfl rfl)) ?_
  refine bI_c (fun hd => t_L hX cls_il (fun ad P G cells slots F hX h => s_il_n hX hd rfl rfl)) ?_
  refine bI_c (fun hd => t_L hX cls_ii (fun ad P G cells slots F hX h => s_ii hX hd (by decide) rfl)) ?_
  refine bI_c (fun hd => t_L hX cls_bi (fun ad P G cells slots F hX h => s_iadd hX hd rfl)) ?_
  refine bI_c (fun hd => t_sld hX hSc hd rfl) ?_
  refine bI_c (fun hd => t_L hX (cls_cV zX5_rob) (fun ad P G cells slots F hX h => s_cV hX (T := TX5) (N := 35) (nX5_rob l) rfl (wg_V up lmL_73 loX5_rob) rfl rfl rfl (by decide +kernel) ⟨by decide, by decide⟩ h hd rfl)) ?_
  refine bI_c (fun hd => t_L hX cls_ic (fun ad P G cells slots F hX h => s_ic_eq hX hd (by decide) rfl)) ?_
  refine bI_c (fun hd => t_L hX cls_ii (fun ad P G cells slots F hX h => s_ii hX hd (by decide) rfl)) ?_
  refine bI_c (fun hd => hri _ hd) ?_
  refine bI_c (fun hd => t_L hX cls_al (fun ad P G cells slots F hX h => s_al_n hX hd rfl rfl)) ?_
  refine bI_c (fun hd => t_L hX (cls_cV zX4_day) (fun ad P G cells slots F hX h => s_cV hX (T := TX4) (N := 9) (nX4_day l) rfl (wg_V up lmL_74 loX4_day) rfl rfl rfl (by decide +kernel) ⟨by decide, by decide⟩ h hd rfl)) ?_
  refine bI_c (fun hd => t_L hX cls_al (fun ad P G cells slots F hX h => s_al_n hX hd rfl rfl)) ?_
  refine bI_c (fun hd => t_L hX (cls_cV zX5_day) (fun ad P G cells slots F hX h => s_cV hX (T := TX5) (N := 35) (nX5_day l) rfl (wg_V up lmL_77 loX5_day) rfl rfl rfl (by decide +kernel) ⟨by decide, by decide⟩ h hd rfl)) ?_
  refine bI_c (fun hd => t_L hX cls_ic (fun ad P G cells slots F hX h => s_ic_eq hX hd (by decide) rfl)) ?_
  refine bI_c (fun hd => t_L hX cls_ii (fun ad P G cells slots F hX h => s_ii hX hd (by decide) rfl)) ?_
  refine bI_c (fun hd => hri _ hd) ?_
  refine bI_c (fun hd => t_L hX cls_al (fun ad P G cells slots F hX h => s_al_n hX hd rfl rfl)) ?_
  refine bI_c (fun hd => t_L hX cls_al (fun ad P G cells slots F hX h => s_al_n hX hd rfl rfl)) ?_
  refine bI_c (fun hd => t_L hX cls_il (fun ad P G cells slots F hX h => s_il_n hX hd rfl rfl)) ?_
  refine bI_c (fun hd => t_L hX cls_ii (fun ad P G cells slots F hX h => s_ii hX hd (by decide) rfl)) ?_
  refine bI_c (fun hd => t_L hX cls_bi (fun ad P G cells slots F hX h => s_iadd hX hd rfl)) ?_
  refine bI_c (fun hd => t_sld hX hSc hd rfl) ?_
  refine bI_c (fun hd => t_L hX cls_al (fun ad P G cells slots F hX h => s_al_n hX hd rfl rfl)) ?_
  refine bI_c (fun hd => t_L hX cls_il (fun ad P G cells slots F hX h => s_il_n hX hd rfl rfl)) ?_
  refine bI_c (fun hd => t_L hX cls_ii (fun ad P G cells slots F hX h => s_ii hX hd (by decide) rfl)) ?_
  refine bI_c (fun hd => t_L hX cls_bi (fun ad P G cells slots F hX h => s_iadd hX hd rfl)) ?_
  refine bI_c (fun hd => t_sld hX hSc hd rfl) ?_
  refine bI_c (fun hd => t_L hX (cls_cV zX4_run) (fun ad P G cells slots F hX h => s_cV hX (T := TX4) (N := 9) (nX4_run l) rfl (wg_V up lmL_78 loX4_run) rfl rfl rfl (by decide +kernel) ⟨by decide, by decide⟩ h hd rfl)) ?_
  refine bI_c (fun hd => t_L hX cls_al (fun ad P G cells slots F hX h => s_al_n hX hd rfl rfl)) ?_
  refine bI_c (fun hd => t_L hX cls_al (fun ad P G cells slots F hX h => s_al_n hX hd rfl rfl)) ?_
  refine bI_c (fun hd => t_L hX cls_il (fun ad P G cells slots F hX h => s_il_n hX hd rfl rfl)) ?_
  refine bI_c (fun hd => t_L hX cls_ii (fun ad P G cells slots F hX h => s_ii hX hd (by decide) rfl)) ?_
  refine bI_c (fun hd => t_L hX cls_bi (fun ad P G cells slots F hX h => s_iadd hX hd rfl)) ?_
  refine bI_c (fun hd => t_sld hX hSc hd rfl) ?_
  refine bI_c (fun hd => t_L hX cls_al (fun ad P G cells slots F hX h => s_al_n hX hd rfl rfl)) ?_
  refine bI_c (fun hd => t_L hX cls_il (fun ad P G cells slots F hX h => s_il_n hX hd rfl rfl)) ?_
  refine bI_c (fun hd => t_L hX cls_ii (fun ad P G cells slots F hX h => s_ii hX hd (by decide) rfl)) ?_
  refine bI_c (fun hd => t_L hX cls_bi (fun ad P G cells slots F hX h => s_iadd hX hd rfl)) ?_
  refine bI_c (fun hd => t_sld hX hSc hd rfl) ?_
  refine bI_c (fun hd => t_L hX (cls_cV zX5_run) (fun ad P G cells slots F hX h => s_cV hX (T := TX5) (N := 35) (nX5_run l) rfl (wg_V up lmL_81 loX5_run) rfl rfl rfl (by decide +kernel) ⟨by decide, by decide⟩ h hd rfl)) ?_
  refine bI_c (fun hd => t_L hX cls_ic (fun ad P G cells slots F hX h => s_ic_eq hX hd (by decide) rfl)) ?_
  refine bI_c (fun hd => t_L hX cls_ii (fun ad P G cells slots F hX h => s_ii hX hd (by decide) rfl)) ?_
  refine bI_c (fun hd => hri _ hd) ?_
  refine bI_c (fun hd => t_L hX cls_al (fun ad P G cells slots F hX h => s_al_n hX hd rfl rfl)) ?_
  refine bI_c (fun hd => t_L hX cls_al (fun ad P G cells slots F hX h => s_al_n hX hd rfl rfl)) ?_
  refine bI_c (fun hd => t_L hX cls_il (fun ad P G cells slots F hX h => s_il_n hX hd rfl rfl)) ?_
  refine bI_c (fun hd => t_L hX cls_ii (fun ad P G cells slots F hX h => s_ii hX hd (by decide) rfl)) ?_
  refine bI_c (fun hd => t_L hX cls_bi (fun ad P G cells slots F hX h => s_iadd hX hd rfl)) ?_
  refine bI_c (fun hd => t_sld hX hSc hd rfl) ?_
  refine bI_c (fun hd => t_L hX (cls_cV zX4_when) (fun ad P G cells slots F hX h => s_cV hX (T := TX4) (N := 9) (nX4_when l) rfl (wg_V up lmL_82 loX4_when) rfl rfl rfl (by decide +kernel) ⟨by decide, by decide⟩ h hd rfl)) ?_
  refine bI_c (fun hd => t_L hX cls_al (fun ad P G cells slots F hX h => s_al_n hX hd rfl rfl)) ?_
  refine bI_c (fun hd => t_L hX cls_al (fun ad P G cells slots F hX h => s_al_n hX hd rfl rfl)) ?_
  refine bI_c (fun hd => t_L hX cls_il (fun ad P G cells slots F hX h => s_il_n hX hd rfl rfl)) ?_
  refine bI_c (fun hd => t_L hX cls_ii (fun ad P G cells slots F hX h => s_ii hX hd (by decide) rfl)) ?_
  refine bI_c (fun hd => t_L hX cls_bi (fun ad P G cells slots F hX h => s_iadd hX hd rfl)) ?_
  refine bI_c (fun hd => t_sld hX hSc hd rfl) ?_
  refine bI_c (fun hd => t_L hX (cls_cV zX5_when) (fun ad P G cells slots F hX h => s_cV hX (T := TX5) (N := 35) (nX5_when l) rfl (wg_V up lmL_85 loX5_when) rfl rfl rfl (by decide +kernel) ⟨by decide, by decide⟩ h hd rfl)) ?_
  refine bI_c (fun hd => t_L hX cls_ic (fun ad P G cells slots F hX h => s_ic_eq hX hd (by decide) rfl)) ?_
  refine bI_c (fun hd => t_L hX cls_ii (fun ad P G cells slots F hX h => s_ii hX hd (by decide) rfl)) ?_
  refine bI_c (fun hd => hri _ hd) ?_
  refine bI_c (fun hd => t_L hX cls_al (fun ad P G cells slots F hX h => s_al_n hX hd rfl rfl)) ?_
  refine bI_c (fun hd => t_L hX cls_al (fun ad P G cells slots F hX h => s_al_n hX hd rfl rfl)) ?_
  refine bI_c (fun hd => t_L hX cls_il (fun ad P G cells slots F hX h => s_il_n hX hd rfl rfl)) ?_
  refine bI_c (fun hd => t_L hX cls_ii (fun ad P G cells slots F hX h => s_ii hX hd (by decide) rfl)) ?_
  refine bI_c (fun hd => t_L hX cls_bi (fun ad P G cells slots F hX h => s_iadd hX hd rfl)) ?_
  refine bI_c (fun hd => t_sld hX hSc hd rfl) ?_
  refine bI_c (fun hd => t_L hX (cls_cV zX4_sitting) (fun ad P G cells slots F hX h => s_cV hX (T := TX4) (N := 9) (nX4_sitting l) rfl (wg_V up lmL_86 loX4_sitting) rfl rfl rfl (by decide +kernel) ⟨by decide, by decide⟩ h hd rfl)) ?_
  refine bI_c (fun hd => t_L hX cls_al (fun ad P G cells slots F hX h => s_al_n hX hd rfl rfl)) ?_
  refine bI_c (fun hd => t_L hX cls_al (fun ad P G cells slots F hX h => s_al_n hX hd rfl rfl)) ?_
  refine bI_c (fun hd => t_L hX cls_il (fun ad P G cells slots F hX h => s_il_n hX hd rfl rfl)) ?_
  refine bI_c (fun hd => t_L hX cls_ii (fun ad P G cells slots F hX h => s_ii hX hd (by decide) rfl)) ?_
  refine bI_c (fun hd => t_L hX cls_bi (fun ad P G cells slots F hX h => s_iadd hX hd rfl)) ?_
  refine bI_c (fun hd => t_sld hX hSc hd rfl) ?_
  refine bI_c (fun hd => t_L hX (cls_cV zX5_sitting) (fun ad P G cells slots F hX h => s_cV hX (T := TX5) (N := 35) (nX5_sitting l) rfl (wg_V up lmL_89 loX5_sitting) rfl rfl rfl (by decide +kernel) ⟨by decide, by decide⟩ h hd rfl)) ?_
  refine bI_c (fun hd => t_L hX cls_ic (fun ad P G cells slots F hX h => s_ic_eq hX hd (by decide) rfl)) ?_
  refine bI_c (fun hd => t_L hX cls_ii (fun ad P G cells slots F hX h => s_ii hX hd (by decide) rfl)) ?_
  refine bI_c (fun hd => hri _ hd) ?_
  refine bI_c (fun hd => t_L hX cls_al (fun ad P G cells slots F hX h => s_al_n hX hd rfl rfl)) ?_
  refine bI_c (fun hd => t_L hX cls_al (fun ad P G cells slots F hX h => s_al_n hX hd rfl rfl)) ?_
  refine bI_c (fun hd => t_L hX cls_il (fun ad P G cells slots F hX h => s_il_n hX hd rfl rfl)) ?_
  refine bI_c (fun hd => t_L hX cls_ii (fun ad P G cells slots F hX h => s_ii hX hd (by decide) rfl)) ?_
  refine bI_c (fun hd => t_L hX cls_bi (fun ad P G cells slots F hX h => s_iadd hX hd rfl)) ?_
  refine bI_c (fun hd => t_sld hX hSc hd rfl) ?_
  refine bI_c (fun hd => t_L hX cls_al (fun ad P G cells slots F hX h => s_al_n hX hd rfl rfl)) ?_
  refine bI_c (fun hd => t_L hX cls_il (fun ad P G cells slots F hX h => s_il_n hX hd rfl rfl)) ?_
  refine bI_c (fun hd => t_L hX cls_ii (fun ad P G cells slots F hX h => s_ii hX hd (by decide) rfl)) ?_
  refine bI_c (fun hd => t_L hX cls_bi (fun ad P G cells slots F hX h => s_iadd hX hd rfl)) ?_
  refine bI_c (fun hd => t_sld hX hSc hd rfl) ?_
  refine bI_c (fun hd => t_L hX (cls_cV zX4_burglary) (fun ad P G cells slots F hX h => s_cV hX (T := TX4) (N := 9) (nX4_burglary l) rfl (wg_V up lmL_90 loX4_burglary) rfl rfl rfl (by decide +kernel) ⟨by decide, by decide⟩ h hd rfl)) ?_
  refine bI_c (fun hd => t_L hX cls_al (fun ad P G cells slots F hX h => s_al_n hX hd rfl rfl)) ?_
  refine bI_c (fun hd => t_L hX cls_al (fun ad P G cells slots F hX h => s_al_n hX hd rfl rfl)) ?_
  refine bI_c (fun hd => t_L hX cls_il (fun ad P G cells slots F hX h => s_il_n hX hd rfl rfl)) ?_
  refine bI_c (fun hd => t_L hX cls_ii (fun ad P G cells slots F hX h => s_ii hX hd (by decide) rfl)) ?_
  refine bI_c (fun hd => t_L hX cls_bi (fun ad P G cells slots F hX h => s_iadd hX hd rfl)) ?_
  refine bI_c (fun hd => t_sld hX hSc hd rfl) ?_
  refine bI_c (fun hd => t_L hX cls_al (fun ad P G cells slots F hX h => s_al_n hX hd rfl rfl)) ?_
  refine bI_c (fun hd => t_L hX cls_il (fun ad P G cells slots F hX h => s_il_n hX hd rfl rfl)) ?_
  refine bI_c (fun hd => t_L hX cls_ii (fun ad P G cells slots F hX h => s_ii hX hd (by decide) rfl)) ?_
  refine bI_c (fun hd => t_L hX cls_bi (fun ad P G cells slots F hX h => s_iadd hX hd rfl)) ?_
  refine bI_c (fun hd => t_sld hX hSc hd rfl) ?_
  refine bI_c (fun hd => t_L hX (cls_cV zX5_burglary) (fun ad P G cells slots F hX h => s_cV hX (T := TX5) (N := 35) (nX5_burglary l) rfl (wg_V up lmL_93 loX5_burglary) rfl rfl rfl (by decide +kernel) ⟨by decide, by decide⟩ h hd rfl)) ?_
  refine bI_c (fun hd => t_L hX cls_ic (fun ad P G cells slots F hX h => s_ic_eq hX hd (by decide) rfl)) ?_
  refine bI_c (fun hd => t_L hX cls_ii (fun ad P G cells slots F hX h => s_ii hX hd (by decide) rfl)) ?_
  refine bI_c (fun hd => hri _ hd) ?_
  refine bI_c (fun hd => t_L hX cls_al (fun ad P G cells slots F hX h => s_al_n hX hd rfl rfl)) ?_
  refine bI_c (fun hd => t_L hX cls_al (fun ad P G cells slots F hX h => s_al_n hX hd rfl rfl)) ?_
  refine bI_c (fun hd => t_L hX cls_il (fun ad P G cells slots F hX h => s_il_n hX hd rfl rfl)) ?_
  refine bI_c (fun hd => t_L hX cls_ii (fun ad P G cells slots F hX h => s_ii hX hd (by decide) rfl)) ?_
  refine bI_c (fun hd => t_L hX cls_bi (fun ad P G cells slots F hX h => s_iadd hX hd rfl)) ?_
  refine bI_c (fun hd => t_sld hX hSc hd rfl) ?_
  refine bI_c (fun hd => t_L hX cls_al (fun ad P G cells slots F hX h => s_al_n hX hd rfl rfl)) ?_
  refine bI_c (fun hd => t_L hX cls_il (fun ad P G cells slots F hX h => s_il_n hX hd rfl rfl)) ?_
  refine bI_c (fun hd => t_L hX cls_ii (fun ad P G cells slots F hX h => s_ii hX hd (by decide) rfl)) ?_
  refine bI_c (fun hd => t_L hX cls_bi (fun ad P G cells slots F hX h => s_iadd hX hd rfl)) ?_
  refine bI_c (fun hd => t_sld hX hSc hd rfl) ?_
  refine bI_c (fun hd => t_L hX cls_al (fun ad P G cells slots F hX h => s_al_n hX hd rfl rfl)) ?_
  refine bI_c (fun hd => t_L hX cls_il (fun ad P G cells slots F hX h => s_il_n hX hd rfl rfl)) ?_
  refine bI_c (fun hd => t_L hX cls_ii (fun ad P G cells slots F hX h => s_ii hX hd (by decide) rfl)) ?_
  refine bI_c (fun hd => t_L hX cls_bi (fun ad P G cells slots F hX h => s_iadd hX hd rfl)) ?_
  refine bI_c (fun hd => t_sld hX hSc hd rfl) ?_
  refine bI_c (fun hd => t_L hX (cls_cV zX4_wants) (fun ad P G cells slots F hX h => s_cV hX (T := TX4) (N := 9) (nX4_wants l) rfl (wg_V up lmL_94 loX4_wants) rfl rfl rfl (by decide +kernel) ⟨by decide, by decide⟩ h hd rfl)) ?_
  refine bI_c (fun hd => t_L hX cls_al (fun ad P G cells slots F hX h => s_al_n hX hd rfl rfl)) ?_
  refine bI_c (fun hd => t_L hX cls_al (fun ad P G cells slots F hX h => s_al_n hX hd rfl rfl)) ?_
  refine bI_c (fun hd => t_L hX cls_il (fun ad P G cells slots F hX h => s_il_n hX hd rfl rfl)) ?_
  refine bI_c (fun hd => t_L hX cls_ii (fun ad P G cells slots F hX h => s_ii hX hd (by decide) rfl)) ?_
  refine bI_c (fun hd => t_L hX cls_bi (fun ad P G cells slots F hX h => s_iadd hX hd rfl)) ?_
  refine bI_c (fun hd => t_sld hX hSc hd rfl) ?_
  refine bI_c (fun hd => t_L hX cls_al (fun ad P G cells slots F hX h => s_al_n hX hd rfl rfl)) ?_
  refine bI_c (fun hd => t_L hX cls_il (fun ad P G cells slots F hX h => s_il_n hX hd rfl rfl)) ?_
  refine bI_c (fun hd => t_L hX cls_ii (fun ad P G cells slots F hX h => s_ii hX hd (by decide) rfl)) ?_
  refine bI_c (fun hd => t_L hX cls_bi (fun ad P G cells slots F hX h => s_iadd hX hd rfl)) ?_
  refine bI_c (fun hd => t_sld hX hSc hd rfl) ?_
  refine bI_c (fun hd => t_L hX cls_al (fun ad P G cells slots F hX h => s_al_n hX hd rfl rfl)) ?_
  refine bI_c (fun hd => t_L hX cls_il (fun ad P G cells slots F hX h => s_il_n hX hd rfl rfl)) ?_
  refine bI_c (fun hd => t_L hX cls_ii (fun ad P G cells slots F hX h => s_ii hX hd (by decide) rfl)) ?_
  refine bI_c (fun hd => t_L hX cls_bi (fun ad P G cells slots F hX h => s_iadd hX hd rfl)) ?_
  refine bI_c (fun hd => t_sld hX hSc hd rfl) ?_
  refine bI_c (fun hd => t_L hX (cls_cV zX5_wants) (fun ad P G cells slots F hX h => s_cV hX (T := TX5) (N := 35) (nX5_wants l) rfl (wg_V up lmL_97 loX5_wants) rfl rfl rfl (by decide +kernel) ⟨by decide, by decide⟩ h hd rfl)) ?_
  refine bI_c (fun hd => t_L hX cls_ic (fun ad P G cells slots F hX h => s_ic_eq hX hd (by decide) rfl)) ?_
  refine bI_c (fun hd => t_L hX cls_ii (fun ad P G cells slots F hX h => s_ii hX hd (by decide) rfl)) ?_
  refine bI_c (fun hd => hri _ hd) ?_
  refine bI_c (fun hd => t_L hX cls_al (fun ad P G cells slots F hX h => s_al_n hX hd rfl rfl)) ?_
  refine bI_c (fun hd => t_L hX cls_al (fun ad P G cells slots F hX h => s_al_n hX hd rfl rfl)) ?_
  refine bI_c (fun hd => t_L hX cls_il (fun ad P G cells slots F hX h => s_il_n hX hd rfl rfl)) ?_
  refine bI_c (fun hd => t_L hX cls_ii (fun ad P G cells slots F hX h => s_ii hX hd (by decide) rfl)) ?_
  refine bI_c (fun hd => t_L hX cls_bi (fun ad P G cells slots F hX h => s_iadd hX hd rfl)) ?_
  refine bI_c (fun hd => t_sld hX hSc hd rfl) ?_
  refine bI_c (fun hd => t_L hX (cls_cV zX4_fullest) (fun ad P G cells slots F hX h => s_cV hX (T := TX4) (N := 9) (nX4_fullest l) rfl (wg_V up lmL_98 loX4_fullest) rfl rfl rfl (by decide +kernel) ⟨by decide, by decide⟩ h hd rfl)) ?_
  refine bI_c (fun hd => t_L hX cls_al (fun ad P G cells slots F hX h => s_al_n hX hd rfl rfl)) ?_
  refine bI_c (fun hd => t_L hX cls_al (fun ad P G cells slots F hX h => s_al_n hX hd rfl rfl)) ?_
  refine bI_c (fun hd => t_L hX cls_il (fun ad P G cells slots F hX h => s_il_n hX hd rfl rfl)) ?_
  refine bI_c (fun hd => t_L hX cls_ii (fun ad P G cells slots F hX h => s_ii hX hd (by decide) rfl)) ?_
  refine bI_c (fun hd => t_L hX cls_bi (fun ad P G cells slots F hX h => s_iadd hX hd rfl)) ?_
  refine bI_c (fun hd => t_sld hX hSc hd rfl) ?_
  refine bI_c (fun hd => t_L hX (cls_cV zX5_fullest) (fun ad P G cells slots F hX h => s_cV hX (T := TX5) (N := 35) (nX5_fullest l) rfl (wg_V up lmL_101 loX5_fullest) rfl rfl rfl (by decide +kernel) ⟨by decide, by decide⟩ h hd rfl)) ?_
  refine bI_c (fun hd => t_L hX cls_ic (fun ad P G cells slots F hX h => s_ic_eq hX hd (by decide) rfl)) ?_
  refine bI_c (fun hd => t_L hX cls_ii (fun ad P G cells slots F hX h => s_ii hX hd (by decide) rfl)) ?_
  refine bI_c (fun hd => hri _ hd) ?_
  refine bI_c (fun hd => t_L hX cls_al (fun ad P G cells slots F hX h => s_al_n hX hd rfl rfl)) ?_
  refine bI_c (fun hd => t_L hX (cls_cV zX4_cruel) (fun ad P G cells slots F hX h => s_cV hX (T := TX4) (N := 9) (nX4_cruel l) rfl (wg_V up lmL_102 loX4_cruel) rfl rfl rfl (by decide +kernel) ⟨by decide, by decide⟩ h hd rfl)) ?_
  refine bI_c (fun hd => t_L hX cls_al (fun ad P G cells slots F hX h => s_al_n hX hd rfl rfl)) ?_
  refine bI_c (fun hd => t_L hX (cls_cV zX5_cruel) (fun ad P G cells slots F hX h => s_cV hX (T := TX5) (N := 35) (nX5_cruel l) rfl (wg_V up lmL_105 loX5_cruel) rfl rfl rfl (by decide +kernel) ⟨by decide, by decide⟩ h hd rfl)) ?_
  refine bI_c (fun hd => t_L hX cls_ic (fun ad P G cells slots F hX h => s_ic_eq hX hd (by decide) rfl)) ?_
  refine bI_c (fun hd => t_L hX cls_ii (fun ad P G cells slots F hX h => s_ii hX hd (by decide) rfl)) ?_
  refine bI_c (fun hd => hri _ hd) ?_
  refine bI_c (fun hd => t_L hX cls_al (fun ad P G cells slots F hX h => s_al_n hX hd rfl rfl)) ?_
  refine bI_c (fun hd => t_L hX cls_al (fun ad P G cells slots F hX h => s_al_n hX hd rfl rfl)) ?_
  refine bI_c (fun hd => t_L hX cls_il (fun ad P G cells slots F hX h => s_il_n hX hd rfl rfl)) ?_
  refine bI_c (fun hd => t_L hX cls_ii (fun ad P G cells slots F hX h => s_ii hX hd (by decide) rfl)) ?_
  refine bI_c (fun hd => t_L hX cls_bi (fun ad P G cells slots F hX h => s_iadd hX hd rfl)) ?_
  refine bI_c (fun hd => t_sld hX hSc hd rfl) ?_
  refine bI_c (fun hd => t_L hX (cls_cV zX4_ruin) (fun ad P G cells slots F hX h => s_cV hX (T := TX4) (N := 9) (nX4_ruin l) rfl (wg_V up lmL_106 loX4_ruin) rfl rfl rfl (by decide +kernel) ⟨by decide, by decide⟩ h hd rfl)) ?_
  refine bI_c (fun hd => t_L hX cls_al (fun ad P G cells slots F hX h => s_al_n hX hd rfl rfl)) ?_
  refine bI_c (fun hd => t_L hX cls_al (fun ad P G cells slots F hX h => s_al_n hX hd rfl rfl)) ?_
  refine bI_c (fun hd => t_L hX cls_il (fun ad P G cells slots F hX h => s_il_n hX hd rfl rfl)) ?_
  refine bI_c (fun hd => t_L hX cls_ii (fun ad P G cells slots F hX h => s_ii hX hd (by decide) rfl)) ?_
  refine bI_c (fun hd => t_L hX cls_bi (fun ad P G cells slots F hX h => s_iadd hX hd rfl)) ?_
  refine bI_c (fun hd => t_sld hX hSc hd rfl) ?_
  refine bI_c (fun hd => t_L hX (cls_cV zX5_ruin) (fun ad P G cells slots F hX h => s_cV hX (T := TX5) (N := 35) (nX5_ruin l) rfl (wg_V up lmL_110 loX5_ruin) rfl rfl rfl (by decide +kernel) ⟨by decide, by decide⟩ h hd rfl)) ?_
  refine bI_c (fun hd => t_L hX cls_lcm (fun ad P G cells slots F hX h => s_lcmp hX hd rfl)) ?_
  refine bI_c (fun hd => t_L hX cls_if (fun ad P G cells slots F hX h => s_if_eq hX hd (by decide) rfl)) ?_
  refine bI_c (fun hd => t_L hX cls_ii (fun ad P G cells slots F hX h => s_ii hX hd (by decide) rfl)) ?_
  refine bI_c (fun hd => hri _ hd) ?_
  refine bI_c (fun hd => t_L hX cls_al (fun ad P G cells slots F hX h => s_al_n hX hd rfl rfl)) ?_
  refine bI_c (fun hd => t_L hX cls_al (fun ad P G cells slots F hX h => s_al_n hX hd rfl rfl)) ?_
  refine bI_c (fun hd => t_L hX cls_il (fun ad P G cells slots F hX h => s_il_n hX hd rfl rfl)) ?_
  refine bI_c (fun hd => t_L hX cls_ii (fun ad P G cells slots F hX h => s_ii hX hd (by decide) rfl)) ?_
  refine bI_c (fun hd => t_L hX cls_bi (fun ad P G cells slots F hX h => s_iadd hX hd rfl)) ?_
  refine bI_c (fun hd => t_sld hX hSc hd rfl) ?_
  refine bI_c (fun hd => t_L hX (cls_cV zX4_tells) (fun ad P G cells slots F hX h => s_cV hX (T := TX4) (N := 9) (nX4_tells l) rfl (wg_V up lmL_111 loX4_tells) rfl rfl rfl (by decide +kernel) ⟨by decide, by decide⟩ h hd rfl)) ?_
  refine bI_c (fun hd => t_L hX cls_al (fun ad P G cells slots F hX h => s_al_n hX hd rfl rfl)) ?_
  refine bI_c (fun hd => t_L hX cls_al (fun ad P G cells slots F hX h => s_al_n hX hd rfl rfl)) ?_
  refine bI_c (fun hd => t_L hX cls_il (fun ad P G cells slots F hX h => s_il_n hX hd rfl rfl)) ?_
  refine bI_c (fun hd => t_L hX cls_ii (fun ad P G cells slots F hX h => s_ii hX hd (by decide) rfl)) ?_
  refine bI_c (fun hd => t_L hX cls_bi (fun ad P G cells slots F hX h => s_iadd hX hd rfl)) ?_
  refine bI_c (fun hd => t_sld hX hSc hd rfl) ?_
  refine bI_c (fun hd => t_L hX (cls_cV zX5_tells) (fun ad P G cells slots F hX h => s_cV hX (T := TX5) (N := 35) (nX5_tells l) rfl (wg_V up lmL_114 loX5_tells) rfl rfl rfl (by decide +kernel) ⟨by decide, by decide⟩ h hd rfl)) ?_
  refine bI_c (fun hd => t_L hX cls_ic (fun ad P G cells slots F hX h => s_ic_eq hX hd (by decide) rfl)) ?_
  refine bI_c (fun hd => t_L hX cls_ii (fun ad P G cells slots F hX h => s_ii hX hd (by decide) rfl)) ?_
  refine bI_c (fun hd => hri _ hd) ?_
  refine bI_c (fun hd => t_L hX cls_al (fun ad P G cells slots F hX h => s_al_n hX hd rfl rfl)) ?_
  refine bI_c (fun hd => t_L hX cls_al (fun ad P G cells slots F hX h => s_al_n hX hd rfl rfl)) ?_
  refine bI_c (fun hd => t_L hX cls_il (fun ad P G cells slots F hX h => s_il_n hX hd rfl rfl)) ?_
  refine bI_c (fun hd => t_L hX cls_ii (fun ad P G cells slots F hX h => s_ii hX hd (by decide) rfl)) ?_
  refine bI_c (fun hd => t_L hX cls_bi (fun ad P G cells slots F hX h => s_iadd hX hd rfl)) ?_
  refine bI_c (fun hd => t_sld hX hSc hd rfl) ?_
  refine bI_c (fun hd => t_L hX cls_al (fun ad P G cells slots F hX h => s_al_n hX hd rfl rfl)) ?_
  refine bI_c (fun hd => t_L hX cls_il (fun ad P G cells slots F hX h => s_il_n hX hd rfl rfl)) ?_
  refine bI_c (fun hd => t_L hX cls_ii (fun ad P G cells slots F hX h => s_ii hX hd (by decide) rfl)) ?_
  refine bI_c (fun hd => t_L hX cls_bi (fun ad P G cells slots F hX h => s_iadd hX hd rfl)) ?_
  refine bI_c (fun hd => t_sld hX hSc hd rfl) ?_
  refine bI_c (fun hd => t_L hX cls_al (fun ad P G cells slots F hX h => s_al_n hX hd rfl rfl)) ?_
  refine bI_c (fun hd => t_L hX cls_il (fun ad P G cells slots F hX h => s_il_n hX hd rfl rfl)) ?_
  refine bI_c (fun hd => t_L hX cls_ii (fun ad P G cells slots F hX h => s_ii hX hd (by decide) rfl)) ?_
  refine bI_c (fun hd => t_L hX cls_bi (fun ad P G cells slots F hX h => s_iadd hX hd rfl)) ?_
  refine bI_c (fun hd => t_sld hX hSc hd rfl) ?_
  refine bI_c (fun hd => t_L hX (cls_cV zX4_kinds) (fun ad P G cells slots F hX h => s_cV hX (T := TX4) (N := 9) (nX4_kinds l) rfl (wg_V up lmL_115 loX4_kinds) rfl rfl rfl (by decide +kernel) ⟨by decide, by decide⟩ h hd rfl)) ?_
  refine bI_c (fun hd => t_L hX cls_al (fun ad P G cells slots F hX h => s_al_n hX hd rfl rfl)) ?_
  refine bI_c (fun hd => t_L hX cls_al (fun ad P G cells slots F hX h => s_al_n hX hd rfl rfl)) ?_
  refine bI_c (fun hd => t_L hX cls_il (fun ad P G cells slots F hX h => s_il_n hX hd rfl rfl)) ?_
  refine bI_c (fun hd => t_L hX cls_ii (fun ad P G cells slots F hX h => s_ii hX hd (by decide) rfl)) ?_
  refine bI_c (fun hd => t_L hX cls_bi (fun ad P G cells slots F hX h => s_iadd hX hd rfl)) ?_
  refine bI_c (fun hd => t_sld hX hSc hd rfl) ?_
  refine bI_c (fun hd => t_L hX cls_al (fun ad P G cells slots F hX h => s_al_n hX hd rfl rfl)) ?_
  refine bI_c (fun hd => t_L hX cls_il (fun ad P G cells slots F hX h => s_il_n hX hd rfl rfl)) ?_
  refine bI_c (fun hd => t_L hX cls_ii (fun ad P G cells slots F hX h => s_ii hX hd (by decide) rfl)) ?_
  refine bI_c (fun hd => t_L hX cls_bi (fun ad P G cells slots F hX h => s_iadd hX hd rfl)) ?_
  refine bI_c (fun hd => t_sld hX hSc hd rfl) ?_
  refine bI_c (fun hd => t_L hX cls_al (fun ad P G cells slots F hX h => s_al_n hX hd rfl rfl)) ?_
  refine bI_c (fun hd => t_L hX cls_il (fun ad P G cells slots F hX h => s_il_n hX hd rfl rfl)) ?_
  refine bI_c (fun hd => t_L hX cls_ii (fun ad P G cells slots F hX h => s_ii hX hd (by decide) rfl)) ?_
  refine bI_c (fun hd => t_L hX cls_bi (fun ad P G cells slots F hX h => s_iadd hX hd rfl)) ?_
  refine bI_c (fun hd => t_sld hX hSc hd rfl) ?_
  refine bI_c (fun hd => t_L hX (cls_cV zX5_kinds) (fun ad P G cells slots F hX h => s_cV hX (T := TX5) (N := 35) (nX5_kinds l) rfl (wg_V up lmL_118 loX5_kinds) rfl rfl rfl (by decide +kernel) ⟨by decide, by decide⟩ h hd rfl)) ?_
  refine bI_c (fun hd => t_L hX cls_ic (fun ad P G cells slots F hX h => s_ic_eq hX hd (by decide) rfl)) ?_
  refine bI_c (fun hd => t_L hX cls_ii (fun ad P G cells slots F hX h => s_ii hX hd (by decide) rfl)) ?_
  refine bI_c (fun hd => hri _ hd) ?_
  refine bI_c (fun hd => t_L hX cls_al (fun ad P G cells slots F hX h => s_al_n hX hd rfl rfl)) ?_
  refine bI_c (fun hd => t_L hX cls_al (fun ad P G cells slots F hX h => s_al_n hX hd rfl rfl)) ?_
  refine bI_c (fun hd => t_L hX cls_il (fun ad P G cells slots F hX h => s_il_n hX hd rfl rfl)) ?_
  refine bI_c (fun hd => t_L hX cls_ii (fun ad P G cells slots F hX h => s_ii hX hd (by decide) rfl)) ?_
  refine bI_c (fun hd => t_L hX cls_bi (fun ad P G cells slots F hX h => s_iadd hX hd rfl)) ?_
  refine bI_c (fun hd => t_sld hX hSc hd rfl) ?_
  refine bI_c (fun hd => t_L hX cls_al (fun ad P G cells slots F hX h => s_al_n hX hd rfl rfl)) ?_
  refine bI_c (fun hd => t_L hX cls_il (fun ad P G cells slots F hX h => s_il_n hX hd rfl rfl)) ?_
  refine bI_c (fun hd => t_L hX cls_ii (fun ad P G cells slots F hX h => s_ii hX hd (by decide) rfl)) ?_
  refine bI_c (fun hd => t_L hX cls_bi (fun ad P G cells slots F hX h => s_iadd hX hd rfl)) ?_
  refine bI_c (fun hd => t_sld hX hSc hd rfl) ?_
  refine bI_c (fun hd => t_L hX (cls_cV zX4_turned) (fun ad P G cells slots F hX h => s_cV hX (T := TX4) (N := 9) (nX4_turned l) rfl (wg_V up lmL_119 loX4_turned) rfl rfl rfl (by decide +kernel) ⟨by decide, by decide⟩ h hd rfl)) ?_
  refine bI_c (fun hd => t_L hX cls_al (fun ad P G cells slots F hX h => s_al_n hX hd rfl rfl)) ?_
  refine bI_c (fun hd => t_L hX cls_al (fun ad P G cells slots F hX h => s_al_n hX hd rfl rfl)) ?_
  refine bI_c (fun hd => t_L hX cls_il (fun ad P G cells slots F hX h => s_il_n hX hd rfl rfl)) ?_
  refine bI_c (fun hd => t_L hX cls_ii (fun ad P G cells slots F hX h => s_ii hX hd (by decide) rfl)) ?_
  refine bI_c (fun hd => t_L hX cls_bi (fun ad P G cells slots F hX h => s_iadd hX hd rfl)) ?_
  refine bI_c (fun hd => t_sld hX hSc hd rfl) ?_
  refine bI_c (fun hd => t_L hX cls_al (fun ad P G cells slots F hX h => s_al_n hX hd rfl rfl)) ?_
  refine bI_c (fun hd => t_L hX cls_il (fun ad P G cells slots F hX h => s_il_n hX hd rfl rfl)) ?_
  refine bI_c (fun hd => t_L hX cls_ii (fun ad P G cells slots F hX h => s_ii hX hd (by decide) rfl)) ?_
  refine bI_c (fun hd => t_L hX cls_bi (fun ad P G cells slots F hX h => s_iadd hX hd rfl)) ?_
  refine bI_c (fun hd => t_sld hX hSc hd rfl) ?_
  refine bI_c (fun hd => t_L hX (cls_cV zX5_turned) (fun ad P G cells slots F hX h => s_cV hX (T := TX5) (N := 35) (nX5_turned l) rfl (wg_V up lmL_122 loX5_turned) rfl rfl rfl (by decide +kernel) ⟨by decide, by decide⟩ h hd rfl)) ?_
  refine bI_c (fun hd => t_L hX cls_ic (fun ad P G cells slots F hX h => s_ic_eq hX hd (by decide) rfl)) ?_
  refine bI_c (fun hd => t_L hX cls_ii (fun ad P G cells slots F hX h => s_ii hX hd (by decide) rfl)) ?_
  refine bI_c (fun hd => hri _ hd) ?_
  refine bI_c (fun hd => t_L hX cls_al (fun ad P G cells slots F hX h => s_al_n hX hd rfl rfl)) ?_
  refine bI_c (fun hd => t_L hX cls_al (fun ad P G cells slots F hX h => s_al_n hX hd rfl rfl)) ?_
  refine bI_c (fun hd => t_L hX cls_il (fun ad P G cells slots F hX h => s_il_n hX hd rfl rfl)) ?_
  refine bI_c (fun hd => t_L hX cls_ii (fun ad P G cells slots F hX h => s_ii hX hd (by decide) rfl)) ?_
  refine bI_c (fun hd => t_L hX cls_bi (fun ad P G cells slots F hX h => s_iadd hX hd rfl)) ?_
  refine bI_c (fun hd => t_sld hX hSc hd rfl) ?_
  refine bI_c (fun hd => t_L hX cls_al (fun ad P G cells slots F hX h => s_al_n hX hd rfl rfl)) ?_
  refine bI_c (fun hd => t_L hX cls_il (fun ad P G cells slots F hX h => s_il_n hX hd rfl rfl)) ?_
  refine bI_c (fun hd => t_L hX cls_ii (fun ad P G cells slots F hX h => s_ii hX hd (by decide) rfl)) ?_
  refine bI_c (fun hd => t_L hX cls_bi (fun ad P G cells slots F hX h => s_iadd hX hd rfl)) ?_
  refine bI_c (fun hd => t_sld hX hSc hd rfl) ?_
  refine bI_c (fun hd => t_L hX cls_al (fun ad P G cells slots F hX h => s_al_n hX hd rfl rfl)) ?_
  refine bI_c (fun hd => t_L hX cls_il (fun ad P G cells slots F hX h => s_il_n hX hd rfl rfl)) ?_
  refine bI_c (fun hd => t_L hX cls_ii (fun ad P G cells slots F hX h => s_ii hX hd (by decide) rfl)) ?_
  refine bI_c (fun hd => t_L hX cls_bi (fun ad P G cells slots F hX h => s_iadd hX hd rfl)) ?_
  refine bI_c (fun hd => t_sld hX hSc hd rfl) ?_
  refine bI_c (fun hd => t_L hX cls_al (fun ad P G cells slots F hX h => s_al_n hX hd rfl rfl)) ?_
  refine bI_c (fun hd => t_L hX cls_il (fun ad P G cells slots F hX h => s_il_n hX hd rfl rfl)) ?_
  refine bI_c (fun hd => t_L hX cls_ii (fun ad P G cells slots F hX h => s_ii hX hd (by decide) rfl)) ?_
  refine bI_c (fun hd => t_L hX cls_bi (fun ad P G cells slots F hX h => s_iadd hX hd rfl)) ?_
  refine bI_c (fun hd => t_sld hX hSc hd rfl) ?_
  refine bI_c (fun hd => t_L hX (cls_cV zX4_states) (fun ad P G cells slots F hX h => s_cV hX (T := TX4) (N := 9) (nX4_states l) rfl (wg_V up lmL_123 loX4_states) rfl rfl rfl (by decide +kernel) ⟨by decide, by decide⟩ h hd rfl)) ?_
  refine bI_c (fun hd => t_L hX cls_al (fun ad P G cells slots F hX h => s_al_n hX hd rfl rfl)) ?_
  refine bI_c (fun hd => t_L hX cls_al (fun ad P G cells slots F hX h => s_al_n hX hd rfl rfl)) ?_
  refine bI_c (fun hd => t_L hX cls_il (fun ad P G cells slots F hX h => s_il_n hX hd rfl rfl)) ?_
  refine bI_c (fun hd => t_L hX cls_ii (fun ad P G cells slots F hX h => s_ii hX hd (by decide) rfl)) ?_
  refine bI_c (fun hd => t_L hX cls_bi (fun ad P G cells slots F hX h => s_iadd hX hd rfl)) ?_
  refine bI_c (fun hd => t_sld hX hSc hd rfl) ?_
  refine bI_c (fun hd => t_L hX cls_al (fun ad P G cells slots F hX h => s_al_n hX hd rfl rfl)) ?_
  refine bI_c (fun hd => t_L hX cls_il (fun ad P G cells slots F hX h => s_il_n hX hd rfl rfl)) ?_
  refine bI_c (fun hd => t_L hX cls_ii (fun ad P G cells slots F hX h => s_ii hX hd (by decide) rfl)) ?_
  refine bI_c (fun hd => t_L hX cls_bi (fun ad P G cells slots F hX h => s_iadd hX hd rfl)) ?_
  refine bI_c (fun hd => t_sld hX hSc hd rfl) ?_
  refine bI_c (fun hd => t_L hX cls_al (fun ad P G cells slots F hX h => s_al_n hX hd rfl rfl)) ?_
  refine bI_c (fun hd => t_L hX cls_il (fun ad P G cells slots F hX h => s_il_n hX hd rfl rfl)) ?_
  refine bI_c (fun hd => t_L hX cls_ii (fun ad P G cells slots F hX h => s_ii hX hd (by decide) rfl)) ?_
  refine bI_c (fun hd => t_L hX cls_bi (fun ad P G cells slots F hX h => s_iadd hX hd rfl)) ?_
  refine bI_c (fun hd => t_sld hX hSc hd rfl) ?_
  refine bI_c (fun hd => t_L hX cls_al (fun ad P G cells slots F hX h => s_al_n hX hd rfl rfl)) ?_
  refine bI_c (fun hd => t_L hX cls_il (fun ad P G cells slots F hX h => s_il_n hX hd rfl rfl)) ?_
  refine bI_c (fun hd => t_L hX cls_ii (fun ad P G cells slots F hX h => s_ii hX hd (by decide) rfl)) ?_
  refine bI_c (fun hd => t_L hX cls_bi (fun ad P G cells slots F hX h => s_iadd hX hd rfl)) ?_
  refine bI_c (fun hd => t_sld hX hSc hd rfl) ?_
  refine bI_c (fun hd => t_L hX (cls_cV zX5_states) (fun ad P G cells slots F hX h => s_cV hX (T := TX5) (N := 35) (nX5_states l) rfl (wg_V up lmL_127 loX5_states) rfl rfl rfl (by decide +kernel) ⟨by decide, by decide⟩ h hd rfl)) ?_
  refine bI_c (fun hd => t_L hX cls_ic (fun ad P G cells slots F hX h => s_ic_eq hX hd (by decide) rfl)) ?_
  refine bI_c (fun hd => t_L hX cls_ii (fun ad P G cells slots F hX h => s_ii hX hd (by decide) rfl)) ?_
  refine bI_c (fun hd => hri _ hd) ?_
  refine bI_c (fun hd => t_L hX cls_al (fun ad P G cells slots F hX h => s_al_n hX hd rfl rfl)) ?_
  refine bI_c (fun hd => t_L hX cls_al (fun ad P G cells slots F hX h => s_al_n hX hd rfl rfl)) ?_
  refine bI_c (fun hd => t_L hX cls_il (fun ad P G cells slots F hX h => s_il_n hX hd rfl rfl)) ?_
  refine bI_c (fun hd => t_L hX cls_ii (fun ad P G cells slots F hX h => s_ii hX hd (by decide) rfl)) ?_
  refine bI_c (fun hd => t_L hX cls_bi (fun ad P G cells slots F hX h => s_iadd hX hd rfl)) ?_
  refine bI_c (fun hd => t_sld hX hSc hd rfl) ?_
  refine bI_c (fun hd => t_L hX (cls_cV zX4_dropped) (fun ad P G cells slots F hX h => s_cV hX (T := TX4) (N := 9) (nX4_dropped l) rfl (wg_V up lmL_128 loX4_dropped) rfl rfl rfl (by decide +kernel) ⟨by decide, by decide⟩ h hd rfl)) ?_
  refine bI_c (fun hd => t_L hX cls_al (fun ad P G cells slots F hX h => s_al_n hX hd rfl rfl)) ?_
  refine bI_c (fun hd => t_L hX cls_al (fun ad P G cells slots F hX h => s_al_n hX hd rfl rfl)) ?_
  refine bI_c (fun hd => t_L hX cls_il (fun ad P G cells slots F hX h => s_il_n hX hd rfl rfl)) ?_
  refine bI_c (fun hd => t_L hX cls_ii (fun ad P G cells slots F hX h => s_ii hX hd (by decide) rfl)) ?_
  refine bI_c (fun hd => t_L hX cls_bi (fun ad P G cells slots F hX h => s_iadd hX hd rfl)) ?_
  refine bI_c (fun hd => t_sld hX hSc hd rfl) ?_
  refine bI_c (fun hd => t_L hX (cls_cV zX5_dropped) (fun ad P G cells slots F hX h => s_cV hX (T := TX5) (N := 35) (nX5_dropped l) rfl (wg_V up lmL_131 loX5_dropped) rfl rfl rfl (by decide +kernel) ⟨by decide, by decide⟩ h hd rfl)) ?_
  refine bI_c (fun hd => t_L hX cls_ic (fun ad P G cells slots F hX h => s_ic_eq hX hd (by decide) rfl)) ?_
  refine bI_c (fun hd => t_L hX cls_ii (fun ad P G cells slots F hX h => s_ii hX hd (by decide) rfl)) ?_
  refine bI_c (fun hd => hri _ hd) ?_
  refine bI_c (fun hd => t_L hX cls_al (fun ad P G cells slots F hX h => s_al_n hX hd rfl rfl)) ?_
  refine bI_c (fun hd => t_L hX cls_al (fun ad P G cells slots F hX h => s_al_n hX hd rfl rfl)) ?_
  refine bI_c (fun hd => t_L hX cls_il (fun ad P G cells slots F hX h => s_il_n hX hd rfl rfl)) ?_
  refine bI_c (fun hd => t_L hX cls_ii (fun ad P G cells slots F hX h => s_ii hX hd (by decide) rfl)) ?_
  refine bI_c (fun hd => t_L hX cls_bi (fun ad P G cells slots F hX h => s_iadd hX hd rfl)) ?_
  refine bI_c (fun hd => t_sld hX hSc hd rfl) ?_
  refine bI_c (fun hd => t_L hX (cls_cV zX4_laws) (fun ad P G cells slots F hX h => s_cV hX (T := TX4) (N := 9) (nX4_laws l) rfl (wg_V up lmL_132 loX4_laws) rfl rfl rfl (by decide +kernel) ⟨by decide, by decide⟩ h hd rfl)) ?_
  refine bI_c (fun hd => t_L hX cls_al (fun ad P G cells slots F hX h => s_al_n hX hd rfl rfl)) ?_
  refine bI_c (fun hd => t_L hX cls_al (fun ad P G cells slots F hX h => s_al_n hX hd rfl rfl)) ?_
  refine bI_c (fun hd => t_L hX cls_il (fun ad P G cells slots F hX h => s_il_n hX hd rfl rfl)) ?_
  refine bI_c (fun hd => t_L hX cls_ii (fun ad P G cells slots F hX h => s_ii hX hd (by decide) rfl)) ?_
  refine bI_c (fun hd => t_L hX cls_bi (fun ad P G cells slots F hX h => s_iadd hX hd rfl)) ?_
  refine bI_c (fun hd => t_sld hX hSc hd rfl) ?_
  refine bI_c (fun hd => t_L hX (cls_cV zX5_laws) (fun ad P G cells slots F hX h => s_cV hX (T := TX5) (N := 35) (nX5_laws l) rfl (wg_V up lmL_135 loX5_laws) rfl rfl rfl (by decide +kernel) ⟨by decide, by decide⟩ h hd rfl)) ?_
  refine bI_c (fun hd => t_L hX cls_ic (fun ad P G cells slots F hX h => s_ic_eq hX hd (by decide) rfl)) ?_
  refine bI_c (fun hd => t_L hX cls_ii (fun ad P G cells slots F hX h => s_ii hX hd (by decide) rfl)) ?_
  refine bI_c (fun hd => hri _ hd) ?_
  refine bI_c (fun hd => t_L hX cls_al (fun ad P G cells slots F hX h => s_al_n hX hd rfl rfl)) ?_
  refine bI_c (fun hd => t_L hX cls_al (fun ad P G cells slots F hX h => s_al_n hX hd rfl rfl)) ?_
  refine bI_c (fun hd => t_L hX cls_il (fun ad P G cells slots F hX h => s_il_n hX hd rfl rfl)) ?_
  refine bI_c (fun hd => t_L hX cls_ii (fun ad P G cells slots F hX h => s_ii hX hd (by decide) rfl)) ?_
  refine bI_c (fun hd => t_L hX cls_bi (fun ad P G cells slots F hX h => s_iadd hX hd rfl)) ?_
  refine bI_c (fun hd => t_sld hX hSc hd rfl) ?_
  refine bI_c (fun hd => t_L hX cls_al (fun ad P G cells slots F hX h => s_al_n hX hd rfl rfl)) ?_
  refine bI_c (fun hd => t_L hX cls_il (fun ad P G cells slots F hX h => s_il_n hX hd rfl rfl)) ?_
  refine bI_c (fun hd => t_L hX cls_ii (fun ad P G cells slots F hX h => s_ii hX hd (by decide) rfl)) ?_
  refine bI_c (fun hd => t_L hX cls_bi (fun ad P G cells slots F hX h => s_iadd hX hd rfl)) ?_
  refine bI_c (fun hd => t_sld hX hSc hd rfl) ?_
  refine bI_c (fun hd => t_L hX (cls_cV zX4_film) (fun ad P G cells slots F hX h => s_cV hX (T := TX4) (N := 9) (nX4_film l) rfl (wg_V up lmL_136 loX4_film) rfl rfl rfl (by decide +kernel) ⟨by decide, by decide⟩ h hd rfl)) ?_
  refine bI_c (fun hd => t_L hX cls_al (fun ad P G cells slots F hX h => s_al_n hX hd rfl rfl)) ?_
  refine bI_c (fun hd => t_L hX cls_al (fun ad P G cells slots F hX h => s_al_n hX hd rfl rfl)) ?_
  refine bI_c (fun hd => t_L hX cls_il (fun ad P G cells slots F hX h => s_il_n hX hd rfl rfl)) ?_
  refine bI_c (fun hd => t_L hX cls_ii (fun ad P G cells slots F hX h => s_ii hX hd (by decide) rfl)) ?_
  refine bI_c (fun hd => t_L hX cls_bi (fun ad P G cells slots F hX h => s_iadd hX hd rfl)) ?_
  refine bI_c (fun hd => t_sld hX hSc hd rfl) ?_
  refine bI_c (fun hd => t_L hX cls_al (fun ad P G cells slots F hX h => s_al_n hX hd rfl rfl)) ?_
  refine bI_c (fun hd => t_L hX cls_il (fun ad P G cells slots F hX h => s_il_n hX hd rfl rfl)) ?_
  refine bI_c (fun hd => t_L hX cls_ii (fun ad P G cells slots F hX h => s_ii hX hd (by decide) rfl)) ?_
  refine bI_c (fun hd => t_L hX cls_bi (fun ad P G cells slots F hX h => s_iadd hX hd rfl)) ?_
  refine bI_c (fun hd => t_sld hX hSc hd rfl) ?_
  refine bI_c (fun hd => t_L hX (cls_cV zX5_film) (fun ad P G cells slots F hX h => s_cV hX (T := TX5) (N := 35) (nX5_film l) rfl (wg_V up lmL_139 loX5_film) rfl rfl rfl (by decide +kernel) ⟨by decide, by decide⟩ h hd rfl)) ?_
  refine bI_c (fun hd => t_L hX cls_ic (fun ad P G cells slots F hX h => s_ic_eq hX hd (by decide) rfl)) ?_
  refine bI_c (fun hd => t_L hX cls_ii (fun ad P G cells slots F hX h => s_ii hX hd (by decide) rfl)) ?_
  refine bI_c (fun hd => hri _ hd) ?_
  refine bI_c (fun hd => t_L hX cls_al (fun ad P G cells slots F hX h => s_al_n hX hd rfl rfl)) ?_
  refine bI_c (fun hd => t_L hX cls_al (fun ad P G cells slots F hX h => s_al_n hX hd rfl rfl)) ?_
  refine bI_c (fun hd => t_L hX cls_il (fun ad P G cells slots F hX h => s_il_n hX hd rfl rfl)) ?_
  refine bI_c (fun hd => t_L hX cls_ii (fun ad P G cells slots F hX h => s_ii hX hd (by decide) rfl)) ?_
  refine bI_c (fun hd => t_L hX cls_bi (fun ad P G cells slots F hX h => s_iadd hX hd rfl)) ?_
  refine bI_c (fun hd => t_sld hX hSc hd rfl) ?_
  refine bI_c (fun hd => t_L hX cls_al (fun ad P G cells slots F hX h => s_al_n hX hd rfl rfl)) ?_
  refine bI_c (fun hd => t_L hX cls_il (fun ad P G cells slots F hX h => s_il_n hX hd rfl rfl)) ?_
  refine bI_c (fun hd => t_L hX cls_ii (fun ad P G cells slots F hX h => s_ii hX hd (by decide) rfl)) ?_
  refine bI_c (fun hd => t_L hX cls_bi (fun ad P G cells slots F hX h => s_iadd hX hd rfl)) ?_
  refine bI_c (fun hd => t_sld hX hSc hd rfl) ?_
  refine bI_c (fun hd => t_L hX (cls_cV zX4_drawn) (fun ad P G cells slots F hX h => s_cV hX (T := TX4) (N := 9) (nX4_drawn l) rfl (wg_V up lmL_140 loX4_drawn) rfl rfl rfl (by decide +kernel) ⟨by decide, by decide⟩ h hd rfl)) ?_
  refine bI_c (fun hd => t_L hX cls_al (fun ad P G cells slots F hX h => s_al_n hX hd rfl rfl)) ?_
  refine bI_c (fun hd => t_L hX cls_al (fun ad P G cells slots F hX h => s_al_n hX hd rfl rfl)) ?_
  refine bI_c (fun hd => t_L hX cls_il (fun ad P G cells slots F hX h => s_il_n hX hd rfl rfl)) ?_
  refine bI_c (fun hd => t_L hX cls_ii (fun ad P G cells slots F hX h => s_ii hX hd (by decide) rfl)) ?_
  refine bI_c (fun hd => t_L hX cls_bi (fun ad P G cells slots F hX h => s_iadd hX hd rfl)) ?_
  refine bI_c (fun hd => t_sld hX hSc hd rfl) ?_
  refine bI_c (fun hd => t_L hX cls_al (fun ad P G cells slots F hX h => s_al_n hX hd rfl rfl)) ?_
  refine bI_c (fun hd => t_L hX cls_il (fun ad P G cells slots F hX h => s_il_n hX hd rfl rfl)) ?_
  refine bI_c (fun hd => t_L hX cls_ii (fun ad P G cells slots F hX h => s_ii hX hd (by decide) rfl)) ?_
  refine bI_c (fun hd => t_L hX cls_bi (fun ad P G cells slots F hX h => s_iadd hX hd rfl)) ?_
  refine bI_c (fun hd => t_sld hX hSc hd rfl) ?_
  refine bI_c (fun hd => t_L hX (cls_cV zX5_drawn) (fun ad P G cells slots F hX h => s_cV hX (T := TX5) (N := 35) (nX5_drawn l) rfl (wg_V up lmL_143 loX5_drawn) rfl rfl rfl (by decide +kernel) ⟨by decide, by decide⟩ h hd rfl)) ?_
  refine bI_c (fun hd => t_L hX cls_ic (fun ad P G cells slots F hX h => s_ic_eq hX hd (by decide) rfl)) ?_
  refine bI_c (fun hd => t_L hX cls_ii (fun ad P G cells slots F hX h => s_ii hX hd (by decide) rfl)) ?_
  refine bI_c (fun hd => hri _ hd) ?_
  refine bI_c (fun hd => t_L hX cls_al (fun ad P G cells slots F hX h => s_al_n hX hd rfl rfl)) ?_
  refine bI_c (fun hd => t_L hX cls_al (fun ad P G cells slots F hX h => s_al_n hX hd rfl rfl)) ?_
  refine bI_c (fun hd => t_L hX cls_il (fun ad P G cells slots F hX h => s_il_n hX hd rfl rfl)) ?_
  refine bI_c (fun hd => t_L hX cls_ii (fun ad P G cells slots F hX h => s_ii hX hd (by decide) rfl)) ?_
  refine bI_c (fun hd => t_L hX cls_bi (fun ad P G cells slots F hX h => s_iadd hX hd rfl)) ?_
  refine bI_c (fun hd => t_sld hX hSc hd rfl) ?_
  refine bI_c (fun hd => t_L hX cls_al (fun ad P G cells slots F hX h => s_al_n hX hd rfl rfl)) ?_
  refine bI_c (fun hd => t_L hX cls_il (fun ad P G cells slots F hX h => s_il_n hX hd rfl rfl)) ?_
  refine bI_c (fun hd => t_L hX cls_ii (fun ad P G cells slots F hX h => s_ii hX hd (by decide) rfl)) ?_
  refine bI_c (fun hd => t_L hX cls_bi (fun ad P G cells slots F hX h => s_iadd hX hd rfl)) ?_
  refine bI_c (fun hd => t_sld hX hSc hd rfl) ?_
  refine bI_c (fun hd => t_L hX cls_al (fun ad P G cells slots F hX h => s_al_n hX hd rfl rfl)) ?_
  refine bI_c (fun hd => t_L hX cls_il (fun ad P G cells slots F hX h => s_il_n hX hd rfl rfl)) ?_
  refine bI_c (fun hd => t_L hX cls_ii (fun ad P G cells slots F hX h => s_ii hX hd (by decide) rfl)) ?_
  refine bI_c (fun hd => t_L hX cls_bi (fun ad P G cells slots F hX h => s_iadd hX hd rfl)) ?_
  refine bI_c (fun hd => t_sld hX hSc hd rfl) ?_
  refine bI_c (fun hd => t_L hX cls_al (fun ad P G cells slots F hX h => s_al_n hX hd rfl rfl)) ?_
  refine bI_c (fun hd => t_L hX cls_il (fun ad P G cells slots F hX h => s_il_n hX hd rfl rfl)) ?_
  refine bI_c (fun hd => t_L hX cls_ii (fun ad P G cells slots F hX h => s_ii hX hd (by decide) rfl)) ?_
  refine bI_c (fun hd => t_L hX cls_bi (fun ad P G cells slots F hX h => s_iadd hX hd rfl)) ?_
  refine bI_c (fun hd => t_sld hX hSc hd rfl) ?_
  refine bI_c (fun hd => t_L hX (cls_cV zX4_odds) (fun ad P G cells slots F hX h => s_cV hX (T := TX4) (N := 9) (nX4_odds l) rfl (wg_V up lmL_144 loX4_odds) rfl rfl rfl (by decide +kernel) ⟨by decide, by decide⟩ h hd rfl)) ?_
  refine bI_c (fun hd => t_L hX cls_al (fun ad P G cells slots F hX h => s_al_n hX hd rfl rfl)) ?_
  refine bI_c (fun hd => t_L hX cls_al (fun ad P G cells slots F hX h => s_al_n hX hd rfl rfl)) ?_
  refine bI_c (fun hd => t_L hX cls_il (fun ad P G cells slots F hX h => s_il_n hX hd rfl rfl)) ?_
  refine bI_c (fun hd => t_L hX cls_ii (fun ad P G cells slots F hX h => s_ii hX hd (by decide) rfl)) ?_
  refine bI_c (fun hd => t_L hX cls_bi (fun ad P G cells slots F hX h => s_iadd hX hd rfl)) ?_
  refine bI_c (fun hd => t_sld hX hSc hd rfl) ?_
  refine bI_c (fun hd => t_L hX cls_al (fun ad P G cells slots F hX h => s_al_n hX hd rfl rfl)) ?_
  refine bI_c (fun hd => t_L hX cls_il (fun ad P G cells slots F hX h => s_il_n hX hd rfl rfl)) ?_
  refine bI_c (fun hd => t_L hX cls_ii (fun ad P G cells slots F hX h => s_ii hX hd (by decide) rfl)) ?_
  refine bI_c (fun hd => t_L hX cls_bi (fun ad P G cells slots F hX h => s_iadd hX hd rfl)) ?_
  refine bI_c (fun hd => t_sld hX hSc hd rfl) ?_
  refine bI_c (fun hd => t_L hX cls_al (fun ad P G cells slots F hX h => s_al_n hX hd rfl rfl)) ?_
  refine bI_c (fun hd => t_L hX cls_il (fun ad P G cells slots F hX h => s_il_n hX hd rfl rfl)) ?_
  refine bI_c (fun hd => t_L hX cls_ii (fun ad P G cells slots F hX h => s_ii hX hd (by decide) rfl)) ?_
  refine bI_c (fun hd => t_L hX cls_bi (fun ad P G cells slots F hX h => s_iadd hX hd rfl)) ?_
  refine bI_c (fun hd => t_sld hX hSc hd rfl) ?_
  refine bI_c (fun hd => t_L hX cls_al (fun ad P G cells slots F hX h => s_al_n hX hd rfl rfl)) ?_
  refine bI_c (fun hd => t_L hX cls_il (fun ad P G cells slots F hX h => s_il_n hX hd rfl rfl)) ?_
  refine bI_c (fun hd => t_L hX cls_ii (fun ad P G cells slots F hX h => s_ii hX hd (by decide) rfl)) ?_
  refine bI_c (fun hd => t_L hX cls_bi (fun ad P G cells slots F hX h => s_iadd hX hd rfl)) ?_
  refine bI_c (fun hd => t_sld hX hSc hd rfl) ?_
  refine bI_c (fun hd => t_L hX (cls_cV zX5_odds) (fun ad P G cells slots F hX h => s_cV hX (T := TX5) (N := 35) (nX5_odds l) rfl (wg_V up lmL_148 loX5_odds) rfl rfl rfl (by decide +kernel) ⟨by decide, by decide⟩ h hd rfl)) ?_
  refine bI_c (fun hd => t_L hX cls_lcm (fun ad P G cells slots F hX h => s_lcmp hX hd rfl)) ?_
  refine bI_c (fun hd => t_L hX cls_if (fun ad P G cells slots F hX h => s_if_eq hX hd (by decide) rfl)) ?_
  refine bI_c (fun hd => t_L hX cls_ii (fun ad P G cells slots F hX h => s_ii hX hd (by decide) rfl)) ?_
  refine bI_c (fun hd => hri _ hd) ?_
  refine bI_c (fun hd => t_L hX cls_al (fun ad P G cells slots F hX h => s_al_n hX hd rfl rfl)) ?_
  refine bI_c (fun hd => t_L hX (cls_cV zX4_image) (fun ad P G cells slots F hX h => s_cV hX (T := TX4) (N := 9) (nX4_image l) rfl (wg_V up lmL_149 loX4_image) rfl rfl rfl (by decide +kernel) ⟨by decide, by decide⟩ h hd rfl)) ?_
  refine bI_c (fun hd => t_L hX cls_al (fun ad P G cells slots F hX h => s_al_n hX hd rfl rfl)) ?_
  refine bI_c (fun hd => t_L hX (cls_cV zX5_image) (fun ad P G cells slots F hX h => s_cV hX (T := TX5) (N := 35) (nX5_image l) rfl (wg_V up lmL_152 loX5_image) rfl rfl rfl (by decide +kernel) ⟨by decide, by decide⟩ h hd rfl)) ?_
  refine bI_c (fun hd => t_L hX cls_ic (fun ad P G cells slots F hX h => s_ic_eq hX hd (by decide) rfl)) ?_
  refine bI_c (fun hd => t_L hX cls_ii (fun ad P G cells slots F hX h => s_ii hX hd (by decide) rfl)) ?_
  refine bI_c (fun hd => hri _ hd) ?_
  refine bI_c (fun hd => t_L hX cls_al (fun ad P G cells slots F hX h => s_al_n hX hd rfl rfl)) ?_
  refine bI_c (fun hd => t_L hX (cls_cV zX4_back) (fun ad P G cells slots F hX h => s_cV hX (T := TX4) (N := 9) (nX4_back l) rfl (wg_V up lmL_153 loX4_back) rfl rfl rfl (by decide +kernel) ⟨by decide, by decide⟩ h hd rfl)) ?_
  refine bI_c (fun hd => t_L hX cls_al (fun ad P G cells slots F hX h => s_al_n hX hd rfl rfl)) ?_
  refine bI_c (fun hd => t_L hX (cls_cV zX5_back) (fun ad P G cells slots F hX h => s_cV hX (T := TX5) (N := 35) (nX5_back l) rfl (wg_V up lmL_156 loX5_back) rfl rfl rfl (by decide +kernel) ⟨by decide, by decide⟩ h hd rfl)) ?_
  refine bI_c (fun hd => t_L hX cls_ic (fun ad P G cells slots F hX h => s_ic_eq hX hd (by decide) rfl)) ?_
  refine bI_c (fun hd => t_L hX cls_ii (fun ad P G cells slots F hX h => s_ii hX hd (by decide) rfl)) ?_
  refine bI_c (fun hd => hri _ hd) ?_
  refine bI_c (fun hd => t_L hX cls_al (fun ad P G cells slots F hX h => s_al_n hX hd rfl rfl)) ?_
  refine bI_c (fun hd => t_L hX cls_al (fun ad P G cells slots F hX h => s_al_n hX hd rfl rfl)) ?_
  refine bI_c (fun hd => t_L hX cls_il (fun ad P G cells slots F hX h => s_il_n hX hd rfl rfl)) ?_
  refine bI_c (fun hd => t_L hX cls_ii (fun ad P G cells slots F hX h => s_ii hX hd (by decide) rfl)) ?_
  refine bI_c (fun hd => t_L hX cls_bi (fun ad P G cells slots F hX h => s_iadd hX hd rfl)) ?_
  refine bI_c (fun hd => t_sld hX hSc hd rfl) ?_
  refine bI_c (fun hd => t_L hX cls_al (fun ad P G cells slots F hX h => s_al_n hX hd rfl rfl)) ?_
  refine bI_c (fun hd => t_L hX cls_il (fun ad P G cells slots F hX h => s_il_n hX hd rfl rfl)) ?_
  refine bI_c (fun hd => t_L hX cls_ii (fun ad P G cells slots F hX h => s_ii hX hd (by decide) rfl)) ?_
  refine bI_c (fun hd => t_L hX cls_bi (fun ad P G cells slots F hX h => s_iadd hX hd rfl)) ?_
  refine bI_c (fun hd => t_sld hX hSc hd rfl) ?_
  refine bI_c (fun hd => t_L hX cls_al (fun ad P G cells slots F hX h => s_al_n hX hd rfl rfl)) ?_
  refine bI_c (fun hd => t_L hX cls_il (fun ad P G cells slots F hX h => s_il_n hX hd rfl rfl)) ?_
  refine bI_c (fun hd => t_L hX cls_ii (fun ad P G cells slots F hX h => s_ii hX hd (by decide) rfl)) ?_
  refine bI_c (fun hd => t_L hX cls_bi (fun ad P G cells slots F hX h => s_iadd hX hd rfl)) ?_
  refine bI_c (fun hd => t_sld hX hSc hd rfl) ?_
  refine bI_c (fun hd => t_L hX (cls_cV zX4_sheet) (fun ad P G cells slots F hX h => s_cV hX (T := TX4) (N := 9) (nX4_sheet l) rfl (wg_V up lmL_157 loX4_sheet) rfl rfl rfl (by decide +kernel) ⟨by decide, by decide⟩ h hd rfl)) ?_
  refine bI_c (fun hd => t_L hX cls_al (fun ad P G cells slots F hX h => s_al_n hX hd rfl rfl)) ?_
  refine bI_c (fun hd => t_L hX cls_al (fun ad P G cells slots F hX h => s_al_n hX hd rfl rfl)) ?_
  refine bI_c (fun hd => t_L hX cls_il (fun ad P G cells slots F hX h => s_il_n hX hd rfl rfl)) ?_
  refine bI_c (fun hd => t_L hX cls_ii (fun ad P G cells slots F hX h => s_ii hX hd (by decide) rfl)) ?_
  refine bI_c (fun hd => t_L hX cls_bi (fun ad P G cells slots F hX h => s_iadd hX hd rfl)) ?_
  refine bI_c (fun hd => t_sld hX hSc hd rfl) ?_
  refine bI_c (fun hd => t_L hX cls_al (fun ad P G cells slots F hX h => s_al_n hX hd rfl rfl)) ?_
  refine bI_c (fun hd => t_L hX cls_il (fun ad P G cells slots F hX h => s_il_n hX hd rfl rfl)) ?_
  refine bI_c (fun hd => t_L hX cls_ii (fun ad P G cells slots F hX h => s_ii hX hd (by decide) rfl)) ?_
  refine bI_c (fun hd => t_L hX cls_bi (fun ad P G cells slots F hX h => s_iadd hX hd rfl)) ?_
  refine bI_c (fun hd => t_sld hX hSc hd rfl) ?_
  refine bI_c (fun hd => t_L hX cls_al (fun ad P G cells slots F hX h => s_al_n hX hd rfl rfl)) ?_
  refine bI_c (fun hd => t_L hX cls_il (fun ad P G cells slots F hX h => s_il_n hX hd rfl rfl)) ?_
  refine bI_c (fun hd => t_L hX cls_ii (fun ad P G cells slots F hX h => s_ii hX hd (by decide) rfl)) ?_
  refine bI_c (fun hd => t_L hX cls_bi (fun ad P G cells slots F hX h => s_iadd hX hd rfl)) ?_
  refine bI_c (fun hd => t_sld hX hSc hd rfl) ?_
  refine bI_c (fun hd => t_L hX (cls_cV zX5_sheet) (fun ad P G cells slots F hX h => s_cV hX (T := TX5) (N := 35) (nX5_sheet l) rfl (wg_V up lmL_160 loX5_sheet) rfl rfl rfl (by decide +kernel) ⟨by decide, by decide⟩ h hd rfl)) ?_
  refine bI_c (fun hd => t_L hX cls_ic (fun ad P G cells slots F hX h => s_ic_eq hX hd (by decide) rfl)) ?_
  refine bI_c (fun hd => t_L hX cls_ii (fun ad P G cells slots F hX h => s_ii hX hd (by decide) rfl)) ?_
  refine bI_c (fun hd => hri _ hd) ?_
  refine bI_c (fun hd => t_L hX cls_al (fun ad P G cells slots F hX h => s_al_n hX hd rfl rfl)) ?_
  refine bI_c (fun hd => t_L hX cls_al (fun ad P G cells slots F hX h => s_al_n hX hd rfl rfl)) ?_
  refine bI_c (fun hd => t_L hX cls_il (fun ad P G cells slots F hX h => s_il_n hX hd rfl rfl)) ?_
  refine bI_c (fun hd => t_L hX cls_ii (fun ad P G cells slots F hX h => s_ii hX hd (by decide) rfl)) ?_
  refine bI_c (fun hd => t_L hX cls_bi (fun ad P G cells slots F hX h => s_iadd hX hd rfl)) ?_
  refine bI_c (fun hd => t_sld hX hSc hd rfl) ?_
  refine bI_c (fun hd => t_L hX cls_al (fun ad P G cells slots F hX h => s_al_n hX hd rfl rfl)) ?_
  refine bI_c (fun hd => t_L hX cls_il (fun ad P G cells slots F hX h => s_il_n hX hd rfl rfl)) ?_
  refine bI_c (fun hd => t_L hX cls_ii (fun ad P G cells slots F hX h => s_ii hX hd (by decide) rfl)) ?_
  refine bI_c (fun hd => t_L hX cls_bi (fun ad P G cells slots F hX h => s_iadd hX hd rfl)) ?_
  refine bI_c (fun hd => t_sld hX hSc hd rfl) ?_
  refine bI_c (fun hd => t_L hX cls_al (fun ad P G cells slots F hX h => s_al_n hX hd rfl rfl)) ?_
  refine bI_c (fun hd => t_L hX cls_il (fun ad P G cells slots F hX h => s_il_n hX hd rfl rfl)) ?_
  refine bI_c (fun hd => t_L hX cls_ii (fun ad P G cells slots F hX h => s_ii hX hd (by decide) rfl)) ?_
  refine bI_c (fun hd => t_L hX cls_bi (fun ad P G cells slots F hX h => s_iadd hX hd rfl)) ?_
  refine bI_c (fun hd => t_sld hX hSc hd rfl) ?_
  refine bI_c (fun hd => t_L hX (cls_cV zX4_cell) (fun ad P G cells slots F hX h => s_cV hX (T := TX4) (N := 9) (nX4_cell l) rfl (wg_V up lmL_161 loX4_cell) rfl rfl rfl (by decide +kernel) ⟨by decide, by decide⟩ h hd rfl)) ?_
  refine bI_c (fun hd => t_L hX cls_al (fun ad P G cells slots F hX h => s_al_n hX hd rfl rfl)) ?_
  refine bI_c (fun hd => t_L hX cls_al (fun ad P G cells slots F hX h => s_al_n hX hd rfl rfl)) ?_
  refine bI_c (fun hd => t_L hX cls_il (fun ad P G cells slots F hX h => s_il_n hX hd rfl rfl)) ?_
  refine bI_c (fun hd => t_L hX cls_ii (fun ad P G cells slots F hX h => s_ii hX hd (by decide) rfl)) ?_
  refine bI_c (fun hd => t_L hX cls_bi (fun ad P G cells slots F hX h => s_iadd hX hd rfl)) ?_
  refine bI_c (fun hd => t_sld hX hSc hd rfl) ?_
  refine bI_c (fun hd => t_L hX cls_al (fun ad P G cells slots F hX h => s_al_n hX hd rfl rfl)) ?_
  refine bI_c (fun hd => t_L hX cls_il (fun ad P G cells slots F hX h => s_il_n hX hd rfl rfl)) ?_
  refine bI_c (fun hd => t_L hX cls_ii (fun ad P G cells slots F hX h => s_ii hX hd (by decide) rfl)) ?_
  refine bI_c (fun hd => t_L hX cls_bi (fun ad P G cells slots F hX h => s_iadd hX hd rfl)) ?_
  refine bI_c (fun hd => t_sld hX hSc hd rfl) ?_
  refine bI_c (fun hd => t_L hX cls_al (fun ad P G cells slots F hX h => s_al_n hX hd rfl rfl)) ?_
  refine bI_c (fun hd => t_L hX cls_il (fun ad P G cells slots F hX h => s_il_n hX hd rfl rfl)) ?_
  refine bI_c (fun hd => t_L hX cls_ii (fun ad P G cells slots F hX h => s_ii hX hd (by decide) rfl)) ?_
  refine bI_c (fun hd => t_L hX cls_bi (fun ad P G cells slots F hX h => s_iadd hX hd rfl)) ?_
  refine bI_c (fun hd => t_sld hX hSc hd rfl) ?_
  refine bI_c (fun hd => t_L hX (cls_cV zX5_cell) (fun ad P G cells slots F hX h => s_cV hX (T := TX5) (N := 35) (nX5_cell l) rfl (wg_V up lmL_164 loX5_cell) rfl rfl rfl (by decide +kernel) ⟨by decide, by decide⟩ h hd rfl)) ?_
  refine bI_c (fun hd => t_L hX cls_ic (fun ad P G cells slots F hX h => s_ic_eq hX hd (by decide) rfl)) ?_
  refine bI_c (fun hd => t_L hX cls_ii (fun ad P G cells slots F hX h => s_ii hX hd (by decide) rfl)) ?_
  refine bI_c (fun hd => hri _ hd) ?_
  refine bI_c (fun hd => t_L hX cls_al (fun ad P G cells slots F hX h => s_al_n hX hd rfl rfl)) ?_
  refine bI_c (fun hd => t_L hX cls_al (fun ad P G cells slots F hX h => s_al_n hX hd rfl rfl)) ?_
  refine bI_c (fun hd => t_L hX cls_il (fun ad P G cells slots F hX h => s_il_n hX hd rfl rfl)) ?_
  refine bI_c (fun hd => t_L hX cls_ii (fun ad P G cells slots F hX h => s_ii hX hd (by decide) rfl)) ?_
  refine bI_c (fun hd => t_L hX cls_bi (fun ad P G cells slots F hX h => s_iadd hX hd rfl)) ?_
  refine bI_c (fun hd => t_sld hX hSc hd rfl) ?_
  refine bI_c (fun hd => t_L hX cls_al (fun ad P G cells slots F hX h => s_al_n hX hd rfl rfl)) ?_
  refine bI_c (fun hd => t_L hX cls_il (fun ad P G cells slots F hX h => s_il_n hX hd rfl rfl)) ?_
  refine bI_c (fun hd => t_L hX cls_ii (fun ad P G cells slots F hX h => s_ii hX hd (by decide) rfl)) ?_
  refine bI_c (fun hd => t_L hX cls_bi (fun ad P G cells slots F hX h => s_iadd hX hd rfl)) ?_
  refine bI_c (fun hd => t_sld hX hSc hd rfl) ?_
  refine bI_c (fun hd => t_L hX cls_al (fun ad P G cells slots F hX h => s_al_n hX hd rfl rfl)) ?_
  refine bI_c (fun hd => t_L hX cls_il (fun ad P G cells slots F hX h => s_il_n hX hd rfl rfl)) ?_
  refine bI_c (fun hd => t_L hX cls_ii (fun ad P G cells slots F hX h => s_ii hX hd (by decide) rfl)) ?_
  refine bI_c (fun hd => t_L hX cls_bi (fun ad P G cells slots F hX h => s_iadd hX hd rfl)) ?_
  refine bI_c (fun hd => t_sld hX hSc hd rfl) ?_
  refine bI_c (fun hd => t_L hX cls_al (fun ad P G cells slots F hX h => s_al_n hX hd rfl rfl)) ?_
  refine bI_c (fun hd => t_L hX cls_il (fun ad P G cells slots F hX h => s_il_n hX hd rfl rfl)) ?_
  refine bI_c (fun hd => t_L hX cls_ii (fun ad P G cells slots F hX h => s_ii hX hd (by decide) rfl)) ?_
  refine bI_c (fun hd => t_L hX cls_bi (fun ad P G cells slots F hX h => s_iadd hX hd rfl)) ?_
  refine bI_c (fun hd => t_sld hX hSc hd rfl) ?_
  refine bI_c (fun hd => t_L hX cls_al (fun ad P G cells slots F hX h => s_al_n hX hd rfl rfl)) ?_
  refine bI_c (fun hd => t_L hX cls_il (fun ad P G cells slots F hX h => s_il_n hX hd rfl rfl)) ?_
  refine bI_c (fun hd => t_L hX cls_ii (fun ad P G cells slots F hX h => s_ii hX hd (by decide) rfl)) ?_
  refine bI_c (fun hd => t_L hX cls_bi (fun ad P G cells slots F hX h => s_iadd hX hd rfl)) ?_
  refine bI_c (fun hd => t_sld hX hSc hd rfl) ?_
  refine bI_c (fun hd => t_L hX (cls_cV zX4_copy) (fun ad P G cells slots F hX h => s_cV hX (T := TX4) (N := 9) (nX4_copy l) rfl (wg_V up lmL_165 loX4_copy) rfl rfl rfl (by decide +kernel) ⟨by decide, by decide⟩ h hd rfl)) ?_
  refine bI_c (fun hd => t_L hX cls_al (fun ad P G cells slots F hX h => s_al_n hX hd rfl rfl)) ?_
  refine bI_c (fun hd => t_L hX cls_al (fun ad P G cells slots F hX h => s_al_n hX hd rfl rfl)) ?_
  refine bI_c (fun hd => t_L hX cls_il (fun ad P G cells slots F hX h => s_il_n hX hd rfl rfl)) ?_
  refine bI_c (fun hd => t_L hX cls_ii (fun ad P G cells slots F hX h => s_ii hX hd (by decide) rfl)) ?_
  refine bI_c (fun hd => t_L hX cls_bi (fun ad P G cells slots F hX h => s_iadd hX hd rfl)) ?_
  refine bI_c (fun hd => t_sld hX hSc hd rfl) ?_
  refine bI_c (fun hd => t_L hX cls_al (fun ad P G cells slots F hX h => s_al_n hX hd rfl rfl)) ?_
  refine bI_c (fun hd => t_L hX cls_il (fun ad P G cells slots F hX h => s_il_n hX hd rfl rfl)) ?_
  refine bI_c (fun hd => t_L hX cls_ii (fun ad P G cells slots F hX h => s_ii hX hd (by decide) rfl)) ?_
  refine bI_c (fun hd => t_L hX cls_bi (fun ad P G cells slots F hX h => s_iadd hX hd rfl)) ?_
  refine bI_c (fun hd => t_sld hX hSc hd rfl) ?_
  refine bI_c (fun hd => t_L hX cls_al (fun ad P G cells slots F hX h => s_al_n hX hd rfl rfl)) ?_
  refine bI_c (fun hd => t_L hX cls_il (fun ad P G cells slots F hX h => s_il_n hX hd rfl rfl)) ?_
  refine bI_c (fun hd => t_L hX cls_ii (fun ad P G cells slots F hX h => s_ii hX hd (by decide) rfl)) ?_
  refine bI_c (fun hd => t_L hX cls_bi (fun ad P G cells slots F hX h => s_iadd hX hd rfl)) ?_
  refine bI_c (fun hd => t_sld hX hSc hd rfl) ?_
  refine bI_c (fun hd => t_L hX cls_al (fun ad P G cells slots F hX h => s_al_n hX hd rfl rfl)) ?_
  refine bI_c (fun hd => t_L hX cls_il (fun ad P G cells slots F hX h => s_il_n hX hd rfl rfl)) ?_
  refine bI_c (fun hd => t_L hX cls_ii (fun ad P G cells slots F hX h => s_ii hX hd (by decide) rfl)) ?_
  refine bI_c (fun hd => t_L hX cls_bi (fun ad P G cells slots F hX h => s_iadd hX hd rfl)) ?_
  refine bI_c (fun hd => t_sld hX hSc hd rfl) ?_
  refine bI_c (fun hd => t_L hX cls_al (fun ad P G cells slots F hX h => s_al_n hX hd rfl rfl)) ?_
  refine bI_c (fun hd => t_L hX cls_il (fun ad P G cells slots F hX h => s_il_n hX hd rfl rfl)) ?_
  refine bI_c (fun hd => t_L hX cls_ii (fun ad P G cells slots F hX h => s_ii hX hd (by decide) rfl)) ?_
  refine bI_c (fun hd => t_L hX cls_bi (fun ad P G cells slots F hX h => s_iadd hX hd rfl)) ?_
  refine bI_c (fun hd => t_sld hX hSc hd rfl) ?_
  refine bI_c (fun hd => t_L hX (cls_cV zX5_copy) (fun ad P G cells slots F hX h => s_cV hX (T := TX5) (N := 35) (nX5_copy l) rfl (wg_V up lmL_169 loX5_copy) rfl rfl rfl (by decide +kernel) ⟨by decide, by decide⟩ h hd rfl)) ?_
  refine bI_c (fun hd => t_L hX cls_ic (fun ad P G cells slots F hX h => s_ic_eq hX hd (by decide) rfl)) ?_
  refine bI_c (fun hd => t_L hX cls_ii (fun ad P G cells slots F hX h => s_ii hX hd (by decide) rfl)) ?_
  refine bI_c (fun hd => hri _ hd) ?_
  refine bI_c (fun hd => t_L hX cls_al (fun ad P G cells slots F hX h => s_al_n hX hd rfl rfl)) ?_
  refine bI_c (fun hd => t_L hX cls_al (fun ad P G cells slots F hX h => s_al_n hX hd rfl rfl)) ?_
  refine bI_c (fun hd => t_L hX cls_il (fun ad P G cells slots F hX h => s_il_n hX hd rfl rfl)) ?_
  refine bI_c (fun hd => t_L hX cls_ii (fun ad P G cells slots F hX h => s_ii hX hd (by decide) rfl)) ?_
  refine bI_c (fun hd => t_L hX cls_bi (fun ad P G cells slots F hX h => s_iadd hX hd rfl)) ?_
  refine bI_c (fun hd => t_sld hX hSc hd rfl) ?_
  refine bI_c (fun hd => t_L hX cls_al (fun ad P G cells slots F hX h => s_al_n hX hd rfl rfl)) ?_
  refine bI_c (fun hd => t_L hX cls_il (fun ad P G cells slots F hX h => s_il_n hX hd rfl rfl)) ?_
  refine bI_c (fun hd => t_L hX cls_ii (fun ad P G cells slots F hX h => s_ii hX hd (by decide) rfl)) ?_
  refine bI_c (fun hd => t_L hX cls_bi (fun ad P G cells slots F hX h => s_iadd hX hd rfl)) ?_
  refine bI_c (fun hd => t_sld hX hSc hd rfl) ?_
  refine bI_c (fun hd => t_L hX cls_al (fun ad P G cells slots F hX h => s_al_n hX hd rfl rfl)) ?_
  refine bI_c (fun hd => t_L hX cls_il (fun ad P G cells slots F hX h => s_il_n hX hd rfl rfl)) ?_
  refine bI_c (fun hd => t_L hX cls_ii (fun ad P G cells slots F hX h => s_ii hX hd (by decide) rfl)) ?_
  refine bI_c (fun hd => t_L hX cls_bi (fun ad P G cells slots F hX h => s_iadd hX hd rfl)) ?_
  refine bI_c (fun hd => t_sld hX hSc hd rfl) ?_
  refine bI_c (fun hd => t_L hX cls_al (fun ad P G cells slots F hX h => s_al_n hX hd rfl rfl)) ?_
  refine bI_c (fun hd => t_L hX cls_il (fun ad P G cells slots F hX h => s_il_n hX hd rfl rfl)) ?_
  refine bI_c (fun hd => t_L hX cls_ii (fun ad P G cells slots F hX h => s_ii hX hd (by decide) rfl)) ?_
  refine bI_c (fun hd => t_L hX cls_bi (fun ad P G cells slots F hX h => s_iadd hX hd rfl)) ?_
  refine bI_c (fun hd => t_sld hX hSc hd rfl) ?_
  refine bI_c (fun hd => t_L hX (cls_cV zX4_judgesBy) (fun ad P G cells slots F hX h => s_cV hX (T := TX4) (N := 9) (nX4_judgesBy l) rfl (wg_V up lmL_170 loX4_judgesBy) rfl rfl rfl (by decide +kernel) ⟨by decide, by decide⟩ h hd rfl)) ?_
  refine bI_c (fun hd => t_L hX cls_al (fun ad P G cells slots F hX h => s_al_n hX hd rfl rfl)) ?_
  refine bI_c (fun hd => t_L hX cls_al (fun ad P G cells slots F hX h => s_al_n hX hd rfl rfl)) ?_
  refine bI_c (fun hd => t_L hX cls_il (fun ad P G cells slots F hX h => s_il_n hX hd rfl rfl)) ?_
  refine bI_c (fun hd => t_L hX cls_ii (fun ad P G cells slots F hX h => s_ii hX hd (by decide) rfl)) ?_
  refine bI_c (fun hd => t_L hX cls_bi (fun ad P G cells slots F hX h => s_iadd hX hd rfl)) ?_
  refine bI_c (fun hd => t_sld hX hSc hd rfl) ?_
  refine bI_c (fun hd => t_L hX cls_al (fun ad P G cells slots F hX h => s_al_n hX hd rfl rfl)) ?_
  refine bI_c (fun hd => t_L hX cls_il (fun ad P G cells slots F hX h => s_il_n hX hd rfl rfl)) ?_
  refine bI_c (fun hd => t_L hX cls_ii (fun ad P G cells slots F hX h => s_ii hX hd (by decide) rfl)) ?_
  refine bI_c (fun hd => t_L hX cls_bi (fun ad P G cells slots F hX h => s_iadd hX hd rfl)) ?_
  refine bI_c (fun hd => t_sld hX hSc hd rfl) ?_
  refine bI_c (fun hd => t_L hX cls_al (fun ad P G cells slots F hX h => s_al_n hX hd rfl rfl)) ?_
  refine bI_c (fun hd => t_L hX cls_il (fun ad P G cells slots F hX h => s_il_n hX hd rfl rfl)) ?_
  refine bI_c (fun hd => t_L hX cls_ii (fun ad P G cells slots F hX h => s_ii hX hd (by decide) rfl)) ?_
  refine bI_c (fun hd => t_L hX cls_bi (fun ad P G cells slots F hX h => s_iadd hX hd rfl)) ?_
  refine bI_c (fun hd => t_sld hX hSc hd rfl) ?_
  refine bI_c (fun hd => t_L hX cls_al (fun ad P G cells slots F hX h => s_al_n hX hd rfl rfl)) ?_
  refine bI_c (fun hd => t_L hX cls_il (fun ad P G cells slots F hX h => s_il_n hX hd rfl rfl)) ?_
  refine bI_c (fun hd => t_L hX cls_ii (fun ad P G cells slots F hX h => s_ii hX hd (by decide) rfl)) ?_
  refine bI_c (fun hd => t_L hX cls_bi (fun ad P G cells slots F hX h => s_iadd hX hd rfl)) ?_
  refine bI_c (fun hd => t_sld hX hSc hd rfl) ?_
  refine bI_c (fun hd => t_L hX (cls_cV zX5_judgesBy) (fun ad P G cells slots F hX h => s_cV hX (T := TX5) (N := 35) (nX5_judgesBy l) rfl (wg_V up lmL_173 loX5_judgesBy) rfl rfl rfl (by decide +kernel) ⟨by decide, by decide⟩ h hd rfl)) ?_
  refine bI_c (fun hd => t_L hX cls_ic (fun ad P G cells slots F hX h => s_ic_eq hX hd (by decide) rfl)) ?_
  refine bI_c (fun hd => t_L hX cls_ii (fun ad P G cells slots F hX h => s_ii hX hd (by decide) rfl)) ?_
  refine bI_c (fun hd => hri _ hd) ?_
  refine bI_c (fun hd => t_L hX cls_al (fun ad P G cells slots F hX h => s_al_n hX hd rfl rfl)) ?_
  refine bI_c (fun hd => t_L hX cls_al (fun ad P G cells slots F hX h => s_al_n hX hd rfl rfl)) ?_
  refine bI_c (fun hd => t_L hX cls_il (fun ad P G cells slots F hX h => s_il_n hX hd rfl rfl)) ?_
  refine bI_c (fun hd => t_L hX cls_ii (fun ad P G cells slots F hX h => s_ii hX hd (by decide) rfl)) ?_
  refine bI_c (fun hd => t_L hX cls_bi (fun ad P G cells slots F hX h => s_iadd hX hd rfl)) ?_
  refine bI_c (fun hd => t_sld hX hSc hd rfl) ?_
  refine bI_c (fun hd => t_L hX cls_al (fun ad P G cells slots F hX h => s_al_n hX hd rfl rfl)) ?_
  refine bI_c (fun hd => t_L hX cls_il (fun ad P G cells slots F hX h => s_il_n hX hd rfl rfl)) ?_
  refine bI_c (fun hd => t_L hX cls_ii (fun ad P G cells slots F hX h => s_ii hX hd (by decide) rfl)) ?_
  refine bI_c (fun hd => t_L hX cls_bi (fun ad P G cells slots F hX h => s_iadd hX hd rfl)) ?_
  refine bI_c (fun hd => t_sld hX hSc hd rfl) ?_
  refine bI_c (fun hd => t_L hX (cls_cV zX4_taken) (fun ad P G cells slots F hX h => s_cV hX (T := TX4) (N := 9) (nX4_taken l) rfl (wg_V up lmL_174 loX4_taken) rfl rfl rfl (by decide +kernel) ⟨by decide, by decide⟩ h hd rfl)) ?_
  refine bI_c (fun hd => t_L hX cls_al (fun ad P G cells slots F hX h => s_al_n hX hd rfl rfl)) ?_
  refine bI_c (fun hd => t_L hX cls_al (fun ad P G cells slots F hX h => s_al_n hX hd rfl rfl)) ?_
  refine bI_c (fun hd => t_L hX cls_il (fun ad P G cells slots F hX h => s_il_n hX hd rfl rfl)) ?_
  refine bI_c (fun hd => t_L hX cls_ii (fun ad P G cells slots F hX h => s_ii hX hd (by decide) rfl)) ?_
  refine bI_c (fun hd => t_L hX cls_bi (fun ad P G cells slots F hX h => s_iadd hX hd rfl)) ?_
  refine bI_c (fun hd => t_sld hX hSc hd rfl) ?_
  refine bI_c (fun hd => t_L hX cls_al (fun ad P G cells slots F hX h => s_al_n hX hd rfl rfl)) ?_
  refine bI_c (fun hd => t_L hX cls_il (fun ad P G cells slots F hX h => s_il_n hX hd rfl rfl)) ?_
  refine bI_c (fun hd => t_L hX cls_ii (fun ad P G cells slots F hX h => s_ii hX hd (by decide) rfl)) ?_
  refine bI_c (fun hd => t_L hX cls_bi (fun ad P G cells slots F hX h => s_iadd hX hd rfl)) ?_
  refine bI_c (fun hd => t_sld hX hSc hd rfl) ?_
  refine bI_c (fun hd => t_L hX (cls_cV zX5_taken) (fun ad P G cells slots F hX h => s_cV hX (T := TX5) (N := 35) (nX5_taken l) rfl (wg_V up lmL_177 loX5_taken) rfl rfl rfl (by decide +kernel) ⟨by decide, by decide⟩ h hd rfl)) ?_
  refine bI_c (fun hd => t_L hX cls_ic (fun ad P G cells slots F hX h => s_ic_eq hX hd (by decide) rfl)) ?_
  refine bI_c (fun hd => t_L hX cls_ii (fun ad P G cells slots F hX h => s_ii hX hd (by decide) rfl)) ?_
  refine bI_c (fun hd => hri _ hd) ?_
  refine bI_c (fun hd => t_L hX cls_inc (fun ad P G cells slots F hX h => s_inc hX hd (by decide) rfl (by decide))) ?_
  refine bI_c (fun hd => t_L hX cls_go (fun ad P G cells slots F hX h => s_go hX hd (by decide))) ?_
  refine bI_c (fun hd => t_L hX cls_ii (fun ad P G cells slots F hX h => s_ii hX hd (by decide) rfl)) ?_
  refine bI_c (fun hd => hri _ hd) ?_
  exact trivial
