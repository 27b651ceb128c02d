-- JudgesByLossModel.in(III)Z
def tX5_in : aT := [
  (0, (.iload_n 0, 1), o_il 0 1),
  (1, (.iload_n 1, 1), o_il 1 2),
  (2, (.if_icmp .lt 12, 3), o_ic (fun x y => x < y) 14 5),
  (5, (.iload_n 0, 1), o_il 0 6),
  (6, (.iload_n 2, 1), o_il 2 7),
  (7, (.if_icmp .gt 7, 3), o_ic (fun x y => y < x) 14 10),
  (10, (.iconst 1, 1), o_ii 1 11),
  (11, (.goto 4, 3), o_go 15),
  (14, (.iconst 0, 1), o_ii 0 15),
  (15, (.ireturn, 1), o_rz)]
abbrev CX5_in : aC := aCl tX5_in 3
def rmX5_in : Room := { frames := 1, cells := 0, slots := 0, locals := 1 }
set_option maxRecDepth 100000 in
theorem dX5_in : tX5_in.all (fun q => decide (decode cX5_in q.1 = .ok q.2.1)) = true := by decide +kernel
set_option maxRecDepth 100000 in
set_option maxHeartbeats 4000000 in
theorem nX5_in (l : Launch) : aMt l yX5_in (Cond.code yX5_in cX5_in 3 (some .boolean) :: wsL_law) rmX5_in CX5_in := by
  refine aMt.of (own := RX5) (cc := cX5_in) (maxL := 3) (ret := (some .boolean)) (by decide +kernel) rfl rfl ?_
  intro p e s m args below meth c Qc D Z ad P G A E hX hr hlk hE
  have up : ∀ w ∈ wsL_law, w ∈ (Cond.code yX5_in cX5_in 3 (some .boolean) :: wsL_law) := fun w h => List.mem_cons_of_mem _ h
  refine aImp_all _ dX5_in ?_
  unfold tX5_in
  refine aI_c (fun hd => s_il_n hX hd rfl rfl) ?_
  refine aI_c (fun hd => s_il_n hX hd rfl rfl) ?_
  refine aI_c (fun hd => s_ic_lt hX hd (by decide) rfl) ?_
  refine aI_c (fun hd => s_il_n hX hd rfl rfl) ?_
  refine aI_c (fun hd => s_il_n hX hd rfl rfl) ?_
  refine aI_c (fun hd => s_ic_gt hX hd (by decide) rfl) ?_
  refine aI_c (fun hd => s_ii hX hd (by decide) rfl) ?_
  refine aI_c (fun hd => s_go hX hd (by decide)) ?_
  refine aI_c (fun hd => s_ii hX hd (by decide) rfl) ?_
  refine aI_c (fun hd => s_rz hX hr hlk hE hd) ?_
  exact trivial

-- JudgesByLossModel.wordFrom(II)I
def tX5_wordFrom : aT := [
  (0, (.iconst 0, 1), o_ii 0 1),
  (1, (.istore_n 3, 1), o_is 3 2),
  (2, (.iload_n 3, 1), o_mk [false, false, false, false, true, true] (o_il 3 3)),
  (3, (.bipush 12, 2), o_ii 12 5),
  (5, (.if_icmp .ge 96, 3), o_ic (fun x y => y ≤ x) 101 8),
  (8, (.iload_n 2, 1), o_il 2 9),
  (9, (.iload_n 1, 1), o_il 1 10),
  (10, (.isub, 1), o_bi (fun x y => x - y) 11),
  (11, (.bipush 8, 2), o_ii 8 13),
  (13, (.if_icmp .gt 7, 3), o_ic (fun x y => y < x) 20 16),
  (16, (.iconst 1, 1), o_ii 1 17),
  (17, (.goto 4, 3), o_go 21),
  (20, (.iconst 0, 1), o_ii 0 21),
  (21, (.istore 4, 2), o_is 4 23),
  (23, (.iconst 0, 1), o_ii 0 24),
  (24, (.istore 5, 2), o_is 5 26),
  (26, (.iload 5, 2), o_il 5 28),
  (28, (.bipush 8, 2), o_ii 8 30),
  (30, (.if_icmp .ge 58, 3), o_ic (fun x y => y ≤ x) 88 33),
  (33, (.iload 4, 2), o_il 4 35),
  (35, (.ifCond .eq 53, 3), o_if (fun x => x = 0) 88 38),
  (38, (.aload_n 0, 1), o_al 0 39),
  (39, (.getfield 49, 3), o_gF 5 14 42),
  (42, (.bipush 8, 2), o_ii 8 44),
  (44, (.iload_n 3, 1), o_il 3 45),
  (45, (.imul, 1), o_bi (fun x y => x * y) 46),
  (46, (.iload 5, 2), o_il 5 48),
  (48, (.iadd, 1), o_bi (fun x y => x + y) 49),
  (49, (.iaload, 1), o_iald 50),
  (50, (.iload_n 1, 1), o_il 1 51),
  (51, (.iload 5, 2), o_il 5 53),
  (53, (.iadd, 1), o_bi (fun x y => x + y) 54),
  (54, (.iload_n 2, 1), o_il 2 55),
  (55, (.if_icmp .ge 15, 3), o_ic (fun x y => y ≤ x) 70 58),
  (58, (.aload_n 0, 1), o_al 0 59),
  (59, (.getfield 22, 3), o_gF 5 5 62),
  (62, (.iload_n 1, 1), o_il 1 63),
  (63, (.iload 5, 2), o_il 5 65),
  (65, (.iadd, 1), o_bi (fun x y => x + y) 66),
  (66, (.iaload, 1), o_iald 67),
  (67, (.goto 5, 3), o_go 72),
  (70, (.bipush 32, 2), o_ii 32 72),
  (72, (.if_icmp .ne 7, 3), o_ic (fun x y => ¬ x = y) 79 75),
  (75, (.iconst 1, 1), o_ii 1 76),
  (76, (.goto 4, 3), o_go 80),
  (79, (.iconst 0, 1), o_ii 0 80),
  (80, (.istore 4, 2), o_is 4 82),
  (82, (.iinc 5 1, 3), o_inc 5 1 85),
  (85, (.goto (-59), 3), o_go 26),
  (88, (.iload 4, 2), o_il 4 90),
  (90, (.ifCond .eq 5, 3), o_if (fun x => x = 0) 95 93),
  (93, (.iload_n 3, 1), o_il 3 94),
  (94, (.ireturn, 1), o_ri),
  (95, (.iinc 3 1, 3), o_inc 3 1 98),
  (98, (.goto (-96), 3), o_go 2),
  (101, (.bipush 12, 2), o_ii 12 103),
  (103, (.ireturn, 1), o_ri)]
abbrev CX5_wordFrom : aC := aCl tX5_wordFrom 6
def rmX5_wordFrom : Room := { frames := 1, cells := 0, slots := 0, locals := 1 }
set_option maxRecDepth 100000 in
theorem dX5_wordFrom : tX5_wordFrom.all (fun q => decide (decode cX5_wordFrom q.1 = .ok q.2.1)) = true := by decide +kernel
set_option maxRecDepth 100000 in
set_option maxHeartbeats 4000000 in
theorem nX5_wordFrom (l : Launch) : aMt l yX5_wordFrom (Cond.code yX5_wordFrom cX5_wordFrom 6 (some .int) :: wsL_law) rmX5_wordFrom CX5_wordFrom := by
  refine aMt.of (own := RX5) (cc := cX5_wordFrom) (maxL := 6) (ret := (some .int)) (by decide +kernel) rfl rfl ?_
  intro p e s m args below meth c Qc D Z ad P G A E hX hr hlk hE
  have up : ∀ w ∈ wsL_law, w ∈ (Cond.code yX5_wordFrom cX5_wordFrom 6 (some .int) :: wsL_law) := fun w h => List.mem_cons_of_mem _ h
  refine aImp_all _ dX5_wordFrom ?_
  unfold tX5_wordFrom
  refine aI_c (fun hd => s_ii hX hd (by decide) rfl) ?_
  refine aI_c (fun hd => s_is_n hX hd rfl rfl (by decide)) ?_
  refine aI_c (fun hd => s_mk (s_il_n hX hd rfl rfl)) ?_
  refine aI_c (fun hd => s_bp hX hd (by decide) rfl) ?_
  refine aI_c (fun hd => s_ic_ge hX hd (by decide) rfl) ?_
  refine aI_c (fun hd => s_il_n hX hd rfl rfl) ?_
  refine aI_c (fun hd => s_il_n hX hd rfl rfl) ?_
  refine aI_c (fun hd => s_isub hX hd rfl) ?_
  refine aI_c (fun hd => s_bp hX hd (by decide) rfl) ?_
  refine aI_c (fun hd => s_ic_gt hX hd (by decide) rfl) ?_
  refine aI_c (fun hd => s_ii hX hd (by decide) rfl) ?_
  refine aI_c (fun hd => s_go hX hd (by decide)) ?_
  refine aI_c (fun hd => s_ii hX hd (by decide) rfl) ?_
  refine aI_c (fun hd => s_is hX hd rfl (by decide)) ?_
  refine aI_c (fun hd => s_ii hX hd (by decide) rfl) ?_
  refine aI_c (fun hd => s_is hX hd rfl (by decide)) ?_
  refine aI_c (fun hd => s_il hX hd rfl) ?_
  refine aI_c (fun hd => s_bp hX hd (by decide) rfl) ?_
  refine aI_c (fun hd => s_ic_ge hX hd (by decide) rfl) ?_
  refine aI_c (fun hd => s_il hX hd rfl) ?_
  refine aI_c (fun hd => s_if_eq hX hd (by decide) rfl) ?_
  refine aI_c (fun hd => s_al_n hX hd rfl rfl) ?_
  refine aI_c (fun hd => s_gF hX (C := RX5) (T := TX5) (N := 35) (k := 24) rfl (fun w h => up w (inlX5 w h)) (by decide) rfl rfl rfl (up _ lkX5_49) hd rfl) ?_
  refine aI_c (fun hd => s_bp hX hd (by decide) rfl) ?_
  refine aI_c (fun hd => s_il_n hX hd rfl rfl) ?_
  refine aI_c (fun hd => s_imul hX hd rfl) ?_
  refine aI_c (fun hd => s_il hX hd rfl) ?_
  refine aI_c (fun hd => s_iadd hX hd rfl) ?_
  refine aI_c (fun hd => s_iald hX hd rfl) ?_
  refine aI_c (fun hd => s_il_n hX hd rfl rfl) ?_
  refine aI_c (fun hd => s_il hX hd rfl) ?_
  refine aI_c (fun hd => s_iadd hX hd rfl) ?_
  refine aI_c (fun hd => s_il_n hX hd rfl rfl) ?_
  refine aI_c (fun hd => s_ic_ge hX hd (by decide) rfl) ?_
  refine aI_c (fun hd => s_al_n hX hd rfl rfl) ?_
  refine aI_c (fun hd => s_gF hX (C := RX5) (T := TX5) (N := 35) (k := 7) rfl (fun w h => up w (inlX5 w h)) (by decide) rfl rfl rfl (up _ lkX5_22) hd rfl) ?_
  refine aI_c (fun hd => s_il_n hX hd rfl rfl) ?_
  refine aI_c (fun hd => s_il hX hd rfl) ?_
  refine aI_c (fun hd => s_iadd hX hd rfl) ?_
  refine aI_c (fun hd => s_iald hX hd rfl) ?_
  refine aI_c (fun hd => s_go hX hd (by decide)) ?_
  refine aI_c (fun hd => s_bp hX hd (by decide) rfl) ?_
  refine aI_c (fun hd => s_ic_ne hX hd (by decide) rfl) ?_
  refine aI_c (fun hd => s_ii hX hd (by decide) rfl) ?_
  refine aI_c (fun hd => s_go hX hd (by decide)) ?_
  refine aI_c (fun hd => s_ii hX hd (by decide) rfl) ?_
  refine aI_c (fun hd => s_is hX hd rfl (by decide)) ?_
  refine aI_c (fun hd => s_inc hX hd (by decide) rfl (by decide)) ?_
  refine aI_c (fun hd => s_go hX hd (by decide)) ?_
  refine aI_c (fun hd => s_il hX hd rfl) ?_
  refine aI_c (fun hd => s_if_eq hX hd (by decide) rfl) ?_
  refine aI_c (fun hd => s_il_n hX hd rfl rfl) ?_
  refine aI_c (fun hd => s_ri hX hr hlk hE hd) ?_
  refine aI_c (fun hd => s_inc hX hd (by decide) rfl (by decide)) ?_
  refine aI_c (fun hd => s_go hX hd (by decide)) ?_
  refine aI_c (fun hd => s_bp hX hd (by decide) rfl) ?_
  refine aI_c (fun hd => s_ri hX hr hlk hE hd) ?_
  exact trivial

-- JudgesByLossModel.next()V
def tX5_next : aT := [
  (0, (.aload_n 0, 1), o_mk [false, true, true] (o_al 0 1)),
  (1, (.getfield 115, 3), o_gI 5 20 4),
  (4, (.aload_n 0, 1), o_al 0 5),
  (5, (.getfield 70, 3), o_gI 5 8 8),
  (8, (.if_icmp .ge 44, 3), o_ic (fun x y => y ≤ x) 52 11),
  (11, (.aload_n 0, 1), o_al 0 12),
  (12, (.getfield 22, 3), o_gF 5 5 15),
  (15, (.aload_n 0, 1), o_al 0 16),
  (16, (.getfield 115, 3), o_gI 5 20 19),
  (19, (.iaload, 1), o_iald 20),
  (20, (.bipush 32, 2), o_ii 32 22),
  (22, (.if_icmp .eq 17, 3), o_ic (fun x y => x = y) 39 25),
  (25, (.aload_n 0, 1), o_al 0 26),
  (26, (.getfield 22, 3), o_gF 5 5 29),
  (29, (.aload_n 0, 1), o_al 0 30),
  (30, (.getfield 115, 3), o_gI 5 20 33),
  (33, (.iaload, 1), o_iald 34),
  (34, (.bipush 10, 2), o_ii 10 36),
  (36, (.if_icmp .ne 16, 3), o_ic (fun x y => ¬ x = y) 52 39),
  (39, (.aload_n 0, 1), o_al 0 40),
  (40, (.dup, 1), o_dup 41),
  (41, (.getfield 115, 3), o_gI 5 20 44),
  (44, (.iconst 1, 1), o_ii 1 45),
  (45, (.iadd, 1), o_bi (fun x y => x + y) 46),
  (46, (.putfield 115, 3), o_pI 5 20 49),
  (49, (.goto (-49), 3), o_go 0),
  (52, (.aload_n 0, 1), o_al 0 53),
  (53, (.aload_n 0, 1), o_al 0 54),
  (54, (.getfield 115, 3), o_gI 5 20 57),
  (57, (.putfield 118, 3), o_pI 5 21 60),
  (60, (.aload_n 0, 1), o_al 0 61),
  (61, (.iconst 0, 1), o_ii 0 62),
  (62, (.putfield 121, 3), o_pI 5 22 65),
  (65, (.aload_n 0, 1), o_al 0 66),
  (66, (.iconst 0, 1), o_ii 0 67),
  (67, (.putfield 124, 3), o_pI 5 23 70),
  (70, (.aload_n 0, 1), o_al 0 71),
  (71, (.getfield 115, 3), o_gI 5 20 74),
  (74, (.aload_n 0, 1), o_al 0 75),
  (75, (.getfield 70, 3), o_gI 5 8 78),
  (78, (.if_icmp .ne 4, 3), o_ic (fun x y => ¬ x = y) 82 81),
  (81, (.return_, 1), o_rv),
  (82, (.aload_n 0, 1), o_al 0 83),
  (83, (.getfield 22, 3), o_gF 5 5 86),
  (86, (.aload_n 0, 1), o_al 0 87),
  (87, (.getfield 115, 3), o_gI 5 20 90),
  (90, (.iaload, 1), o_iald 91),
  (91, (.istore_n 1, 1), o_is 1 92),
  (92, (.iload_n 1, 1), o_il 1 93),
  (93, (.bipush 97, 2), o_ii 97 95),
  (95, (.bipush 122, 2), o_ii 122 97),
  (97, (.invokestatic 81, 3), o_cS CX5_in 3 100),
  (100, (.ifCond .eq 117, 3), o_if (fun x => x = 0) 217 103),
  (103, (.aload_n 0, 1), o_mk [false, true, true] (o_al 0 104)),
  (104, (.getfield 115, 3), o_gI 5 20 107),
  (107, (.aload_n 0, 1), o_al 0 108),
  (108, (.getfield 70, 3), o_gI 5 8 111),
  (111, (.if_icmp .ge 35, 3), o_ic (fun x y => y ≤ x) 146 114),
  (114, (.aload_n 0, 1), o_al 0 115),
  (115, (.getfield 22, 3), o_gF 5 5 118),
  (118, (.aload_n 0, 1), o_al 0 119),
  (119, (.getfield 115, 3), o_gI 5 20 122),
  (122, (.iaload, 1), o_iald 123),
  (123, (.bipush 97, 2), o_ii 97 125),
  (125, (.bipush 122, 2), o_ii 122 127),
  (127, (.invokestatic 81, 3), o_cS CX5_in 3 130),
  (130, (.ifCond .eq 16, 3), o_if (fun x => x = 0) 146 133),
  (133, (.aload_n 0, 1), o_al 0 134),
  (134, (.dup, 1), o_dup 135),
  (135, (.getfield 115, 3), o_gI 5 20 138),
  (138, (.iconst 1, 1), o_ii 1 139),
  (139, (.iadd, 1), o_bi (fun x y => x + y) 140),
  (140, (.putfield 115, 3), o_pI 5 20 143),
  (143, (.goto (-40), 3), o_go 103),
  (146, (.aload_n 0, 1), o_al 0 147),
  (147, (.aload_n 0, 1), o_al 0 148),
  (148, (.getfield 118, 3), o_gI 5 21 151),
  (151, (.aload_n 0, 1), o_al 0 152),
  (152, (.getfield 115, 3), o_gI 5 20 155),
  (155, (.invokevirtual 127, 3), o_cV CX5_wordFrom 5 2 158),
  (158, (.istore_n 2, 1), o_is 2 159),
  (159, (.aload_n 0, 1), o_al 0 160),
  (160, (.iload_n 2, 1), o_il 2 161),
  (161, (.iconst 3, 1), o_ii 3 162),
  (162, (.if_icmp .ge 7, 3), o_ic (fun x y => y ≤ x) 169 165),
  (165, (.iconst 3, 1), o_ii 3 166),
  (166, (.goto 29, 3), o_go 195),
  (169, (.iload_n 2, 1), o_il 2 170),
  (170, (.bipush 9, 2), o_ii 9 172),
  (172, (.if_icmp .ge 7, 3), o_ic (fun x y => y ≤ x) 179 175),
  (175, (.iconst 2, 1), o_ii 2 176),
  (176, (.goto 19, 3), o_go 195),
  (179, (.iload_n 2, 1), o_il 2 180),
  (180, (.bipush 12, 2), o_ii 12 182),
  (182, (.if_icmp .ne 7, 3), o_ic (fun x y => ¬ x = y) 189 185),
  (185, (.iconst (-1), 1), o_ii (-1) 186),
  (186, (.goto 9, 3), o_go 195),
  (189, (.iconst 4, 1), o_ii 4 190),
  (190, (.iload_n 2, 1), o_il 2 191),
  (191, (.iadd, 1), o_bi (fun x y => x + y) 192),
  (192, (.bipush 9, 2), o_ii 9 194),
  (194, (.isub, 1), o_bi (fun x y => x - y) 195),
  (195, (.putfield 121, 3), o_pI 5 22 198),
  (198, (.aload_n 0, 1), o_al 0 199),
  (199, (.iload_n 2, 1), o_il 2 200),
  (200, (.iconst 3, 1), o_ii 3 201),
  (201, (.if_icmp .ge 7, 3), o_ic (fun x y => y ≤ x) 208 204),
  (204, (.iload_n 2, 1), o_il 2 205),
  (205, (.goto 6, 3), o_go 211),
  (208, (.iload_n 2, 1), o_il 2 209),
  (209, (.iconst 3, 1), o_ii 3 210),
  (210, (.isub, 1), o_bi (fun x y => x - y) 211),
  (211, (.putfield 124, 3), o_pI 5 23 214),
  (214, (.goto 189, 3), o_go 403),
  (217, (.iload_n 1, 1), o_il 1 218),
  (218, (.bipush 48, 2), o_ii 48 220),
  (220, (.bipush 57, 2), o_ii 57 222),
  (222, (.invokestatic 81, 3), o_cS CX5_in 3 225),
  (225, (.ifCond .eq 101, 3), o_if (fun x => x = 0) 326 228),
  (228, (.iconst 0, 1), o_ii 0 229),
  (229, (.istore_n 2, 1), o_is 2 230),
  (230, (.aload_n 0, 1), o_mk [false, true, false] (o_al 0 231)),
  (231, (.getfield 115, 3), o_gI 5 20 234),
  (234, (.aload_n 0, 1), o_al 0 235),
  (235, (.getfield 70, 3), o_gI 5 8 238),
  (238, (.if_icmp .ge 71, 3), o_ic (fun x y => y ≤ x) 309 241),
  (241, (.aload_n 0, 1), o_al 0 242),
  (242, (.getfield 22, 3), o_gF 5 5 245),
  (245, (.aload_n 0, 1), o_al 0 246),
  (246, (.getfield 115, 3), o_gI 5 20 249),
  (249, (.iaload, 1), o_iald 250),
  (250, (.bipush 48, 2), o_ii 48 252),
  (252, (.bipush 57, 2), o_ii 57 254),
  (254, (.invokestatic 81, 3), o_cS CX5_in 3 257),
  (257, (.ifCond .eq 52, 3), o_if (fun x => x = 0) 309 260),
  (260, (.aload_n 0, 1), o_al 0 261),
  (261, (.iload_n 2, 1), o_il 2 262),
  (262, (.iconst 4, 1), o_ii 4 263),
  (263, (.if_icmp .ge 26, 3), o_ic (fun x y => y ≤ x) 289 266),
  (266, (.bipush 10, 2), o_ii 10 268),
  (268, (.aload_n 0, 1), o_al 0 269),
  (269, (.getfield 124, 3), o_gI 5 23 272),
  (272, (.imul, 1), o_bi (fun x y => x * y) 273),
  (273, (.aload_n 0, 1), o_al 0 274),
  (274, (.getfield 22, 3), o_gF 5 5 277),
  (277, (.aload_n 0, 1), o_al 0 278),
  (278, (.getfield 115, 3), o_gI 5 20 281),
  (281, (.iaload, 1), o_iald 282),
  (282, (.iadd, 1), o_bi (fun x y => x + y) 283),
  (283, (.bipush 48, 2), o_ii 48 285),
  (285, (.isub, 1), o_bi (fun x y => x - y) 286),
  (286, (.goto 4, 3), o_go 290),
  (289, (.iconst 0, 1), o_ii 0 290),
  (290, (.putfield 124, 3), o_pI 5 23 293),
  (293, (.iinc 2 1, 3), o_inc 2 1 296),
  (296, (.aload_n 0, 1), o_al 0 297),
  (297, (.dup, 1), o_dup 298),
  (298, (.getfield 115, 3), o_gI 5 20 301),
  (301, (.iconst 1, 1), o_ii 1 302),
  (302, (.iadd, 1), o_bi (fun x y => x + y) 303),
  (303, (.putfield 115, 3), o_pI 5 20 306),
  (306, (.goto (-76), 3), o_go 230),
  (309, (.aload_n 0, 1), o_al 0 310),
  (310, (.iload_n 2, 1), o_il 2 311),
  (311, (.iconst 4, 1), o_ii 4 312),
  (312, (.if_icmp .le 7, 3), o_ic (fun x y => x ≤ y) 319 315),
  (315, (.iconst (-1), 1), o_ii (-1) 316),
  (316, (.goto 4, 3), o_go 320),
  (319, (.iconst 1, 1), o_ii 1 320),
  (320, (.putfield 121, 3), o_pI 5 22 323),
  (323, (.goto 80, 3), o_go 403),
  (326, (.iload_n 1, 1), o_il 1 327),
  (327, (.bipush 40, 2), o_ii 40 329),
  (329, (.if_icmp .eq 45, 3), o_ic (fun x y => x = y) 374 332),
  (332, (.iload_n 1, 1), o_il 1 333),
  (333, (.bipush 41, 2), o_ii 41 335),
  (335, (.if_icmp .eq 39, 3), o_ic (fun x y => x = y) 374 338),
  (338, (.iload_n 1, 1), o_il 1 339),
  (339, (.bipush 59, 2), o_ii 59 341),
  (341, (.if_icmp .eq 33, 3), o_ic (fun x y => x = y) 374 344),
  (344, (.iload_n 1, 1), o_il 1 345),
  (345, (.bipush 43, 2), o_ii 43 347),
  (347, (.if_icmp .eq 27, 3), o_ic (fun x y => x = y) 374 350),
  (350, (.iload_n 1, 1), o_il 1 351),
  (351, (.bipush 45, 2), o_ii 45 353),
  (353, (.if_icmp .eq 21, 3), o_ic (fun x y => x = y) 374 356),
  (356, (.iload_n 1, 1), o_il 1 357),
  (357, (.bipush 42, 2), o_ii 42 359),
  (359, (.if_icmp .eq 15, 3), o_ic (fun x y => x = y) 374 362),
  (362, (.iload_n 1, 1), o_il 1 363),
  (363, (.bipush 60, 2), o_ii 60 365),
  (365, (.if_icmp .eq 9, 3), o_ic (fun x y => x = y) 374 368),
  (368, (.iload_n 1, 1), o_il 1 369),
  (369, (.bipush 61, 2), o_ii 61 371),
  (371, (.if_icmp .ne 7, 3), o_ic (fun x y => ¬ x = y) 378 374),
  (374, (.iconst 1, 1), o_ii 1 375),
  (375, (.goto 4, 3), o_go 379),
  (378, (.iconst 0, 1), o_ii 0 379),
  (379, (.istore_n 2, 1), o_is 2 380),
  (380, (.aload_n 0, 1), o_al 0 381),
  (381, (.iload_n 2, 1), o_il 2 382),
  (382, (.ifCond .eq 7, 3), o_if (fun x => x = 0) 389 385),
  (385, (.iload_n 1, 1), o_il 1 386),
  (386, (.goto 4, 3), o_go 390),
  (389, (.iconst (-1), 1), o_ii (-1) 390),
  (390, (.putfield 121, 3), o_pI 5 22 393),
  (393, (.aload_n 0, 1), o_al 0 394),
  (394, (.dup, 1), o_dup 395),
  (395, (.getfield 115, 3), o_gI 5 20 398),
  (398, (.iconst 1, 1), o_ii 1 399),
  (399, (.iadd, 1), o_bi (fun x y => x + y) 400),
  (400, (.putfield 115, 3), o_pI 5 20 403),
  (403, (.return_, 1), o_rv)]
abbrev CX5_next : aC := aCl tX5_next 3
def rmX5_next : Room := { frames := 2, cells := 0, slots := 0, locals := 26 }
set_option maxRecDepth 100000 in
theorem dX5_next : tX5_next.all (fun q => decide (decode cX5_next q.1 = .ok q.2.1)) = true := by decide +kernel
set_option maxRecDepth 100000 in
set_option maxHeartbeats 4000000 in
theorem nX5_next (l : Launch) : aMt l yX5_next (Cond.code yX5_next cX5_next 3 none :: wsL_law) rmX5_next CX5_next := by
  refine aMt.of (own := RX5) (cc := cX5_next) (maxL := 3) (ret := none) (by decide +kernel) rfl rfl ?_
  intro p e s m args below meth c Qc D Z ad P G A E hX hr hlk hE
  have up : ∀ w ∈ wsL_law, w ∈ (Cond.code yX5_next cX5_next 3 none :: wsL_law) := fun w h => List.mem_cons_of_mem _ h
  refine aImp_all _ dX5_next ?_
  unfold tX5_next
  refine aI_c (fun hd => s_mk (s_al_n hX hd rfl rfl)) ?_
  refine aI_c (fun hd => s_gI hX (C := RX5) (T := TX5) (N := 35) (k := 20) rfl (fun w h => up w (inlX5 w h)) (by decide) rfl rfl rfl (up _ lkX5_115) hd rfl) ?_
  refine aI_c (fun hd => s_al_n hX hd rfl rfl) ?_
  refine aI_c (fun hd => s_gI hX (C := RX5) (T := TX5) (N := 35) (k := 8) rfl (fun w h => up w (inlX5 w h)) (by decide) rfl rfl rfl (up _ lkX5_70) hd rfl) ?_
  refine aI_c (fun hd => s_ic_ge hX hd (by decide) rfl) ?_
  refine aI_c (fun hd => s_al_n hX hd rfl rfl) ?_
  refine aI_c (fun hd => s_gF hX (C := RX5) (T := TX5) (N := 35) (k := 7) rfl (fun w h => up w (inlX5 w h)) (by decide) rfl rfl rfl (up _ lkX5_22) hd rfl) ?_
  refine aI_c (fun hd => s_al_n hX hd rfl rfl) ?_
  refine aI_c (fun hd => s_gI hX (C := RX5) (T := TX5) (N := 35) (k := 20) rfl (fun w h => up w (inlX5 w h)) (by decide) rfl rfl rfl (up _ lkX5_115) hd rfl) ?_
  refine aI_c (fun hd => s_iald hX hd rfl) ?_
  refine aI_c (fun hd => s_bp hX hd (by decide) rfl) ?_
  refine aI_c (fun hd => s_ic_eq hX hd (by decide) rfl) ?_
  refine aI_c (fun hd => s_al_n hX hd rfl rfl) ?_
  refine aI_c (fun hd => s_gF hX (C := RX5) (T := TX5) (N := 35) (k := 7) rfl (fun w h => up w (inlX5 w h)) (by decide) rfl rfl rfl (up _ lkX5_22) hd rfl) ?_
  refine aI_c (fun hd => s_al_n hX hd rfl rfl) ?_
  refine aI_c (fun hd => s_gI hX (C := RX5) (T := TX5) (N := 35) (k := 20) rfl (fun w h => up w (inlX5 w h)) (by decide) rfl rfl rfl (up _ lkX5_115) hd rfl) ?_
  refine aI_c (fun hd => s_iald hX hd rfl) ?_
  refine aI_c (fun hd => s_bp hX hd (by decide) rfl) ?_
  refine aI_c (fun hd => s_ic_ne hX hd (by decide) rfl) ?_
  refine aI_c (fun hd => s_al_n hX hd rfl rfl) ?_
  refine aI_c (fun hd => s_dup hX hd rfl) ?_
  refine aI_c (fun hd => s_gI hX (C := RX5) (T := TX5) (N := 35) (k := 20) rfl (fun w h => up w (inlX5 w h)) (by decide) rfl rfl rfl (up _ lkX5_115) hd rfl) ?_
  refine aI_c (fun hd => s_ii hX hd (by decide) rfl) ?_
  refine aI_c (fun hd => s_iadd hX hd rfl) ?_
  refine aI_c (fun hd => s_pI hX (C := RX5) (T := TX5) (N := 35) (k := 20) rfl (fun w h => up w (inlX5 w h)) (by decide) rfl rfl tyX5 tyX5_ok nmX5 rfl rfl rfl (up _ lkX5_115) hd rfl) ?_
  refine aI_c (fun hd => s_go hX hd (by decide)) ?_
  refine aI_c (fun hd => s_al_n hX hd rfl rfl) ?_
  refine aI_c (fun hd => s_al_n hX hd rfl rfl) ?_
  refine aI_c (fun hd => s_gI hX (C := RX5) (T := TX5) (N := 35) (k := 20) rfl (fun w h => up w (inlX5 w h)) (by decide) rfl rfl rfl (up _ lkX5_115) hd rfl) ?_
  refine aI_c (fun hd => s_pI hX (C := RX5) (T := TX5) (N := 35) (k := 21) rfl (fun w h => up w (inlX5 w h)) (by decide) rfl rfl tyX5 tyX5_ok nmX5 rfl rfl rfl (up _ lkX5_118) hd rfl) ?_
  refine aI_c (fun hd => s_al_n hX hd rfl rfl) ?_
  refine aI_c (fun hd => s_ii hX hd (by decide) rfl) ?_
  refine aI_c (fun hd => s_pI hX (C := RX5) (T := TX5) (N := 35) (k := 22) rfl (fun w h => up w (inlX5 w h)) (by decide) rfl rfl tyX5 tyX5_ok nmX5 rfl rfl rfl (up _ lkX5_121) hd rfl) ?_
  refine aI_c (fun hd => s_al_n hX hd rfl rfl) ?_
  refine aI_c (fun hd => s_ii hX hd (by decide) rfl) ?_
  refine aI_c (fun hd => s_pI hX (C := RX5) (T := TX5) (N := 35) (k := 23) rfl (fun w h => up w (inlX5 w h)) (by decide) rfl rfl tyX5 tyX5_ok nmX5 rfl rfl rfl (up _ lkX5_124) hd rfl) ?_
  refine aI_c (fun hd => s_al_n hX hd rfl rfl) ?_
  refine aI_c (fun hd => s_gI hX (C := RX5) (T := TX5) (N := 35) (k := 20) rfl (fun w h => up w (inlX5 w h)) (by decide) rfl rfl rfl (up _ lkX5_115) hd rfl) ?_
  refine aI_c (fun hd => s_al_n hX hd rfl rfl) ?_
  refine aI_c (fun hd => s_gI hX (C := RX5) (T := TX5) (N := 35) (k := 8) rfl (fun w h => up w (inlX5 w h)) (by decide) rfl rfl rfl (up _ lkX5_70) hd rfl) ?_
  refine aI_c (fun hd => s_ic_ne hX hd (by decide) rfl) ?_
  refine aI_c (fun hd => s_rv hX hr hlk hE hd) ?_
  refine aI_c (fun hd => s_al_n hX hd rfl rfl) ?_
  refine aI_c (fun hd => s_gF hX (C := RX5) (T := TX5) (N := 35) (k := 7) rfl (fun w h => up w (inlX5 w h)) (by decide) rfl rfl rfl (up _ lkX5_22) hd rfl) ?_
  refine aI_c (fun hd => s_al_n hX hd rfl rfl) ?_
  refine aI_c (fun hd => s_gI hX (C := RX5) (T := TX5) (N := 35) (k := 20) rfl (fun w h => up w (inlX5 w h)) (by decide) rfl rfl rfl (up _ lkX5_115) hd rfl) ?_
  refine aI_c (fun hd => s_iald hX hd rfl) ?_
  refine aI_c (fun hd => s_is_n hX hd rfl rfl (by decide)) ?_
  refine aI_c (fun hd => s_il_n hX hd rfl rfl) ?_
  refine aI_c (fun hd => s_bp hX hd (by decide) rfl) ?_
  refine aI_c (fun hd => s_bp hX hd (by decide) rfl) ?_
  refine aI_c (fun hd => s_cS hX (nX5_in l) (wg_S up lmX5_81 loX5_in) rfl rfl rfl (by decide +kernel) ⟨by decide, by decide⟩ ⟨Nat.zero_le _, Nat.zero_le _⟩ hd rfl) ?_
  refine aI_c (fun hd => s_if_eq hX hd (by decide) rfl) ?_
  refine aI_c (fun hd => s_mk (s_al_n hX hd rfl rfl)) ?_
  refine aI_c (fun hd => s_gI hX (C := RX5) (T := TX5) (N := 35) (k := 20) rfl (fun w h => up w (inlX5 w h)) (by decide) rfl rfl rfl (up _ lkX5_115) hd rfl) ?_
  refine aI_c (fun hd => s_al_n hX hd rfl rfl) ?_
  refine aI_c (fun hd => s_gI hX (C := RX5) (T := TX5) (N := 35) (k := 8) rfl (fun w h => up w (inlX5 w h)) (by decide) rfl rfl rfl (up _ lkX5_70) hd rfl) ?_
  refine aI_c (fun hd => s_ic_ge hX hd (by decide) rfl) ?_
  refine aI_c (fun hd => s_al_n hX hd rfl rfl) ?_
  refine aI_c (fun hd => s_gF hX (C := RX5) (T := TX5) (N := 35) (k := 7) rfl (fun w h => up w (inlX5 w h)) (by decide) rfl rfl rfl (up _ lkX5_22) hd rfl) ?_
  refine aI_c (fun hd => s_al_n hX hd rfl rfl) ?_
  refine aI_c (fun hd => s_gI hX (C := RX5) (T := TX5) (N := 35) (k := 20) rfl (fun w h => up w (inlX5 w h)) (by decide) rfl rfl rfl (up _ lkX5_115) hd rfl) ?_
  refine aI_c (fun hd => s_iald hX hd rfl) ?_
  refine aI_c (fun hd => s_bp hX hd (by decide) rfl) ?_
  refine aI_c (fun hd => s_bp hX hd (by decide) rfl) ?_
  refine aI_c (fun hd => s_cS hX (nX5_in l) (wg_S up lmX5_81 loX5_in) rfl rfl rfl (by decide +kernel) ⟨by decide, by decide⟩ ⟨Nat.zero_le _, Nat.zero_le _⟩ hd rfl) ?_
  refine aI_c (fun hd => s_if_eq hX hd (by decide) rfl) ?_
  refine aI_c (fun hd => s_al_n hX hd rfl rfl) ?_
  refine aI_c (fun hd => s_dup hX hd rfl) ?_
  refine aI_c (fun hd => s_gI hX (C := RX5) (T := TX5) (N := 35) (k := 20) rfl (fun w h => up w (inlX5 w h)) (by decide) rfl rfl rfl (up _ lkX5_115) hd rfl) ?_
  refine aI_c (fun hd => s_ii hX hd (by decide) rfl) ?_
  refine aI_c (fun hd => s_iadd hX hd rfl) ?_
  refine aI_c (fun hd => s_pI hX (C := RX5) (T := TX5) (N := 35) (k := 20) rfl (fun w h => up w (inlX5 w h)) (by decide) rfl rfl tyX5 tyX5_ok nmX5 rfl rfl rfl (up _ lkX5_115) hd rfl) ?_
  refine aI_c (fun hd => s_go hX hd (by decide)) ?_
  refine aI_c (fun hd => s_al_n hX hd rfl rfl) ?_
  refine aI_c (fun hd => s_al_n hX hd rfl rfl) ?_
  refine aI_c (fun hd => s_gI hX (C := RX5) (T := TX5) (N := 35) (k := 21) rfl (fun w h => up w (inlX5 w h)) (by decide) rfl rfl rfl (up _ lkX5_118) hd rfl) ?_
  refine aI_c (fun hd => s_al_n hX hd rfl rfl) ?_
  refine aI_c (fun hd => s_gI hX (C := RX5) (T := TX5) (N := 35) (k := 20) rfl (fun w h => up w (inlX5 w h)) (by decide) rfl rfl rfl (up _ lkX5_115) hd rfl) ?_
  refine aI_c (fun hd => s_cV hX (T := TX5) (N := 35) (nX5_wordFrom l) rfl (wg_V up lmX5_127 loX5_wordFrom) rfl rfl rfl (by decide +kernel) ⟨by decide, by decide⟩ ⟨Nat.zero_le _, Nat.zero_le _⟩ hd rfl) ?_
  refine aI_c (fun hd => s_is_n hX hd rfl rfl (by decide)) ?_
  refine aI_c (fun hd => s_al_n hX hd rfl rfl) ?_
  refine aI_c (fun hd => s_il_n hX hd rfl rfl) ?_
  refine aI_c (fun hd => s_ii hX hd (by decide) rfl) ?_
  refine aI_c (fun hd => s_ic_ge hX hd (by decide) rfl) ?_
  refine aI_c (fun hd => s_ii hX hd (by decide) rfl) ?_
  refine aI_c (fun hd => s_go hX hd (by decide)) ?_
  refine aI_c (fun hd => s_il_n hX hd rfl rfl) ?_
  refine aI_c (fun hd => s_bp hX hd (by decide) rfl) ?_
  refine aI_c (fun hd => s_ic_ge hX hd (by decide) rfl) ?_
  refine aI_c (fun hd => s_ii hX hd (by decide) rfl) ?_
  refine aI_c (fun hd => s_go hX hd (by decide)) ?_
  refine aI_c (fun hd => s_il_n hX hd rfl rfl) ?_
  refine aI_c (fun hd => s_bp hX hd (by decide) rfl) ?_
  refine aI_c (fun hd => s_ic_ne hX hd (by decide) rfl) ?_
  refine aI_c (fun hd => s_ii hX hd (by decide) rfl) ?_
  refine aI_c (fun hd => s_go hX hd (by decide)) ?_
  refine aI_c (fun hd => s_ii hX hd (by decide) rfl) ?_
  refine aI_c (fun hd => s_il_n hX hd rfl rfl) ?_
  refine aI_c (fun hd => s_iadd hX hd rfl) ?_
  refine aI_c (fun hd => s_bp hX hd (by decide) rfl) ?_
  refine aI_c (fun hd => s_isub hX hd rfl) ?_
  refine aI_c (fun hd => s_pI hX (C := RX5) (T := TX5) (N := 35) (k := 22) rfl (fun w h => up w (inlX5 w h)) (by decide) rfl rfl tyX5 tyX5_ok nmX5 rfl rfl rfl (up _ lkX5_121) hd rfl) ?_
  refine aI_c (fun hd => s_al_n hX hd rfl rfl) ?_
  refine aI_c (fun hd => s_il_n hX hd rfl rfl) ?_
  refine aI_c (fun hd => s_ii hX hd (by decide) rfl) ?_
  refine aI_c (fun hd => s_ic_ge hX hd (by decide) rfl) ?_
  refine aI_c (fun hd => s_il_n hX hd rfl rfl) ?_
  refine aI_c (fun hd => s_go hX hd (by decide)) ?_
  refine aI_c (fun hd => s_il_n hX hd rfl rfl) ?_
  refine aI_c (fun hd => s_ii hX hd (by decide) rfl) ?_
  refine aI_c (fun hd => s_isub hX hd rfl) ?_
  refine aI_c (fun hd => s_pI hX (C := RX5) (T := TX5) (N := 35) (k := 23) rfl (fun w h => up w (inlX5 w h)) (by decide) rfl rfl tyX5 tyX5_ok nmX5 rfl rfl rfl (up _ lkX5_124) hd rfl) ?_
  refine aI_c (fun hd => s_go hX hd (by decide)) ?_
  refine aI_c (fun hd => s_il_n hX hd rfl rfl) ?_
  refine aI_c (fun hd => s_bp hX hd (by decide) rfl) ?_
  refine aI_c (fun hd => s_bp hX hd (by decide) rfl) ?_
  refine aI_c (fun hd => s_cS hX (nX5_in l) (wg_S up lmX5_81 loX5_in) rfl rfl rfl (by decide +kernel) ⟨by decide, by decide⟩ ⟨Nat.zero_le _, Nat.zero_le _⟩ hd rfl) ?_
  refine aI_c (fun hd => s_if_eq hX hd (by decide) rfl) ?_
  refine aI_c (fun hd => s_ii hX hd (by decide) rfl) ?_
  refine aI_c (fun hd => s_is_n hX hd rfl rfl (by decide)) ?_
  refine aI_c (fun hd => s_mk (s_al_n hX hd rfl rfl)) ?_
  refine aI_c (fun hd => s_gI hX (C := RX5) (T := TX5) (N := 35) (k := 20) rfl (fun w h => up w (inlX5 w h)) (by decide) rfl rfl rfl (up _ lkX5_115) hd rfl) ?_
  refine aI_c (fun hd => s_al_n hX hd rfl rfl) ?_
  refine aI_c (fun hd => s_gI hX (C := RX5) (T := TX5) (N := 35) (k := 8) rfl (fun w h => up w (inlX5 w h)) (by decide) rfl rfl rfl (up _ lkX5_70) hd rfl) ?_
  refine aI_c (fun hd => s_ic_ge hX hd (by decide) rfl) ?_
  refine aI_c (fun hd => s_al_n hX hd rfl rfl) ?_
  refine aI_c (fun hd => s_gF hX (C := RX5) (T := TX5) (N := 35) (k := 7) rfl (fun w h => up w (inlX5 w h)) (by decide) rfl rfl rfl (up _ lkX5_22) hd rfl) ?_
  refine aI_c (fun hd => s_al_n hX hd rfl rfl) ?_
  refine aI_c (fun hd => s_gI hX (C := RX5) (T := TX5) (N := 35) (k := 20) rfl (fun w h => up w (inlX5 w h)) (by decide) rfl rfl rfl (up _ lkX5_115) hd rfl) ?_
  refine aI_c (fun hd => s_iald hX hd rfl) ?_
  refine aI_c (fun hd => s_bp hX hd (by decide) rfl) ?_
  refine aI_c (fun hd => s_bp hX hd (by decide) rfl) ?_
  refine aI_c (fun hd => s_cS hX (nX5_in l) (wg_S up lmX5_81 loX5_in) rfl rfl rfl (by decide +kernel) ⟨by decide, by decide⟩ ⟨Nat.zero_le _, Nat.zero_le _⟩ hd rfl) ?_
  refine aI_c (fun hd => s_if_eq hX hd (by decide) rfl) ?_
  refine aI_c (fun hd => s_al_n hX hd rfl rfl) ?_
  refine aI_c (fun hd => s_il_n hX hd rfl rfl) ?_
  refine aI_c (fun hd => s_ii hX hd (by decide) rfl) ?_
  refine aI_c (fun hd => s_ic_ge hX hd (by decide) rfl) ?_
  refine aI_c (fun hd => s_bp hX hd (by decide) rfl) ?_
  refine aI_c (fun hd => s_al_n hX hd rfl rfl) ?_
  refine aI_c (fun hd => s_gI hX (C := RX5) (T := TX5) (N := 35) (k := 23) rfl (fun w h => up w (inlX5 w h)) (by decide) rfl rfl rfl (up _ lkX5_124) hd rfl) ?_
  refine aI_c (fun hd => s_imul hX hd rfl) ?_
  refine aI_c (fun hd => s_al_n hX hd rfl rfl) ?_
  refine aI_c (fun hd => s_gF hX (C := RX5) (T := TX5) (N := 35) (k := 7) rfl (fun w h => up w (inlX5 w h)) (by decide) rfl rfl rfl (up _ lkX5_22) hd rfl) ?_
  refine aI_c (fun hd => s_al_n hX hd rfl rfl) ?_
  refine aI_c (fun hd => s_gI hX (C := RX5) (T := TX5) (N := 35) (k := 20) rfl (fun w h => up w (inlX5 w h)) (by decide) rfl rfl rfl (up _ lkX5_115) hd rfl) ?_
  refine aI_c (fun hd => s_iald hX hd rfl) ?_
  refine aI_c (fun hd => s_iadd hX hd rfl) ?_
  refine aI_c (fun hd => s_bp hX hd (by decide) rfl) ?_
  refine aI_c (fun hd => s_isub hX hd rfl) ?_
  refine aI_c (fun hd => s_go hX hd (by decide)) ?_
  refine aI_c (fun hd => s_ii hX hd (by decide) rfl) ?_
  refine aI_c (fun hd => s_pI hX (C := RX5) (T := TX5) (N := 35) (k := 23) rfl (fun w h => up w (inlX5 w h)) (by decide) rfl rfl tyX5 tyX5_ok nmX5 rfl rfl rfl (up _ lkX5_124) hd rfl) ?_
  refine aI_c (fun hd => s_inc hX hd (by decide) rfl (by decide)) ?_
  refine aI_c (fun hd => s_al_n hX hd rfl rfl) ?_
  refine aI_c (fun hd => s_dup hX hd rfl) ?_
  refine aI_c (fun hd => s_gI hX (C := RX5) (T := TX5) (N := 35) (k := 20) rfl (fun w h => up w (inlX5 w h)) (by decide) rfl rfl rfl (up _ lkX5_115) hd rfl) ?_
  refine aI_c (fun hd => s_ii hX hd (by decide) rfl) ?_
  refine aI_c (fun hd => s_iadd hX hd rfl) ?_
  refine aI_c (fun hd => s_pI hX (C := RX5) (T := TX5) (N := 35) (k := 20) rfl (fun w h => up w (inlX5 w h)) (by decide) rfl rfl tyX5 tyX5_ok nmX5 rfl rfl rfl (up _ lkX5_115) hd rfl) ?_
  refine aI_c (fun hd => s_go hX hd (by decide)) ?_
  refine aI_c (fun hd => s_al_n hX hd rfl rfl) ?_
  refine aI_c (fun hd => s_il_n hX hd rfl rfl) ?_
  refine aI_c (fun hd => s_ii hX hd (by decide) rfl) ?_
  refine aI_c (fun hd => s_ic_le hX hd (by decide) rfl) ?_
  refine aI_c (fun hd => s_ii hX hd (by decide) rfl) ?_
  refine aI_c (fun hd => s_go hX hd (by decide)) ?_
  refine aI_c (fun hd => s_ii hX hd (by decide) rfl) ?_
  refine aI_c (fun hd => s_pI hX (C := RX5) (T := TX5) (N := 35) (k := 22) rfl (fun w h => up w (inlX5 w h)) (by decide) rfl rfl tyX5 tyX5_ok nmX5 rfl rfl rfl (up _ lkX5_121) hd rfl) ?_
  refine aI_c (fun hd => s_go hX hd (by decide)) ?_
  refine aI_c (fun hd => s_il_n hX hd rfl rfl) ?_
  refine aI_c (fun hd => s_bp hX hd (by decide) rfl) ?_
  refine aI_c (fun hd => s_ic_eq hX hd (by decide) rfl) ?_
  refine aI_c (fun hd => s_il_n hX hd rfl rfl) ?_
  refine aI_c (fun hd => s_bp hX hd (by decide) rfl) ?_
  refine aI_c (fun hd => s_ic_eq hX hd (by decide) rfl) ?_
  refine aI_c (fun hd => s_il_n hX hd rfl rfl) ?_
  refine aI_c (fun hd => s_bp hX hd (by decide) rfl) ?_
  refine aI_c (fun hd => s_ic_eq hX hd (by decide) rfl) ?_
  refine aI_c (fun hd => s_il_n hX hd rfl rfl) ?_
  refine aI_c (fun hd => s_bp hX hd (by decide) rfl) ?_
  refine aI_c (fun hd => s_ic_eq hX hd (by decide) rfl) ?_
  refine aI_c (fun hd => s_il_n hX hd rfl rfl) ?_
  refine aI_c (fun hd => s_bp hX hd (by decide) rfl) ?_
  refine aI_c (fun hd => s_ic_eq hX hd (by decide) rfl) ?_
  refine aI_c (fun hd => s_il_n hX hd rfl rfl) ?_
  refine aI_c (fun hd => s_bp hX hd (by decide) rfl) ?_
  refine aI_c (fun hd => s_ic_eq hX hd (by decide) rfl) ?_
  refine aI_c (fun hd => s_il_n hX hd rfl rfl) ?_
  refine aI_c (fun hd => s_bp hX hd (by decide) rfl) ?_
  refine aI_c (fun hd => s_ic_eq hX hd (by decide) rfl) ?_
  refine aI_c (fun hd => s_il_n hX hd rfl rfl) ?_
  refine aI_c (fun hd => s_bp hX hd (by decide) rfl) ?_
  refine aI_c (fun hd => s_ic_ne hX hd (by decide) rfl) ?_
  refine aI_c (fun hd => s_ii hX hd (by decide) rfl) ?_
  refine aI_c (fun hd => s_go hX hd (by decide)) ?_
  refine aI_c (fun hd => s_ii hX hd (by decide) rfl) ?_
  refine aI_c (fun hd => s_is_n hX hd rfl rfl (by decide)) ?_
  refine aI_c (fun hd => s_al_n hX hd rfl rfl) ?_
  refine aI_c (fun hd => s_il_n hX hd rfl rfl) ?_
  refine aI_c (fun hd => s_if_eq hX hd (by decide) rfl) ?_
  refine aI_c (fun hd => s_il_n hX hd rfl rfl) ?_
  refine aI_c (fun hd => s_go hX hd (by decide)) ?_
  refine aI_c (fun hd => s_ii hX hd (by decide) rfl) ?_
  refine aI_c (fun hd => s_pI hX (C := RX5) (T := TX5) (N := 35) (k := 22) rfl (fun w h => up w (inlX5 w h)) (by decide) rfl rfl tyX5 tyX5_ok nmX5 rfl rfl rfl (up _ lkX5_121) hd rfl) ?_
  refine aI_c (fun hd => s_al_n hX hd rfl rfl) ?_
  refine aI_c (fun hd => s_dup hX hd rfl) ?_
  refine aI_c (fun hd => s_gI hX (C := RX5) (T := TX5) (N := 35) (k := 20) rfl (fun w h => up w (inlX5 w h)) (by decide) rfl rfl rfl (up _ lkX5_115) hd rfl) ?_
  refine aI_c (fun hd => s_ii hX hd (by decide) rfl) ?_
  refine aI_c (fun hd => s_iadd hX hd rfl) ?_
  refine aI_c (fun hd => s_pI hX (C := RX5) (T := TX5) (N := 35) (k := 20) rfl (fun w h => up w (inlX5 w h)) (by decide) rfl rfl tyX5 tyX5_ok nmX5 rfl rfl rfl (up _ lkX5_115) hd rfl) ?_
  refine aI_c (fun hd => s_rv hX hr hlk hE hd) ?_
  exact trivial

-- JudgesByLossModel.puts(I)V
def tX5_puts : aT := [
  (0, (.aload_n 0, 1), o_al 0 1),
  (1, (.getfield 25, 3), o_gF 5 6 4),
  (4, (.sipush 200, 3), o_ii 200 7),
  (7, (.aload_n 0, 1), o_al 0 8),
  (8, (.getfield 103, 3), o_gI 5 11 11),
  (11, (.imul, 1), o_bi (fun x y => x * y) 12),
  (12, (.aload_n 0, 1), o_al 0 13),
  (13, (.getfield 131, 3), o_gI 5 28 16),
  (16, (.iadd, 1), o_bi (fun x y => x + y) 17),
  (17, (.iload_n 1, 1), o_il 1 18),
  (18, (.iastore, 1), o_iast 19),
  (19, (.aload_n 0, 1), o_al 0 20),
  (20, (.dup, 1), o_dup 21),
  (21, (.getfield 131, 3), o_gI 5 28 24),
  (24, (.iconst 1, 1), o_ii 1 25),
  (25, (.iadd, 1), o_bi (fun x y => x + y) 26),
  (26, (.putfield 131, 3), o_pI 5 28 29),
  (29, (.return_, 1), o_rv)]
abbrev CX5_puts : aC := aCl tX5_puts 2
def rmX5_puts : Room := { frames := 1, cells := 0, slots := 0, locals := 1 }
set_option maxRecDepth 100000 in
theorem dX5_puts : tX5_puts.all (fun q => decide (decode cX5_puts q.1 = .ok q.2.1)) = true := by decide +kernel
set_option maxRecDepth 100000 in
set_option maxHeartbeats 4000000 in
theorem nX5_puts (l : Launch) : aMt l yX5_puts (Cond.code yX5_puts cX5_puts 2 none :: wsL_law) rmX5_puts CX5_puts := by
  refine aMt.of (own := RX5) (cc := cX5_puts) (maxL := 2) (ret := none) (by decide +kernel) rfl rfl ?_
  intro p e s m args below meth c Qc D Z ad P G A E hX hr hlk hE
  have up : ∀ w ∈ wsL_law, w ∈ (Cond.code yX5_puts cX5_puts 2 none :: wsL_law) := fun w h => List.mem_cons_of_mem _ h
  refine aImp_all _ dX5_puts ?_
  unfold tX5_puts
  refine aI_c (fun hd => s_al_n hX hd rfl rfl) ?_
  refine aI_c (fun hd => s_gF hX (C := RX5) (T := TX5) (N := 35) (k := 9) rfl (fun w h => up w (inlX5 w h)) (by decide) rfl rfl rfl (up _ lkX5_25) hd rfl) ?_
  refine aI_c (fun hd => s_sp hX hd (by decide) rfl) ?_
  refine aI_c (fun hd => s_al_n hX hd rfl rfl) ?_
  refine aI_c (fun hd => s_gI hX (C := RX5) (T := TX5) (N := 35) (k := 11) rfl (fun w h => up w (inlX5 w h)) (by decide) rfl rfl rfl (up _ lkX5_103) hd rfl) ?_
  refine aI_c (fun hd => s_imul hX hd rfl) ?_
  refine aI_c (fun hd => s_al_n hX hd rfl rfl) ?_
  refine aI_c (fun hd => s_gI hX (C := RX5) (T := TX5) (N := 35) (k := 28) rfl (fun w h => up w (inlX5 w h)) (by decide) rfl rfl rfl (up _ lkX5_131) hd rfl) ?_
  refine aI_c (fun hd => s_iadd hX hd rfl) ?_
  refine aI_c (fun hd => s_il_n hX hd rfl rfl) ?_
  refine aI_c (fun hd => s_iast hX hd rfl) ?_
  refine aI_c (fun hd => s_al_n hX hd rfl rfl) ?_
  refine aI_c (fun hd => s_dup hX hd rfl) ?_
  refine aI_c (fun hd => s_gI hX (C := RX5) (T := TX5) (N := 35) (k := 28) rfl (fun w h => up w (inlX5 w h)) (by decide) rfl rfl rfl (up _ lkX5_131) hd rfl) ?_
  refine aI_c (fun hd => s_ii hX hd (by decide) rfl) ?_
  refine aI_c (fun hd => s_iadd hX hd rfl) ?_
  refine aI_c (fun hd => s_pI hX (C := RX5) (T := TX5) (N := 35) (k := 28) rfl (fun w h => up w (inlX5 w h)) (by decide) rfl rfl tyX5 tyX5_ok nmX5 rfl rfl rfl (up _ lkX5_131) hd rfl) ?_
  refine aI_c (fun hd => s_rv hX hr hlk hE hd) ?_
  exact trivial

-- JudgesByLossModel.rank(I)I
def tX5_rank : aT := [
  (0, (.iload_n 0, 1), o_il 0 1),
  (1, (.ifCond .ne 7, 3), o_if (fun x => ¬ x = 0) 8 4),
  (4, (.iconst 0, 1), o_ii 0 5),
  (5, (.goto 66, 3), o_go 71),
  (8, (.iload_n 0, 1), o_il 0 9),
  (9, (.bipush 11, 2), o_ii 11 11),
  (11, (.if_icmp .ne 7, 3), o_ic (fun x y => ¬ x = y) 18 14),
  (14, (.iconst 1, 1), o_ii 1 15),
  (15, (.goto 56, 3), o_go 71),
  (18, (.iload_n 0, 1), o_il 0 19),
  (19, (.bipush 12, 2), o_ii 12 21),
  (21, (.if_icmp .ne 7, 3), o_ic (fun x y => ¬ x = y) 28 24),
  (24, (.iconst 2, 1), o_ii 2 25),
  (25, (.goto 46, 3), o_go 71),
  (28, (.iload_n 0, 1), o_il 0 29),
  (29, (.bipush 13, 2), o_ii 13 31),
  (31, (.if_icmp .ne 7, 3), o_ic (fun x y => ¬ x = y) 38 34),
  (34, (.iconst 3, 1), o_ii 3 35),
  (35, (.goto 36, 3), o_go 71),
  (38, (.iload_n 0, 1), o_il 0 39),
  (39, (.bipush 15, 2), o_ii 15 41),
  (41, (.if_icmp .gt 7, 3), o_ic (fun x y => y < x) 48 44),
  (44, (.iconst 4, 1), o_ii 4 45),
  (45, (.goto 26, 3), o_go 71),
  (48, (.iload_n 0, 1), o_il 0 49),
  (49, (.bipush 17, 2), o_ii 17 51),
  (51, (.if_icmp .gt 7, 3), o_ic (fun x y => y < x) 58 54),
  (54, (.iconst 5, 1), o_ii 5 55),
  (55, (.goto 16, 3), o_go 71),
  (58, (.iload_n 0, 1), o_il 0 59),
  (59, (.bipush 18, 2), o_ii 18 61),
  (61, (.if_icmp .ne 8, 3), o_ic (fun x y => ¬ x = y) 69 64),
  (64, (.bipush 6, 2), o_ii 6 66),
  (66, (.goto 5, 3), o_go 71),
  (69, (.bipush 7, 2), o_ii 7 71),
  (71, (.ireturn, 1), o_ri)]
abbrev CX5_rank : aC := aCl tX5_rank 1
def rmX5_rank : Room := { frames := 1, cells := 0, slots := 0, locals := 1 }
set_option maxRecDepth 100000 in
theorem dX5_rank : tX5_rank.all (fun q => decide (decode cX5_rank q.1 = .ok q.2.1)) = true := by decide +kernel
set_option maxRecDepth 100000 in
set_option maxHeartbeats 4000000 in
theorem nX5_rank (l : Launch) : aMt l yX5_rank (Cond.code yX5_rank cX5_rank 1 (some .int) :: wsL_law) rmX5_rank CX5_rank := by
  refine aMt.of (own := RX5) (cc := cX5_rank) (maxL := 1) (ret := (some .int)) (by decide +kernel) rfl rfl ?_
  intro p e s m args below meth c Qc D Z ad P G A E hX hr hlk hE
  have up : ∀ w ∈ wsL_law, w ∈ (Cond.code yX5_rank cX5_rank 1 (some .int) :: wsL_law) := fun w h => List.mem_cons_of_mem _ h
  refine aImp_all _ dX5_rank ?_
  unfold tX5_rank
  refine aI_c (fun hd => s_il_n hX hd rfl rfl) ?_
  refine aI_c (fun hd => s_if_ne hX hd (by decide) rfl) ?_
  refine aI_c (fun hd => s_ii hX hd (by decide) rfl) ?_
  refine aI_c (fun hd => s_go hX hd (by decide)) ?_
  refine aI_c (fun hd => s_il_n hX hd rfl rfl) ?_
  refine aI_c (fun hd => s_bp hX hd (by decide) rfl) ?_
  refine aI_c (fun hd => s_ic_ne hX hd (by decide) rfl) ?_
  refine aI_c (fun hd => s_ii hX hd (by decide) rfl) ?_
  refine aI_c (fun hd => s_go hX hd (by decide)) ?_
  refine aI_c (fun hd => s_il_n hX hd rfl rfl) ?_
  refine aI_c (fun hd => s_bp hX hd (by decide) rfl) ?_
  refine aI_c (fun hd => s_ic_ne hX hd (by decide) rfl) ?_
  refine aI_c (fun hd => s_ii hX hd (by decide) rfl) ?_
  refine aI_c (fun hd => s_go hX hd (by decide)) ?_
  refine aI_c (fun hd => s_il_n hX hd rfl rfl) ?_
  refine aI_c (fun hd => s_bp hX hd (by decide) rfl) ?_
  refine aI_c (fun hd => s_ic_ne hX hd (by decide) rfl) ?_
  refine aI_c (fun hd => s_ii hX hd (by decide) rfl) ?_
  refine aI_c (fun hd => s_go hX hd (by decide)) ?_
  refine aI_c (fun hd => s_il_n hX hd rfl rfl) ?_
  refine aI_c (fun hd => s_bp hX hd (by decide) rfl) ?_
  refine aI_c (fun hd => s_ic_gt hX hd (by decide) rfl) ?_
  refine aI_c (fun hd => s_ii hX hd (by decide) rfl) ?_
  refine aI_c (fun hd => s_go hX hd (by decide)) ?_
  refine aI_c (fun hd => s_il_n hX hd rfl rfl) ?_
  refine aI_c (fun hd => s_bp hX hd (by decide) rfl) ?_
  refine aI_c (fun hd => s_ic_gt hX hd (by decide) rfl) ?_
  refine aI_c (fun hd => s_ii hX hd (by decide) rfl) ?_
  refine aI_c (fun hd => s_go hX hd (by decide)) ?_
  refine aI_c (fun hd => s_il_n hX hd rfl rfl) ?_
  refine aI_c (fun hd => s_bp hX hd (by decide) rfl) ?_
  refine aI_c (fun hd => s_ic_ne hX hd (by decide) rfl) ?_
  refine aI_c (fun hd => s_bp hX hd (by decide) rfl) ?_
  refine aI_c (fun hd => s_go hX hd (by decide)) ?_
  refine aI_c (fun hd => s_bp hX hd (by decide) rfl) ?_
  refine aI_c (fun hd => s_ri hX hr hlk hE hd) ?_
  exact trivial

-- JudgesByLossModel.unwinds(I)V
def tX5_unwinds : aT := [
  (0, (.aload_n 0, 1), o_mk [false, false, true] (o_al 0 1)),
  (1, (.getfield 134, 3), o_gI 5 26 4),
  (4, (.ifCond .le 75, 3), o_if (fun x => x ≤ 0) 79 7),
  (7, (.aload_n 0, 1), o_al 0 8),
  (8, (.getfield 52, 3), o_gF 5 15 11),
  (11, (.aload_n 0, 1), o_al 0 12),
  (12, (.getfield 134, 3), o_gI 5 26 15),
  (15, (.iconst 1, 1), o_ii 1 16),
  (16, (.isub, 1), o_bi (fun x y => x - y) 17),
  (17, (.iaload, 1), o_iald 18),
  (18, (.invokestatic 137, 3), o_cS CX5_rank 1 21),
  (21, (.iload_n 1, 1), o_il 1 22),
  (22, (.if_icmp .lt 57, 3), o_ic (fun x y => x < y) 79 25),
  (25, (.aload_n 0, 1), o_al 0 26),
  (26, (.dup, 1), o_dup 27),
  (27, (.getfield 134, 3), o_gI 5 26 30),
  (30, (.iconst 1, 1), o_ii 1 31),
  (31, (.isub, 1), o_bi (fun x y => x - y) 32),
  (32, (.putfield 134, 3), o_pI 5 26 35),
  (35, (.aload_n 0, 1), o_al 0 36),
  (36, (.getfield 52, 3), o_gF 5 15 39),
  (39, (.aload_n 0, 1), o_al 0 40),
  (40, (.getfield 134, 3), o_gI 5 26 43),
  (43, (.iaload, 1), o_iald 44),
  (44, (.istore_n 2, 1), o_is 2 45),
  (45, (.aload_n 0, 1), o_al 0 46),
  (46, (.dup, 1), o_dup 47),
  (47, (.getfield 140, 3), o_gI 5 27 50),
  (50, (.iload_n 2, 1), o_il 2 51),
  (51, (.bipush 13, 2), o_ii 13 53),
  (53, (.if_icmp .eq 9, 3), o_ic (fun x y => x = y) 62 56),
  (56, (.iload_n 2, 1), o_il 2 57),
  (57, (.bipush 19, 2), o_ii 19 59),
  (59, (.if_icmp .ne 7, 3), o_ic (fun x y => ¬ x = y) 66 62),
  (62, (.iconst 1, 1), o_ii 1 63),
  (63, (.goto 4, 3), o_go 67),
  (66, (.iconst 0, 1), o_ii 0 67),
  (67, (.isub, 1), o_bi (fun x y => x - y) 68),
  (68, (.putfield 140, 3), o_pI 5 27 71),
  (71, (.aload_n 0, 1), o_al 0 72),
  (72, (.iload_n 2, 1), o_il 2 73),
  (73, (.invokevirtual 143, 3), o_cV CX5_puts 5 1 76),
  (76, (.goto (-76), 3), o_go 0),
  (79, (.return_, 1), o_rv)]
abbrev CX5_unwinds : aC := aCl tX5_unwinds 3
def rmX5_unwinds : Room := { frames := 2, cells := 0, slots := 0, locals := 22 }
set_option maxRecDepth 100000 in
theorem dX5_unwinds : tX5_unwinds.all (fun q => decide (decode cX5_unwinds q.1 = .ok q.2.1)) = true := by decide +kernel
set_option maxRecDepth 100000 in
set_option maxHeartbeats 4000000 in
theorem nX5_unwinds (l : Launch) : aMt l yX5_unwinds (Cond.code yX5_unwinds cX5_unwinds 3 none :: wsL_law) rmX5_unwinds CX5_unwinds := by
  refine aMt.of (own := RX5) (cc := cX5_unwinds) (maxL := 3) (ret := none) (by decide +kernel) rfl rfl ?_
  intro p e s m args below meth c Qc D Z ad P G A E hX hr hlk hE
  have up : ∀ w ∈ wsL_law, w ∈ (Cond.code yX5_unwinds cX5_unwinds 3 none :: wsL_law) := fun w h => List.mem_cons_of_mem _ h
  refine aImp_all _ dX5_unwinds ?_
  unfold tX5_unwinds
  refine aI_c (fun hd => s_mk (s_al_n hX hd rfl rfl)) ?_
  refine aI_c (fun hd => s_gI hX (C := RX5) (T := TX5) (N := 35) (k := 26) rfl (fun w h => up w (inlX5 w h)) (by decide) rfl rfl rfl (up _ lkX5_134) hd rfl) ?_
  refine aI_c (fun hd => s_if_le hX hd (by decide) rfl) ?_
  refine aI_c (fun hd => s_al_n hX hd rfl rfl) ?_
  refine aI_c (fun hd => s_gF hX (C := RX5) (T := TX5) (N := 35) (k := 25) rfl (fun w h => up w (inlX5 w h)) (by decide) rfl rfl rfl (up _ lkX5_52) hd rfl) ?_
  refine aI_c (fun hd => s_al_n hX hd rfl rfl) ?_
  refine aI_c (fun hd => s_gI hX (C := RX5) (T := TX5) (N := 35) (k := 26) rfl (fun w h => up w (inlX5 w h)) (by decide) rfl rfl rfl (up _ lkX5_134) hd rfl) ?_
  refine aI_c (fun hd => s_ii hX hd (by decide) rfl) ?_
  refine aI_c (fun hd => s_isub hX hd rfl) ?_
  refine aI_c (fun hd => s_iald hX hd rfl) ?_
  refine aI_c (fun hd => s_cS hX (nX5_rank l) (wg_S up lmX5_137 loX5_rank) rfl rfl rfl (by decide +kernel) ⟨by decide, by decide⟩ ⟨Nat.zero_le _, Nat.zero_le _⟩ hd rfl) ?_
  refine aI_c (fun hd => s_il_n hX hd rfl rfl) ?_
  refine aI_c (fun hd => s_ic_lt hX hd (by decide) rfl) ?_
  refine aI_c (fun hd => s_al_n hX hd rfl rfl) ?_
  refine aI_c (fun hd => s_dup hX hd rfl) ?_
  refine aI_c (fun hd => s_gI hX (C := RX5) (T := TX5) (N := 35) (k := 26) rfl (fun w h => up w (inlX5 w h)) (by decide) rfl rfl rfl (up _ lkX5_134) hd rfl) ?_
  refine aI_c (fun hd => s_ii hX hd (by decide) rfl) ?_
  refine aI_c (fun hd => s_isub hX hd rfl) ?_
  refine aI_c (fun hd => s_pI hX (C := RX5) (T := TX5) (N := 35) (k := 26) rfl (fun w h => up w (inlX5 w h)) (by decide) rfl rfl tyX5 tyX5_ok nmX5 rfl rfl rfl (up _ lkX5_134) hd rfl) ?_
  refine aI_c (fun hd => s_al_n hX hd rfl rfl) ?_
  refine aI_c (fun hd => s_gF hX (C := RX5) (T := TX5) (N := 35) (k := 25) rfl (fun w h => up w (inlX5 w h)) (by decide) rfl rfl rfl (up _ lkX5_52) hd rfl) ?_
  refine aI_c (fun hd => s_al_n hX hd rfl rfl) ?_
  refine aI_c (fun hd => s_gI hX (C := RX5) (T := TX5) (N := 35) (k := 26) rfl (fun w h => up w (inlX5 w h)) (by decide) rfl rfl rfl (up _ lkX5_134) hd rfl) ?_
  refine aI_c (fun hd => s_iald hX hd rfl) ?_
  refine aI_c (fun hd => s_is_n hX hd rfl rfl (by decide)) ?_
  refine aI_c (fun hd => s_al_n hX hd rfl rfl) ?_
  refine aI_c (fun hd => s_dup hX hd rfl) ?_
  refine aI_c (fun hd => s_gI hX (C := RX5) (T := TX5) (N := 35) (k := 27) rfl (fun w h => up w (inlX5 w h)) (by decide) rfl rfl rfl (up _ lkX5_140) hd rfl) ?_
  refine aI_c (fun hd => s_il_n hX hd rfl rfl) ?_
  refine aI_c (fun hd => s_bp hX hd (by decide) rfl) ?_
  refine aI_c (fun hd => s_ic_eq hX hd (by decide) rfl) ?_
  refine aI_c (fun hd => s_il_n hX hd rfl rfl) ?_
  refine aI_c (fun hd => s_bp hX hd (by decide) rfl) ?_
  refine aI_c (fun hd => s_ic_ne hX hd (by decide) rfl) ?_
  refine aI_c (fun hd => s_ii hX hd (by decide) rfl) ?_
  refine aI_c (fun hd => s_go hX hd (by decide)) ?_
  refine aI_c (fun hd => s_ii hX hd (by decide) rfl) ?_
  refine aI_c (fun hd => s_isub hX hd rfl) ?_
  refine aI_c (fun hd => s_pI hX (C := RX5) (T := TX5) (N := 35) (k := 27) rfl (fun w h => up w (inlX5 w h)) (by decide) rfl rfl tyX5 tyX5_ok nmX5 rfl rfl rfl (up _ lkX5_140) hd rfl) ?_
  refine aI_c (fun hd => s_al_n hX hd rfl rfl) ?_
  refine aI_c (fun hd => s_il_n hX hd rfl rfl) ?_
  refine aI_c (fun hd => s_cV hX (T := TX5) (N := 35) (nX5_puts l) rfl (wg_V up lmX5_143 loX5_puts) rfl rfl rfl (by decide +kernel) ⟨by decide, by decide⟩ ⟨Nat.zero_le _, Nat.zero_le _⟩ hd rfl) ?_
  refine aI_c (fun hd => s_go hX hd (by decide)) ?_
  refine aI_c (fun hd => s_rv hX hr hlk hE hd) ?_
  exact trivial

-- JudgesByLossModel.holds(I)V
def tX5_holds : aT := [
  (0, (.aload_n 0, 1), o_al 0 1),
  (1, (.getfield 52, 3), o_gF 5 15 4),
  (4, (.aload_n 0, 1), o_al 0 5),
  (5, (.getfield 134, 3), o_gI 5 26 8),
  (8, (.iload_n 1, 1), o_il 1 9),
  (9, (.iastore, 1), o_iast 10),
  (10, (.aload_n 0, 1), o_al 0 11),
  (11, (.dup, 1), o_dup 12),
  (12, (.getfield 134, 3), o_gI 5 26 15),
  (15, (.iconst 1, 1), o_ii 1 16),
  (16, (.iadd, 1), o_bi (fun x y => x + y) 17),
  (17, (.putfield 134, 3), o_pI 5 26 20),
  (20, (.return_, 1), o_rv)]
abbrev CX5_holds : aC := aCl tX5_holds 2
def rmX5_holds : Room := { frames := 1, cells := 0, slots := 0, locals := 1 }
set_option maxRecDepth 100000 in
theorem dX5_holds : tX5_holds.all (fun q => decide (decode cX5_holds q.1 = .ok q.2.1)) = true := by decide +kernel
set_option maxRecDepth 100000 in
set_option maxHeartbeats 4000000 in
theorem nX5_holds (l : Launch) : aMt l yX5_holds (Cond.code yX5_holds cX5_holds 2 none :: wsL_law) rmX5_holds CX5_holds := by
  refine aMt.of (own := RX5) (cc := cX5_holds) (maxL := 2) (ret := none) (by decide +kernel) rfl rfl ?_
  intro p e s m args below meth c Qc D Z ad P G A E hX hr hlk hE
  have up : ∀ w ∈ wsL_law, w ∈ (Cond.code yX5_holds cX5_holds 2 none :: wsL_law) := fun w h => List.mem_cons_of_mem _ h
  refine aImp_all _ dX5_holds ?_
  unfold tX5_holds
  refine aI_c (fun hd => s_al_n hX hd rfl rfl) ?_
  refine aI_c (fun hd => s_gF hX (C := RX5) (T := TX5) (N := 35) (k := 25) rfl (fun w h => up w (inlX5 w h)) (by decide) rfl rfl rfl (up _ lkX5_52) hd rfl) ?_
  refine aI_c (fun hd => s_al_n hX hd rfl rfl) ?_
  refine aI_c (fun hd => s_gI hX (C := RX5) (T := TX5) (N := 35) (k := 26) rfl (fun w h => up w (inlX5 w h)) (by decide) rfl rfl rfl (up _ lkX5_134) hd rfl) ?_
  refine aI_c (fun hd => s_il_n hX hd rfl rfl) ?_
  refine aI_c (fun hd => s_iast hX hd rfl) ?_
  refine aI_c (fun hd => s_al_n hX hd rfl rfl) ?_
  refine aI_c (fun hd => s_dup hX hd rfl) ?_
  refine aI_c (fun hd => s_gI hX (C := RX5) (T := TX5) (N := 35) (k := 26) rfl (fun w h => up w (inlX5 w h)) (by decide) rfl rfl rfl (up _ lkX5_134) hd rfl) ?_
  refine aI_c (fun hd => s_ii hX hd (by decide) rfl) ?_
  refine aI_c (fun hd => s_iadd hX hd rfl) ?_
  refine aI_c (fun hd => s_pI hX (C := RX5) (T := TX5) (N := 35) (k := 26) rfl (fun w h => up w (inlX5 w h)) (by decide) rfl rfl tyX5 tyX5_ok nmX5 rfl rfl rfl (up _ lkX5_134) hd rfl) ?_
  refine aI_c (fun hd => s_rv hX hr hlk hE hd) ?_
  exact trivial

-- JudgesByLossModel.opensOne(I)Z
def tX5_opensOne : aT := [
  (0, (.aload_n 0, 1), o_al 0 1),
  (1, (.getfield 140, 3), o_gI 5 27 4),
  (4, (.iconst 5, 1), o_ii 5 5),
  (5, (.if_icmp .ne 5, 3), o_ic (fun x y => ¬ x = y) 10 8),
  (8, (.iconst 0, 1), o_ii 0 9),
  (9, (.ireturn, 1), o_rz),
  (10, (.aload_n 0, 1), o_al 0 11),
  (11, (.dup, 1), o_dup 12),
  (12, (.getfield 140, 3), o_gI 5 27 15),
  (15, (.iconst 1, 1), o_ii 1 16),
  (16, (.iadd, 1), o_bi (fun x y => x + y) 17),
  (17, (.putfield 140, 3), o_pI 5 27 20),
  (20, (.aload_n 0, 1), o_al 0 21),
  (21, (.iload_n 1, 1), o_il 1 22),
  (22, (.invokevirtual 147, 3), o_cV CX5_holds 5 1 25),
  (25, (.iconst 1, 1), o_ii 1 26),
  (26, (.ireturn, 1), o_rz)]
abbrev CX5_opensOne : aC := aCl tX5_opensOne 2
def rmX5_opensOne : Room := { frames := 2, cells := 0, slots := 0, locals := 22 }
set_option maxRecDepth 100000 in
theorem dX5_opensOne : tX5_opensOne.all (fun q => decide (decode cX5_opensOne q.1 = .ok q.2.1)) = true := by decide +kernel
set_option maxRecDepth 100000 in
set_option maxHeartbeats 4000000 in
theorem nX5_opensOne (l : Launch) : aMt l yX5_opensOne (Cond.code yX5_opensOne cX5_opensOne 2 (some .boolean) :: wsL_law) rmX5_opensOne CX5_opensOne := by
  refine aMt.of (own := RX5) (cc := cX5_opensOne) (maxL := 2) (ret := (some .boolean)) (by decide +kernel) rfl rfl ?_
  intro p e s m args below meth c Qc D Z ad P G A E hX hr hlk hE
  have up : ∀ w ∈ wsL_law, w ∈ (Cond.code yX5_opensOne cX5_opensOne 2 (some .boolean) :: wsL_law) := fun w h => List.mem_cons_of_mem _ h
  refine aImp_all _ dX5_opensOne ?_
  unfold tX5_opensOne
  refine aI_c (fun hd => s_al_n hX hd rfl rfl) ?_
  refine aI_c (fun hd => s_gI hX (C := RX5) (T := TX5) (N := 35) (k := 27) rfl (fun w h => up w (inlX5 w h)) (by decide) rfl rfl rfl (up _ lkX5_140) hd rfl) ?_
  refine aI_c (fun hd => s_ii hX hd (by decide) rfl) ?_
  refine aI_c (fun hd => s_ic_ne hX hd (by decide) rfl) ?_
  refine aI_c (fun hd => s_ii hX hd (by decide) rfl) ?_
  refine aI_c (fun hd => s_rz hX hr hlk hE hd) ?_
  refine aI_c (fun hd => s_al_n hX hd rfl rfl) ?_
  refine aI_c (fun hd => s_dup hX hd rfl) ?_
  refine aI_c (fun hd => s_gI hX (C := RX5) (T := TX5) (N := 35) (k := 27) rfl (fun w h => up w (inlX5 w h)) (by decide) rfl rfl rfl (up _ lkX5_140) hd rfl) ?_
  refine aI_c (fun hd => s_ii hX hd (by decide) rfl) ?_
  refine aI_c (fun hd => s_iadd hX hd rfl) ?_
  refine aI_c (fun hd => s_pI hX (C := RX5) (T := TX5) (N := 35) (k := 27) rfl (fun w h => up w (inlX5 w h)) (by decide) rfl rfl tyX5 tyX5_ok nmX5 rfl rfl rfl (up _ lkX5_140) hd rfl) ?_
  refine aI_c (fun hd => s_al_n hX hd rfl rfl) ?_
  refine aI_c (fun hd => s_il_n hX hd rfl rfl) ?_
  refine aI_c (fun hd => s_cV hX (T := TX5) (N := 35) (nX5_holds l) rfl (wg_V up lmX5_147 loX5_holds) rfl rfl rfl (by decide +kernel) ⟨by decide, by decide⟩ ⟨Nat.zero_le _, Nat.zero_le _⟩ hd rfl) ?_
  refine aI_c (fun hd => s_ii hX hd (by decide) rfl) ?_
  refine aI_c (fun hd => s_rz hX hr hlk hE hd) ?_
  exact trivial

-- JudgesByLossModel.signOf()I
def tX5_signOf : aT := [
  (0, (.aload_n 0, 1), o_al 0 1),
  (1, (.getfield 121, 3), o_gI 5 22 4),
  (4, (.iconst 4, 1), o_ii 4 5),
  (5, (.if_icmp .ne 8, 3), o_ic (fun x y => ¬ x = y) 13 8),
  (8, (.bipush 11, 2), o_ii 11 10),
  (10, (.goto 87, 3), o_go 97),
  (13, (.aload_n 0, 1), o_al 0 14),
  (14, (.getfield 121, 3), o_gI 5 22 17),
  (17, (.iconst 5, 1), o_ii 5 18),
  (18, (.if_icmp .ne 8, 3), o_ic (fun x y => ¬ x = y) 26 21),
  (21, (.bipush 12, 2), o_ii 12 23),
  (23, (.goto 74, 3), o_go 97),
  (26, (.aload_n 0, 1), o_al 0 27),
  (27, (.getfield 121, 3), o_gI 5 22 30),
  (30, (.bipush 60, 2), o_ii 60 32),
  (32, (.if_icmp .ne 8, 3), o_ic (fun x y => ¬ x = y) 40 35),
  (35, (.bipush 14, 2), o_ii 14 37),
  (37, (.goto 60, 3), o_go 97),
  (40, (.aload_n 0, 1), o_al 0 41),
  (41, (.getfield 121, 3), o_gI 5 22 44),
  (44, (.bipush 61, 2), o_ii 61 46),
  (46, (.if_icmp .ne 8, 3), o_ic (fun x y => ¬ x = y) 54 49),
  (49, (.bipush 15, 2), o_ii 15 51),
  (51, (.goto 46, 3), o_go 97),
  (54, (.aload_n 0, 1), o_al 0 55),
  (55, (.getfield 121, 3), o_gI 5 22 58),
  (58, (.bipush 43, 2), o_ii 43 60),
  (60, (.if_icmp .ne 8, 3), o_ic (fun x y => ¬ x = y) 68 63),
  (63, (.bipush 16, 2), o_ii 16 65),
  (65, (.goto 32, 3), o_go 97),
  (68, (.aload_n 0, 1), o_al 0 69),
  (69, (.getfield 121, 3), o_gI 5 22 72),
  (72, (.bipush 45, 2), o_ii 45 74),
  (74, (.if_icmp .ne 8, 3), o_ic (fun x y => ¬ x = y) 82 77),
  (77, (.bipush 17, 2), o_ii 17 79),
  (79, (.goto 18, 3), o_go 97),
  (82, (.aload_n 0, 1), o_al 0 83),
  (83, (.getfield 121, 3), o_gI 5 22 86),
  (86, (.bipush 42, 2), o_ii 42 88),
  (88, (.if_icmp .ne 8, 3), o_ic (fun x y => ¬ x = y) 96 91),
  (91, (.bipush 18, 2), o_ii 18 93),
  (93, (.goto 4, 3), o_go 97),
  (96, (.iconst (-1), 1), o_ii (-1) 97),
  (97, (.ireturn, 1), o_ri)]
abbrev CX5_signOf : aC := aCl tX5_signOf 1
def rmX5_signOf : Room := { frames := 1, cells := 0, slots := 0, locals := 1 }
set_option maxRecDepth 100000 in
theorem dX5_signOf : tX5_signOf.all (fun q => decide (decode cX5_signOf q.1 = .ok q.2.1)) = true := by decide +kernel
set_option maxRecDepth 100000 in
set_option maxHeartbeats 4000000 in
theorem nX5_signOf (l : Launch) : aMt l yX5_signOf (Cond.code yX5_signOf cX5_signOf 1 (some .int) :: wsL_law) rmX5_signOf CX5_signOf := by
  refine aMt.of (own := RX5) (cc := cX5_signOf) (maxL := 1) (ret := (some .int)) (by decide +kernel) rfl rfl ?_
  intro p e s m args below meth c Qc D Z ad P G A E hX hr hlk hE
  have up : ∀ w ∈ wsL_law, w ∈ (Cond.code yX5_signOf cX5_signOf 1 (some .int) :: wsL_law) := fun w h => List.mem_cons_of_mem _ h
  refine aImp_all _ dX5_signOf ?_
  unfold tX5_signOf
  refine aI_c (fun hd => s_al_n hX hd rfl rfl) ?_
  refine aI_c (fun hd => s_gI hX (C := RX5) (T := TX5) (N := 35) (k := 22) rfl (fun w h => up w (inlX5 w h)) (by decide) rfl rfl rfl (up _ lkX5_121) hd rfl) ?_
  refine aI_c (fun hd => s_ii hX hd (by decide) rfl) ?_
  refine aI_c (fun hd => s_ic_ne hX hd (by decide) rfl) ?_
  refine aI_c (fun hd => s_bp hX hd (by decide) rfl) ?_
  refine aI_c (fun hd => s_go hX hd (by decide)) ?_
  refine aI_c (fun hd => s_al_n hX hd rfl rfl) ?_
  refine aI_c (fun hd => s_gI hX (C := RX5) (T := TX5) (N := 35) (k := 22) rfl (fun w h => up w (inlX5 w h)) (by decide) rfl rfl rfl (up _ lkX5_121) hd rfl) ?_
  refine aI_c (fun hd => s_ii hX hd (by decide) rfl) ?_
  refine aI_c (fun hd => s_ic_ne hX hd (by decide) rfl) ?_
  refine aI_c (fun hd => s_bp hX hd (by decide) rfl) ?_
  refine aI_c (fun hd => s_go hX hd (by decide)) ?_
  refine aI_c (fun hd => s_al_n hX hd rfl rfl) ?_
  refine aI_c (fun hd => s_gI hX (C := RX5) (T := TX5) (N := 35) (k := 22) rfl (fun w h => up w (inlX5 w h)) (by decide) rfl rfl rfl (up _ lkX5_121) hd rfl) ?_
  refine aI_c (fun hd => s_bp hX hd (by decide) rfl) ?_
  refine aI_c (fun hd => s_ic_ne hX hd (by decide) rfl) ?_
  refine aI_c (fun hd => s_bp hX hd (by decide) rfl) ?_
  refine aI_c (fun hd => s_go hX hd (by decide)) ?_
  refine aI_c (fun hd => s_al_n hX hd rfl rfl) ?_
  refine aI_c (fun hd => s_gI hX (C := RX5) (T := TX5) (N := 35) (k := 22) rfl (fun w h => up w (inlX5 w h)) (by decide) rfl rfl rfl (up _ lkX5_121) hd rfl) ?_
  refine aI_c (fun hd => s_bp hX hd (by decide) rfl) ?_
  refine aI_c (fun hd => s_ic_ne hX hd (by decide) rfl) ?_
  refine aI_c (fun hd => s_bp hX hd (by decide) rfl) ?_
  refine aI_c (fun hd => s_go hX hd (by decide)) ?_
  refine aI_c (fun hd => s_al_n hX hd rfl rfl) ?_
  refine aI_c (fun hd => s_gI hX (C := RX5) (T := TX5) (N := 35) (k := 22) rfl (fun w h => up w (inlX5 w h)) (by decide) rfl rfl rfl (up _ lkX5_121) hd rfl) ?_
  refine aI_c (fun hd => s_bp hX hd (by decide) rfl) ?_
  refine aI_c (fun hd => s_ic_ne hX hd (by decide) rfl) ?_
  refine aI_c (fun hd => s_bp hX hd (by decide) rfl) ?_
  refine aI_c (fun hd => s_go hX hd (by decide)) ?_
  refine aI_c (fun hd => s_al_n hX hd rfl rfl) ?_
  refine aI_c (fun hd => s_gI hX (C := RX5) (T := TX5) (N := 35) (k := 22) rfl (fun w h => up w (inlX5 w h)) (by decide) rfl rfl rfl (up _ lkX5_121) hd rfl) ?_
  refine aI_c (fun hd => s_bp hX hd (by decide) rfl) ?_
  refine aI_c (fun hd => s_ic_ne hX hd (by decide) rfl) ?_
  refine aI_c (fun hd => s_bp hX hd (by decide) rfl) ?_
  refine aI_c (fun hd => s_go hX hd (by decide)) ?_
  refine aI_c (fun hd => s_al_n hX hd rfl rfl) ?_
  refine aI_c (fun hd => s_gI hX (C := RX5) (T := TX5) (N := 35) (k := 22) rfl (fun w h => up w (inlX5 w h)) (by decide) rfl rfl rfl (up _ lkX5_121) hd rfl) ?_
  refine aI_c (fun hd => s_bp hX hd (by decide) rfl) ?_
  refine aI_c (fun hd => s_ic_ne hX hd (by decide) rfl) ?_
  refine aI_c (fun hd => s_bp hX hd (by decide) rfl) ?_
  refine aI_c (fun hd => s_go hX hd (by decide)) ?_
  refine aI_c (fun hd => s_ii hX hd (by decide) rfl) ?_
  refine aI_c (fun hd => s_ri hX hr hlk hE hd) ?_
  exact trivial

-- JudgesByLossModel.between(I)Z
def tX5_between : aT := [
  (0, (.aload_n 0, 1), o_al 0 1),
  (1, (.iload_n 1, 1), o_il 1 2),
  (2, (.invokestatic 137, 3), o_cS CX5_rank 1 5),
  (5, (.iconst 4, 1), o_ii 4 6),
  (6, (.if_icmp .ne 7, 3), o_ic (fun x y => ¬ x = y) 13 9),
  (9, (.iconst 5, 1), o_ii 5 10),
  (10, (.goto 7, 3), o_go 17),
  (13, (.iload_n 1, 1), o_il 1 14),
  (14, (.invokestatic 137, 3), o_cS CX5_rank 1 17),
  (17, (.invokevirtual 150, 3), o_cV CX5_unwinds 5 1 20),
  (20, (.iload_n 1, 1), o_il 1 21),
  (21, (.invokestatic 137, 3), o_cS CX5_rank 1 24),
  (24, (.iconst 4, 1), o_ii 4 25),
  (25, (.if_icmp .ne 30, 3), o_ic (fun x y => ¬ x = y) 55 28),
  (28, (.aload_n 0, 1), o_al 0 29),
  (29, (.getfield 134, 3), o_gI 5 26 32),
  (32, (.ifCond .le 23, 3), o_if (fun x => x ≤ 0) 55 35),
  (35, (.aload_n 0, 1), o_al 0 36),
  (36, (.getfield 52, 3), o_gF 5 15 39),
  (39, (.aload_n 0, 1), o_al 0 40),
  (40, (.getfield 134, 3), o_gI 5 26 43),
  (43, (.iconst 1, 1), o_ii 1 44),
  (44, (.isub, 1), o_bi (fun x y => x - y) 45),
  (45, (.iaload, 1), o_iald 46),
  (46, (.invokestatic 137, 3), o_cS CX5_rank 1 49),
  (49, (.iconst 4, 1), o_ii 4 50),
  (50, (.if_icmp .ne 5, 3), o_ic (fun x y => ¬ x = y) 55 53),
  (53, (.iconst 0, 1), o_ii 0 54),
  (54, (.ireturn, 1), o_rz),
  (55, (.aload_n 0, 1), o_al 0 56),
  (56, (.iload_n 1, 1), o_il 1 57),
  (57, (.invokevirtual 147, 3), o_cV CX5_holds 5 1 60),
  (60, (.iconst 1, 1), o_ii 1 61),
  (61, (.ireturn, 1), o_rz)]
abbrev CX5_between : aC := aCl tX5_between 2
def rmX5_between : Room := { frames := 3, cells := 0, slots := 0, locals := 44 }
set_option maxRecDepth 100000 in
theorem dX5_between : tX5_between.all (fun q => decide (decode cX5_between q.1 = .ok q.2.1)) = true := by decide +kernel
set_option maxRecDepth 100000 in
set_option maxHeartbeats 4000000 in
theorem nX5_between (l : Launch) : aMt l yX5_between (Cond.code yX5_between cX5_between 2 (some .boolean) :: wsL_law) rmX5_between CX5_between := by
  refine aMt.of (own := RX5) (cc := cX5_between) (maxL := 2) (ret := (some .boolean)) (by decide +kernel) rfl rfl ?_
  intro p e s m args below meth c Qc D Z ad P G A E hX hr hlk hE
  have up : ∀ w ∈ wsL_law, w ∈ (Cond.code yX5_between cX5_between 2 (some .boolean) :: wsL_law) := fun w h => List.mem_cons_of_mem _ h
  refine aImp_all _ dX5_between ?_
  unfold tX5_between
  refine aI_c (fun hd => s_al_n hX hd rfl rfl) ?_
  refine aI_c (fun hd => s_il_n hX hd rfl rfl) ?_
  refine aI_c (fun hd => s_cS hX (nX5_rank l) (wg_S up lmX5_137 loX5_rank) rfl rfl rfl (by decide +kernel) ⟨by decide, by decide⟩ ⟨Nat.zero_le _, Nat.zero_le _⟩ hd rfl) ?_
  refine aI_c (fun hd => s_ii hX hd (by decide) rfl) ?_
  refine aI_c (fun hd => s_ic_ne hX hd (by decide) rfl) ?_
  refine aI_c (fun hd => s_ii hX hd (by decide) rfl) ?_
  refine aI_c (fun hd => s_go hX hd (by decide)) ?_
  refine aI_c (fun hd => s_il_n hX hd rfl rfl) ?_
  refine aI_c (fun hd => s_cS hX (nX5_rank l) (wg_S up lmX5_137 loX5_rank) rfl rfl rfl (by decide +kernel) ⟨by decide, by decide⟩ ⟨Nat.zero_le _, Nat.zero_le _⟩ hd rfl) ?_
  refine aI_c (fun hd => s_cV hX (T := TX5) (N := 35) (nX5_unwinds l) rfl (wg_V up lmX5_150 loX5_unwinds) rfl rfl rfl (by decide +kernel) ⟨by decide, by decide⟩ ⟨Nat.zero_le _, Nat.zero_le _⟩ hd rfl) ?_
  refine aI_c (fun hd => s_il_n hX hd rfl rfl) ?_
  refine aI_c (fun hd => s_cS hX (nX5_rank l) (wg_S up lmX5_137 loX5_rank) rfl rfl rfl (by decide +kernel) ⟨by decide, by decide⟩ ⟨Nat.zero_le _, Nat.zero_le _⟩ hd rfl) ?_
  refine aI_c (fun hd => s_ii hX hd (by decide) rfl) ?_
  refine aI_c (fun hd => s_ic_ne hX hd (by decide) rfl) ?_
  refine aI_c (fun hd => s_al_n hX hd rfl rfl) ?_
  refine aI_c (fun hd => s_gI hX (C := RX5) (T := TX5) (N := 35) (k := 26) rfl (fun w h => up w (inlX5 w h)) (by decide) rfl rfl rfl (up _ lkX5_134) hd rfl) ?_
  refine aI_c (fun hd => s_if_le hX hd (by decide) rfl) ?_
  refine aI_c (fun hd => s_al_n hX hd rfl rfl) ?_
  refine aI_c (fun hd => s_gF hX (C := RX5) (T := TX5) (N := 35) (k := 25) rfl (fun w h => up w (inlX5 w h)) (by decide) rfl rfl rfl (up _ lkX5_52) hd rfl) ?_
  refine aI_c (fun hd => s_al_n hX hd rfl rfl) ?_
  refine aI_c (fun hd => s_gI hX (C := RX5) (T := TX5) (N := 35) (k := 26) rfl (fun w h => up w (inlX5 w h)) (by decide) rfl rfl rfl (up _ lkX5_134) hd rfl) ?_
  refine aI_c (fun hd => s_ii hX hd (by decide) rfl) ?_
  refine aI_c (fun hd => s_isub hX hd rfl) ?_
  refine aI_c (fun hd => s_iald hX hd rfl) ?_
  refine aI_c (fun hd => s_cS hX (nX5_rank l) (wg_S up lmX5_137 loX5_rank) rfl rfl rfl (by decide +kernel) ⟨by decide, by decide⟩ ⟨Nat.zero_le _, Nat.zero_le _⟩ hd rfl) ?_
  refine aI_c (fun hd => s_ii hX hd (by decide) rfl) ?_
  refine aI_c (fun hd => s_ic_ne hX hd (by decide) rfl) ?_
  refine aI_c (fun hd => s_ii hX hd (by decide) rfl) ?_
  refine aI_c (fun hd => s_rz hX hr hlk hE hd) ?_
  refine aI_c (fun hd => s_al_n hX hd rfl rfl) ?_
  refine aI_c (fun hd => s_il_n hX hd rfl rfl) ?_
  refine aI_c (fun hd => s_cV hX (T := TX5) (N := 35) (nX5_holds l) rfl (wg_V up lmX5_147 loX5_holds) rfl rfl rfl (by decide +kernel) ⟨by decide, by decide⟩ ⟨Nat.zero_le _, Nat.zero_le _⟩ hd rfl) ?_
  refine aI_c (fun hd => s_ii hX hd (by decide) rfl) ?_
  refine aI_c (fun hd => s_rz hX hr hlk hE hd) ?_
  exact trivial

-- JudgesByLossModel.eRead()Z
def tX5_eRead : aT := [
  (0, (.aload_n 0, 1), o_al 0 1),
  (1, (.iconst 0, 1), o_ii 0 2),
  (2, (.putfield 134, 3), o_pI 5 26 5),
  (5, (.aload_n 0, 1), o_al 0 6),
  (6, (.iconst 0, 1), o_ii 0 7),
  (7, (.putfield 140, 3), o_pI 5 27 10),
  (10, (.iconst 1, 1), o_ii 1 11),
  (11, (.istore_n 1, 1), o_is 1 12),
  (12, (.iconst 1, 1), o_ii 1 13),
  (13, (.istore_n 2, 1), o_is 2 14),
  (14, (.aload_n 0, 1), o_mk [false, false, false, true] (o_al 0 15)),
  (15, (.invokevirtual 153, 3), o_cV CX5_next 5 0 18),
  (18, (.iload_n 1, 1), o_il 1 19),
  (19, (.ifCond .eq 131, 3), o_if (fun x => x = 0) 150 22),
  (22, (.aload_n 0, 1), o_al 0 23),
  (23, (.getfield 121, 3), o_gI 5 22 26),
  (26, (.iconst 1, 1), o_ii 1 27),
  (27, (.if_icmp .eq 11, 3), o_ic (fun x y => x = y) 38 30),
  (30, (.aload_n 0, 1), o_al 0 31),
  (31, (.getfield 121, 3), o_gI 5 22 34),
  (34, (.iconst 2, 1), o_ii 2 35),
  (35, (.if_icmp .ne 40, 3), o_ic (fun x y => ¬ x = y) 75 38),
  (38, (.aload_n 0, 1), o_al 0 39),
  (39, (.aload_n 0, 1), o_al 0 40),
  (40, (.getfield 121, 3), o_gI 5 22 43),
  (43, (.iconst 1, 1), o_ii 1 44),
  (44, (.if_icmp .ne 13, 3), o_ic (fun x y => ¬ x = y) 57 47),
  (47, (.ldc 156, 2), o_ii 100000 49),
  (49, (.aload_n 0, 1), o_al 0 50),
  (50, (.getfield 124, 3), o_gI 5 23 53),
  (53, (.iadd, 1), o_bi (fun x y => x + y) 54),
  (54, (.goto 7, 3), o_go 61),
  (57, (.aload_n 0, 1), o_al 0 58),
  (58, (.getfield 124, 3), o_gI 5 23 61),
  (61, (.invokevirtual 143, 3), o_cV CX5_puts 5 1 64),
  (64, (.aload_n 0, 1), o_al 0 65),
  (65, (.bipush 7, 2), o_ii 7 67),
  (67, (.invokevirtual 150, 3), o_cV CX5_unwinds 5 1 70),
  (70, (.iconst 0, 1), o_ii 0 71),
  (71, (.istore_n 1, 1), o_is 1 72),
  (72, (.goto (-58), 3), o_go 14),
  (75, (.aload_n 0, 1), o_al 0 76),
  (76, (.getfield 121, 3), o_gI 5 22 79),
  (79, (.bipush 6, 2), o_ii 6 81),
  (81, (.if_icmp .ne 18, 3), o_ic (fun x y => ¬ x = y) 99 84),
  (84, (.iload_n 2, 1), o_il 2 85),
  (85, (.ifCond .eq 14, 3), o_if (fun x => x = 0) 99 88),
  (88, (.aload_n 0, 1), o_al 0 89),
  (89, (.bipush 13, 2), o_ii 13 91),
  (91, (.invokevirtual 157, 3), o_cV CX5_opensOne 5 1 94),
  (94, (.ifCond .ne (-80), 3), o_if (fun x => ¬ x = 0) 14 97),
  (97, (.iconst 0, 1), o_ii 0 98),
  (98, (.ireturn, 1), o_rz),
  (99, (.aload_n 0, 1), o_al 0 100),
  (100, (.getfield 121, 3), o_gI 5 22 103),
  (103, (.bipush 45, 2), o_ii 45 105),
  (105, (.if_icmp .ne 19, 3), o_ic (fun x y => ¬ x = y) 124 108),
  (108, (.aload_n 0, 1), o_al 0 109),
  (109, (.bipush 19, 2), o_ii 19 111),
  (111, (.invokevirtual 157, 3), o_cV CX5_opensOne 5 1 114),
  (114, (.ifCond .ne 5, 3), o_if (fun x => ¬ x = 0) 119 117),
  (117, (.iconst 0, 1), o_ii 0 118),
  (118, (.ireturn, 1), o_rz),
  (119, (.iconst 0, 1), o_ii 0 120),
  (120, (.istore_n 2, 1), o_is 2 121),
  (121, (.goto (-107), 3), o_go 14),
  (124, (.aload_n 0, 1), o_al 0 125),
  (125, (.getfield 121, 3), o_gI 5 22 128),
  (128, (.bipush 40, 2), o_ii 40 130),
  (130, (.if_icmp .ne 18, 3), o_ic (fun x y => ¬ x = y) 148 133),
  (133, (.aload_n 0, 1), o_al 0 134),
  (134, (.iconst 0, 1), o_ii 0 135),
  (135, (.invokevirtual 157, 3), o_cV CX5_opensOne 5 1 138),
  (138, (.ifCond .ne 5, 3), o_if (fun x => ¬ x = 0) 143 141),
  (141, (.iconst 0, 1), o_ii 0 142),
  (142, (.ireturn, 1), o_rz),
  (143, (.iconst 1, 1), o_ii 1 144),
  (144, (.istore_n 2, 1), o_is 2 145),
  (145, (.goto (-131), 3), o_go 14),
  (148, (.iconst 0, 1), o_ii 0 149),
  (149, (.ireturn, 1), o_rz),
  (150, (.aload_n 0, 1), o_al 0 151),
  (151, (.getfield 121, 3), o_gI 5 22 154),
  (154, (.bipush 59, 2), o_ii 59 156),
  (156, (.if_icmp .ne 21, 3), o_ic (fun x y => ¬ x = y) 177 159),
  (159, (.aload_n 0, 1), o_al 0 160),
  (160, (.iconst 1, 1), o_ii 1 161),
  (161, (.invokevirtual 150, 3), o_cV CX5_unwinds 5 1 164),
  (164, (.aload_n 0, 1), o_al 0 165),
  (165, (.getfield 134, 3), o_gI 5 26 168),
  (168, (.ifCond .ne 7, 3), o_if (fun x => ¬ x = 0) 175 171),
  (171, (.iconst 1, 1), o_ii 1 172),
  (172, (.goto 4, 3), o_go 176),
  (175, (.iconst 0, 1), o_ii 0 176),
  (176, (.ireturn, 1), o_rz),
  (177, (.aload_n 0, 1), o_al 0 178),
  (178, (.getfield 121, 3), o_gI 5 22 181),
  (181, (.bipush 41, 2), o_ii 41 183),
  (183, (.if_icmp .ne 46, 3), o_ic (fun x y => ¬ x = y) 229 186),
  (186, (.aload_n 0, 1), o_al 0 187),
  (187, (.iconst 1, 1), o_ii 1 188),
  (188, (.invokevirtual 150, 3), o_cV CX5_unwinds 5 1 191),
  (191, (.aload_n 0, 1), o_al 0 192),
  (192, (.getfield 134, 3), o_gI 5 26 195),
  (195, (.ifCond .ne 5, 3), o_if (fun x => ¬ x = 0) 200 198),
  (198, (.iconst 0, 1), o_ii 0 199),
  (199, (.ireturn, 1), o_rz),
  (200, (.aload_n 0, 1), o_al 0 201),
  (201, (.dup, 1), o_dup 202),
  (202, (.getfield 134, 3), o_gI 5 26 205),
  (205, (.iconst 1, 1), o_ii 1 206),
  (206, (.isub, 1), o_bi (fun x y => x - y) 207),
  (207, (.putfield 134, 3), o_pI 5 26 210),
  (210, (.aload_n 0, 1), o_al 0 211),
  (211, (.dup, 1), o_dup 212),
  (212, (.getfield 140, 3), o_gI 5 27 215),
  (215, (.iconst 1, 1), o_ii 1 216),
  (216, (.isub, 1), o_bi (fun x y => x - y) 217),
  (217, (.putfield 140, 3), o_pI 5 27 220),
  (220, (.aload_n 0, 1), o_al 0 221),
  (221, (.bipush 7, 2), o_ii 7 223),
  (223, (.invokevirtual 150, 3), o_cV CX5_unwinds 5 1 226),
  (226, (.goto (-212), 3), o_go 14),
  (229, (.aload_n 0, 1), o_al 0 230),
  (230, (.invokevirtual 160, 3), o_cV CX5_signOf 5 0 233),
  (233, (.istore_n 3, 1), o_is 3 234),
  (234, (.iload_n 3, 1), o_il 3 235),
  (235, (.iconst (-1), 1), o_ii (-1) 236),
  (236, (.if_icmp .eq 11, 3), o_ic (fun x y => x = y) 247 239),
  (239, (.aload_n 0, 1), o_al 0 240),
  (240, (.iload_n 3, 1), o_il 3 241),
  (241, (.invokevirtual 163, 3), o_cV CX5_between 5 1 244),
  (244, (.ifCond .ne 5, 3), o_if (fun x => ¬ x = 0) 249 247),
  (247, (.iconst 0, 1), o_ii 0 248),
  (248, (.ireturn, 1), o_rz),
  (249, (.iconst 1, 1), o_ii 1 250),
  (250, (.istore_n 1, 1), o_is 1 251),
  (251, (.iload_n 3, 1), o_il 3 252),
  (252, (.bipush 12, 2), o_ii 12 254),
  (254, (.if_icmp .gt 7, 3), o_ic (fun x y => y < x) 261 257),
  (257, (.iconst 1, 1), o_ii 1 258),
  (258, (.goto 4, 3), o_go 262),
  (261, (.iconst 0, 1), o_ii 0 262),
  (262, (.istore_n 2, 1), o_is 2 263),
  (263, (.goto (-249), 3), o_go 14)]
abbrev CX5_eRead : aC := aCl tX5_eRead 4
def rmX5_eRead : Room := { frames := 4, cells := 0, slots := 0, locals := 65 }
set_option maxRecDepth 100000 in
theorem dX5_eRead : tX5_eRead.all (fun q => decide (decode cX5_eRead q.1 = .ok q.2.1)) = true := by decide +kernel
set_option maxRecDepth 100000 in
set_option maxHeartbeats 4000000 in
theorem nX5_eRead (l : Launch) : aMt l yX5_eRead (Cond.code yX5_eRead cX5_eRead 4 (some .boolean) :: wsL_law) rmX5_eRead CX5_eRead := by
  refine aMt.of (own := RX5) (cc := cX5_eRead) (maxL := 4) (ret := (some .boolean)) (by decide +kernel) rfl rfl ?_
  intro p e s m args below meth c Qc D Z ad P G A E hX hr hlk hE
  have up : ∀ w ∈ wsL_law, w ∈ (Cond.code yX5_eRead cX5_eRead 4 (some .boolean) :: wsL_law) := fun w h => List.mem_cons_of_mem _ h
  refine aImp_all _ dX5_eRead ?_
  unfold tX5_eRead
  refine aI_c (fun hd => s_al_n hX hd rfl rfl) ?_
  refine aI_c (fun hd => s_ii hX hd (by decide) rfl) ?_
  refine aI_c (fun hd => s_pI hX (C := RX5) (T := TX5) (N := 35) (k := 26) rfl (fun w h => up w (inlX5 w h)) (by decide) rfl rfl tyX5 tyX5_ok nmX5 rfl rfl rfl (up _ lkX5_134) hd rfl) ?_
  refine aI_c (fun hd => s_al_n hX hd rfl rfl) ?_
  refine aI_c (fun hd => s_ii hX hd (by decide) rfl) ?_
  refine aI_c (fun hd => s_pI hX (C := RX5) (T := TX5) (N := 35) (k := 27) rfl (fun w h => up w (inlX5 w h)) (by decide) rfl rfl tyX5 tyX5_ok nmX5 rfl rfl rfl (up _ lkX5_140) hd rfl) ?_
  refine aI_c (fun hd => s_ii hX hd (by decide) rfl) ?_
  refine aI_c (fun hd => s_is_n hX hd rfl rfl (by decide)) ?_
  refine aI_c (fun hd => s_ii hX hd (by decide) rfl) ?_
  refine aI_c (fun hd => s_is_n hX hd rfl rfl (by decide)) ?_
  refine aI_c (fun hd => s_mk (s_al_n hX hd rfl rfl)) ?_
  refine aI_c (fun hd => s_cV hX (T := TX5) (N := 35) (nX5_next l) rfl (wg_V up lmX5_153 loX5_next) rfl rfl rfl (by decide +kernel) ⟨by decide, by decide⟩ ⟨Nat.zero_le _, Nat.zero_le _⟩ hd rfl) ?_
  refine aI_c (fun hd => s_il_n hX hd rfl rfl) ?_
  refine aI_c (fun hd => s_if_eq hX hd (by decide) rfl) ?_
  refine aI_c (fun hd => s_al_n hX hd rfl rfl) ?_
  refine aI_c (fun hd => s_gI hX (C := RX5) (T := TX5) (N := 35) (k := 22) rfl (fun w h => up w (inlX5 w h)) (by decide) rfl rfl rfl (up _ lkX5_121) hd rfl) ?_
  refine aI_c (fun hd => s_ii hX hd (by decide) rfl) ?_
  refine aI_c (fun hd => s_ic_eq hX hd (by decide) rfl) ?_
  refine aI_c (fun hd => s_al_n hX hd rfl rfl) ?_
  refine aI_c (fun hd => s_gI hX (C := RX5) (T := TX5) (N := 35) (k := 22) rfl (fun w h => up w (inlX5 w h)) (by decide) rfl rfl rfl (up _ lkX5_121) hd rfl) ?_
  refine aI_c (fun hd => s_ii hX hd (by decide) rfl) ?_
  refine aI_c (fun hd => s_ic_ne hX hd (by decide) rfl) ?_
  refine aI_c (fun hd => s_al_n hX hd rfl rfl) ?_
  refine aI_c (fun hd => s_al_n hX hd rfl rfl) ?_
  refine aI_c (fun hd => s_gI hX (C := RX5) (T := TX5) (N := 35) (k := 22) rfl (fun w h => up w (inlX5 w h)) (by decide) rfl rfl rfl (up _ lkX5_121) hd rfl) ?_
  refine aI_c (fun hd => s_ii hX hd (by decide) rfl) ?_
  refine aI_c (fun hd => s_ic_ne hX hd (by decide) rfl) ?_
  refine aI_c (fun hd => s_ldc hX hd (up _ lcX5_156) rfl) ?_
  refine aI_c (fun hd => s_al_n hX hd rfl rfl) ?_
  refine aI_c (fun hd => s_gI hX (C := RX5) (T := TX5) (N := 35) (k := 23) rfl (fun w h => up w (inlX5 w h)) (by decide) rfl rfl rfl (up _ lkX5_124) hd rfl) ?_
  refine aI_c (fun hd => s_iadd hX hd rfl) ?_
  refine aI_c (fun hd => s_go hX hd (by decide)) ?_
  refine aI_c (fun hd => s_al_n hX hd rfl rfl) ?_
  refine aI_c (fun hd => s_gI hX (C := RX5) (T := TX5) (N := 35) (k := 23) rfl (fun w h => up w (inlX5 w h)) (by decide) rfl rfl rfl (up _ lkX5_124) hd rfl) ?_
  refine aI_c (fun hd => s_cV hX (T := TX5) (N := 35) (nX5_puts l) rfl (wg_V up lmX5_143 loX5_puts) rfl rfl rfl (by decide +kernel) ⟨by decide, by decide⟩ ⟨Nat.zero_le _, Nat.zero_le _⟩ hd rfl) ?_
  refine aI_c (fun hd => s_al_n hX hd rfl rfl) ?_
  refine aI_c (fun hd => s_bp hX hd (by decide) rfl) ?_
  refine aI_c (fun hd => s_cV hX (T := TX5) (N := 35) (nX5_unwinds l) rfl (wg_V up lmX5_150 loX5_unwinds) rfl rfl rfl (by decide +kernel) ⟨by decide, by decide⟩ ⟨Nat.zero_le _, Nat.zero_le _⟩ hd rfl) ?_
  refine aI_c (fun hd => s_ii hX hd (by decide) rfl) ?_
  refine aI_c (fun hd => s_is_n hX hd rfl rfl (by decide)) ?_
  refine aI_c (fun hd => s_go hX hd (by decide)) ?_
  refine aI_c (fun hd => s_al_n hX hd rfl rfl) ?_
  refine aI_c (fun hd => s_gI hX (C := RX5) (T := TX5) (N := 35) (k := 22) rfl (fun w h => up w (inlX5 w h)) (by decide) rfl rfl rfl (up _ lkX5_121) hd rfl) ?_
  refine aI_c (fun hd => s_bp hX hd (by decide) rfl) ?_
  refine aI_c (fun hd => s_ic_ne hX hd (by decide) rfl) ?_
  refine aI_c (fun hd => s_il_n hX hd rfl rfl) ?_
  refine aI_c (fun hd => s_if_eq hX hd (by decide) rfl) ?_
  refine aI_c (fun hd => s_al_n hX hd rfl rfl) ?_
  refine aI_c (fun hd => s_bp hX hd (by decide) rfl) ?_
  refine aI_c (fun hd => s_cV hX (T := TX5) (N := 35) (nX5_opensOne l) rfl (wg_V up lmX5_157 loX5_opensOne) rfl rfl rfl (by decide +kernel) ⟨by decide, by decide⟩ ⟨Nat.zero_le _, Nat.zero_le _⟩ hd rfl) ?_
  refine aI_c (fun hd => s_if_ne hX hd (by decide) rfl) ?_
  refine aI_c (fun hd => s_ii hX hd (by decide) rfl) ?_
  refine aI_c (fun hd => s_rz hX hr hlk hE hd) ?_
  refine aI_c (fun hd => s_al_n hX hd rfl rfl) ?_
  refine aI_c (fun hd => s_gI hX (C := RX5) (T := TX5) (N := 35) (k := 22) rfl (fun w h => up w (inlX5 w h)) (by decide) rfl rfl rfl (up _ lkX5_121) hd rfl) ?_
  refine aI_c (fun hd => s_bp hX hd (by decide) rfl) ?_
  refine aI_c (fun hd => s_ic_ne hX hd (by decide) rfl) ?_
  refine aI_c (fun hd => s_al_n hX hd rfl rfl) ?_
  refine aI_c (fun hd => s_bp hX hd (by decide) rfl) ?_
  refine aI_c (fun hd => s_cV hX (T := TX5) (N := 35) (nX5_opensOne l) rfl (wg_V up lmX5_157 loX5_opensOne) rfl rfl rfl (by decide +kernel) ⟨by decide, by decide⟩ ⟨Nat.zero_le _, Nat.zero_le _⟩ hd rfl) ?_
  refine aI_c (fun hd => s_if_ne hX hd (by decide) rfl) ?_
  refine aI_c (fun hd => s_ii hX hd (by decide) rfl) ?_
  refine aI_c (fun hd => s_rz hX hr hlk hE hd) ?_
  refine aI_c (fun hd => s_ii hX hd (by decide) rfl) ?_
  refine aI_c (fun hd => s_is_n hX hd rfl rfl (by decide)) ?_
  refine aI_c (fun hd => s_go hX hd (by decide)) ?_
  refine aI_c (fun hd => s_al_n hX hd rfl rfl) ?_
  refine aI_c (fun hd => s_gI hX (C := RX5) (T := TX5) (N := 35) (k := 22) rfl (fun w h => up w (inlX5 w h)) (by decide) rfl rfl rfl (up _ lkX5_121) hd rfl) ?_
  refine aI_c (fun hd => s_bp hX hd (by decide) rfl) ?_
  refine aI_c (fun hd => s_ic_ne hX hd (by decide) rfl) ?_
  refine aI_c (fun hd => s_al_n hX hd rfl rfl) ?_
  refine aI_c (fun hd => s_ii hX hd (by decide) rfl) ?_
  refine aI_c (fun hd => s_cV hX (T := TX5) (N := 35) (nX5_opensOne l) rfl (wg_V up lmX5_157 loX5_opensOne) rfl rfl rfl (by decide +kernel) ⟨by decide, by decide⟩ ⟨Nat.zero_le _, Nat.zero_le _⟩ hd rfl) ?_
  refine aI_c (fun hd => s_if_ne hX hd (by decide) rfl) ?_
  refine aI_c (fun hd => s_ii hX hd (by decide) rfl) ?_
  refine aI_c (fun hd => s_rz hX hr hlk hE hd) ?_
  refine aI_c (fun hd => s_ii hX hd (by decide) rfl) ?_
  refine aI_c (fun hd => s_is_n hX hd rfl rfl (by decide)) ?_
  refine aI_c (fun hd => s_go hX hd (by decide)) ?_
  refine aI_c (fun hd => s_ii hX hd (by decide) rfl) ?_
  refine aI_c (fun hd => s_rz hX hr hlk hE hd) ?_
  refine aI_c (fun hd => s_al_n hX hd rfl rfl) ?_
  refine aI_c (fun hd => s_gI hX (C := RX5) (T := TX5) (N := 35) (k := 22) rfl (fun w h => up w (inlX5 w h)) (by decide) rfl rfl rfl (up _ lkX5_121) hd rfl) ?_
  refine aI_c (fun hd => s_bp hX hd (by decide) rfl) ?_
  refine aI_c (fun hd => s_ic_ne hX hd (by decide) rfl) ?_
  refine aI_c (fun hd => s_al_n hX hd rfl rfl) ?_
  refine aI_c (fun hd => s_ii hX hd (by decide) rfl) ?_
  refine aI_c (fun hd => s_cV hX (T := TX5) (N := 35) (nX5_unwinds l) rfl (wg_V up lmX5_150 loX5_unwinds) rfl rfl rfl (by decide +kernel) ⟨by decide, by decide⟩ ⟨Nat.zero_le _, Nat.zero_le _⟩ hd rfl) ?_
  refine aI_c (fun hd => s_al_n hX hd rfl rfl) ?_
  refine aI_c (fun hd => s_gI hX (C := RX5) (T := TX5) (N := 35) (k := 26) rfl (fun w h => up w (inlX5 w h)) (by decide) rfl rfl rfl (up _ lkX5_134) hd rfl) ?_
  refine aI_c (fun hd => s_if_ne hX hd (by decide) rfl) ?_
  refine aI_c (fun hd => s_ii hX hd (by decide) rfl) ?_
  refine aI_c (fun hd => s_go hX hd (by decide)) ?_
  refine aI_c (fun hd => s_ii hX hd (by decide) rfl) ?_
  refine aI_c (fun hd => s_rz hX hr hlk hE hd) ?_
  refine aI_c (fun hd => s_al_n hX hd rfl rfl) ?_
  refine aI_c (fun hd => s_gI hX (C := RX5) (T := TX5) (N := 35) (k := 22) rfl (fun w h => up w (inlX5 w h)) (by decide) rfl rfl rfl (up _ lkX5_121) hd rfl) ?_
  refine aI_c (fun hd => s_bp hX hd (by decide) rfl) ?_
  refine aI_c (fun hd => s_ic_ne hX hd (by decide) rfl) ?_
  refine aI_c (fun hd => s_al_n hX hd rfl rfl) ?_
  refine aI_c (fun hd => s_ii hX hd (by decide) rfl) ?_
  refine aI_c (fun hd => s_cV hX (T := TX5) (N := 35) (nX5_unwinds l) rfl (wg_V up lmX5_150 loX5_unwinds) rfl rfl rfl (by decide +kernel) ⟨by decide, by decide⟩ ⟨Nat.zero_le _, Nat.zero_le _⟩ hd rfl) ?_
  refine aI_c (fun hd => s_al_n hX hd rfl rfl) ?_
  refine aI_c (fun hd => s_gI hX (C := RX5) (T := TX5) (N := 35) (k := 26) rfl (fun w h => up w (inlX5 w h)) (by decide) rfl rfl rfl (up _ lkX5_134) hd rfl) ?_
  refine aI_c (fun hd => s_if_ne hX hd (by decide) rfl) ?_
  refine aI_c (fun hd => s_ii hX hd (by decide) rfl) ?_
  refine aI_c (fun hd => s_rz hX hr hlk hE hd) ?_
  refine aI_c (fun hd => s_al_n hX hd rfl rfl) ?_
  refine aI_c (fun hd => s_dup hX hd rfl) ?_
  refine aI_c (fun hd => s_gI hX (C := RX5) (T := TX5) (N := 35) (k := 26) rfl (fun w h => up w (inlX5 w h)) (by decide) rfl rfl rfl (up _ lkX5_134) hd rfl) ?_
  refine aI_c (fun hd => s_ii hX hd (by decide) rfl) ?_
  refine aI_c (fun hd => s_isub hX hd rfl) ?_
  refine aI_c (fun hd => s_pI hX (C := RX5) (T := TX5) (N := 35) (k := 26) rfl (fun w h => up w (inlX5 w h)) (by decide) rfl rfl tyX5 tyX5_ok nmX5 rfl rfl rfl (up _ lkX5_134) hd rfl) ?_
  refine aI_c (fun hd => s_al_n hX hd rfl rfl) ?_
  refine aI_c (fun hd => s_dup hX hd rfl) ?_
  refine aI_c (fun hd => s_gI hX (C := RX5) (T := TX5) (N := 35) (k := 27) rfl (fun w h => up w (inlX5 w h)) (by decide) rfl rfl rfl (up _ lkX5_140) hd rfl) ?_
  refine aI_c (fun hd => s_ii hX hd (by decide) rfl) ?_
  refine aI_c (fun hd => s_isub hX hd rfl) ?_
  refine aI_c (fun hd => s_pI hX (C := RX5) (T := TX5) (N := 35) (k := 27) rfl (fun w h => up w (inlX5 w h)) (by decide) rfl rfl tyX5 tyX5_ok nmX5 rfl rfl rfl (up _ lkX5_140) hd rfl) ?_
  refine aI_c (fun hd => s_al_n hX hd rfl rfl) ?_
  refine aI_c (fun hd => s_bp hX hd (by decide) rfl) ?_
  refine aI_c (fun hd => s_cV hX (T := TX5) (N := 35) (nX5_unwinds l) rfl (wg_V up lmX5_150 loX5_unwinds) rfl rfl rfl (by decide +kernel) ⟨by decide, by decide⟩ ⟨Nat.zero_le _, Nat.zero_le _⟩ hd rfl) ?_
  refine aI_c (fun hd => s_go hX hd (by decide)) ?_
  refine aI_c (fun hd => s_al_n hX hd rfl rfl) ?_
  refine aI_c (fun hd => s_cV hX (T := TX5) (N := 35) (nX5_signOf l) rfl (wg_V up lmX5_160 loX5_signOf) rfl rfl rfl (by decide +kernel) ⟨by decide, by decide⟩ ⟨Nat.zero_le _, Nat.zero_le _⟩ hd rfl) ?_
  refine aI_c (fun hd => s_is_n hX hd rfl rfl (by decide)) ?_
  refine aI_c (fun hd => s_il_n hX hd rfl rfl) ?_
  refine aI_c (fun hd => s_ii hX hd (by decide) rfl) ?_
  refine aI_c (fun hd => s_ic_eq hX hd (by decide) rfl) ?_
  refine aI_c (fun hd => s_al_n hX hd rfl rfl) ?_
  refine aI_c (fun hd => s_il_n hX hd rfl rfl) ?_
  refine aI_c (fun hd => s_cV hX (T := TX5) (N := 35) (nX5_between l) rfl (wg_V up lmX5_163 loX5_between) rfl rfl rfl (by decide +kernel) ⟨by decide, by decide⟩ ⟨Nat.zero_le _, Nat.zero_le _⟩ hd rfl) ?_
  refine aI_c (fun hd => s_if_ne hX hd (by decide) rfl) ?_
  refine aI_c (fun hd => s_ii hX hd (by decide) rfl) ?_
  refine aI_c (fun hd => s_rz hX hr hlk hE hd) ?_
  refine aI_c (fun hd => s_ii hX hd (by decide) rfl) ?_
  refine aI_c (fun hd => s_is_n hX hd rfl rfl (by decide)) ?_
  refine aI_c (fun hd => s_il_n hX hd rfl rfl) ?_
  refine aI_c (fun hd => s_bp hX hd (by decide) rfl) ?_
  refine aI_c (fun hd => s_ic_gt hX hd (by decide) rfl) ?_
  refine aI_c (fun hd => s_ii hX hd (by decide) rfl) ?_
  refine aI_c (fun hd => s_go hX hd (by decide)) ?_
  refine aI_c (fun hd => s_ii hX hd (by decide) rfl) ?_
  refine aI_c (fun hd => s_is_n hX hd rfl rfl (by decide)) ?_
  refine aI_c (fun hd => s_go hX hd (by decide)) ?_
  exact trivial

-- JudgesByLossModel.text()I
def tX5_text : aT := [
  (0, (.aload_n 0, 1), o_al 0 1),
  (1, (.getfield 103, 3), o_gI 5 11 4),
  (4, (.bipush 6, 2), o_ii 6 6),
  (6, (.if_icmp .ne 6, 3), o_ic (fun x y => ¬ x = y) 12 9),
  (9, (.bipush (-4), 2), o_ii (-4) 11),
  (11, (.ireturn, 1), o_ri),
  (12, (.aload_n 0, 1), o_al 0 13),
  (13, (.iconst 0, 1), o_ii 0 14),
  (14, (.putfield 115, 3), o_pI 5 20 17),
  (17, (.aload_n 0, 1), o_al 0 18),
  (18, (.iconst 0, 1), o_ii 0 19),
  (19, (.putfield 131, 3), o_pI 5 28 22),
  (22, (.iconst 1, 1), o_ii 1 23),
  (23, (.istore_n 1, 1), o_is 1 24),
  (24, (.iconst 0, 1), o_ii 0 25),
  (25, (.istore_n 2, 1), o_is 2 26),
  (26, (.iload_n 2, 1), o_il 2 27),
  (27, (.iconst 3, 1), o_ii 3 28),
  (28, (.if_icmp .ge 73, 3), o_ic (fun x y => y ≤ x) 101 31),
  (31, (.iload_n 1, 1), o_il 1 32),
  (32, (.ifCond .eq 69, 3), o_if (fun x => x = 0) 101 35),
  (35, (.aload_n 0, 1), o_al 0 36),
  (36, (.invokevirtual 153, 3), o_cV CX5_next 5 0 39),
  (39, (.aload_n 0, 1), o_al 0 40),
  (40, (.getfield 121, 3), o_gI 5 22 43),
  (43, (.iconst 3, 1), o_ii 3 44),
  (44, (.if_icmp .ne 15, 3), o_ic (fun x y => ¬ x = y) 59 47),
  (47, (.aload_n 0, 1), o_al 0 48),
  (48, (.getfield 124, 3), o_gI 5 23 51),
  (51, (.iload_n 2, 1), o_il 2 52),
  (52, (.if_icmp .ne 7, 3), o_ic (fun x y => ¬ x = y) 59 55),
  (55, (.iconst 1, 1), o_ii 1 56),
  (56, (.goto 4, 3), o_go 60),
  (59, (.iconst 0, 1), o_ii 0 60),
  (60, (.istore_n 1, 1), o_is 1 61),
  (61, (.aload_n 0, 1), o_al 0 62),
  (62, (.getfield 28, 3), o_gF 5 7 65),
  (65, (.iconst 4, 1), o_ii 4 66),
  (66, (.aload_n 0, 1), o_al 0 67),
  (67, (.getfield 103, 3), o_gI 5 11 70),
  (70, (.imul, 1), o_bi (fun x y => x * y) 71),
  (71, (.iload_n 2, 1), o_il 2 72),
  (72, (.iadd, 1), o_bi (fun x y => x + y) 73),
  (73, (.aload_n 0, 1), o_al 0 74),
  (74, (.getfield 131, 3), o_gI 5 28 77),
  (77, (.iastore, 1), o_iast 78),
  (78, (.iload_n 1, 1), o_il 1 79),
  (79, (.ifCond .eq 14, 3), o_if (fun x => x = 0) 93 82),
  (82, (.aload_n 0, 1), o_al 0 83),
  (83, (.invokevirtual 166, 3), o_cV CX5_eRead 5 0 86),
  (86, (.ifCond .eq 7, 3), o_if (fun x => x = 0) 93 89),
  (89, (.iconst 1, 1), o_ii 1 90),
  (90, (.goto 4, 3), o_go 94),
  (93, (.iconst 0, 1), o_ii 0 94),
  (94, (.istore_n 1, 1), o_is 1 95),
  (95, (.iinc 2 1, 3), o_inc 2 1 98),
  (98, (.goto (-72), 3), o_go 26),
  (101, (.iload_n 1, 1), o_il 1 102),
  (102, (.ifCond .eq 20, 3), o_if (fun x => x = 0) 122 105),
  (105, (.aload_n 0, 1), o_al 0 106),
  (106, (.invokevirtual 153, 3), o_cV CX5_next 5 0 109),
  (109, (.aload_n 0, 1), o_al 0 110),
  (110, (.getfield 121, 3), o_gI 5 22 113),
  (113, (.ifCond .ne 7, 3), o_if (fun x => ¬ x = 0) 120 116),
  (116, (.iconst 1, 1), o_ii 1 117),
  (117, (.goto 4, 3), o_go 121),
  (120, (.iconst 0, 1), o_ii 0 121),
  (121, (.istore_n 1, 1), o_is 1 122),
  (122, (.aload_n 0, 1), o_al 0 123),
  (123, (.getfield 28, 3), o_gF 5 7 126),
  (126, (.iconst 4, 1), o_ii 4 127),
  (127, (.aload_n 0, 1), o_al 0 128),
  (128, (.getfield 103, 3), o_gI 5 11 131),
  (131, (.imul, 1), o_bi (fun x y => x * y) 132),
  (132, (.iconst 3, 1), o_ii 3 133),
  (133, (.iadd, 1), o_bi (fun x y => x + y) 134),
  (134, (.aload_n 0, 1), o_al 0 135),
  (135, (.getfield 131, 3), o_gI 5 28 138),
  (138, (.iastore, 1), o_iast 139),
  (139, (.aload_n 0, 1), o_al 0 140),
  (140, (.iconst 0, 1), o_ii 0 141),
  (141, (.putfield 70, 3), o_pI 5 8 144),
  (144, (.iload_n 1, 1), o_il 1 145),
  (145, (.ifCond .ne 11, 3), o_if (fun x => ¬ x = 0) 156 148),
  (148, (.bipush (-100), 2), o_ii (-100) 150),
  (150, (.aload_n 0, 1), o_al 0 151),
  (151, (.getfield 118, 3), o_gI 5 21 154),
  (154, (.isub, 1), o_bi (fun x y => x - y) 155),
  (155, (.ireturn, 1), o_ri),
  (156, (.aload_n 0, 1), o_al 0 157),
  (157, (.dup, 1), o_dup 158),
  (158, (.getfield 103, 3), o_gI 5 11 161),
  (161, (.iconst 1, 1), o_ii 1 162),
  (162, (.iadd, 1), o_bi (fun x y => x + y) 163),
  (163, (.putfield 103, 3), o_pI 5 11 166),
  (166, (.aload_n 0, 1), o_al 0 167),
  (167, (.getfield 103, 3), o_gI 5 11 170),
  (170, (.iconst 1, 1), o_ii 1 171),
  (171, (.isub, 1), o_bi (fun x y => x - y) 172),
  (172, (.ireturn, 1), o_ri)]
abbrev CX5_text : aC := aCl tX5_text 3
def rmX5_text : Room := { frames := 5, cells := 0, slots := 0, locals := 88 }
set_option maxRecDepth 100000 in
theorem dX5_text : tX5_text.all (fun q => decide (decode cX5_text q.1 = .ok q.2.1)) = true := by decide +kernel
set_option maxRecDepth 100000 in
set_option maxHeartbeats 4000000 in
theorem nX5_text (l : Launch) : aMt l yX5_text (Cond.code yX5_text cX5_text 3 (some .int) :: wsL_law) rmX5_text CX5_text := by
  refine aMt.of (own := RX5) (cc := cX5_text) (maxL := 3) (ret := (some .int)) (by decide +kernel) rfl rfl ?_
  intro p e s m args below meth c Qc D Z ad P G A E hX hr hlk hE
  have up : ∀ w ∈ wsL_law, w ∈ (Cond.code yX5_text cX5_text 3 (some .int) :: wsL_law) := fun w h => List.mem_cons_of_mem _ h
  refine aImp_all _ dX5_text ?_
  unfold tX5_text
  refine aI_c (fun hd => s_al_n hX hd rfl rfl) ?_
  refine aI_c (fun hd => s_gI hX (C := RX5) (T := TX5) (N := 35) (k := 11) rfl (fun w h => up w (inlX5 w h)) (by decide) rfl rfl rfl (up _ lkX5_103) hd rfl) ?_
  refine aI_c (fun hd => s_bp hX hd (by decide) rfl) ?_
  refine aI_c (fun hd => s_ic_ne hX hd (by decide) rfl) ?_
  refine aI_c (fun hd => s_bp hX hd (by decide) rfl) ?_
  refine aI_c (fun hd => s_ri hX hr hlk hE hd) ?_
  refine aI_c (fun hd => s_al_n hX hd rfl rfl) ?_
  refine aI_c (fun hd => s_ii hX hd (by decide) rfl) ?_
  refine aI_c (fun hd => s_pI hX (C := RX5) (T := TX5) (N := 35) (k := 20) rfl (fun w h => up w (inlX5 w h)) (by decide) rfl rfl tyX5 tyX5_ok nmX5 rfl rfl rfl (up _ lkX5_115) hd rfl) ?_
  refine aI_c (fun hd => s_al_n hX hd rfl rfl) ?_
  refine aI_c (fun hd => s_ii hX hd (by decide) rfl) ?_
  refine aI_c (fun hd => s_pI hX (C := RX5) (T := TX5) (N := 35) (k := 28) rfl (fun w h => up w (inlX5 w h)) (by decide) rfl rfl tyX5 tyX5_ok nmX5 rfl rfl rfl (up _ lkX5_131) hd rfl) ?_
  refine aI_c (fun hd => s_ii hX hd (by decide) rfl) ?_
  refine aI_c (fun hd => s_is_n hX hd rfl rfl (by decide)) ?_
  refine aI_c (fun hd => s_ii hX hd (by decide) rfl) ?_
  refine aI_c (fun hd => s_is_n hX hd rfl rfl (by decide)) ?_
  refine aI_c (fun hd => s_il_n hX hd rfl rfl) ?_
  refine aI_c (fun hd => s_ii hX hd (by decide) rfl) ?_
  refine aI_c (fun hd => s_ic_ge hX hd (by decide) rfl) ?_
  refine aI_c (fun hd => s_il_n hX hd rfl rfl) ?_
  refine aI_c (fun hd => s_if_eq hX hd (by decide) rfl) ?_
  refine aI_c (fun hd => s_al_n hX hd rfl rfl) ?_
  refine aI_c (fun hd => s_cV hX (T := TX5) (N := 35) (nX5_next l) rfl (wg_V up lmX5_153 loX5_next) rfl rfl rfl (by decide +kernel) ⟨by decide, by decide⟩ ⟨Nat.zero_le _, Nat.zero_le _⟩ hd rfl) ?_
  refine aI_c (fun hd => s_al_n hX hd rfl rfl) ?_
  refine aI_c (fun hd => s_gI hX (C := RX5) (T := TX5) (N := 35) (k := 22) rfl (fun w h => up w (inlX5 w h)) (by decide) rfl rfl rfl (up _ lkX5_121) hd rfl) ?_
  refine aI_c (fun hd => s_ii hX hd (by decide) rfl) ?_
  refine aI_c (fun hd => s_ic_ne hX hd (by decide) rfl) ?_
  refine aI_c (fun hd => s_al_n hX hd rfl rfl) ?_
  refine aI_c (fun hd => s_gI hX (C := RX5) (T := TX5) (N := 35) (k := 23) rfl (fun w h => up w (inlX5 w h)) (by decide) rfl rfl rfl (up _ lkX5_124) hd rfl) ?_
  refine aI_c (fun hd => s_il_n hX hd rfl rfl) ?_
  refine aI_c (fun hd => s_ic_ne hX hd (by decide) rfl) ?_
  refine aI_c (fun hd => s_ii hX hd (by decide) rfl) ?_
  refine aI_c (fun hd => s_go hX hd (by decide)) ?_
  refine aI_c (fun hd => s_ii hX hd (by decide) rfl) ?_
  refine aI_c (fun hd => s_is_n hX hd rfl rfl (by decide)) ?_
  refine aI_c (fun hd => s_al_n hX hd rfl rfl) ?_
  refine aI_c (fun hd => s_gF hX (C := RX5) (T := TX5) (N := 35) (k := 10) rfl (fun w h => up w (inlX5 w h)) (by decide) rfl rfl rfl (up _ lkX5_28) hd rfl) ?_
  refine aI_c (fun hd => s_ii hX hd (by decide) rfl) ?_
  refine aI_c (fun hd => s_al_n hX hd rfl rfl) ?_
  refine aI_c (fun hd => s_gI hX (C := RX5) (T := TX5) (N := 35) (k := 11) rfl (fun w h => up w (inlX5 w h)) (by decide) rfl rfl rfl (up _ lkX5_103) hd rfl) ?_
  refine aI_c (fun hd => s_imul hX hd rfl) ?_
  refine aI_c (fun hd => s_il_n hX hd rfl rfl) ?_
  refine aI_c (fun hd => s_iadd hX hd rfl) ?_
  refine aI_c (fun hd => s_al_n hX hd rfl rfl) ?_
  refine aI_c (fun hd => s_gI hX (C := RX5) (T := TX5) (N := 35) (k := 28) rfl (fun w h => up w (inlX5 w h)) (by decide) rfl rfl rfl (up _ lkX5_131) hd rfl) ?_
  refine aI_c (fun hd => s_iast hX hd rfl) ?_
  refine aI_c (fun hd => s_il_n hX hd rfl rfl) ?_
  refine aI_c (fun hd => s_if_eq hX hd (by decide) rfl) ?_
  refine aI_c (fun hd => s_al_n hX hd rfl rfl) ?_
  refine aI_c (fun hd => s_cV hX (T := TX5) (N := 35) (nX5_eRead l) rfl (wg_V up lmX5_166 loX5_eRead) rfl rfl rfl (by decide +kernel) ⟨by decide, by decide⟩ ⟨Nat.zero_le _, Nat.zero_le _⟩ hd rfl) ?_
  refine aI_c (fun hd => s_if_eq hX hd (by decide) rfl) ?_
  refine aI_c (fun hd => s_ii hX hd (by decide) rfl) ?_
  refine aI_c (fun hd => s_go hX hd (by decide)) ?_
  refine aI_c (fun hd => s_ii hX hd (by decide) rfl) ?_
  refine aI_c (fun hd => s_is_n hX hd rfl rfl (by decide)) ?_
  refine aI_c (fun hd => s_inc hX hd (by decide) rfl (by decide)) ?_
  refine aI_c (fun hd => s_go hX hd (by decide)) ?_
  refine aI_c (fun hd => s_il_n hX hd rfl rfl) ?_
  refine aI_c (fun hd => s_if_eq hX hd (by decide) rfl) ?_
  refine aI_c (fun hd => s_al_n hX hd rfl rfl) ?_
  refine aI_c (fun hd => s_cV hX (T := TX5) (N := 35) (nX5_next l) rfl (wg_V up lmX5_153 loX5_next) rfl rfl rfl (by decide +kernel) ⟨by decide, by decide⟩ ⟨Nat.zero_le _, Nat.zero_le _⟩ hd rfl) ?_
  refine aI_c (fun hd => s_al_n hX hd rfl rfl) ?_
  refine aI_c (fun hd => s_gI hX (C := RX5) (T := TX5) (N := 35) (k := 22) rfl (fun w h => up w (inlX5 w h)) (by decide) rfl rfl rfl (up _ lkX5_121) hd rfl) ?_
  refine aI_c (fun hd => s_if_ne hX hd (by decide) rfl) ?_
  refine aI_c (fun hd => s_ii hX hd (by decide) rfl) ?_
  refine aI_c (fun hd => s_go hX hd (by decide)) ?_
  refine aI_c (fun hd => s_ii hX hd (by decide) rfl) ?_
  refine aI_c (fun hd => s_is_n hX hd rfl rfl (by decide)) ?_
  refine aI_c (fun hd => s_al_n hX hd rfl rfl) ?_
  refine aI_c (fun hd => s_gF hX (C := RX5) (T := TX5) (N := 35) (k := 10) rfl (fun w h => up w (inlX5 w h)) (by decide) rfl rfl rfl (up _ lkX5_28) hd rfl) ?_
  refine aI_c (fun hd => s_ii hX hd (by decide) rfl) ?_
  refine aI_c (fun hd => s_al_n hX hd rfl rfl) ?_
  refine aI_c (fun hd => s_gI hX (C := RX5) (T := TX5) (N := 35) (k := 11) rfl (fun w h => up w (inlX5 w h)) (by decide) rfl rfl rfl (up _ lkX5_103) hd rfl) ?_
  refine aI_c (fun hd => s_imul hX hd rfl) ?_
  refine aI_c (fun hd => s_ii hX hd (by decide) rfl) ?_
  refine aI_c (fun hd => s_iadd hX hd rfl) ?_
  refine aI_c (fun hd => s_al_n hX hd rfl rfl) ?_
  refine aI_c (fun hd => s_gI hX (C := RX5) (T := TX5) (N := 35) (k := 28) rfl (fun w h => up w (inlX5 w h)) (by decide) rfl rfl rfl (up _ lkX5_131) hd rfl) ?_
  refine aI_c (fun hd => s_iast hX hd rfl) ?_
  refine aI_c (fun hd => s_al_n hX hd rfl rfl) ?_
  refine aI_c (fun hd => s_ii hX hd (by decide) rfl) ?_
  refine aI_c (fun hd => s_pI hX (C := RX5) (T := TX5) (N := 35) (k := 8) rfl (fun w h => up w (inlX5 w h)) (by decide) rfl rfl tyX5 tyX5_ok nmX5 rfl rfl rfl (up _ lkX5_70) hd rfl) ?_
  refine aI_c (fun hd => s_il_n hX hd rfl rfl) ?_
  refine aI_c (fun hd => s_if_ne hX hd (by decide) rfl) ?_
  refine aI_c (fun hd => s_bp hX hd (by decide) rfl) ?_
  refine aI_c (fun hd => s_al_n hX hd rfl rfl) ?_
  refine aI_c (fun hd => s_gI hX (C := RX5) (T := TX5) (N := 35) (k := 21) rfl (fun w h => up w (inlX5 w h)) (by decide) rfl rfl rfl (up _ lkX5_118) hd rfl) ?_
  refine aI_c (fun hd => s_isub hX hd rfl) ?_
  refine aI_c (fun hd => s_ri hX hr hlk hE hd) ?_
  refine aI_c (fun hd => s_al_n hX hd rfl rfl) ?_
  refine aI_c (fun hd => s_dup hX hd rfl) ?_
  refine aI_c (fun hd => s_gI hX (C := RX5) (T := TX5) (N := 35) (k := 11) rfl (fun w h => up w (inlX5 w h)) (by decide) rfl rfl rfl (up _ lkX5_103) hd rfl) ?_
  refine aI_c (fun hd => s_ii hX hd (by decide) rfl) ?_
  refine aI_c (fun hd => s_iadd hX hd rfl) ?_
  refine aI_c (fun hd => s_pI hX (C := RX5) (T := TX5) (N := 35) (k := 11) rfl (fun w h => up w (inlX5 w h)) (by decide) rfl rfl tyX5 tyX5_ok nmX5 rfl rfl rfl (up _ lkX5_103) hd rfl) ?_
  refine aI_c (fun hd => s_al_n hX hd rfl rfl) ?_
  refine aI_c (fun hd => s_gI hX (C := RX5) (T := TX5) (N := 35) (k := 11) rfl (fun w h => up w (inlX5 w h)) (by decide) rfl rfl rfl (up _ lkX5_103) hd rfl) ?_
  refine aI_c (fun hd => s_ii hX hd (by decide) rfl) ?_
  refine aI_c (fun hd => s_isub hX hd rfl) ?_
  refine aI_c (fun hd => s_ri hX hr hlk hE hd) ?_
  exact trivial

-- JudgesByLossModel.within(III)I
def tX5_within : aT := [
  (0, (.iload_n 0, 1), o_il 0 1),
  (1, (.iload_n 1, 1), o_il 1 2),
  (2, (.if_icmp .ge 7, 3), o_ic (fun x y => y ≤ x) 9 5),
  (5, (.iload_n 1, 1), o_il 1 6),
  (6, (.goto 13, 3), o_go 19),
  (9, (.iload_n 0, 1), o_il 0 10),
  (10, (.iload_n 2, 1), o_il 2 11),
  (11, (.if_icmp .le 7, 3), o_ic (fun x y => x ≤ y) 18 14),
  (14, (.iload_n 2, 1), o_il 2 15),
  (15, (.goto 4, 3), o_go 19),
  (18, (.iload_n 0, 1), o_il 0 19),
  (19, (.ireturn, 1), o_ri)]
abbrev CX5_within : aC := aCl tX5_within 3
def rmX5_within : Room := { frames := 1, cells := 0, slots := 0, locals := 1 }
set_option maxRecDepth 100000 in
theorem dX5_within : tX5_within.all (fun q => decide (decode cX5_within q.1 = .ok q.2.1)) = true := by decide +kernel
set_option maxRecDepth 100000 in
set_option maxHeartbeats 4000000 in
theorem nX5_within (l : Launch) : aMt l yX5_within (Cond.code yX5_within cX5_within 3 (some .int) :: wsL_law) rmX5_within CX5_within := by
  refine aMt.of (own := RX5) (cc := cX5_within) (maxL := 3) (ret := (some .int)) (by decide +kernel) rfl rfl ?_
  intro p e s m args below meth c Qc D Z ad P G A E hX hr hlk hE
  have up : ∀ w ∈ wsL_law, w ∈ (Cond.code yX5_within cX5_within 3 (some .int) :: wsL_law) := fun w h => List.mem_cons_of_mem _ h
  refine aImp_all _ dX5_within ?_
  unfold tX5_within
  refine aI_c (fun hd => s_il_n hX hd rfl rfl) ?_
  refine aI_c (fun hd => s_il_n hX hd rfl rfl) ?_
  refine aI_c (fun hd => s_ic_ge hX hd (by decide) rfl) ?_
  refine aI_c (fun hd => s_il_n hX hd rfl rfl) ?_
  refine aI_c (fun hd => s_go hX hd (by decide)) ?_
  refine aI_c (fun hd => s_il_n hX hd rfl rfl) ?_
  refine aI_c (fun hd => s_il_n hX hd rfl rfl) ?_
  refine aI_c (fun hd => s_ic_le hX hd (by decide) rfl) ?_
  refine aI_c (fun hd => s_il_n hX hd rfl rfl) ?_
  refine aI_c (fun hd => s_go hX hd (by decide)) ?_
  refine aI_c (fun hd => s_il_n hX hd rfl rfl) ?_
  refine aI_c (fun hd => s_ri hX hr hlk hE hd) ?_
  exact trivial

-- JudgesByLossModel.onesOf(I)I
def tX5_onesOf : aT := [
  (0, (.iconst 0, 1), o_ii 0 1),
  (1, (.istore_n 1, 1), o_is 1 2),
  (2, (.iconst 0, 1), o_ii 0 3),
  (3, (.istore_n 2, 1), o_is 2 4),
  (4, (.iload_n 2, 1), o_il 2 5),
  (5, (.bipush 10, 2), o_ii 10 7),
  (7, (.if_icmp .ge 17, 3), o_ic (fun x y => y ≤ x) 24 10),
  (10, (.iload_n 1, 1), o_il 1 11),
  (11, (.iload_n 0, 1), o_il 0 12),
  (12, (.iload_n 2, 1), o_il 2 13),
  (13, (.ishr, 1), o_bi (fun x y => x >>> (y &&& 31)) 14),
  (14, (.iconst 1, 1), o_ii 1 15),
  (15, (.iand, 1), o_bi (fun x y => x &&& y) 16),
  (16, (.iadd, 1), o_bi (fun x y => x + y) 17),
  (17, (.istore_n 1, 1), o_is 1 18),
  (18, (.iinc 2 1, 3), o_inc 2 1 21),
  (21, (.goto (-17), 3), o_go 4),
  (24, (.iload_n 1, 1), o_il 1 25),
  (25, (.ireturn, 1), o_ri)]
abbrev CX5_onesOf : aC := aCl tX5_onesOf 3
def rmX5_onesOf : Room := { frames := 1, cells := 0, slots := 0, locals := 1 }
set_option maxRecDepth 100000 in
theorem dX5_onesOf : tX5_onesOf.all (fun q => decide (decode cX5_onesOf q.1 = .ok q.2.1)) = true := by decide +kernel
set_option maxRecDepth 100000 in
set_option maxHeartbeats 4000000 in
theorem nX5_onesOf (l : Launch) : aMt l yX5_onesOf (Cond.code yX5_onesOf cX5_onesOf 3 (some .int) :: wsL_law) rmX5_onesOf CX5_onesOf := by
  refine aMt.of (own := RX5) (cc := cX5_onesOf) (maxL := 3) (ret := (some .int)) (by decide +kernel) rfl rfl ?_
  intro p e s m args below meth c Qc D Z ad P G A E hX hr hlk hE
  have up : ∀ w ∈ wsL_law, w ∈ (Cond.code yX5_onesOf cX5_onesOf 3 (some .int) :: wsL_law) := fun w h => List.mem_cons_of_mem _ h
  refine aImp_all _ dX5_onesOf ?_
  unfold tX5_onesOf
  refine aI_c (fun hd => s_ii hX hd (by decide) rfl) ?_
  refine aI_c (fun hd => s_is_n hX hd rfl rfl (by decide)) ?_
  refine aI_c (fun hd => s_ii hX hd (by decide) rfl) ?_
  refine aI_c (fun hd => s_is_n hX hd rfl rfl (by decide)) ?_
  refine aI_c (fun hd => s_il_n hX hd rfl rfl) ?_
  refine aI_c (fun hd => s_bp hX hd (by decide) rfl) ?_
  refine aI_c (fun hd => s_ic_ge hX hd (by decide) rfl) ?_
  refine aI_c (fun hd => s_il_n hX hd rfl rfl) ?_
  refine aI_c (fun hd => s_il_n hX hd rfl rfl) ?_
  refine aI_c (fun hd => s_il_n hX hd rfl rfl) ?_
  refine aI_c (fun hd => s_ishr hX hd rfl) ?_
  refine aI_c (fun hd => s_ii hX hd (by decide) rfl) ?_
  refine aI_c (fun hd => s_iand hX hd rfl) ?_
  refine aI_c (fun hd => s_iadd hX hd rfl) ?_
  refine aI_c (fun hd => s_is_n hX hd rfl rfl (by decide)) ?_
  refine aI_c (fun hd => s_inc hX hd (by decide) rfl (by decide)) ?_
  refine aI_c (fun hd => s_go hX hd (by decide)) ?_
  refine aI_c (fun hd => s_il_n hX hd rfl rfl) ?_
  refine aI_c (fun hd => s_ri hX hr hlk hE hd) ?_
  exact trivial

-- JudgesByLossModel.isOne(I)Z
def tX5_isOne : aT := [
  (0, (.iload_n 1, 1), o_il 1 1),
  (1, (.iconst 0, 1), o_ii 0 2),
  (2, (.aload_n 0, 1), o_al 0 3),
  (3, (.getfield 78, 3), o_gI 5 0 6),
  (6, (.iconst 1, 1), o_ii 1 7),
  (7, (.isub, 1), o_bi (fun x y => x - y) 8),
  (8, (.invokestatic 81, 3), o_cS CX5_in 3 11),
  (11, (.ireturn, 1), o_rz)]
abbrev CX5_isOne : aC := aCl tX5_isOne 2
def rmX5_isOne : Room := { frames := 2, cells := 0, slots := 0, locals := 23 }
set_option maxRecDepth 100000 in
theorem dX5_isOne : tX5_isOne.all (fun q => decide (decode cX5_isOne q.1 = .ok q.2.1)) = true := by decide +kernel
set_option maxRecDepth 100000 in
set_option maxHeartbeats 4000000 in
theorem nX5_isOne (l : Launch) : aMt l yX5_isOne (Cond.code yX5_isOne cX5_isOne 2 (some .boolean) :: wsL_law) rmX5_isOne CX5_isOne := by
  refine aMt.of (own := RX5) (cc := cX5_isOne) (maxL := 2) (ret := (some .boolean)) (by decide +kernel) rfl rfl ?_
  intro p e s m args below meth c Qc D Z ad P G A E hX hr hlk hE
  have up : ∀ w ∈ wsL_law, w ∈ (Cond.code yX5_isOne cX5_isOne 2 (some .boolean) :: wsL_law) := fun w h => List.mem_cons_of_mem _ h
  refine aImp_all _ dX5_isOne ?_
  unfold tX5_isOne
  refine aI_c (fun hd => s_il_n hX hd rfl rfl) ?_
  refine aI_c (fun hd => s_ii hX hd (by decide) rfl) ?_
  refine aI_c (fun hd => s_al_n hX hd rfl rfl) ?_
  refine aI_c (fun hd => s_gI hX (C := RX5) (T := TX5) (N := 35) (k := 0) rfl (fun w h => up w (inlX5 w h)) (by decide) rfl rfl rfl (up _ lkX5_78) hd rfl) ?_
  refine aI_c (fun hd => s_ii hX hd (by decide) rfl) ?_
  refine aI_c (fun hd => s_isub hX hd rfl) ?_
  refine aI_c (fun hd => s_cS hX (nX5_in l) (wg_S up lmX5_81 loX5_in) rfl rfl rfl (by decide +kernel) ⟨by decide, by decide⟩ ⟨Nat.zero_le _, Nat.zero_le _⟩ hd rfl) ?_
  refine aI_c (fun hd => s_rz hX hr hlk hE hd) ?_
  exact trivial

-- JudgesByLossModel.isThere(I)Z
def tX5_isThere : aT := [
  (0, (.iload_n 1, 1), o_il 1 1),
  (1, (.iconst 0, 1), o_ii 0 2),
  (2, (.bipush 7, 2), o_ii 7 4),
  (4, (.invokestatic 81, 3), o_cS CX5_in 3 7),
  (7, (.ifCond .eq 24, 3), o_if (fun x => x = 0) 31 10),
  (10, (.aload_n 0, 1), o_al 0 11),
  (11, (.getfield 19, 3), o_gF 5 4 14),
  (14, (.iconst 3, 1), o_ii 3 15),
  (15, (.iload_n 1, 1), o_il 1 16),
  (16, (.iconst 0, 1), o_ii 0 17),
  (17, (.bipush 7, 2), o_ii 7 19),
  (19, (.invokestatic 85, 3), o_cS CX5_within 3 22),
  (22, (.imul, 1), o_bi (fun x y => x * y) 23),
  (23, (.iaload, 1), o_iald 24),
  (24, (.ifCond .eq 7, 3), o_if (fun x => x = 0) 31 27),
  (27, (.iconst 1, 1), o_ii 1 28),
  (28, (.goto 4, 3), o_go 32),
  (31, (.iconst 0, 1), o_ii 0 32),
  (32, (.ireturn, 1), o_rz)]
abbrev CX5_isThere : aC := aCl tX5_isThere 2
def rmX5_isThere : Room := { frames := 2, cells := 0, slots := 0, locals := 23 }
set_option maxRecDepth 100000 in
theorem dX5_isThere : tX5_isThere.all (fun q => decide (decode cX5_isThere q.1 = .ok q.2.1)) = true := by decide +kernel
set_option maxRecDepth 100000 in
set_option maxHeartbeats 4000000 in
theorem nX5_isThere (l : Launch) : aMt l yX5_isThere (Cond.code yX5_isThere cX5_isThere 2 (some .boolean) :: wsL_law) rmX5_isThere CX5_isThere := by
  refine aMt.of (own := RX5) (cc := cX5_isThere) (maxL := 2) (ret := (some .boolean)) (by decide +kernel) rfl rfl ?_
  intro p e s m args below meth c Qc D Z ad P G A E hX hr hlk hE
  have up : ∀ w ∈ wsL_law, w ∈ (Cond.code yX5_isThere cX5_isThere 2 (some .boolean) :: wsL_law) := fun w h => List.mem_cons_of_mem _ h
  refine aImp_all _ dX5_isThere ?_
  unfold tX5_isThere
  refine aI_c (fun hd => s_il_n hX hd rfl rfl) ?_
  refine aI_c (fun hd => s_ii hX hd (by decide) rfl) ?_
  refine aI_c (fun hd => s_bp hX hd (by decide) rfl) ?_
  refine aI_c (fun hd => s_cS hX (nX5_in l) (wg_S up lmX5_81 loX5_in) rfl rfl rfl (by decide +kernel) ⟨by decide, by decide⟩ ⟨Nat.zero_le _, Nat.zero_le _⟩ hd rfl) ?_
  refine aI_c (fun hd => s_if_eq hX hd (by decide) rfl) ?_
  refine aI_c (fun hd => s_al_n hX hd rfl rfl) ?_
  refine aI_c (fun hd => s_gF hX (C := RX5) (T := TX5) (N := 35) (k := 4) rfl (fun w h => up w (inlX5 w h)) (by decide) rfl rfl rfl (up _ lkX5_19) hd rfl) ?_
  refine aI_c (fun hd => s_ii hX hd (by decide) rfl) ?_
  refine aI_c (fun hd => s_il_n hX hd rfl rfl) ?_
  refine aI_c (fun hd => s_ii hX hd (by decide) rfl) ?_
  refine aI_c (fun hd => s_bp hX hd (by decide) rfl) ?_
  refine aI_c (fun hd => s_cS hX (nX5_within l) (wg_S up lmX5_85 loX5_within) rfl rfl rfl (by decide +kernel) ⟨by decide, by decide⟩ ⟨Nat.zero_le _, Nat.zero_le _⟩ hd rfl) ?_
  refine aI_c (fun hd => s_imul hX hd rfl) ?_
  refine aI_c (fun hd => s_iald hX hd rfl) ?_
  refine aI_c (fun hd => s_if_eq hX hd (by decide) rfl) ?_
  refine aI_c (fun hd => s_ii hX hd (by decide) rfl) ?_
  refine aI_c (fun hd => s_go hX hd (by decide)) ?_
  refine aI_c (fun hd => s_ii hX hd (by decide) rfl) ?_
  refine aI_c (fun hd => s_rz hX hr hlk hE hd) ?_
  exact trivial

-- JudgesByLossModel.caseSet()I
def tX5_caseSet : aT := [
  (0, (.iconst 0, 1), o_ii 0 1),
  (1, (.istore_n 1, 1), o_is 1 2),
  (2, (.iconst 0, 1), o_ii 0 3),
  (3, (.istore_n 2, 1), o_is 2 4),
  (4, (.iload_n 2, 1), o_il 2 5),
  (5, (.bipush 8, 2), o_ii 8 7),
  (7, (.if_icmp .ge 27, 3), o_ic (fun x y => y ≤ x) 34 10),
  (10, (.iload_n 1, 1), o_il 1 11),
  (11, (.aload_n 0, 1), o_al 0 12),
  (12, (.iload_n 2, 1), o_il 2 13),
  (13, (.invokevirtual 89, 3), o_cV CX5_isThere 5 1 16),
  (16, (.ifCond .eq 9, 3), o_if (fun x => x = 0) 25 19),
  (19, (.iconst 1, 1), o_ii 1 20),
  (20, (.iload_n 2, 1), o_il 2 21),
  (21, (.ishl, 1), o_bi (fun x y => x <<< (y &&& 31)) 22),
  (22, (.goto 4, 3), o_go 26),
  (25, (.iconst 0, 1), o_ii 0 26),
  (26, (.ior, 1), o_bi (fun x y => x ||| y) 27),
  (27, (.istore_n 1, 1), o_is 1 28),
  (28, (.iinc 2 1, 3), o_inc 2 1 31),
  (31, (.goto (-27), 3), o_go 4),
  (34, (.iload_n 1, 1), o_il 1 35),
  (35, (.ireturn, 1), o_ri)]
abbrev CX5_caseSet : aC := aCl tX5_caseSet 3
def rmX5_caseSet : Room := { frames := 3, cells := 0, slots := 0, locals := 44 }
set_option maxRecDepth 100000 in
theorem dX5_caseSet : tX5_caseSet.all (fun q => decide (decode cX5_caseSet q.1 = .ok q.2.1)) = true := by decide +kernel
set_option maxRecDepth 100000 in
set_option maxHeartbeats 4000000 in
theorem nX5_caseSet (l : Launch) : aMt l yX5_caseSet (Cond.code yX5_caseSet cX5_caseSet 3 (some .int) :: wsL_law) rmX5_caseSet CX5_caseSet := by
  refine aMt.of (own := RX5) (cc := cX5_caseSet) (maxL := 3) (ret := (some .int)) (by decide +kernel) rfl rfl ?_
  intro p e s m args below meth c Qc D Z ad P G A E hX hr hlk hE
  have up : ∀ w ∈ wsL_law, w ∈ (Cond.code yX5_caseSet cX5_caseSet 3 (some .int) :: wsL_law) := fun w h => List.mem_cons_of_mem _ h
  refine aImp_all _ dX5_caseSet ?_
  unfold tX5_caseSet
  refine aI_c (fun hd => s_ii hX hd (by decide) rfl) ?_
  refine aI_c (fun hd => s_is_n hX hd rfl rfl (by decide)) ?_
  refine aI_c (fun hd => s_ii hX hd (by decide) rfl) ?_
  refine aI_c (fun hd => s_is_n hX hd rfl rfl (by decide)) ?_
  refine aI_c (fun hd => s_il_n hX hd rfl rfl) ?_
  refine aI_c (fun hd => s_bp hX hd (by decide) rfl) ?_
  refine aI_c (fun hd => s_ic_ge hX hd (by decide) rfl) ?_
  refine aI_c (fun hd => s_il_n hX hd rfl rfl) ?_
  refine aI_c (fun hd => s_al_n hX hd rfl rfl) ?_
  refine aI_c (fun hd => s_il_n hX hd rfl rfl) ?_
  refine aI_c (fun hd => s_cV hX (T := TX5) (N := 35) (nX5_isThere l) rfl (wg_V up lmX5_89 loX5_isThere) rfl rfl rfl (by decide +kernel) ⟨by decide, by decide⟩ ⟨Nat.zero_le _, Nat.zero_le _⟩ hd rfl) ?_
  refine aI_c (fun hd => s_if_eq hX hd (by decide) rfl) ?_
  refine aI_c (fun hd => s_ii hX hd (by decide) rfl) ?_
  refine aI_c (fun hd => s_il_n hX hd rfl rfl) ?_
  refine aI_c (fun hd => s_ishl hX hd rfl) ?_
  refine aI_c (fun hd => s_go hX hd (by decide)) ?_
  refine aI_c (fun hd => s_ii hX hd (by decide) rfl) ?_
  refine aI_c (fun hd => s_ior hX hd rfl) ?_
  refine aI_c (fun hd => s_is_n hX hd rfl rfl (by decide)) ?_
  refine aI_c (fun hd => s_inc hX hd (by decide) rfl (by decide)) ?_
  refine aI_c (fun hd => s_go hX hd (by decide)) ?_
  refine aI_c (fun hd => s_il_n hX hd rfl rfl) ?_
  refine aI_c (fun hd => s_ri hX hr hlk hE hd) ?_
  exact trivial

-- JudgesByLossModel.count(I)I
def tX5_count : aT := [
  (0, (.iload_n 1, 1), o_il 1 1),
  (1, (.tableswitch 81 0 6 #[43, 48, 56, 61, 66, 71, 76], 43), o_sw [(0, 44), (1, 49), (2, 57), (3, 62), (4, 67), (5, 72), (6, 77)] 82),
  (44, (.aload_n 0, 1), o_al 0 45),
  (45, (.getfield 78, 3), o_gI 5 0 48),
  (48, (.ireturn, 1), o_ri),
  (49, (.aload_n 0, 1), o_al 0 50),
  (50, (.invokevirtual 93, 3), o_cV CX5_caseSet 5 0 53),
  (53, (.invokestatic 96, 3), o_cS CX5_onesOf 1 56),
  (56, (.ireturn, 1), o_ri),
  (57, (.aload_n 0, 1), o_al 0 58),
  (58, (.getfield 100, 3), o_gI 5 6 61),
  (61, (.ireturn, 1), o_ri),
  (62, (.aload_n 0, 1), o_al 0 63),
  (63, (.getfield 103, 3), o_gI 5 11 66),
  (66, (.ireturn, 1), o_ri),
  (67, (.aload_n 0, 1), o_al 0 68),
  (68, (.getfield 106, 3), o_gI 5 12 71),
  (71, (.ireturn, 1), o_ri),
  (72, (.aload_n 0, 1), o_al 0 73),
  (73, (.getfield 70, 3), o_gI 5 8 76),
  (76, (.ireturn, 1), o_ri),
  (77, (.aload_n 0, 1), o_al 0 78),
  (78, (.getfield 109, 3), o_gI 5 5 81),
  (81, (.ireturn, 1), o_ri),
  (82, (.bipush (-2), 2), o_ii (-2) 84),
  (84, (.ireturn, 1), o_ri)]
abbrev CX5_count : aC := aCl tX5_count 2
def rmX5_count : Room := { frames := 4, cells := 0, slots := 0, locals := 66 }
set_option maxRecDepth 100000 in
theorem dX5_count : tX5_count.all (fun q => decide (decode cX5_count q.1 = .ok q.2.1)) = true := by decide +kernel
set_option maxRecDepth 100000 in
set_option maxHeartbeats 4000000 in
theorem nX5_count (l : Launch) : aMt l yX5_count (Cond.code yX5_count cX5_count 2 (some .int) :: wsL_law) rmX5_count CX5_count := by
  refine aMt.of (own := RX5) (cc := cX5_count) (maxL := 2) (ret := (some .int)) (by decide +kernel) rfl rfl ?_
  intro p e s m args below meth c Qc D Z ad P G A E hX hr hlk hE
  have up : ∀ w ∈ wsL_law, w ∈ (Cond.code yX5_count cX5_count 2 (some .int) :: wsL_law) := fun w h => List.mem_cons_of_mem _ h
  refine aImp_all _ dX5_count ?_
  unfold tX5_count
  refine aI_c (fun hd => s_il_n hX hd rfl rfl) ?_
  refine aI_c (fun hd => s_sw hX hd (by decide) (by decide +kernel)) ?_
  refine aI_c (fun hd => s_al_n hX hd rfl rfl) ?_
  refine aI_c (fun hd => s_gI hX (C := RX5) (T := TX5) (N := 35) (k := 0) rfl (fun w h => up w (inlX5 w h)) (by decide) rfl rfl rfl (up _ lkX5_78) hd rfl) ?_
  refine aI_c (fun hd => s_ri hX hr hlk hE hd) ?_
  refine aI_c (fun hd => s_al_n hX hd rfl rfl) ?_
  refine aI_c (fun hd => s_cV hX (T := TX5) (N := 35) (nX5_caseSet l) rfl (wg_V up lmX5_93 loX5_caseSet) rfl rfl rfl (by decide +kernel) ⟨by decide, by decide⟩ ⟨Nat.zero_le _, Nat.zero_le _⟩ hd rfl) ?_
  refine aI_c (fun hd => s_cS hX (nX5_onesOf l) (wg_S up lmX5_96 loX5_onesOf) rfl rfl rfl (by decide +kernel) ⟨by decide, by decide⟩ ⟨Nat.zero_le _, Nat.zero_le _⟩ hd rfl) ?_
  refine aI_c (fun hd => s_ri hX hr hlk hE hd) ?_
  refine aI_c (fun hd => s_al_n hX hd rfl rfl) ?_
  refine aI_c (fun hd => s_gI hX (C := RX5) (T := TX5) (N := 35) (k := 6) rfl (fun w h => up w (inlX5 w h)) (by decide) rfl rfl rfl (up _ lkX5_100) hd rfl) ?_
  refine aI_c (fun hd => s_ri hX hr hlk hE hd) ?_
  refine aI_c (fun hd => s_al_n hX hd rfl rfl) ?_
  refine aI_c (fun hd => s_gI hX (C := RX5) (T := TX5) (N := 35) (k := 11) rfl (fun w h => up w (inlX5 w h)) (by decide) rfl rfl rfl (up _ lkX5_103) hd rfl) ?_
  refine aI_c (fun hd => s_ri hX hr hlk hE hd) ?_
  refine aI_c (fun hd => s_al_n hX hd rfl rfl) ?_
  refine aI_c (fun hd => s_gI hX (C := RX5) (T := TX5) (N := 35) (k := 12) rfl (fun w h => up w (inlX5 w h)) (by decide) rfl rfl rfl (up _ lkX5_106) hd rfl) ?_
  refine aI_c (fun hd => s_ri hX hr hlk hE hd) ?_
  refine aI_c (fun hd => s_al_n hX hd rfl rfl) ?_
  refine aI_c (fun hd => s_gI hX (C := RX5) (T := TX5) (N := 35) (k := 8) rfl (fun w h => up w (inlX5 w h)) (by decide) rfl rfl rfl (up _ lkX5_70) hd rfl) ?_
  refine aI_c (fun hd => s_ri hX hr hlk hE hd) ?_
  refine aI_c (fun hd => s_al_n hX hd rfl rfl) ?_
  refine aI_c (fun hd => s_gI hX (C := RX5) (T := TX5) (N := 35) (k := 5) rfl (fun w h => up w (inlX5 w h)) (by decide) rfl rfl rfl (up _ lkX5_109) hd rfl) ?_
  refine aI_c (fun hd => s_ri hX hr hlk hE hd) ?_
  refine aI_c (fun hd => s_bp hX hd (by decide) rfl) ?_
  refine aI_c (fun hd => s_ri hX hr hlk hE hd) ?_
  exact trivial

-- JudgesByLossModel.dawn(I)I
def tX5_dawn : aT := [
  (0, (.iload_n 1, 1), o_il 1 1),
  (1, (.iconst 0, 1), o_ii 0 2),
  (2, (.sipush 999, 3), o_ii 999 5),
  (5, (.invokestatic 81, 3), o_cS CX5_in 3 8),
  (8, (.ifCond .ne 6, 3), o_if (fun x => ¬ x = 0) 14 11),
  (11, (.bipush (-2), 2), o_ii (-2) 13),
  (13, (.ireturn, 1), o_ri),
  (14, (.aload_n 0, 1), o_al 0 15),
  (15, (.getfield 109, 3), o_gI 5 5 18),
  (18, (.istore_n 2, 1), o_is 2 19),
  (19, (.aload_n 0, 1), o_al 0 20),
  (20, (.iload_n 1, 1), o_il 1 21),
  (21, (.putfield 109, 3), o_pI 5 5 24),
  (24, (.iload_n 2, 1), o_il 2 25),
  (25, (.ireturn, 1), o_ri)]
abbrev CX5_dawn : aC := aCl tX5_dawn 3
def rmX5_dawn : Room := { frames := 2, cells := 0, slots := 0, locals := 23 }
set_option maxRecDepth 100000 in
theorem dX5_dawn : tX5_dawn.all (fun q => decide (decode cX5_dawn q.1 = .ok q.2.1)) = true := by decide +kernel
set_option maxRecDepth 100000 in
set_option maxHeartbeats 4000000 in
theorem nX5_dawn (l : Launch) : aMt l yX5_dawn (Cond.code yX5_dawn cX5_dawn 3 (some .int) :: wsL_law) rmX5_dawn CX5_dawn := by
  refine aMt.of (own := RX5) (cc := cX5_dawn) (maxL := 3) (ret := (some .int)) (by decide +kernel) rfl rfl ?_
  intro p e s m args below meth c Qc D Z ad P G A E hX hr hlk hE
  have up : ∀ w ∈ wsL_law, w ∈ (Cond.code yX5_dawn cX5_dawn 3 (some .int) :: wsL_law) := fun w h => List.mem_cons_of_mem _ h
  refine aImp_all _ dX5_dawn ?_
  unfold tX5_dawn
  refine aI_c (fun hd => s_il_n hX hd rfl rfl) ?_
  refine aI_c (fun hd => s_ii hX hd (by decide) rfl) ?_
  refine aI_c (fun hd => s_sp hX hd (by decide) rfl) ?_
  refine aI_c (fun hd => s_cS hX (nX5_in l) (wg_S up lmX5_81 loX5_in) rfl rfl rfl (by decide +kernel) ⟨by decide, by decide⟩ ⟨Nat.zero_le _, Nat.zero_le _⟩ hd rfl) ?_
  refine aI_c (fun hd => s_if_ne hX hd (by decide) rfl) ?_
  refine aI_c (fun hd => s_bp hX hd (by decide) rfl) ?_
  refine aI_c (fun hd => s_ri hX hr hlk hE hd) ?_
  refine aI_c (fun hd => s_al_n hX hd rfl rfl) ?_
  refine aI_c (fun hd => s_gI hX (C := RX5) (T := TX5) (N := 35) (k := 5) rfl (fun w h => up w (inlX5 w h)) (by decide) rfl rfl rfl (up _ lkX5_109) hd rfl) ?_
  refine aI_c (fun hd => s_is_n hX hd rfl rfl (by decide)) ?_
  refine aI_c (fun hd => s_al_n hX hd rfl rfl) ?_
  refine aI_c (fun hd => s_il_n hX hd rfl rfl) ?_
  refine aI_c (fun hd => s_pI hX (C := RX5) (T := TX5) (N := 35) (k := 5) rfl (fun w h => up w (inlX5 w h)) (by decide) rfl rfl tyX5 tyX5_ok nmX5 rfl rfl rfl (up _ lkX5_109) hd rfl) ?_
  refine aI_c (fun hd => s_il_n hX hd rfl rfl) ?_
  refine aI_c (fun hd => s_ri hX hr hlk hE hd) ?_
  exact trivial

-- JudgesByLossModel.isByte(I)Z
def tX5_isByte : aT := [
  (0, (.iload_n 0, 1), o_il 0 1),
  (1, (.iconst 0, 1), o_ii 0 2),
  (2, (.sipush 255, 3), o_ii 255 5),
  (5, (.invokestatic 81, 3), o_cS CX5_in 3 8),
  (8, (.ireturn, 1), o_rz)]
abbrev CX5_isByte : aC := aCl tX5_isByte 1
def rmX5_isByte : Room := { frames := 2, cells := 0, slots := 0, locals := 23 }
set_option maxRecDepth 100000 in
theorem dX5_isByte : tX5_isByte.all (fun q => decide (decode cX5_isByte q.1 = .ok q.2.1)) = true := by decide +kernel
set_option maxRecDepth 100000 in
set_option maxHeartbeats 4000000 in
theorem nX5_isByte (l : Launch) : aMt l yX5_isByte (Cond.code yX5_isByte cX5_isByte 1 (some .boolean) :: wsL_law) rmX5_isByte CX5_isByte := by
  refine aMt.of (own := RX5) (cc := cX5_isByte) (maxL := 1) (ret := (some .boolean)) (by decide +kernel) rfl rfl ?_
  intro p e s m args below meth c Qc D Z ad P G A E hX hr hlk hE
  have up : ∀ w ∈ wsL_law, w ∈ (Cond.code yX5_isByte cX5_isByte 1 (some .boolean) :: wsL_law) := fun w h => List.mem_cons_of_mem _ h
  refine aImp_all _ dX5_isByte ?_
  unfold tX5_isByte
  refine aI_c (fun hd => s_il_n hX hd rfl rfl) ?_
  refine aI_c (fun hd => s_ii hX hd (by decide) rfl) ?_
  refine aI_c (fun hd => s_sp hX hd (by decide) rfl) ?_
  refine aI_c (fun hd => s_cS hX (nX5_in l) (wg_S up lmX5_81 loX5_in) rfl rfl rfl (by decide +kernel) ⟨by decide, by decide⟩ ⟨Nat.zero_le _, Nat.zero_le _⟩ hd rfl) ?_
  refine aI_c (fun hd => s_rz hX hr hlk hE hd) ?_
  exact trivial

-- JudgesByLossModel.feed(IIIIII)I
def tX5_feed : aT := [
  (0, (.iload_n 1, 1), o_il 1 1),
  (1, (.iconst 1, 1), o_ii 1 2),
  (2, (.iconst 5, 1), o_ii 5 3),
  (3, (.invokestatic 81, 3), o_cS CX5_in 3 6),
  (6, (.ifCond .eq 41, 3), o_if (fun x => x = 0) 47 9),
  (9, (.iload_n 2, 1), o_il 2 10),
  (10, (.invokestatic 112, 3), o_cS CX5_isByte 1 13),
  (13, (.ifCond .eq 34, 3), o_if (fun x => x = 0) 47 16),
  (16, (.iload_n 3, 1), o_il 3 17),
  (17, (.invokestatic 112, 3), o_cS CX5_isByte 1 20),
  (20, (.ifCond .eq 27, 3), o_if (fun x => x = 0) 47 23),
  (23, (.iload 4, 2), o_il 4 25),
  (25, (.invokestatic 112, 3), o_cS CX5_isByte 1 28),
  (28, (.ifCond .eq 19, 3), o_if (fun x => x = 0) 47 31),
  (31, (.iload 5, 2), o_il 5 33),
  (33, (.invokestatic 112, 3), o_cS CX5_isByte 1 36),
  (36, (.ifCond .eq 11, 3), o_if (fun x => x = 0) 47 39),
  (39, (.iload 6, 2), o_il 6 41),
  (41, (.invokestatic 112, 3), o_cS CX5_isByte 1 44),
  (44, (.ifCond .ne 6, 3), o_if (fun x => ¬ x = 0) 50 47),
  (47, (.bipush (-2), 2), o_ii (-2) 49),
  (49, (.ireturn, 1), o_ri),
  (50, (.aload_n 0, 1), o_al 0 51),
  (51, (.getfield 70, 3), o_gI 5 8 54),
  (54, (.iload_n 1, 1), o_il 1 55),
  (55, (.iadd, 1), o_bi (fun x y => x + y) 56),
  (56, (.sipush 160, 3), o_ii 160 59),
  (59, (.if_icmp .le 6, 3), o_ic (fun x y => x ≤ y) 65 62),
  (62, (.bipush (-4), 2), o_ii (-4) 64),
  (64, (.ireturn, 1), o_ri),
  (65, (.iconst 0, 1), o_ii 0 66),
  (66, (.istore 7, 2), o_is 7 68),
  (68, (.iload 7, 2), o_il 7 70),
  (70, (.iload_n 1, 1), o_il 1 71),
  (71, (.if_icmp .ge 71, 3), o_ic (fun x y => y ≤ x) 142 74),
  (74, (.aload_n 0, 1), o_al 0 75),
  (75, (.getfield 22, 3), o_gF 5 5 78),
  (78, (.aload_n 0, 1), o_al 0 79),
  (79, (.getfield 70, 3), o_gI 5 8 82),
  (82, (.iload 7, 2), o_il 7 84),
  (84, (.ifCond .ne 7, 3), o_if (fun x => ¬ x = 0) 91 87),
  (87, (.iload_n 2, 1), o_il 2 88),
  (88, (.goto 37, 3), o_go 125),
  (91, (.iload 7, 2), o_il 7 93),
  (93, (.iconst 1, 1), o_ii 1 94),
  (94, (.if_icmp .ne 7, 3), o_ic (fun x y => ¬ x = y) 101 97),
  (97, (.iload_n 3, 1), o_il 3 98),
  (98, (.goto 27, 3), o_go 125),
  (101, (.iload 7, 2), o_il 7 103),
  (103, (.iconst 2, 1), o_ii 2 104),
  (104, (.if_icmp .ne 8, 3), o_ic (fun x y => ¬ x = y) 112 107),
  (107, (.iload 4, 2), o_il 4 109),
  (109, (.goto 16, 3), o_go 125),
  (112, (.iload 7, 2), o_il 7 114),
  (114, (.iconst 3, 1), o_ii 3 115),
  (115, (.if_icmp .ne 8, 3), o_ic (fun x y => ¬ x = y) 123 118),
  (118, (.iload 5, 2), o_il 5 120),
  (120, (.goto 5, 3), o_go 125),
  (123, (.iload 6, 2), o_il 6 125),
  (125, (.iastore, 1), o_iast 126),
  (126, (.aload_n 0, 1), o_al 0 127),
  (127, (.dup, 1), o_dup 128),
  (128, (.getfield 70, 3), o_gI 5 8 131),
  (131, (.iconst 1, 1), o_ii 1 132),
  (132, (.iadd, 1), o_bi (fun x y => x + y) 133),
  (133, (.putfield 70, 3), o_pI 5 8 136),
  (136, (.iinc 7 1, 3), o_inc 7 1 139),
  (139, (.goto (-71), 3), o_go 68),
  (142, (.aload_n 0, 1), o_al 0 143),
  (143, (.getfield 70, 3), o_gI 5 8 146),
  (146, (.ireturn, 1), o_ri)]
abbrev CX5_feed : aC := aCl tX5_feed 8
def rmX5_feed : Room := { frames := 3, cells := 0, slots := 0, locals := 43 }
set_option maxRecDepth 100000 in
theorem dX5_feed : tX5_feed.all (fun q => decide (decode cX5_feed q.1 = .ok q.2.1)) = true := by decide +kernel
set_option maxRecDepth 100000 in
set_option maxHeartbeats 4000000 in
theorem nX5_feed (l : Launch) : aMt l yX5_feed (Cond.code yX5_feed cX5_feed 8 (some .int) :: wsL_law) rmX5_feed CX5_feed := by
  refine aMt.of (own := RX5) (cc := cX5_feed) (maxL := 8) (ret := (some .int)) (by decide +kernel) rfl rfl ?_
  intro p e s m args below meth c Qc D Z ad P G A E hX hr hlk hE
  have up : ∀ w ∈ wsL_law, w ∈ (Cond.code yX5_feed cX5_feed 8 (some .int) :: wsL_law) := fun w h => List.mem_cons_of_mem _ h
  refine aImp_all _ dX5_feed ?_
  unfold tX5_feed
  refine aI_c (fun hd => s_il_n hX hd rfl rfl) ?_
  refine aI_c (fun hd => s_ii hX hd (by decide) rfl) ?_
  refine aI_c (fun hd => s_ii hX hd (by decide) rfl) ?_
  refine aI_c (fun hd => s_cS hX (nX5_in l) (wg_S up lmX5_81 loX5_in) rfl rfl rfl (by decide +kernel) ⟨by decide, by decide⟩ ⟨Nat.zero_le _, Nat.zero_le _⟩ hd rfl) ?_
  refine aI_c (fun hd => s_if_eq hX hd (by decide) rfl) ?_
  refine aI_c (fun hd => s_il_n hX hd rfl rfl) ?_
  refine aI_c (fun hd => s_cS hX (nX5_isByte l) (wg_S up lmX5_112 loX5_isByte) rfl rfl rfl (by decide +kernel) ⟨by decide, by decide⟩ ⟨Nat.zero_le _, Nat.zero_le _⟩ hd rfl) ?_
  refine aI_c (fun hd => s_if_eq hX hd (by decide) rfl) ?_
  refine aI_c (fun hd => s_il_n hX hd rfl rfl) ?_
  refine aI_c (fun hd => s_cS hX (nX5_isByte l) (wg_S up lmX5_112 loX5_isByte) rfl rfl rfl (by decide +kernel) ⟨by decide, by decide⟩ ⟨Nat.zero_le _, Nat.zero_le _⟩ hd rfl) ?_
  refine aI_c (fun hd => s_if_eq hX hd (by decide) rfl) ?_
  refine aI_c (fun hd => s_il hX hd rfl) ?_
  refine aI_c (fun hd => s_cS hX (nX5_isByte l) (wg_S up lmX5_112 loX5_isByte) rfl rfl rfl (by decide +kernel) ⟨by decide, by decide⟩ ⟨Nat.zero_le _, Nat.zero_le _⟩ hd rfl) ?_
  refine aI_c (fun hd => s_if_eq hX hd (by decide) rfl) ?_
  refine aI_c (fun hd => s_il hX hd rfl) ?_
  refine aI_c (fun hd => s_cS hX (nX5_isByte l) (wg_S up lmX5_112 loX5_isByte) rfl rfl rfl (by decide +kernel) ⟨by decide, by decide⟩ ⟨Nat.zero_le _, Nat.zero_le _⟩ hd rfl) ?_
  refine aI_c (fun hd => s_if_eq hX hd (by decide) rfl) ?_
  refine aI_c (fun hd => s_il hX hd rfl) ?_
  refine aI_c (fun hd => s_cS hX (nX5_isByte l) (wg_S up lmX5_112 loX5_isByte) rfl rfl rfl (by decide +kernel) ⟨by decide, by decide⟩ ⟨Nat.zero_le _, Nat.zero_le _⟩ hd rfl) ?_
  refine aI_c (fun hd => s_if_ne hX hd (by decide) rfl) ?_
  refine aI_c (fun hd => s_bp hX hd (by decide) rfl) ?_
  refine aI_c (fun hd => s_ri hX hr hlk hE hd) ?_
  refine aI_c (fun hd => s_al_n hX hd rfl rfl) ?_
  refine aI_c (fun hd => s_gI hX (C := RX5) (T := TX5) (N := 35) (k := 8) rfl (fun w h => up w (inlX5 w h)) (by decide) rfl rfl rfl (up _ lkX5_70) hd rfl) ?_
  refine aI_c (fun hd => s_il_n hX hd rfl rfl) ?_
  refine aI_c (fun hd => s_iadd hX hd rfl) ?_
  refine aI_c (fun hd => s_sp hX hd (by decide) rfl) ?_
  refine aI_c (fun hd => s_ic_le hX hd (by decide) rfl) ?_
  refine aI_c (fun hd => s_bp hX hd (by decide) rfl) ?_
  refine aI_c (fun hd => s_ri hX hr hlk hE hd) ?_
  refine aI_c (fun hd => s_ii hX hd (by decide) rfl) ?_
  refine aI_c (fun hd => s_is hX hd rfl (by decide)) ?_
  refine aI_c (fun hd => s_il hX hd rfl) ?_
  refine aI_c (fun hd => s_il_n hX hd rfl rfl) ?_
  refine aI_c (fun hd => s_ic_ge hX hd (by decide) rfl) ?_
  refine aI_c (fun hd => s_al_n hX hd rfl rfl) ?_
  refine aI_c (fun hd => s_gF hX (C := RX5) (T := TX5) (N := 35) (k := 7) rfl (fun w h => up w (inlX5 w h)) (by decide) rfl rfl rfl (up _ lkX5_22) hd rfl) ?_
  refine aI_c (fun hd => s_al_n hX hd rfl rfl) ?_
  refine aI_c (fun hd => s_gI hX (C := RX5) (T := TX5) (N := 35) (k := 8) rfl (fun w h => up w (inlX5 w h)) (by decide) rfl rfl rfl (up _ lkX5_70) hd rfl) ?_
  refine aI_c (fun hd => s_il hX hd rfl) ?_
  refine aI_c (fun hd => s_if_ne hX hd (by decide) rfl) ?_
  refine aI_c (fun hd => s_il_n hX hd rfl rfl) ?_
  refine aI_c (fun hd => s_go hX hd (by decide)) ?_
  refine aI_c (fun hd => s_il hX hd rfl) ?_
  refine aI_c (fun hd => s_ii hX hd (by decide) rfl) ?_
  refine aI_c (fun hd => s_ic_ne hX hd (by decide) rfl) ?_
  refine aI_c (fun hd => s_il_n hX hd rfl rfl) ?_
  refine aI_c (fun hd => s_go hX hd (by decide)) ?_
  refine aI_c (fun hd => s_il hX hd rfl) ?_
  refine aI_c (fun hd => s_ii hX hd (by decide) rfl) ?_
  refine aI_c (fun hd => s_ic_ne hX hd (by decide) rfl) ?_
  refine aI_c (fun hd => s_il hX hd rfl) ?_
  refine aI_c (fun hd => s_go hX hd (by decide)) ?_
  refine aI_c (fun hd => s_il hX hd rfl) ?_
  refine aI_c (fun hd => s_ii hX hd (by decide) rfl) ?_
  refine aI_c (fun hd => s_ic_ne hX hd (by decide) rfl) ?_
  refine aI_c (fun hd => s_il hX hd rfl) ?_
  refine aI_c (fun hd => s_go hX hd (by decide)) ?_
  refine aI_c (fun hd => s_il hX hd rfl) ?_
  refine aI_c (fun hd => s_iast hX hd rfl) ?_
  refine aI_c (fun hd => s_al_n hX hd rfl rfl) ?_
  refine aI_c (fun hd => s_dup hX hd rfl) ?_
  refine aI_c (fun hd => s_gI hX (C := RX5) (T := TX5) (N := 35) (k := 8) rfl (fun w h => up w (inlX5 w h)) (by decide) rfl rfl rfl (up _ lkX5_70) hd rfl) ?_
  refine aI_c (fun hd => s_ii hX hd (by decide) rfl) ?_
  refine aI_c (fun hd => s_iadd hX hd rfl) ?_
  refine aI_c (fun hd => s_pI hX (C := RX5) (T := TX5) (N := 35) (k := 8) rfl (fun w h => up w (inlX5 w h)) (by decide) rfl rfl tyX5 tyX5_ok nmX5 rfl rfl rfl (up _ lkX5_70) hd rfl) ?_
  refine aI_c (fun hd => s_inc hX hd (by decide) rfl (by decide)) ?_
  refine aI_c (fun hd => s_go hX hd (by decide)) ?_
  refine aI_c (fun hd => s_al_n hX hd rfl rfl) ?_
  refine aI_c (fun hd => s_gI hX (C := RX5) (T := TX5) (N := 35) (k := 8) rfl (fun w h => up w (inlX5 w h)) (by decide) rfl rfl rfl (up _ lkX5_70) hd rfl) ?_
  refine aI_c (fun hd => s_ri hX hr hlk hE hd) ?_
  exact trivial

-- JudgesByLossModel.two(III)I
def tX5_two : aT := [
  (0, (.iload_n 0, 1), o_il 0 1),
  (1, (.tableswitch 101 11 17 #[43, 57, 101, 71, 82, 93, 97], 43), o_sw [(11, 44), (12, 58), (13, 102), (14, 72), (15, 83), (16, 94), (17, 98)] 102),
  (44, (.iload_n 1, 1), o_il 1 45),
  (45, (.ifCond .ne 7, 3), o_if (fun x => ¬ x = 0) 52 48),
  (48, (.iload_n 2, 1), o_il 2 49),
  (49, (.ifCond .eq 7, 3), o_if (fun x => x = 0) 56 52),
  (52, (.iconst 1, 1), o_ii 1 53),
  (53, (.goto 4, 3), o_go 57),
  (56, (.iconst 0, 1), o_ii 0 57),
  (57, (.ireturn, 1), o_ri),
  (58, (.iload_n 1, 1), o_il 1 59),
  (59, (.ifCond .eq 11, 3), o_if (fun x => x = 0) 70 62),
  (62, (.iload_n 2, 1), o_il 2 63),
  (63, (.ifCond .eq 7, 3), o_if (fun x => x = 0) 70 66),
  (66, (.iconst 1, 1), o_ii 1 67),
  (67, (.goto 4, 3), o_go 71),
  (70, (.iconst 0, 1), o_ii 0 71),
  (71, (.ireturn, 1), o_ri),
  (72, (.iload_n 1, 1), o_il 1 73),
  (73, (.iload_n 2, 1), o_il 2 74),
  (74, (.if_icmp .ge 7, 3), o_ic (fun x y => y ≤ x) 81 77),
  (77, (.iconst 1, 1), o_ii 1 78),
  (78, (.goto 4, 3), o_go 82),
  (81, (.iconst 0, 1), o_ii 0 82),
  (82, (.ireturn, 1), o_ri),
  (83, (.iload_n 1, 1), o_il 1 84),
  (84, (.iload_n 2, 1), o_il 2 85),
  (85, (.if_icmp .ne 7, 3), o_ic (fun x y => ¬ x = y) 92 88),
  (88, (.iconst 1, 1), o_ii 1 89),
  (89, (.goto 4, 3), o_go 93),
  (92, (.iconst 0, 1), o_ii 0 93),
  (93, (.ireturn, 1), o_ri),
  (94, (.iload_n 1, 1), o_il 1 95),
  (95, (.iload_n 2, 1), o_il 2 96),
  (96, (.iadd, 1), o_bi (fun x y => x + y) 97),
  (97, (.ireturn, 1), o_ri),
  (98, (.iload_n 1, 1), o_il 1 99),
  (99, (.iload_n 2, 1), o_il 2 100),
  (100, (.isub, 1), o_bi (fun x y => x - y) 101),
  (101, (.ireturn, 1), o_ri),
  (102, (.iload_n 1, 1), o_il 1 103),
  (103, (.iload_n 2, 1), o_il 2 104),
  (104, (.imul, 1), o_bi (fun x y => x * y) 105),
  (105, (.ireturn, 1), o_ri)]
abbrev CX5_two : aC := aCl tX5_two 3
def rmX5_two : Room := { frames := 1, cells := 0, slots := 0, locals := 1 }
set_option maxRecDepth 100000 in
theorem dX5_two : tX5_two.all (fun q => decide (decode cX5_two q.1 = .ok q.2.1)) = true := by decide +kernel
set_option maxRecDepth 100000 in
set_option maxHeartbeats 4000000 in
theorem nX5_two (l : Launch) : aMt l yX5_two (Cond.code yX5_two cX5_two 3 (some .int) :: wsL_law) rmX5_two CX5_two := by
  refine aMt.of (own := RX5) (cc := cX5_two) (maxL := 3) (ret := (some .int)) (by decide +kernel) rfl rfl ?_
  intro p e s m args below meth c Qc D Z ad P G A E hX hr hlk hE
  have up : ∀ w ∈ wsL_law, w ∈ (Cond.code yX5_two cX5_two 3 (some .int) :: wsL_law) := fun w h => List.mem_cons_of_mem _ h
  refine aImp_all _ dX5_two ?_
  unfold tX5_two
  refine aI_c (fun hd => s_il_n hX hd rfl rfl) ?_
  refine aI_c (fun hd => s_sw hX hd (by decide) (by decide +kernel)) ?_
  refine aI_c (fun hd => s_il_n hX hd rfl rfl) ?_
  refine aI_c (fun hd => s_if_ne hX hd (by decide) rfl) ?_
  refine aI_c (fun hd => s_il_n hX hd rfl rfl) ?_
  refine aI_c (fun hd => s_if_eq hX hd (by decide) rfl) ?_
  refine aI_c (fun hd => s_ii hX hd (by decide) rfl) ?_
  refine aI_c (fun hd => s_go hX hd (by decide)) ?_
  refine aI_c (fun hd => s_ii hX hd (by decide) rfl) ?_
  refine aI_c (fun hd => s_ri hX hr hlk hE hd) ?_
  refine aI_c (fun hd => s_il_n hX hd rfl rfl) ?_
  refine aI_c (fun hd => s_if_eq hX hd (by decide) rfl) ?_
  refine aI_c (fun hd => s_il_n hX hd rfl rfl) ?_
  refine aI_c (fun hd => s_if_eq hX hd (by decide) rfl) ?_
  refine aI_c (fun hd => s_ii hX hd (by decide) rfl) ?_
  refine aI_c (fun hd => s_go hX hd (by decide)) ?_
  refine aI_c (fun hd => s_ii hX hd (by decide) rfl) ?_
  refine aI_c (fun hd => s_ri hX hr hlk hE hd) ?_
  refine aI_c (fun hd => s_il_n hX hd rfl rfl) ?_
  refine aI_c (fun hd => s_il_n hX hd rfl rfl) ?_
  refine aI_c (fun hd => s_ic_ge hX hd (by decide) rfl) ?_
  refine aI_c (fun hd => s_ii hX hd (by decide) rfl) ?_
  refine aI_c (fun hd => s_go hX hd (by decide)) ?_
  refine aI_c (fun hd => s_ii hX hd (by decide) rfl) ?_
  refine aI_c (fun hd => s_ri hX hr hlk hE hd) ?_
  refine aI_c (fun hd => s_il_n hX hd rfl rfl) ?_
  refine aI_c (fun hd => s_il_n hX hd rfl rfl) ?_
  refine aI_c (fun hd => s_ic_ne hX hd (by decide) rfl) ?_
  refine aI_c (fun hd => s_ii hX hd (by decide) rfl) ?_
  refine aI_c (fun hd => s_go hX hd (by decide)) ?_
  refine aI_c (fun hd => s_ii hX hd (by decide) rfl) ?_
  refine aI_c (fun hd => s_ri hX hr hlk hE hd) ?_
  refine aI_c (fun hd => s_il_n hX hd rfl rfl) ?_
  refine aI_c (fun hd => s_il_n hX hd rfl rfl) ?_
  refine aI_c (fun hd => s_iadd hX hd rfl) ?_
  refine aI_c (fun hd => s_ri hX hr hlk hE hd) ?_
  refine aI_c (fun hd => s_il_n hX hd rfl rfl) ?_
  refine aI_c (fun hd => s_il_n hX hd rfl rfl) ?_
  refine aI_c (fun hd => s_isub hX hd rfl) ?_
  refine aI_c (fun hd => s_ri hX hr hlk hE hd) ?_
  refine aI_c (fun hd => s_il_n hX hd rfl rfl) ?_
  refine aI_c (fun hd => s_il_n hX hd rfl rfl) ?_
  refine aI_c (fun hd => s_imul hX hd rfl) ?_
  refine aI_c (fun hd => s_ri hX hr hlk hE hd) ?_
  exact trivial

-- JudgesByLossModel.says(I)I
def tX5_says : aT := [
  (0, (.iconst 0, 1), o_ii 0 1),
  (1, (.istore_n 2, 1), o_is 2 2),
  (2, (.aload_n 0, 1), o_al 0 3),
  (3, (.getfield 28, 3), o_gF 5 7 6),
  (6, (.iconst 4, 1), o_ii 4 7),
  (7, (.aload_n 0, 1), o_al 0 8),
  (8, (.getfield 106, 3), o_gI 5 12 11),
  (11, (.imul, 1), o_bi (fun x y => x * y) 12),
  (12, (.iload_n 1, 1), o_il 1 13),
  (13, (.iadd, 1), o_bi (fun x y => x + y) 14),
  (14, (.iaload, 1), o_iald 15),
  (15, (.istore_n 3, 1), o_is 3 16),
  (16, (.iload_n 3, 1), o_mk [false, false, false, false, true] (o_il 3 17)),
  (17, (.aload_n 0, 1), o_al 0 18),
  (18, (.getfield 28, 3), o_gF 5 7 21),
  (21, (.iconst 4, 1), o_ii 4 22),
  (22, (.aload_n 0, 1), o_al 0 23),
  (23, (.getfield 106, 3), o_gI 5 12 26),
  (26, (.imul, 1), o_bi (fun x y => x * y) 27),
  (27, (.iload_n 1, 1), o_il 1 28),
  (28, (.iadd, 1), o_bi (fun x y => x + y) 29),
  (29, (.iconst 1, 1), o_ii 1 30),
  (30, (.iadd, 1), o_bi (fun x y => x + y) 31),
  (31, (.iaload, 1), o_iald 32),
  (32, (.if_icmp .ge 165, 3), o_ic (fun x y => y ≤ x) 197 35),
  (35, (.aload_n 0, 1), o_al 0 36),
  (36, (.getfield 25, 3), o_gF 5 6 39),
  (39, (.sipush 200, 3), o_ii 200 42),
  (42, (.aload_n 0, 1), o_al 0 43),
  (43, (.getfield 106, 3), o_gI 5 12 46),
  (46, (.imul, 1), o_bi (fun x y => x * y) 47),
  (47, (.iload_n 3, 1), o_il 3 48),
  (48, (.iadd, 1), o_bi (fun x y => x + y) 49),
  (49, (.iaload, 1), o_iald 50),
  (50, (.istore 4, 2), o_is 4 52),
  (52, (.iload 4, 2), o_il 4 54),
  (54, (.ldc 156, 2), o_ii 100000 56),
  (56, (.if_icmp .ge 10, 3), o_ic (fun x y => y ≤ x) 66 59),
  (59, (.iload 4, 2), o_il 4 61),
  (61, (.bipush 11, 2), o_ii 11 63),
  (63, (.if_icmp .ge 37, 3), o_ic (fun x y => y ≤ x) 100 66),
  (66, (.aload_n 0, 1), o_al 0 67),
  (67, (.getfield 55, 3), o_gF 5 16 70),
  (70, (.iload_n 2, 1), o_il 2 71),
  (71, (.iload 4, 2), o_il 4 73),
  (73, (.bipush 11, 2), o_ii 11 75),
  (75, (.if_icmp .ge 13, 3), o_ic (fun x y => y ≤ x) 88 78),
  (78, (.aload_n 0, 1), o_al 0 79),
  (79, (.getfield 58, 3), o_gF 5 17 82),
  (82, (.iload 4, 2), o_il 4 84),
  (84, (.iaload, 1), o_iald 85),
  (85, (.goto 8, 3), o_go 93),
  (88, (.iload 4, 2), o_il 4 90),
  (90, (.ldc 156, 2), o_ii 100000 92),
  (92, (.isub, 1), o_bi (fun x y => x - y) 93),
  (93, (.iastore, 1), o_iast 94),
  (94, (.iinc 2 1, 3), o_inc 2 1 97),
  (97, (.goto 94, 3), o_go 191),
  (100, (.iload 4, 2), o_il 4 102),
  (102, (.bipush 13, 2), o_ii 13 104),
  (104, (.if_icmp .ne 30, 3), o_ic (fun x y => ¬ x = y) 134 107),
  (107, (.aload_n 0, 1), o_al 0 108),
  (108, (.getfield 55, 3), o_gF 5 16 111),
  (111, (.iload_n 2, 1), o_il 2 112),
  (112, (.iconst 1, 1), o_ii 1 113),
  (113, (.isub, 1), o_bi (fun x y => x - y) 114),
  (114, (.aload_n 0, 1), o_al 0 115),
  (115, (.getfield 55, 3), o_gF 5 16 118),
  (118, (.iload_n 2, 1), o_il 2 119),
  (119, (.iconst 1, 1), o_ii 1 120),
  (120, (.isub, 1), o_bi (fun x y => x - y) 121),
  (121, (.iaload, 1), o_iald 122),
  (122, (.ifCond .ne 7, 3), o_if (fun x => ¬ x = 0) 129 125),
  (125, (.iconst 1, 1), o_ii 1 126),
  (126, (.goto 4, 3), o_go 130),
  (129, (.iconst 0, 1), o_ii 0 130),
  (130, (.iastore, 1), o_iast 131),
  (131, (.goto 60, 3), o_go 191),
  (134, (.iload 4, 2), o_il 4 136),
  (136, (.bipush 19, 2), o_ii 19 138),
  (138, (.if_icmp .ne 23, 3), o_ic (fun x y => ¬ x = y) 161 141),
  (141, (.aload_n 0, 1), o_al 0 142),
  (142, (.getfield 55, 3), o_gF 5 16 145),
  (145, (.iload_n 2, 1), o_il 2 146),
  (146, (.iconst 1, 1), o_ii 1 147),
  (147, (.isub, 1), o_bi (fun x y => x - y) 148),
  (148, (.aload_n 0, 1), o_al 0 149),
  (149, (.getfield 55, 3), o_gF 5 16 152),
  (152, (.iload_n 2, 1), o_il 2 153),
  (153, (.iconst 1, 1), o_ii 1 154),
  (154, (.isub, 1), o_bi (fun x y => x - y) 155),
  (155, (.iaload, 1), o_iald 156),
  (156, (.ineg, 1), o_ui (fun x => -x) 157),
  (157, (.iastore, 1), o_iast 158),
  (158, (.goto 33, 3), o_go 191),
  (161, (.iinc 2 (-1), 3), o_inc 2 (-1) 164),
  (164, (.aload_n 0, 1), o_al 0 165),
  (165, (.getfield 55, 3), o_gF 5 16 168),
  (168, (.iload_n 2, 1), o_il 2 169),
  (169, (.iconst 1, 1), o_ii 1 170),
  (170, (.isub, 1), o_bi (fun x y => x - y) 171),
  (171, (.iload 4, 2), o_il 4 173),
  (173, (.aload_n 0, 1), o_al 0 174),
  (174, (.getfield 55, 3), o_gF 5 16 177),
  (177, (.iload_n 2, 1), o_il 2 178),
  (178, (.iconst 1, 1), o_ii 1 179),
  (179, (.isub, 1), o_bi (fun x y => x - y) 180),
  (180, (.iaload, 1), o_iald 181),
  (181, (.aload_n 0, 1), o_al 0 182),
  (182, (.getfield 55, 3), o_gF 5 16 185),
  (185, (.iload_n 2, 1), o_il 2 186),
  (186, (.iaload, 1), o_iald 187),
  (187, (.invokestatic 170, 3), o_cS CX5_two 3 190),
  (190, (.iastore, 1), o_iast 191),
  (191, (.iinc 3 1, 3), o_inc 3 1 194),
  (194, (.goto (-178), 3), o_go 16),
  (197, (.aload_n 0, 1), o_al 0 198),
  (198, (.getfield 55, 3), o_gF 5 16 201),
  (201, (.iconst 0, 1), o_ii 0 202),
  (202, (.iaload, 1), o_iald 203),
  (203, (.ireturn, 1), o_ri)]
abbrev CX5_says : aC := aCl tX5_says 5
def rmX5_says : Room := { frames := 2, cells := 0, slots := 0, locals := 23 }
set_option maxRecDepth 100000 in
theorem dX5_says : tX5_says.all (fun q => decide (decode cX5_says q.1 = .ok q.2.1)) = true := by decide +kernel
set_option maxRecDepth 100000 in
set_option maxHeartbeats 4000000 in
theorem nX5_says (l : Launch) : aMt l yX5_says (Cond.code yX5_says cX5_says 5 (some .int) :: wsL_law) rmX5_says CX5_says := by
  refine aMt.of (own := RX5) (cc := cX5_says) (maxL := 5) (ret := (some .int)) (by decide +kernel) rfl rfl ?_
  intro p e s m args below meth c Qc D Z ad P G A E hX hr hlk hE
  have up : ∀ w ∈ wsL_law, w ∈ (Cond.code yX5_says cX5_says 5 (some .int) :: wsL_law) := fun w h => List.mem_cons_of_mem _ h
  refine aImp_all _ dX5_says ?_
  unfold tX5_says
  refine aI_c (fun hd => s_ii hX hd (by decide) rfl) ?_
  refine aI_c (fun hd => s_is_n hX hd rfl rfl (by decide)) ?_
  refine aI_c (fun hd => s_al_n hX hd rfl rfl) ?_
  refine aI_c (fun hd => s_gF hX (C := RX5) (T := TX5) (N := 35) (k := 10) rfl (fun w h => up w (inlX5 w h)) (by decide) rfl rfl rfl (up _ lkX5_28) hd rfl) ?_
  refine aI_c (fun hd => s_ii hX hd (by decide) rfl) ?_
  refine aI_c (fun hd => s_al_n hX hd rfl rfl) ?_
  refine aI_c (fun hd => s_gI hX (C := RX5) (T := TX5) (N := 35) (k := 12) rfl (fun w h => up w (inlX5 w h)) (by decide) rfl rfl rfl (up _ lkX5_106) hd rfl) ?_
  refine aI_c (fun hd => s_imul hX hd rfl) ?_
  refine aI_c (fun hd => s_il_n hX hd rfl rfl) ?_
  refine aI_c (fun hd => s_iadd hX hd rfl) ?_
  refine aI_c (fun hd => s_iald hX hd rfl) ?_
  refine aI_c (fun hd => s_is_n hX hd rfl rfl (by decide)) ?_
  refine aI_c (fun hd => s_mk (s_il_n hX hd rfl rfl)) ?_
  refine aI_c (fun hd => s_al_n hX hd rfl rfl) ?_
  refine aI_c (fun hd => s_gF hX (C := RX5) (T := TX5) (N := 35) (k := 10) rfl (fun w h => up w (inlX5 w h)) (by decide) rfl rfl rfl (up _ lkX5_28) hd rfl) ?_
  refine aI_c (fun hd => s_ii hX hd (by decide) rfl) ?_
  refine aI_c (fun hd => s_al_n hX hd rfl rfl) ?_
  refine aI_c (fun hd => s_gI hX (C := RX5) (T := TX5) (N := 35) (k := 12) rfl (fun w h => up w (inlX5 w h)) (by decide) rfl rfl rfl (up _ lkX5_106) hd rfl) ?_
  refine aI_c (fun hd => s_imul hX hd rfl) ?_
  refine aI_c (fun hd => s_il_n hX hd rfl rfl) ?_
  refine aI_c (fun hd => s_iadd hX hd rfl) ?_
  refine aI_c (fun hd => s_ii hX hd (by decide) rfl) ?_
  refine aI_c (fun hd => s_iadd hX hd rfl) ?_
  refine aI_c (fun hd => s_iald hX hd rfl) ?_
  refine aI_c (fun hd => s_ic_ge hX hd (by decide) rfl) ?_
  refine aI_c (fun hd => s_al_n hX hd rfl rfl) ?_
  refine aI_c (fun hd => s_gF hX (C := RX5) (T := TX5) (N := 35) (k := 9) rfl (fun w h => up w (inlX5 w h)) (by decide) rfl rfl rfl (up _ lkX5_25) hd rfl) ?_
  refine aI_c (fun hd => s_sp hX hd (by decide) rfl) ?_
  refine aI_c (fun hd => s_al_n hX hd rfl rfl) ?_
  refine aI_c (fun hd => s_gI hX (C := RX5) (T := TX5) (N := 35) (k := 12) rfl (fun w h => up w (inlX5 w h)) (by decide) rfl rfl rfl (up _ lkX5_106) hd rfl) ?_
  refine aI_c (fun hd => s_imul hX hd rfl) ?_
  refine aI_c (fun hd => s_il_n hX hd rfl rfl) ?_
  refine aI_c (fun hd => s_iadd hX hd rfl) ?_
  refine aI_c (fun hd => s_iald hX hd rfl) ?_
  refine aI_c (fun hd => s_is hX hd rfl (by decide)) ?_
  refine aI_c (fun hd => s_il hX hd rfl) ?_
  refine aI_c (fun hd => s_ldc hX hd (up _ lcX5_156) rfl) ?_
  refine aI_c (fun hd => s_ic_ge hX hd (by decide) rfl) ?_
  refine aI_c (fun hd => s_il hX hd rfl) ?_
  refine aI_c (fun hd => s_bp hX hd (by decide) rfl) ?_
  refine aI_c (fun hd => s_ic_ge hX hd (by decide) rfl) ?_
  refine aI_c (fun hd => s_al_n hX hd rfl rfl) ?_
  refine aI_c (fun hd => s_gF hX (C := RX5) (T := TX5) (N := 35) (k := 29) rfl (fun w h => up w (inlX5 w h)) (by decide) rfl rfl rfl (up _ lkX5_55) hd rfl) ?_
  refine aI_c (fun hd => s_il_n hX hd rfl rfl) ?_
  refine aI_c (fun hd => s_il hX hd rfl) ?_
  refine aI_c (fun hd => s_bp hX hd (by decide) rfl) ?_
  refine aI_c (fun hd => s_ic_ge hX hd (by decide) rfl) ?_
  refine aI_c (fun hd => s_al_n hX hd rfl rfl) ?_
  refine aI_c (fun hd => s_gF hX (C := RX5) (T := TX5) (N := 35) (k := 30) rfl (fun w h => up w (inlX5 w h)) (by decide) rfl rfl rfl (up _ lkX5_58) hd rfl) ?_
  refine aI_c (fun hd => s_il hX hd rfl) ?_
  refine aI_c (fun hd => s_iald hX hd rfl) ?_
  refine aI_c (fun hd => s_go hX hd (by decide)) ?_
  refine aI_c (fun hd => s_il hX hd rfl) ?_
  refine aI_c (fun hd => s_ldc hX hd (up _ lcX5_156) rfl) ?_
  refine aI_c (fun hd => s_isub hX hd rfl) ?_
  refine aI_c (fun hd => s_iast hX hd rfl) ?_
  refine aI_c (fun hd => s_inc hX hd (by decide) rfl (by decide)) ?_
  refine aI_c (fun hd => s_go hX hd (by decide)) ?_
  refine aI_c (fun hd => s_il hX hd rfl) ?_
  refine aI_c (fun hd => s_bp hX hd (by decide) rfl) ?_
  refine aI_c (fun hd => s_ic_ne hX hd (by decide) rfl) ?_
  refine aI_c (fun hd => s_al_n hX hd rfl rfl) ?_
  refine aI_c (fun hd => s_gF hX (C := RX5) (T := TX5) (N := 35) (k := 29) rfl (fun w h => up w (inlX5 w h)) (by decide) rfl rfl rfl (up _ lkX5_55) hd rfl) ?_
  refine aI_c (fun hd => s_il_n hX hd rfl rfl) ?_
  refine aI_c (fun hd => s_ii hX hd (by decide) rfl) ?_
  refine aI_c (fun hd => s_isub hX hd rfl) ?_
  refine aI_c (fun hd => s_al_n hX hd rfl rfl) ?_
  refine aI_c (fun hd => s_gF hX (C := RX5) (T := TX5) (N := 35) (k := 29) rfl (fun w h => up w (inlX5 w h)) (by decide) rfl rfl rfl (up _ lkX5_55) hd rfl) ?_
  refine aI_c (fun hd => s_il_n hX hd rfl rfl) ?_
  refine aI_c (fun hd => s_ii hX hd (by decide) rfl) ?_
  refine aI_c (fun hd => s_isub hX hd rfl) ?_
  refine aI_c (fun hd => s_iald hX hd rfl) ?_
  refine aI_c (fun hd => s_if_ne hX hd (by decide) rfl) ?_
  refine aI_c (fun hd => s_ii hX hd (by decide) rfl) ?_
  refine aI_c (fun hd => s_go hX hd (by decide)) ?_
  refine aI_c (fun hd => s_ii hX hd (by decide) rfl) ?_
  refine aI_c (fun hd => s_iast hX hd rfl) ?_
  refine aI_c (fun hd => s_go hX hd (by decide)) ?_
  refine aI_c (fun hd => s_il hX hd rfl) ?_
  refine aI_c (fun hd => s_bp hX hd (by decide) rfl) ?_
  refine aI_c (fun hd => s_ic_ne hX hd (by decide) rfl) ?_
  refine aI_c (fun hd => s_al_n hX hd rfl rfl) ?_
  refine aI_c (fun hd => s_gF hX (C := RX5) (T := TX5) (N := 35) (k := 29) rfl (fun w h => up w (inlX5 w h)) (by decide) rfl rfl rfl (up _ lkX5_55) hd rfl) ?_
  refine aI_c (fun hd => s_il_n hX hd rfl rfl) ?_
  refine aI_c (fun hd => s_ii hX hd (by decide) rfl) ?_
  refine aI_c (fun hd => s_isub hX hd rfl) ?_
  refine aI_c (fun hd => s_al_n hX hd rfl rfl) ?_
  refine aI_c (fun hd => s_gF hX (C := RX5) (T := TX5) (N := 35) (k := 29) rfl (fun w h => up w (inlX5 w h)) (by decide) rfl rfl rfl (up _ lkX5_55) hd rfl) ?_
  refine aI_c (fun hd => s_il_n hX hd rfl rfl) ?_
  refine aI_c (fun hd => s_ii hX hd (by decide) rfl) ?_
  refine aI_c (fun hd => s_isub hX hd rfl) ?_
  refine aI_c (fun hd => s_iald hX hd rfl) ?_
  refine aI_c (fun hd => s_ineg hX hd rfl) ?_
  refine aI_c (fun hd => s_iast hX hd rfl) ?_
  refine aI_c (fun hd => s_go hX hd (by decide)) ?_
  refine aI_c (fun hd => s_inc hX hd (by decide) rfl (by decide)) ?_
  refine aI_c (fun hd => s_al_n hX hd rfl rfl) ?_
  refine aI_c (fun hd => s_gF hX (C := RX5) (T := TX5) (N := 35) (k := 29) rfl (fun w h => up w (inlX5 w h)) (by decide) rfl rfl rfl (up _ lkX5_55) hd rfl) ?_
  refine aI_c (fun hd => s_il_n hX hd rfl rfl) ?_
  refine aI_c (fun hd => s_ii hX hd (by decide) rfl) ?_
  refine aI_c (fun hd => s_isub hX hd rfl) ?_
  refine aI_c (fun hd => s_il hX hd rfl) ?_
  refine aI_c (fun hd => s_al_n hX hd rfl rfl) ?_
  refine aI_c (fun hd => s_gF hX (C := RX5) (T := TX5) (N := 35) (k := 29) rfl (fun w h => up w (inlX5 w h)) (by decide) rfl rfl rfl (up _ lkX5_55) hd rfl) ?_
  refine aI_c (fun hd => s_il_n hX hd rfl rfl) ?_
  refine aI_c (fun hd => s_ii hX hd (by decide) rfl) ?_
  refine aI_c (fun hd => s_isub hX hd rfl) ?_
  refine aI_c (fun hd => s_iald hX hd rfl) ?_
  refine aI_c (fun hd => s_al_n hX hd rfl rfl) ?_
  refine aI_c (fun hd => s_gF hX (C := RX5) (T := TX5) (N := 35) (k := 29) rfl (fun w h => up w (inlX5 w h)) (by decide) rfl rfl rfl (up _ lkX5_55) hd rfl) ?_
  refine aI_c (fun hd => s_il_n hX hd rfl rfl) ?_
  refine aI_c (fun hd => s_iald hX hd rfl) ?_
  refine aI_c (fun hd => s_cS hX (nX5_two l) (wg_S up lmX5_170 loX5_two) rfl rfl rfl (by decide +kernel) ⟨by decide, by decide⟩ ⟨Nat.zero_le _, Nat.zero_le _⟩ hd rfl) ?_
  refine aI_c (fun hd => s_iast hX hd rfl) ?_
  refine aI_c (fun hd => s_inc hX hd (by decide) rfl (by decide)) ?_
  refine aI_c (fun hd => s_go hX hd (by decide)) ?_
  refine aI_c (fun hd => s_al_n hX hd rfl rfl) ?_
  refine aI_c (fun hd => s_gF hX (C := RX5) (T := TX5) (N := 35) (k := 29) rfl (fun w h => up w (inlX5 w h)) (by decide) rfl rfl rfl (up _ lkX5_55) hd rfl) ?_
  refine aI_c (fun hd => s_ii hX hd (by decide) rfl) ?_
  refine aI_c (fun hd => s_iald hX hd rfl) ?_
  refine aI_c (fun hd => s_ri hX hr hlk hE hd) ?_
  exact trivial

-- JudgesByLossModel.force(I)I
def tX5_force : aT := [
  (0, (.iload_n 1, 1), o_il 1 1),
  (1, (.iconst 0, 1), o_ii 0 2),
  (2, (.aload_n 0, 1), o_al 0 3),
  (3, (.getfield 103, 3), o_gI 5 11 6),
  (6, (.iconst 1, 1), o_ii 1 7),
  (7, (.isub, 1), o_bi (fun x y => x - y) 8),
  (8, (.invokestatic 81, 3), o_cS CX5_in 3 11),
  (11, (.ifCond .ne 6, 3), o_if (fun x => ¬ x = 0) 17 14),
  (14, (.bipush (-2), 2), o_ii (-2) 16),
  (16, (.ireturn, 1), o_ri),
  (17, (.aload_n 0, 1), o_al 0 18),
  (18, (.getfield 106, 3), o_gI 5 12 21),
  (21, (.istore_n 2, 1), o_is 2 22),
  (22, (.aload_n 0, 1), o_al 0 23),
  (23, (.iload_n 1, 1), o_il 1 24),
  (24, (.putfield 106, 3), o_pI 5 12 27),
  (27, (.iload_n 2, 1), o_il 2 28),
  (28, (.ireturn, 1), o_ri)]
abbrev CX5_force : aC := aCl tX5_force 3
def rmX5_force : Room := { frames := 2, cells := 0, slots := 0, locals := 23 }
set_option maxRecDepth 100000 in
theorem dX5_force : tX5_force.all (fun q => decide (decode cX5_force q.1 = .ok q.2.1)) = true := by decide +kernel
set_option maxRecDepth 100000 in
set_option maxHeartbeats 4000000 in
theorem nX5_force (l : Launch) : aMt l yX5_force (Cond.code yX5_force cX5_force 3 (some .int) :: wsL_law) rmX5_force CX5_force := by
  refine aMt.of (own := RX5) (cc := cX5_force) (maxL := 3) (ret := (some .int)) (by decide +kernel) rfl rfl ?_
  intro p e s m args below meth c Qc D Z ad P G A E hX hr hlk hE
  have up : ∀ w ∈ wsL_law, w ∈ (Cond.code yX5_force cX5_force 3 (some .int) :: wsL_law) := fun w h => List.mem_cons_of_mem _ h
  refine aImp_all _ dX5_force ?_
  unfold tX5_force
  refine aI_c (fun hd => s_il_n hX hd rfl rfl) ?_
  refine aI_c (fun hd => s_ii hX hd (by decide) rfl) ?_
  refine aI_c (fun hd => s_al_n hX hd rfl rfl) ?_
  refine aI_c (fun hd => s_gI hX (C := RX5) (T := TX5) (N := 35) (k := 11) rfl (fun w h => up w (inlX5 w h)) (by decide) rfl rfl rfl (up _ lkX5_103) hd rfl) ?_
  refine aI_c (fun hd => s_ii hX hd (by decide) rfl) ?_
  refine aI_c (fun hd => s_isub hX hd rfl) ?_
  refine aI_c (fun hd => s_cS hX (nX5_in l) (wg_S up lmX5_81 loX5_in) rfl rfl rfl (by decide +kernel) ⟨by decide, by decide⟩ ⟨Nat.zero_le _, Nat.zero_le _⟩ hd rfl) ?_
  refine aI_c (fun hd => s_if_ne hX hd (by decide) rfl) ?_
  refine aI_c (fun hd => s_bp hX hd (by decide) rfl) ?_
  refine aI_c (fun hd => s_ri hX hr hlk hE hd) ?_
  refine aI_c (fun hd => s_al_n hX hd rfl rfl) ?_
  refine aI_c (fun hd => s_gI hX (C := RX5) (T := TX5) (N := 35) (k := 12) rfl (fun w h => up w (inlX5 w h)) (by decide) rfl rfl rfl (up _ lkX5_106) hd rfl) ?_
  refine aI_c (fun hd => s_is_n hX hd rfl rfl (by decide)) ?_
  refine aI_c (fun hd => s_al_n hX hd rfl rfl) ?_
  refine aI_c (fun hd => s_il_n hX hd rfl rfl) ?_
  refine aI_c (fun hd => s_pI hX (C := RX5) (T := TX5) (N := 35) (k := 12) rfl (fun w h => up w (inlX5 w h)) (by decide) rfl rfl tyX5 tyX5_ok nmX5 rfl rfl rfl (up _ lkX5_106) hd rfl) ?_
  refine aI_c (fun hd => s_il_n hX hd rfl rfl) ?_
  refine aI_c (fun hd => s_ri hX hr hlk hE hd) ?_
  exact trivial

-- JudgesByLossModel.asksOf(III)I
def tX5_asksOf : aT := [
  (0, (.aload_n 0, 1), o_al 0 1),
  (1, (.getfield 58, 3), o_gF 5 17 4),
  (4, (.iconst 0, 1), o_ii 0 5),
  (5, (.aload_n 0, 1), o_al 0 6),
  (6, (.getfield 19, 3), o_gF 5 4 9),
  (9, (.iconst 3, 1), o_ii 3 10),
  (10, (.iload_n 3, 1), o_il 3 11),
  (11, (.imul, 1), o_bi (fun x y => x * y) 12),
  (12, (.iconst 1, 1), o_ii 1 13),
  (13, (.iadd, 1), o_bi (fun x y => x + y) 14),
  (14, (.iaload, 1), o_iald 15),
  (15, (.iastore, 1), o_iast 16),
  (16, (.aload_n 0, 1), o_al 0 17),
  (17, (.getfield 58, 3), o_gF 5 17 20),
  (20, (.iconst 1, 1), o_ii 1 21),
  (21, (.aload_n 0, 1), o_al 0 22),
  (22, (.getfield 19, 3), o_gF 5 4 25),
  (25, (.iconst 3, 1), o_ii 3 26),
  (26, (.iload_n 3, 1), o_il 3 27),
  (27, (.imul, 1), o_bi (fun x y => x * y) 28),
  (28, (.iaload, 1), o_iald 29),
  (29, (.invokestatic 96, 3), o_cS CX5_onesOf 1 32),
  (32, (.iastore, 1), o_iast 33),
  (33, (.aload_n 0, 1), o_al 0 34),
  (34, (.getfield 58, 3), o_gF 5 17 37),
  (37, (.iconst 2, 1), o_ii 2 38),
  (38, (.aload_n 0, 1), o_al 0 39),
  (39, (.getfield 16, 3), o_gF 5 3 42),
  (42, (.iconst 3, 1), o_ii 3 43),
  (43, (.iload_n 2, 1), o_il 2 44),
  (44, (.imul, 1), o_bi (fun x y => x * y) 45),
  (45, (.iconst 1, 1), o_ii 1 46),
  (46, (.iadd, 1), o_bi (fun x y => x + y) 47),
  (47, (.iaload, 1), o_iald 48),
  (48, (.iastore, 1), o_iast 49),
  (49, (.aload_n 0, 1), o_al 0 50),
  (50, (.getfield 58, 3), o_gF 5 17 53),
  (53, (.iconst 3, 1), o_ii 3 54),
  (54, (.aload_n 0, 1), o_al 0 55),
  (55, (.getfield 16, 3), o_gF 5 3 58),
  (58, (.iconst 3, 1), o_ii 3 59),
  (59, (.iload_n 2, 1), o_il 2 60),
  (60, (.imul, 1), o_bi (fun x y => x * y) 61),
  (61, (.iaload, 1), o_iald 62),
  (62, (.invokestatic 96, 3), o_cS CX5_onesOf 1 65),
  (65, (.iastore, 1), o_iast 66),
  (66, (.aload_n 0, 1), o_al 0 67),
  (67, (.getfield 58, 3), o_gF 5 17 70),
  (70, (.iconst 4, 1), o_ii 4 71),
  (71, (.aload_n 0, 1), o_al 0 72),
  (72, (.getfield 109, 3), o_gI 5 5 75),
  (75, (.iastore, 1), o_iast 76),
  (76, (.aload_n 0, 1), o_al 0 77),
  (77, (.getfield 58, 3), o_gF 5 17 80),
  (80, (.iconst 5, 1), o_ii 5 81),
  (81, (.aload_n 0, 1), o_al 0 82),
  (82, (.getfield 13, 3), o_gF 5 2 85),
  (85, (.iload_n 2, 1), o_il 2 86),
  (86, (.iaload, 1), o_iald 87),
  (87, (.iastore, 1), o_iast 88),
  (88, (.aload_n 0, 1), o_al 0 89),
  (89, (.iload_n 1, 1), o_il 1 90),
  (90, (.invokevirtual 173, 3), o_cV CX5_says 5 1 93),
  (93, (.iload_n 1, 1), o_il 1 94),
  (94, (.iconst 2, 1), o_ii 2 95),
  (95, (.if_icmp .ne 8, 3), o_ic (fun x y => ¬ x = y) 103 98),
  (98, (.bipush (-99), 2), o_ii (-99) 100),
  (100, (.goto 4, 3), o_go 104),
  (103, (.iconst 0, 1), o_ii 0 104),
  (104, (.bipush 99, 2), o_ii 99 106),
  (106, (.invokestatic 85, 3), o_cS CX5_within 3 109),
  (109, (.ireturn, 1), o_ri)]
abbrev CX5_asksOf : aC := aCl tX5_asksOf 4
def rmX5_asksOf : Room := { frames := 3, cells := 0, slots := 0, locals := 47 }
set_option maxRecDepth 100000 in
theorem dX5_asksOf : tX5_asksOf.all (fun q => decide (decode cX5_asksOf q.1 = .ok q.2.1)) = true := by decide +kernel
set_option maxRecDepth 100000 in
set_option maxHeartbeats 4000000 in
theorem nX5_asksOf (l : Launch) : aMt l yX5_asksOf (Cond.code yX5_asksOf cX5_asksOf 4 (some .int) :: wsL_law) rmX5_asksOf CX5_asksOf := by
  refine aMt.of (own := RX5) (cc := cX5_asksOf) (maxL := 4) (ret := (some .int)) (by decide +kernel) rfl rfl ?_
  intro p e s m args below meth c Qc D Z ad P G A E hX hr hlk hE
  have up : ∀ w ∈ wsL_law, w ∈ (Cond.code yX5_asksOf cX5_asksOf 4 (some .int) :: wsL_law) := fun w h => List.mem_cons_of_mem _ h
  refine aImp_all _ dX5_asksOf ?_
  unfold tX5_asksOf
  refine aI_c (fun hd => s_al_n hX hd rfl rfl) ?_
  refine aI_c (fun hd => s_gF hX (C := RX5) (T := TX5) (N := 35) (k := 30) rfl (fun w h => up w (inlX5 w h)) (by decide) rfl rfl rfl (up _ lkX5_58) hd rfl) ?_
  refine aI_c (fun hd => s_ii hX hd (by decide) rfl) ?_
  refine aI_c (fun hd => s_al_n hX hd rfl rfl) ?_
  refine aI_c (fun hd => s_gF hX (C := RX5) (T := TX5) (N := 35) (k := 4) rfl (fun w h => up w (inlX5 w h)) (by decide) rfl rfl rfl (up _ lkX5_19) hd rfl) ?_
  refine aI_c (fun hd => s_ii hX hd (by decide) rfl) ?_
  refine aI_c (fun hd => s_il_n hX hd rfl rfl) ?_
  refine aI_c (fun hd => s_imul hX hd rfl) ?_
  refine aI_c (fun hd => s_ii hX hd (by decide) rfl) ?_
  refine aI_c (fun hd => s_iadd hX hd rfl) ?_
  refine aI_c (fun hd => s_iald hX hd rfl) ?_
  refine aI_c (fun hd => s_iast hX hd rfl) ?_
  refine aI_c (fun hd => s_al_n hX hd rfl rfl) ?_
  refine aI_c (fun hd => s_gF hX (C := RX5) (T := TX5) (N := 35) (k := 30) rfl (fun w h => up w (inlX5 w h)) (by decide) rfl rfl rfl (up _ lkX5_58) hd rfl) ?_
  refine aI_c (fun hd => s_ii hX hd (by decide) rfl) ?_
  refine aI_c (fun hd => s_al_n hX hd rfl rfl) ?_
  refine aI_c (fun hd => s_gF hX (C := RX5) (T := TX5) (N := 35) (k := 4) rfl (fun w h => up w (inlX5 w h)) (by decide) rfl rfl rfl (up _ lkX5_19) hd rfl) ?_
  refine aI_c (fun hd => s_ii hX hd (by decide) rfl) ?_
  refine aI_c (fun hd => s_il_n hX hd rfl rfl) ?_
  refine aI_c (fun hd => s_imul hX hd rfl) ?_
  refine aI_c (fun hd => s_iald hX hd rfl) ?_
  refine aI_c (fun hd => s_cS hX (nX5_onesOf l) (wg_S up lmX5_96 loX5_onesOf) rfl rfl rfl (by decide +kernel) ⟨by decide, by decide⟩ ⟨Nat.zero_le _, Nat.zero_le _⟩ hd rfl) ?_
  refine aI_c (fun hd => s_iast hX hd rfl) ?_
  refine aI_c (fun hd => s_al_n hX hd rfl rfl) ?_
  refine aI_c (fun hd => s_gF hX (C := RX5) (T := TX5) (N := 35) (k := 30) rfl (fun w h => up w (inlX5 w h)) (by decide) rfl rfl rfl (up _ lkX5_58) hd rfl) ?_
  refine aI_c (fun hd => s_ii hX hd (by decide) rfl) ?_
  refine aI_c (fun hd => s_al_n hX hd rfl rfl) ?_
  refine aI_c (fun hd => s_gF hX (C := RX5) (T := TX5) (N := 35) (k := 3) rfl (fun w h => up w (inlX5 w h)) (by decide) rfl rfl rfl (up _ lkX5_16) hd rfl) ?_
  refine aI_c (fun hd => s_ii hX hd (by decide) rfl) ?_
  refine aI_c (fun hd => s_il_n hX hd rfl rfl) ?_
  refine aI_c (fun hd => s_imul hX hd rfl) ?_
  refine aI_c (fun hd => s_ii hX hd (by decide) rfl) ?_
  refine aI_c (fun hd => s_iadd hX hd rfl) ?_
  refine aI_c (fun hd => s_iald hX hd rfl) ?_
  refine aI_c (fun hd => s_iast hX hd rfl) ?_
  refine aI_c (fun hd => s_al_n hX hd rfl rfl) ?_
  refine aI_c (fun hd => s_gF hX (C := RX5) (T := TX5) (N := 35) (k := 30) rfl (fun w h => up w (inlX5 w h)) (by decide) rfl rfl rfl (up _ lkX5_58) hd rfl) ?_
  refine aI_c (fun hd => s_ii hX hd (by decide) rfl) ?_
  refine aI_c (fun hd => s_al_n hX hd rfl rfl) ?_
  refine aI_c (fun hd => s_gF hX (C := RX5) (T := TX5) (N := 35) (k := 3) rfl (fun w h => up w (inlX5 w h)) (by decide) rfl rfl rfl (up _ lkX5_16) hd rfl) ?_
  refine aI_c (fun hd => s_ii hX hd (by decide) rfl) ?_
  refine aI_c (fun hd => s_il_n hX hd rfl rfl) ?_
  refine aI_c (fun hd => s_imul hX hd rfl) ?_
  refine aI_c (fun hd => s_iald hX hd rfl) ?_
  refine aI_c (fun hd => s_cS hX (nX5_onesOf l) (wg_S up lmX5_96 loX5_onesOf) rfl rfl rfl (by decide +kernel) ⟨by decide, by decide⟩ ⟨Nat.zero_le _, Nat.zero_le _⟩ hd rfl) ?_
  refine aI_c (fun hd => s_iast hX hd rfl) ?_
  refine aI_c (fun hd => s_al_n hX hd rfl rfl) ?_
  refine aI_c (fun hd => s_gF hX (C := RX5) (T := TX5) (N := 35) (k := 30) rfl (fun w h => up w (inlX5 w h)) (by decide) rfl rfl rfl (up _ lkX5_58) hd rfl) ?_
  refine aI_c (fun hd => s_ii hX hd (by decide) rfl) ?_
  refine aI_c (fun hd => s_al_n hX hd rfl rfl) ?_
  refine aI_c (fun hd => s_gI hX (C := RX5) (T := TX5) (N := 35) (k := 5) rfl (fun w h => up w (inlX5 w h)) (by decide) rfl rfl rfl (up _ lkX5_109) hd rfl) ?_
  refine aI_c (fun hd => s_iast hX hd rfl) ?_
  refine aI_c (fun hd => s_al_n hX hd rfl rfl) ?_
  refine aI_c (fun hd => s_gF hX (C := RX5) (T := TX5) (N := 35) (k := 30) rfl (fun w h => up w (inlX5 w h)) (by decide) rfl rfl rfl (up _ lkX5_58) hd rfl) ?_
  refine aI_c (fun hd => s_ii hX hd (by decide) rfl) ?_
  refine aI_c (fun hd => s_al_n hX hd rfl rfl) ?_
  refine aI_c (fun hd => s_gF hX (C := RX5) (T := TX5) (N := 35) (k := 2) rfl (fun w h => up w (inlX5 w h)) (by decide) rfl rfl rfl (up _ lkX5_13) hd rfl) ?_
  refine aI_c (fun hd => s_il_n hX hd rfl rfl) ?_
  refine aI_c (fun hd => s_iald hX hd rfl) ?_
  refine aI_c (fun hd => s_iast hX hd rfl) ?_
  refine aI_c (fun hd => s_al_n hX hd rfl rfl) ?_
  refine aI_c (fun hd => s_il_n hX hd rfl rfl) ?_
  refine aI_c (fun hd => s_cV hX (T := TX5) (N := 35) (nX5_says l) rfl (wg_V up lmX5_173 loX5_says) rfl rfl rfl (by decide +kernel) ⟨by decide, by decide⟩ ⟨Nat.zero_le _, Nat.zero_le _⟩ hd rfl) ?_
  refine aI_c (fun hd => s_il_n hX hd rfl rfl) ?_
  refine aI_c (fun hd => s_ii hX hd (by decide) rfl) ?_
  refine aI_c (fun hd => s_ic_ne hX hd (by decide) rfl) ?_
  refine aI_c (fun hd => s_bp hX hd (by decide) rfl) ?_
  refine aI_c (fun hd => s_go hX hd (by decide)) ?_
  refine aI_c (fun hd => s_ii hX hd (by decide) rfl) ?_
  refine aI_c (fun hd => s_bp hX hd (by decide) rfl) ?_
  refine aI_c (fun hd => s_cS hX (nX5_within l) (wg_S up lmX5_85 loX5_within) rfl rfl rfl (by decide +kernel) ⟨by decide, by decide⟩ ⟨Nat.zero_le _, Nat.zero_le _⟩ hd rfl) ?_
  refine aI_c (fun hd => s_ri hX hr hlk hE hd) ?_
  exact trivial

-- JudgesByLossModel.asks(III)I
def tX5_asks : aT := [
  (0, (.iload_n 1, 1), o_il 1 1),
  (1, (.iconst 0, 1), o_ii 0 2),
  (2, (.iconst 2, 1), o_ii 2 3),
  (3, (.invokestatic 81, 3), o_cS CX5_in 3 6),
  (6, (.ifCond .eq 29, 3), o_if (fun x => x = 0) 35 9),
  (9, (.aload_n 0, 1), o_al 0 10),
  (10, (.iload_n 2, 1), o_il 2 11),
  (11, (.invokevirtual 176, 3), o_cV CX5_isOne 5 1 14),
  (14, (.ifCond .eq 21, 3), o_if (fun x => x = 0) 35 17),
  (17, (.aload_n 0, 1), o_al 0 18),
  (18, (.iload_n 3, 1), o_il 3 19),
  (19, (.invokevirtual 89, 3), o_cV CX5_isThere 5 1 22),
  (22, (.ifCond .eq 13, 3), o_if (fun x => x = 0) 35 25),
  (25, (.aload_n 0, 1), o_al 0 26),
  (26, (.iload_n 1, 1), o_il 1 27),
  (27, (.iload_n 2, 1), o_il 2 28),
  (28, (.iload_n 3, 1), o_il 3 29),
  (29, (.invokevirtual 179, 3), o_cV CX5_asksOf 5 3 32),
  (32, (.goto 6, 3), o_go 38),
  (35, (.sipush (-1000), 3), o_ii (-1000) 38),
  (38, (.ireturn, 1), o_ri)]
abbrev CX5_asks : aC := aCl tX5_asks 4
def rmX5_asks : Room := { frames := 4, cells := 0, slots := 0, locals := 70 }
set_option maxRecDepth 100000 in
theorem dX5_asks : tX5_asks.all (fun q => decide (decode cX5_asks q.1 = .ok q.2.1)) = true := by decide +kernel
set_option maxRecDepth 100000 in
set_option maxHeartbeats 4000000 in
theorem nX5_asks (l : Launch) : aMt l yX5_asks (Cond.code yX5_asks cX5_asks 4 (some .int) :: wsL_law) rmX5_asks CX5_asks := by
  refine aMt.of (own := RX5) (cc := cX5_asks) (maxL := 4) (ret := (some .int)) (by decide +kernel) rfl rfl ?_
  intro p e s m args below meth c Qc D Z ad P G A E hX hr hlk hE
  have up : ∀ w ∈ wsL_law, w ∈ (Cond.code yX5_asks cX5_asks 4 (some .int) :: wsL_law) := fun w h => List.mem_cons_of_mem _ h
  refine aImp_all _ dX5_asks ?_
  unfold tX5_asks
  refine aI_c (fun hd => s_il_n hX hd rfl rfl) ?_
  refine aI_c (fun hd => s_ii hX hd (by decide) rfl) ?_
  refine aI_c (fun hd => s_ii hX hd (by decide) rfl) ?_
  refine aI_c (fun hd => s_cS hX (nX5_in l) (wg_S up lmX5_81 loX5_in) rfl rfl rfl (by decide +kernel) ⟨by decide, by decide⟩ ⟨Nat.zero_le _, Nat.zero_le _⟩ hd rfl) ?_
  refine aI_c (fun hd => s_if_eq hX hd (by decide) rfl) ?_
  refine aI_c (fun hd => s_al_n hX hd rfl rfl) ?_
  refine aI_c (fun hd => s_il_n hX hd rfl rfl) ?_
  refine aI_c (fun hd => s_cV hX (T := TX5) (N := 35) (nX5_isOne l) rfl (wg_V up lmX5_176 loX5_isOne) rfl rfl rfl (by decide +kernel) ⟨by decide, by decide⟩ ⟨Nat.zero_le _, Nat.zero_le _⟩ hd rfl) ?_
  refine aI_c (fun hd => s_if_eq hX hd (by decide) rfl) ?_
  refine aI_c (fun hd => s_al_n hX hd rfl rfl) ?_
  refine aI_c (fun hd => s_il_n hX hd rfl rfl) ?_
  refine aI_c (fun hd => s_cV hX (T := TX5) (N := 35) (nX5_isThere l) rfl (wg_V up lmX5_89 loX5_isThere) rfl rfl rfl (by decide +kernel) ⟨by decide, by decide⟩ ⟨Nat.zero_le _, Nat.zero_le _⟩ hd rfl) ?_
  refine aI_c (fun hd => s_if_eq hX hd (by decide) rfl) ?_
  refine aI_c (fun hd => s_al_n hX hd rfl rfl) ?_
  refine aI_c (fun hd => s_il_n hX hd rfl rfl) ?_
  refine aI_c (fun hd => s_il_n hX hd rfl rfl) ?_
  refine aI_c (fun hd => s_il_n hX hd rfl rfl) ?_
  refine aI_c (fun hd => s_cV hX (T := TX5) (N := 35) (nX5_asksOf l) rfl (wg_V up lmX5_179 loX5_asksOf) rfl rfl rfl (by decide +kernel) ⟨by decide, by decide⟩ ⟨Nat.zero_le _, Nat.zero_le _⟩ hd rfl) ?_
  refine aI_c (fun hd => s_go hX hd (by decide)) ?_
  refine aI_c (fun hd => s_sp hX hd (by decide) rfl) ?_
  refine aI_c (fun hd => s_ri hX hr hlk hE hd) ?_
  exact trivial

-- JudgesByLossModel.judge(III)I
def tX5_judge : aT := [
  (0, (.iload_n 1, 1), o_il 1 1),
  (1, (.iconst 0, 1), o_ii 0 2),
  (2, (.bipush 59, 2), o_ii 59 4),
  (4, (.invokestatic 81, 3), o_cS CX5_in 3 7),
  (7, (.ifCond .eq 24, 3), o_if (fun x => x = 0) 31 10),
  (10, (.iload_n 2, 1), o_il 2 11),
  (11, (.iconst 0, 1), o_ii 0 12),
  (12, (.sipush 1023, 3), o_ii 1023 15),
  (15, (.invokestatic 81, 3), o_cS CX5_in 3 18),
  (18, (.ifCond .eq 13, 3), o_if (fun x => x = 0) 31 21),
  (21, (.iload_n 3, 1), o_il 3 22),
  (22, (.iconst 0, 1), o_ii 0 23),
  (23, (.bipush 99, 2), o_ii 99 25),
  (25, (.invokestatic 81, 3), o_cS CX5_in 3 28),
  (28, (.ifCond .ne 6, 3), o_if (fun x => ¬ x = 0) 34 31),
  (31, (.bipush (-2), 2), o_ii (-2) 33),
  (33, (.ireturn, 1), o_ri),
  (34, (.aload_n 0, 1), o_al 0 35),
  (35, (.getfield 78, 3), o_gI 5 0 38),
  (38, (.bipush 6, 2), o_ii 6 40),
  (40, (.if_icmp .ne 6, 3), o_ic (fun x y => ¬ x = y) 46 43),
  (43, (.bipush (-4), 2), o_ii (-4) 45),
  (45, (.ireturn, 1), o_ri),
  (46, (.aload_n 0, 1), o_al 0 47),
  (47, (.getfield 7, 3), o_gF 5 1 50),
  (50, (.aload_n 0, 1), o_al 0 51),
  (51, (.getfield 78, 3), o_gI 5 0 54),
  (54, (.iload_n 1, 1), o_il 1 55),
  (55, (.bipush 10, 2), o_ii 10 57),
  (57, (.idiv, 1), o_dv 58),
  (58, (.iastore, 1), o_iast 59),
  (59, (.aload_n 0, 1), o_al 0 60),
  (60, (.getfield 13, 3), o_gF 5 2 63),
  (63, (.aload_n 0, 1), o_al 0 64),
  (64, (.getfield 78, 3), o_gI 5 0 67),
  (67, (.iload_n 1, 1), o_il 1 68),
  (68, (.bipush 10, 2), o_ii 10 70),
  (70, (.irem, 1), o_rm 71),
  (71, (.iastore, 1), o_iast 72),
  (72, (.aload_n 0, 1), o_al 0 73),
  (73, (.getfield 16, 3), o_gF 5 3 76),
  (76, (.iconst 3, 1), o_ii 3 77),
  (77, (.aload_n 0, 1), o_al 0 78),
  (78, (.getfield 78, 3), o_gI 5 0 81),
  (81, (.imul, 1), o_bi (fun x y => x * y) 82),
  (82, (.iload_n 2, 1), o_il 2 83),
  (83, (.iastore, 1), o_iast 84),
  (84, (.aload_n 0, 1), o_al 0 85),
  (85, (.getfield 16, 3), o_gF 5 3 88),
  (88, (.iconst 3, 1), o_ii 3 89),
  (89, (.aload_n 0, 1), o_al 0 90),
  (90, (.getfield 78, 3), o_gI 5 0 93),
  (93, (.imul, 1), o_bi (fun x y => x * y) 94),
  (94, (.iconst 1, 1), o_ii 1 95),
  (95, (.iadd, 1), o_bi (fun x y => x + y) 96),
  (96, (.iload_n 3, 1), o_il 3 97),
  (97, (.iastore, 1), o_iast 98),
  (98, (.aload_n 0, 1), o_al 0 99),
  (99, (.getfield 16, 3), o_gF 5 3 102),
  (102, (.iconst 3, 1), o_ii 3 103),
  (103, (.aload_n 0, 1), o_al 0 104),
  (104, (.getfield 78, 3), o_gI 5 0 107),
  (107, (.imul, 1), o_bi (fun x y => x * y) 108),
  (108, (.iconst 2, 1), o_ii 2 109),
  (109, (.iadd, 1), o_bi (fun x y => x + y) 110),
  (110, (.iconst 0, 1), o_ii 0 111),
  (111, (.iastore, 1), o_iast 112),
  (112, (.aload_n 0, 1), o_al 0 113),
  (113, (.dup, 1), o_dup 114),
  (114, (.getfield 78, 3), o_gI 5 0 117),
  (117, (.iconst 1, 1), o_ii 1 118),
  (118, (.iadd, 1), o_bi (fun x y => x + y) 119),
  (119, (.putfield 78, 3), o_pI 5 0 122),
  (122, (.aload_n 0, 1), o_al 0 123),
  (123, (.getfield 78, 3), o_gI 5 0 126),
  (126, (.iconst 1, 1), o_ii 1 127),
  (127, (.isub, 1), o_bi (fun x y => x - y) 128),
  (128, (.ireturn, 1), o_ri)]
abbrev CX5_judge : aC := aCl tX5_judge 4
def rmX5_judge : Room := { frames := 2, cells := 0, slots := 0, locals := 23 }
set_option maxRecDepth 100000 in
theorem dX5_judge : tX5_judge.all (fun q => decide (decode cX5_judge q.1 = .ok q.2.1)) = true := by decide +kernel
set_option maxRecDepth 100000 in
set_option maxHeartbeats 4000000 in
theorem nX5_judge (l : Launch) : aMt l yX5_judge (Cond.code yX5_judge cX5_judge 4 (some .int) :: wsL_law) rmX5_judge CX5_judge := by
  refine aMt.of (own := RX5) (cc := cX5_judge) (maxL := 4) (ret := (some .int)) (by decide +kernel) rfl rfl ?_
  intro p e s m args below meth c Qc D Z ad P G A E hX hr hlk hE
  have up : ∀ w ∈ wsL_law, w ∈ (Cond.code yX5_judge cX5_judge 4 (some .int) :: wsL_law) := fun w h => List.mem_cons_of_mem _ h
  refine aImp_all _ dX5_judge ?_
  unfold tX5_judge
  refine aI_c (fun hd => s_il_n hX hd rfl rfl) ?_
  refine aI_c (fun hd => s_ii hX hd (by decide) rfl) ?_
  refine aI_c (fun hd => s_bp hX hd (by decide) rfl) ?_
  refine aI_c (fun hd => s_cS hX (nX5_in l) (wg_S up lmX5_81 loX5_in) rfl rfl rfl (by decide +kernel) ⟨by decide, by decide⟩ ⟨Nat.zero_le _, Nat.zero_le _⟩ hd rfl) ?_
  refine aI_c (fun hd => s_if_eq hX hd (by decide) rfl) ?_
  refine aI_c (fun hd => s_il_n hX hd rfl rfl) ?_
  refine aI_c (fun hd => s_ii hX hd (by decide) rfl) ?_
  refine aI_c (fun hd => s_sp hX hd (by decide) rfl) ?_
  refine aI_c (fun hd => s_cS hX (nX5_in l) (wg_S up lmX5_81 loX5_in) rfl rfl rfl (by decide +kernel) ⟨by decide, by decide⟩ ⟨Nat.zero_le _, Nat.zero_le _⟩ hd rfl) ?_
  refine aI_c (fun hd => s_if_eq hX hd (by decide) rfl) ?_
  refine aI_c (fun hd => s_il_n hX hd rfl rfl) ?_
  refine aI_c (fun hd => s_ii hX hd (by decide) rfl) ?_
  refine aI_c (fun hd => s_bp hX hd (by decide) rfl) ?_
  refine aI_c (fun hd => s_cS hX (nX5_in l) (wg_S up lmX5_81 loX5_in) rfl rfl rfl (by decide +kernel) ⟨by decide, by decide⟩ ⟨Nat.zero_le _, Nat.zero_le _⟩ hd rfl) ?_
  refine aI_c (fun hd => s_if_ne hX hd (by decide) rfl) ?_
  refine aI_c (fun hd => s_bp hX hd (by decide) rfl) ?_
  refine aI_c (fun hd => s_ri hX hr hlk hE hd) ?_
  refine aI_c (fun hd => s_al_n hX hd rfl rfl) ?_
  refine aI_c (fun hd => s_gI hX (C := RX5) (T := TX5) (N := 35) (k := 0) rfl (fun w h => up w (inlX5 w h)) (by decide) rfl rfl rfl (up _ lkX5_78) hd rfl) ?_
  refine aI_c (fun hd => s_bp hX hd (by decide) rfl) ?_
  refine aI_c (fun hd => s_ic_ne hX hd (by decide) rfl) ?_
  refine aI_c (fun hd => s_bp hX hd (by decide) rfl) ?_
  refine aI_c (fun hd => s_ri hX hr hlk hE hd) ?_
  refine aI_c (fun hd => s_al_n hX hd rfl rfl) ?_
  refine aI_c (fun hd => s_gF hX (C := RX5) (T := TX5) (N := 35) (k := 1) rfl (fun w h => up w (inlX5 w h)) (by decide) rfl rfl rfl (up _ lkX5_7) hd rfl) ?_
  refine aI_c (fun hd => s_al_n hX hd rfl rfl) ?_
  refine aI_c (fun hd => s_gI hX (C := RX5) (T := TX5) (N := 35) (k := 0) rfl (fun w h => up w (inlX5 w h)) (by decide) rfl rfl rfl (up _ lkX5_78) hd rfl) ?_
  refine aI_c (fun hd => s_il_n hX hd rfl rfl) ?_
  refine aI_c (fun hd => s_bp hX hd (by decide) rfl) ?_
  refine aI_c (fun hd => s_idiv hX hd rfl) ?_
  refine aI_c (fun hd => s_iast hX hd rfl) ?_
  refine aI_c (fun hd => s_al_n hX hd rfl rfl) ?_
  refine aI_c (fun hd => s_gF hX (C := RX5) (T := TX5) (N := 35) (k := 2) rfl (fun w h => up w (inlX5 w h)) (by decide) rfl rfl rfl (up _ lkX5_13) hd rfl) ?_
  refine aI_c (fun hd => s_al_n hX hd rfl rfl) ?_
  refine aI_c (fun hd => s_gI hX (C := RX5) (T := TX5) (N := 35) (k := 0) rfl (fun w h => up w (inlX5 w h)) (by decide) rfl rfl rfl (up _ lkX5_78) hd rfl) ?_
  refine aI_c (fun hd => s_il_n hX hd rfl rfl) ?_
  refine aI_c (fun hd => s_bp hX hd (by decide) rfl) ?_
  refine aI_c (fun hd => s_irem hX hd rfl) ?_
  refine aI_c (fun hd => s_iast hX hd rfl) ?_
  refine aI_c (fun hd => s_al_n hX hd rfl rfl) ?_
  refine aI_c (fun hd => s_gF hX (C := RX5) (T := TX5) (N := 35) (k := 3) rfl (fun w h => up w (inlX5 w h)) (by decide) rfl rfl rfl (up _ lkX5_16) hd rfl) ?_
  refine aI_c (fun hd => s_ii hX hd (by decide) rfl) ?_
  refine aI_c (fun hd => s_al_n hX hd rfl rfl) ?_
  refine aI_c (fun hd => s_gI hX (C := RX5) (T := TX5) (N := 35) (k := 0) rfl (fun w h => up w (inlX5 w h)) (by decide) rfl rfl rfl (up _ lkX5_78) hd rfl) ?_
  refine aI_c (fun hd => s_imul hX hd rfl) ?_
  refine aI_c (fun hd => s_il_n hX hd rfl rfl) ?_
  refine aI_c (fun hd => s_iast hX hd rfl) ?_
  refine aI_c (fun hd => s_al_n hX hd rfl rfl) ?_
  refine aI_c (fun hd => s_gF hX (C := RX5) (T := TX5) (N := 35) (k := 3) rfl (fun w h => up w (inlX5 w h)) (by decide) rfl rfl rfl (up _ lkX5_16) hd rfl) ?_
  refine aI_c (fun hd => s_ii hX hd (by decide) rfl) ?_
  refine aI_c (fun hd => s_al_n hX hd rfl rfl) ?_
  refine aI_c (fun hd => s_gI hX (C := RX5) (T := TX5) (N := 35) (k := 0) rfl (fun w h => up w (inlX5 w h)) (by decide) rfl rfl rfl (up _ lkX5_78) hd rfl) ?_
  refine aI_c (fun hd => s_imul hX hd rfl) ?_
  refine aI_c (fun hd => s_ii hX hd (by decide) rfl) ?_
  refine aI_c (fun hd => s_iadd hX hd rfl) ?_
  refine aI_c (fun hd => s_il_n hX hd rfl rfl) ?_
  refine aI_c (fun hd => s_iast hX hd rfl) ?_
  refine aI_c (fun hd => s_al_n hX hd rfl rfl) ?_
  refine aI_c (fun hd => s_gF hX (C := RX5) (T := TX5) (N := 35) (k := 3) rfl (fun w h => up w (inlX5 w h)) (by decide) rfl rfl rfl (up _ lkX5_16) hd rfl) ?_
  refine aI_c (fun hd => s_ii hX hd (by decide) rfl) ?_
  refine aI_c (fun hd => s_al_n hX hd rfl rfl) ?_
  refine aI_c (fun hd => s_gI hX (C := RX5) (T := TX5) (N := 35) (k := 0) rfl (fun w h => up w (inlX5 w h)) (by decide) rfl rfl rfl (up _ lkX5_78) hd rfl) ?_
  refine aI_c (fun hd => s_imul hX hd rfl) ?_
  refine aI_c (fun hd => s_ii hX hd (by decide) rfl) ?_
  refine aI_c (fun hd => s_iadd hX hd rfl) ?_
  refine aI_c (fun hd => s_ii hX hd (by decide) rfl) ?_
  refine aI_c (fun hd => s_iast hX hd rfl) ?_
  refine aI_c (fun hd => s_al_n hX hd rfl rfl) ?_
  refine aI_c (fun hd => s_dup hX hd rfl) ?_
  refine aI_c (fun hd => s_gI hX (C := RX5) (T := TX5) (N := 35) (k := 0) rfl (fun w h => up w (inlX5 w h)) (by decide) rfl rfl rfl (up _ lkX5_78) hd rfl) ?_
  refine aI_c (fun hd => s_ii hX hd (by decide) rfl) ?_
  refine aI_c (fun hd => s_iadd hX hd rfl) ?_
  refine aI_c (fun hd => s_pI hX (C := RX5) (T := TX5) (N := 35) (k := 0) rfl (fun w h => up w (inlX5 w h)) (by decide) rfl rfl tyX5 tyX5_ok nmX5 rfl rfl rfl (up _ lkX5_78) hd rfl) ?_
  refine aI_c (fun hd => s_al_n hX hd rfl rfl) ?_
  refine aI_c (fun hd => s_gI hX (C := RX5) (T := TX5) (N := 35) (k := 0) rfl (fun w h => up w (inlX5 w h)) (by decide) rfl rfl rfl (up _ lkX5_78) hd rfl) ?_
  refine aI_c (fun hd => s_ii hX hd (by decide) rfl) ?_
  refine aI_c (fun hd => s_isub hX hd rfl) ?_
  refine aI_c (fun hd => s_ri hX hr hlk hE hd) ?_
  exact trivial

-- JudgesByLossModel.file(II)I
def tX5_file : aT := [
  (0, (.iload_n 1, 1), o_il 1 1),
  (1, (.iconst 1, 1), o_ii 1 2),
  (2, (.sipush 1023, 3), o_ii 1023 5),
  (5, (.invokestatic 81, 3), o_cS CX5_in 3 8),
  (8, (.ifCond .eq 13, 3), o_if (fun x => x = 0) 21 11),
  (11, (.iload_n 2, 1), o_il 2 12),
  (12, (.iconst 0, 1), o_ii 0 13),
  (13, (.bipush 99, 2), o_ii 99 15),
  (15, (.invokestatic 81, 3), o_cS CX5_in 3 18),
  (18, (.ifCond .ne 6, 3), o_if (fun x => ¬ x = 0) 24 21),
  (21, (.bipush (-2), 2), o_ii (-2) 23),
  (23, (.ireturn, 1), o_ri),
  (24, (.iconst 0, 1), o_ii 0 25),
  (25, (.istore_n 3, 1), o_is 3 26),
  (26, (.iload_n 3, 1), o_il 3 27),
  (27, (.bipush 8, 2), o_ii 8 29),
  (29, (.if_icmp .ge 17, 3), o_ic (fun x y => y ≤ x) 46 32),
  (32, (.aload_n 0, 1), o_al 0 33),
  (33, (.iload_n 3, 1), o_il 3 34),
  (34, (.invokevirtual 89, 3), o_cV CX5_isThere 5 1 37),
  (37, (.ifCond .eq 9, 3), o_if (fun x => x = 0) 46 40),
  (40, (.iinc 3 1, 3), o_inc 3 1 43),
  (43, (.goto (-17), 3), o_go 26),
  (46, (.iload_n 3, 1), o_il 3 47),
  (47, (.bipush 8, 2), o_ii 8 49),
  (49, (.if_icmp .ne 6, 3), o_ic (fun x y => ¬ x = y) 55 52),
  (52, (.bipush (-4), 2), o_ii (-4) 54),
  (54, (.ireturn, 1), o_ri),
  (55, (.aload_n 0, 1), o_al 0 56),
  (56, (.getfield 19, 3), o_gF 5 4 59),
  (59, (.iconst 3, 1), o_ii 3 60),
  (60, (.iload_n 3, 1), o_il 3 61),
  (61, (.imul, 1), o_bi (fun x y => x * y) 62),
  (62, (.iload_n 1, 1), o_il 1 63),
  (63, (.iastore, 1), o_iast 64),
  (64, (.aload_n 0, 1), o_al 0 65),
  (65, (.getfield 19, 3), o_gF 5 4 68),
  (68, (.iconst 3, 1), o_ii 3 69),
  (69, (.iload_n 3, 1), o_il 3 70),
  (70, (.imul, 1), o_bi (fun x y => x * y) 71),
  (71, (.iconst 1, 1), o_ii 1 72),
  (72, (.iadd, 1), o_bi (fun x y => x + y) 73),
  (73, (.iload_n 2, 1), o_il 2 74),
  (74, (.iastore, 1), o_iast 75),
  (75, (.aload_n 0, 1), o_al 0 76),
  (76, (.getfield 19, 3), o_gF 5 4 79),
  (79, (.iconst 3, 1), o_ii 3 80),
  (80, (.iload_n 3, 1), o_il 3 81),
  (81, (.imul, 1), o_bi (fun x y => x * y) 82),
  (82, (.iconst 2, 1), o_ii 2 83),
  (83, (.iadd, 1), o_bi (fun x y => x + y) 84),
  (84, (.iconst 0, 1), o_ii 0 85),
  (85, (.iastore, 1), o_iast 86),
  (86, (.iload_n 3, 1), o_il 3 87),
  (87, (.ireturn, 1), o_ri)]
abbrev CX5_file : aC := aCl tX5_file 4
def rmX5_file : Room := { frames := 3, cells := 0, slots := 0, locals := 44 }
set_option maxRecDepth 100000 in
theorem dX5_file : tX5_file.all (fun q => decide (decode cX5_file q.1 = .ok q.2.1)) = true := by decide +kernel
set_option maxRecDepth 100000 in
set_option maxHeartbeats 4000000 in
theorem nX5_file (l : Launch) : aMt l yX5_file (Cond.code yX5_file cX5_file 4 (some .int) :: wsL_law) rmX5_file CX5_file := by
  refine aMt.of (own := RX5) (cc := cX5_file) (maxL := 4) (ret := (some .int)) (by decide +kernel) rfl rfl ?_
  intro p e s m args below meth c Qc D Z ad P G A E hX hr hlk hE
  have up : ∀ w ∈ wsL_law, w ∈ (Cond.code yX5_file cX5_file 4 (some .int) :: wsL_law) := fun w h => List.mem_cons_of_mem _ h
  refine aImp_all _ dX5_file ?_
  unfold tX5_file
  refine aI_c (fun hd => s_il_n hX hd rfl rfl) ?_
  refine aI_c (fun hd => s_ii hX hd (by decide) rfl) ?_
  refine aI_c (fun hd => s_sp hX hd (by decide) rfl) ?_
  refine aI_c (fun hd => s_cS hX (nX5_in l) (wg_S up lmX5_81 loX5_in) rfl rfl rfl (by decide +kernel) ⟨by decide, by decide⟩ ⟨Nat.zero_le _, Nat.zero_le _⟩ hd rfl) ?_
  refine aI_c (fun hd => s_if_eq hX hd (by decide) rfl) ?_
  refine aI_c (fun hd => s_il_n hX hd rfl rfl) ?_
  refine aI_c (fun hd => s_ii hX hd (by decide) rfl) ?_
  refine aI_c (fun hd => s_bp hX hd (by decide) rfl) ?_
  refine aI_c (fun hd => s_cS hX (nX5_in l) (wg_S up lmX5_81 loX5_in) rfl rfl rfl (by decide +kernel) ⟨by decide, by decide⟩ ⟨Nat.zero_le _, Nat.zero_le _⟩ hd rfl) ?_
  refine aI_c (fun hd => s_if_ne hX hd (by decide) rfl) ?_
  refine aI_c (fun hd => s_bp hX hd (by decide) rfl) ?_
  refine aI_c (fun hd => s_ri hX hr hlk hE hd) ?_
  refine aI_c (fun hd => s_ii hX hd (by decide) rfl) ?_
  refine aI_c (fun hd => s_is_n hX hd rfl rfl (by decide)) ?_
  refine aI_c (fun hd => s_il_n hX hd rfl rfl) ?_
  refine aI_c (fun hd => s_bp hX hd (by decide) rfl) ?_
  refine aI_c (fun hd => s_ic_ge hX hd (by decide) rfl) ?_
  refine aI_c (fun hd => s_al_n hX hd rfl rfl) ?_
  refine aI_c (fun hd => s_il_n hX hd rfl rfl) ?_
  refine aI_c (fun hd => s_cV hX (T := TX5) (N := 35) (nX5_isThere l) rfl (wg_V up lmX5_89 loX5_isThere) rfl rfl rfl (by decide +kernel) ⟨by decide, by decide⟩ ⟨Nat.zero_le _, Nat.zero_le _⟩ hd rfl) ?_
  refine aI_c (fun hd => s_if_eq hX hd (by decide) rfl) ?_
  refine aI_c (fun hd => s_inc hX hd (by decide) rfl (by decide)) ?_
  refine aI_c (fun hd => s_go hX hd (by decide)) ?_
  refine aI_c (fun hd => s_il_n hX hd rfl rfl) ?_
  refine aI_c (fun hd => s_bp hX hd (by decide) rfl) ?_
  refine aI_c (fun hd => s_ic_ne hX hd (by decide) rfl) ?_
  refine aI_c (fun hd => s_bp hX hd (by decide) rfl) ?_
  refine aI_c (fun hd => s_ri hX hr hlk hE hd) ?_
  refine aI_c (fun hd => s_al_n hX hd rfl rfl) ?_
  refine aI_c (fun hd => s_gF hX (C := RX5) (T := TX5) (N := 35) (k := 4) rfl (fun w h => up w (inlX5 w h)) (by decide) rfl rfl rfl (up _ lkX5_19) hd rfl) ?_
  refine aI_c (fun hd => s_ii hX hd (by decide) rfl) ?_
  refine aI_c (fun hd => s_il_n hX hd rfl rfl) ?_
  refine aI_c (fun hd => s_imul hX hd rfl) ?_
  refine aI_c (fun hd => s_il_n hX hd rfl rfl) ?_
  refine aI_c (fun hd => s_iast hX hd rfl) ?_
  refine aI_c (fun hd => s_al_n hX hd rfl rfl) ?_
  refine aI_c (fun hd => s_gF hX (C := RX5) (T := TX5) (N := 35) (k := 4) rfl (fun w h => up w (inlX5 w h)) (by decide) rfl rfl rfl (up _ lkX5_19) hd rfl) ?_
  refine aI_c (fun hd => s_ii hX hd (by decide) rfl) ?_
  refine aI_c (fun hd => s_il_n hX hd rfl rfl) ?_
  refine aI_c (fun hd => s_imul hX hd rfl) ?_
  refine aI_c (fun hd => s_ii hX hd (by decide) rfl) ?_
  refine aI_c (fun hd => s_iadd hX hd rfl) ?_
  refine aI_c (fun hd => s_il_n hX hd rfl rfl) ?_
  refine aI_c (fun hd => s_iast hX hd rfl) ?_
  refine aI_c (fun hd => s_al_n hX hd rfl rfl) ?_
  refine aI_c (fun hd => s_gF hX (C := RX5) (T := TX5) (N := 35) (k := 4) rfl (fun w h => up w (inlX5 w h)) (by decide) rfl rfl rfl (up _ lkX5_19) hd rfl) ?_
  refine aI_c (fun hd => s_ii hX hd (by decide) rfl) ?_
  refine aI_c (fun hd => s_il_n hX hd rfl rfl) ?_
  refine aI_c (fun hd => s_imul hX hd rfl) ?_
  refine aI_c (fun hd => s_ii hX hd (by decide) rfl) ?_
  refine aI_c (fun hd => s_iadd hX hd rfl) ?_
  refine aI_c (fun hd => s_ii hX hd (by decide) rfl) ?_
  refine aI_c (fun hd => s_iast hX hd rfl) ?_
  refine aI_c (fun hd => s_il_n hX hd rfl rfl) ?_
  refine aI_c (fun hd => s_ri hX hr hlk hE hd) ?_
  exact trivial

-- JudgesByLossModel.put(III)I
def tX5_put : aT := [
  (0, (.aload_n 0, 1), o_al 0 1),
  (1, (.iload_n 1, 1), o_il 1 2),
  (2, (.invokevirtual 176, 3), o_cV CX5_isOne 5 1 5),
  (5, (.ifCond .ne 6, 3), o_if (fun x => ¬ x = 0) 11 8),
  (8, (.bipush (-5), 2), o_ii (-5) 10),
  (10, (.ireturn, 1), o_ri),
  (11, (.iload_n 2, 1), o_il 2 12),
  (12, (.iconst 0, 1), o_ii 0 13),
  (13, (.iconst 2, 1), o_ii 2 14),
  (14, (.invokestatic 81, 3), o_cS CX5_in 3 17),
  (17, (.ifCond .eq 23, 3), o_if (fun x => x = 0) 40 20),
  (20, (.iload_n 3, 1), o_il 3 21),
  (21, (.iconst 0, 1), o_ii 0 22),
  (22, (.iload_n 2, 1), o_il 2 23),
  (23, (.ifCond .ne 9, 3), o_if (fun x => ¬ x = 0) 32 26),
  (26, (.sipush 1023, 3), o_ii 1023 29),
  (29, (.goto 5, 3), o_go 34),
  (32, (.bipush 99, 2), o_ii 99 34),
  (34, (.invokestatic 81, 3), o_cS CX5_in 3 37),
  (37, (.ifCond .ne 6, 3), o_if (fun x => ¬ x = 0) 43 40),
  (40, (.bipush (-7), 2), o_ii (-7) 42),
  (42, (.ireturn, 1), o_ri),
  (43, (.aload_n 0, 1), o_al 0 44),
  (44, (.getfield 16, 3), o_gF 5 3 47),
  (47, (.iconst 3, 1), o_ii 3 48),
  (48, (.iload_n 1, 1), o_il 1 49),
  (49, (.imul, 1), o_bi (fun x y => x * y) 50),
  (50, (.iload_n 2, 1), o_il 2 51),
  (51, (.iadd, 1), o_bi (fun x y => x + y) 52),
  (52, (.iaload, 1), o_iald 53),
  (53, (.istore 4, 2), o_is 4 55),
  (55, (.aload_n 0, 1), o_al 0 56),
  (56, (.getfield 16, 3), o_gF 5 3 59),
  (59, (.iconst 3, 1), o_ii 3 60),
  (60, (.iload_n 1, 1), o_il 1 61),
  (61, (.imul, 1), o_bi (fun x y => x * y) 62),
  (62, (.iload_n 2, 1), o_il 2 63),
  (63, (.iadd, 1), o_bi (fun x y => x + y) 64),
  (64, (.iload_n 3, 1), o_il 3 65),
  (65, (.iastore, 1), o_iast 66),
  (66, (.iload 4, 2), o_il 4 68),
  (68, (.ireturn, 1), o_ri)]
abbrev CX5_put : aC := aCl tX5_put 5
def rmX5_put : Room := { frames := 3, cells := 0, slots := 0, locals := 44 }
set_option maxRecDepth 100000 in
theorem dX5_put : tX5_put.all (fun q => decide (decode cX5_put q.1 = .ok q.2.1)) = true := by decide +kernel
set_option maxRecDepth 100000 in
set_option maxHeartbeats 4000000 in
theorem nX5_put (l : Launch) : aMt l yX5_put (Cond.code yX5_put cX5_put 5 (some .int) :: wsL_law) rmX5_put CX5_put := by
  refine aMt.of (own := RX5) (cc := cX5_put) (maxL := 5) (ret := (some .int)) (by decide +kernel) rfl rfl ?_
  intro p e s m args below meth c Qc D Z ad P G A E hX hr hlk hE
  have up : ∀ w ∈ wsL_law, w ∈ (Cond.code yX5_put cX5_put 5 (some .int) :: wsL_law) := fun w h => List.mem_cons_of_mem _ h
  refine aImp_all _ dX5_put ?_
  unfold tX5_put
  refine aI_c (fun hd => s_al_n hX hd rfl rfl) ?_
  refine aI_c (fun hd => s_il_n hX hd rfl rfl) ?_
  refine aI_c (fun hd => s_cV hX (T := TX5) (N := 35) (nX5_isOne l) rfl (wg_V up lmX5_176 loX5_isOne) rfl rfl rfl (by decide +kernel) ⟨by decide, by decide⟩ ⟨Nat.zero_le _, Nat.zero_le _⟩ hd rfl) ?_
  refine aI_c (fun hd => s_if_ne hX hd (by decide) rfl) ?_
  refine aI_c (fun hd => s_bp hX hd (by decide) rfl) ?_
  refine aI_c (fun hd => s_ri hX hr hlk hE hd) ?_
  refine aI_c (fun hd => s_il_n hX hd rfl rfl) ?_
  refine aI_c (fun hd => s_ii hX hd (by decide) rfl) ?_
  refine aI_c (fun hd => s_ii hX hd (by decide) rfl) ?_
  refine aI_c (fun hd => s_cS hX (nX5_in l) (wg_S up lmX5_81 loX5_in) rfl rfl rfl (by decide +kernel) ⟨by decide, by decide⟩ ⟨Nat.zero_le _, Nat.zero_le _⟩ hd rfl) ?_
  refine aI_c (fun hd => s_if_eq hX hd (by decide) rfl) ?_
  refine aI_c (fun hd => s_il_n hX hd rfl rfl) ?_
  refine aI_c (fun hd => s_ii hX hd (by decide) rfl) ?_
  refine aI_c (fun hd => s_il_n hX hd rfl rfl) ?_
  refine aI_c (fun hd => s_if_ne hX hd (by decide) rfl) ?_
  refine aI_c (fun hd => s_sp hX hd (by decide) rfl) ?_
  refine aI_c (fun hd => s_go hX hd (by decide)) ?_
  refine aI_c (fun hd => s_bp hX hd (by decide) rfl) ?_
  refine aI_c (fun hd => s_cS hX (nX5_in l) (wg_S up lmX5_81 loX5_in) rfl rfl rfl (by decide +kernel) ⟨by decide, by decide⟩ ⟨Nat.zero_le _, Nat.zero_le _⟩ hd rfl) ?_
  refine aI_c (fun hd => s_if_ne hX hd (by decide) rfl) ?_
  refine aI_c (fun hd => s_bp hX hd (by decide) rfl) ?_
  refine aI_c (fun hd => s_ri hX hr hlk hE hd) ?_
  refine aI_c (fun hd => s_al_n hX hd rfl rfl) ?_
  refine aI_c (fun hd => s_gF hX (C := RX5) (T := TX5) (N := 35) (k := 3) rfl (fun w h => up w (inlX5 w h)) (by decide) rfl rfl rfl (up _ lkX5_16) hd rfl) ?_
  refine aI_c (fun hd => s_ii hX hd (by decide) rfl) ?_
  refine aI_c (fun hd => s_il_n hX hd rfl rfl) ?_
  refine aI_c (fun hd => s_imul hX hd rfl) ?_
  refine aI_c (fun hd => s_il_n hX hd rfl rfl) ?_
  refine aI_c (fun hd => s_iadd hX hd rfl) ?_
  refine aI_c (fun hd => s_iald hX hd rfl) ?_
  refine aI_c (fun hd => s_is hX hd rfl (by decide)) ?_
  refine aI_c (fun hd => s_al_n hX hd rfl rfl) ?_
  refine aI_c (fun hd => s_gF hX (C := RX5) (T := TX5) (N := 35) (k := 3) rfl (fun w h => up w (inlX5 w h)) (by decide) rfl rfl rfl (up _ lkX5_16) hd rfl) ?_
  refine aI_c (fun hd => s_ii hX hd (by decide) rfl) ?_
  refine aI_c (fun hd => s_il_n hX hd rfl rfl) ?_
  refine aI_c (fun hd => s_imul hX hd rfl) ?_
  refine aI_c (fun hd => s_il_n hX hd rfl rfl) ?_
  refine aI_c (fun hd => s_iadd hX hd rfl) ?_
  refine aI_c (fun hd => s_il_n hX hd rfl rfl) ?_
  refine aI_c (fun hd => s_iast hX hd rfl) ?_
  refine aI_c (fun hd => s_il hX hd rfl) ?_
  refine aI_c (fun hd => s_ri hX hr hlk hE hd) ?_
  exact trivial

-- JudgesByLossModel.may(II)Z
def tX5_may : aT := [
  (0, (.aload_n 0, 1), o_al 0 1),
  (1, (.getfield 19, 3), o_gF 5 4 4),
  (4, (.iconst 3, 1), o_ii 3 5),
  (5, (.iload_n 2, 1), o_il 2 6),
  (6, (.imul, 1), o_bi (fun x y => x * y) 7),
  (7, (.iaload, 1), o_iald 8),
  (8, (.istore_n 3, 1), o_is 3 9),
  (9, (.iload_n 3, 1), o_il 3 10),
  (10, (.aload_n 0, 1), o_al 0 11),
  (11, (.getfield 16, 3), o_gF 5 3 14),
  (14, (.iconst 3, 1), o_ii 3 15),
  (15, (.iload_n 1, 1), o_il 1 16),
  (16, (.imul, 1), o_bi (fun x y => x * y) 17),
  (17, (.iaload, 1), o_iald 18),
  (18, (.iconst (-1), 1), o_ii (-1) 19),
  (19, (.ixor, 1), o_bi (fun x y => x ^^^ y) 20),
  (20, (.iand, 1), o_bi (fun x y => x &&& y) 21),
  (21, (.invokestatic 96, 3), o_cS CX5_onesOf 1 24),
  (24, (.istore 4, 2), o_is 4 26),
  (26, (.aload_n 0, 1), o_al 0 27),
  (27, (.iconst 0, 1), o_ii 0 28),
  (28, (.iload_n 1, 1), o_il 1 29),
  (29, (.iload_n 2, 1), o_il 2 30),
  (30, (.invokevirtual 179, 3), o_cV CX5_asksOf 5 3 33),
  (33, (.istore 5, 2), o_is 5 35),
  (35, (.aload_n 0, 1), o_al 0 36),
  (36, (.getfield 16, 3), o_gF 5 3 39),
  (39, (.iconst 3, 1), o_ii 3 40),
  (40, (.iload_n 1, 1), o_il 1 41),
  (41, (.imul, 1), o_bi (fun x y => x * y) 42),
  (42, (.iconst 1, 1), o_ii 1 43),
  (43, (.iadd, 1), o_bi (fun x y => x + y) 44),
  (44, (.iaload, 1), o_iald 45),
  (45, (.istore 6, 2), o_is 6 47),
  (47, (.aload_n 0, 1), o_al 0 48),
  (48, (.getfield 109, 3), o_gI 5 5 51),
  (51, (.bipush 10, 2), o_ii 10 53),
  (53, (.irem, 1), o_rm 54),
  (54, (.aload_n 0, 1), o_al 0 55),
  (55, (.getfield 13, 3), o_gF 5 2 58),
  (58, (.iload_n 1, 1), o_il 1 59),
  (59, (.iaload, 1), o_iald 60),
  (60, (.if_icmp .lt 7, 3), o_ic (fun x y => x < y) 67 63),
  (63, (.iconst 1, 1), o_ii 1 64),
  (64, (.goto 4, 3), o_go 68),
  (67, (.iconst 0, 1), o_ii 0 68),
  (68, (.istore 7, 2), o_is 7 70),
  (70, (.aload_n 0, 1), o_al 0 71),
  (71, (.getfield 7, 3), o_gF 5 1 74),
  (74, (.iload_n 1, 1), o_il 1 75),
  (75, (.iaload, 1), o_iald 76),
  (76, (.tableswitch 164 1 5 #[36, 55, 78, 117, 142], 36), o_sw [(1, 112), (2, 131), (3, 154), (4, 193), (5, 218)] 240),
  (112, (.iload 4, 2), o_il 4 114),
  (114, (.iconst 1, 1), o_ii 1 115),
  (115, (.if_icmp .gt 14, 3), o_ic (fun x y => y < x) 129 118),
  (118, (.iload 6, 2), o_il 6 120),
  (120, (.iload 5, 2), o_il 5 122),
  (122, (.if_icmp .lt 7, 3), o_ic (fun x y => x < y) 129 125),
  (125, (.iconst 1, 1), o_ii 1 126),
  (126, (.goto 4, 3), o_go 130),
  (129, (.iconst 0, 1), o_ii 0 130),
  (130, (.ireturn, 1), o_rz),
  (131, (.iload 4, 2), o_il 4 133),
  (133, (.ifCond .ne 19, 3), o_if (fun x => ¬ x = 0) 152 136),
  (136, (.iload 6, 2), o_il 6 138),
  (138, (.iload 5, 2), o_il 5 140),
  (140, (.if_icmp .lt 12, 3), o_ic (fun x y => x < y) 152 143),
  (143, (.iload 7, 2), o_il 7 145),
  (145, (.ifCond .eq 7, 3), o_if (fun x => x = 0) 152 148),
  (148, (.iconst 1, 1), o_ii 1 149),
  (149, (.goto 4, 3), o_go 153),
  (152, (.iconst 0, 1), o_ii 0 153),
  (153, (.ireturn, 1), o_rz),
  (154, (.iload_n 3, 1), o_il 3 155),
  (155, (.iconst 1, 1), o_ii 1 156),
  (156, (.aload_n 0, 1), o_al 0 157),
  (157, (.getfield 13, 3), o_gF 5 2 160),
  (160, (.iload_n 1, 1), o_il 1 161),
  (161, (.iaload, 1), o_iald 162),
  (162, (.ishl, 1), o_bi (fun x y => x <<< (y &&& 31)) 163),
  (163, (.if_icmp .eq 24, 3), o_ic (fun x y => x = y) 187 166),
  (166, (.iload 4, 2), o_il 4 168),
  (168, (.iconst 1, 1), o_ii 1 169),
  (169, (.if_icmp .gt 22, 3), o_ic (fun x y => y < x) 191 172),
  (172, (.iload 6, 2), o_il 6 174),
  (174, (.iload 5, 2), o_il 5 176),
  (176, (.if_icmp .lt 15, 3), o_ic (fun x y => x < y) 191 179),
  (179, (.iload_n 3, 1), o_il 3 180),
  (180, (.invokestatic 96, 3), o_cS CX5_onesOf 1 183),
  (183, (.iconst 3, 1), o_ii 3 184),
  (184, (.if_icmp .lt 7, 3), o_ic (fun x y => x < y) 191 187),
  (187, (.iconst 1, 1), o_ii 1 188),
  (188, (.goto 4, 3), o_go 192),
  (191, (.iconst 0, 1), o_ii 0 192),
  (192, (.ireturn, 1), o_rz),
  (193, (.iload 4, 2), o_il 4 195),
  (195, (.ifCond .ne 21, 3), o_if (fun x => ¬ x = 0) 216 198),
  (198, (.iload 6, 2), o_il 6 200),
  (200, (.iconst 2, 1), o_ii 2 201),
  (201, (.iload 5, 2), o_il 5 203),
  (203, (.imul, 1), o_bi (fun x y => x * y) 204),
  (204, (.if_icmp .lt 12, 3), o_ic (fun x y => x < y) 216 207),
  (207, (.iload 7, 2), o_il 7 209),
  (209, (.ifCond .eq 7, 3), o_if (fun x => x = 0) 216 212),
  (212, (.iconst 1, 1), o_ii 1 213),
  (213, (.goto 4, 3), o_go 217),
  (216, (.iconst 0, 1), o_ii 0 217),
  (217, (.ireturn, 1), o_rz),
  (218, (.aload_n 0, 1), o_al 0 219),
  (219, (.getfield 109, 3), o_gI 5 5 222),
  (222, (.bipush 7, 2), o_ii 7 224),
  (224, (.irem, 1), o_rm 225),
  (225, (.aload_n 0, 1), o_al 0 226),
  (226, (.getfield 13, 3), o_gF 5 2 229),
  (229, (.iload_n 1, 1), o_il 1 230),
  (230, (.iaload, 1), o_iald 231),
  (231, (.if_icmp .ne 7, 3), o_ic (fun x y => ¬ x = y) 238 234),
  (234, (.iconst 1, 1), o_ii 1 235),
  (235, (.goto 4, 3), o_go 239),
  (238, (.iconst 0, 1), o_ii 0 239),
  (239, (.ireturn, 1), o_rz),
  (240, (.iload 4, 2), o_il 4 242),
  (242, (.ifCond .ne 14, 3), o_if (fun x => ¬ x = 0) 256 245),
  (245, (.iload 6, 2), o_il 6 247),
  (247, (.iload 5, 2), o_il 5 249),
  (249, (.if_icmp .lt 7, 3), o_ic (fun x y => x < y) 256 252),
  (252, (.iconst 1, 1), o_ii 1 253),
  (253, (.goto 4, 3), o_go 257),
  (256, (.iconst 0, 1), o_ii 0 257),
  (257, (.ireturn, 1), o_rz)]
abbrev CX5_may : aC := aCl tX5_may 8
def rmX5_may : Room := { frames := 4, cells := 0, slots := 0, locals := 70 }
set_option maxRecDepth 100000 in
theorem dX5_may : tX5_may.all (fun q => decide (decode cX5_may q.1 = .ok q.2.1)) = true := by decide +kernel
set_option maxRecDepth 100000 in
set_option maxHeartbeats 4000000 in
theorem nX5_may (l : Launch) : aMt l yX5_may (Cond.code yX5_may cX5_may 8 (some .boolean) :: wsL_law) rmX5_may CX5_may := by
  refine aMt.of (own := RX5) (cc := cX5_may) (maxL := 8) (ret := (some .boolean)) (by decide +kernel) rfl rfl ?_
  intro p e s m args below meth c Qc D Z ad P G A E hX hr hlk hE
  have up : ∀ w ∈ wsL_law, w ∈ (Cond.code yX5_may cX5_may 8 (some .boolean) :: wsL_law) := fun w h => List.mem_cons_of_mem _ h
  refine aImp_all _ dX5_may ?_
  unfold tX5_may
  refine aI_c (fun hd => s_al_n hX hd rfl rfl) ?_
  refine aI_c (fun hd => s_gF hX (C := RX5) (T := TX5) (N := 35) (k := 4) rfl (fun w h => up w (inlX5 w h)) (by decide) rfl rfl rfl (up _ lkX5_19) hd rfl) ?_
  refine aI_c (fun hd => s_ii hX hd (by decide) rfl) ?_
  refine aI_c (fun hd => s_il_n hX hd rfl rfl) ?_
  refine aI_c (fun hd => s_imul hX hd rfl) ?_
  refine aI_c (fun hd => s_iald hX hd rfl) ?_
  refine aI_c (fun hd => s_is_n hX hd rfl rfl (by decide)) ?_
  refine aI_c (fun hd => s_il_n hX hd rfl rfl) ?_
  refine aI_c (fun hd => s_al_n hX hd rfl rfl) ?_
  refine aI_c (fun hd => s_gF hX (C := RX5) (T := TX5) (N := 35) (k := 3) rfl (fun w h => up w (inlX5 w h)) (by decide) rfl rfl rfl (up _ lkX5_16) hd rfl) ?_
  refine aI_c (fun hd => s_ii hX hd (by decide) rfl) ?_
  refine aI_c (fun hd => s_il_n hX hd rfl rfl) ?_
  refine aI_c (fun hd => s_imul hX hd rfl) ?_
  refine aI_c (fun hd => s_iald hX hd rfl) ?_
  refine aI_c (fun hd => s_ii hX hd (by decide) rfl) ?_
  refine aI_c (fun hd => s_ixor hX hd rfl) ?_
  refine aI_c (fun hd => s_iand hX hd rfl) ?_
  refine aI_c (fun hd => s_cS hX (nX5_onesOf l) (wg_S up lmX5_96 loX5_onesOf) rfl rfl rfl (by decide +kernel) ⟨by decide, by decide⟩ ⟨Nat.zero_le _, Nat.zero_le _⟩ hd rfl) ?_
  refine aI_c (fun hd => s_is hX hd rfl (by decide)) ?_
  refine aI_c (fun hd => s_al_n hX hd rfl rfl) ?_
  refine aI_c (fun hd => s_ii hX hd (by decide) rfl) ?_
  refine aI_c (fun hd => s_il_n hX hd rfl rfl) ?_
  refine aI_c (fun hd => s_il_n hX hd rfl rfl) ?_
  refine aI_c (fun hd => s_cV hX (T := TX5) (N := 35) (nX5_asksOf l) rfl (wg_V up lmX5_179 loX5_asksOf) rfl rfl rfl (by decide +kernel) ⟨by decide, by decide⟩ ⟨Nat.zero_le _, Nat.zero_le _⟩ hd rfl) ?_
  refine aI_c (fun hd => s_is hX hd rfl (by decide)) ?_
  refine aI_c (fun hd => s_al_n hX hd rfl rfl) ?_
  refine aI_c (fun hd => s_gF hX (C := RX5) (T := TX5) (N := 35) (k := 3) rfl (fun w h => up w (inlX5 w h)) (by decide) rfl rfl rfl (up _ lkX5_16) hd rfl) ?_
  refine aI_c (fun hd => s_ii hX hd (by decide) rfl) ?_
  refine aI_c (fun hd => s_il_n hX hd rfl rfl) ?_
  refine aI_c (fun hd => s_imul hX hd rfl) ?_
  refine aI_c (fun hd => s_ii hX hd (by decide) rfl) ?_
  refine aI_c (fun hd => s_iadd hX hd rfl) ?_
  refine aI_c (fun hd => s_iald hX hd rfl) ?_
  refine aI_c (fun hd => s_is hX hd rfl (by decide)) ?_
  refine aI_c (fun hd => s_al_n hX hd rfl rfl) ?_
  refine aI_c (fun hd => s_gI hX (C := RX5) (T := TX5) (N := 35) (k := 5) rfl (fun w h => up w (inlX5 w h)) (by decide) rfl rfl rfl (up _ lkX5_109) hd rfl) ?_
  refine aI_c (fun hd => s_bp hX hd (by decide) rfl) ?_
  refine aI_c (fun hd => s_irem hX hd rfl) ?_
  refine aI_c (fun hd => s_al_n hX hd rfl rfl) ?_
  refine aI_c (fun hd => s_gF hX (C := RX5) (T := TX5) (N := 35) (k := 2) rfl (fun w h => up w (inlX5 w h)) (by decide) rfl rfl rfl (up _ lkX5_13) hd rfl) ?_
  refine aI_c (fun hd => s_il_n hX hd rfl rfl) ?_
  refine aI_c (fun hd => s_iald hX hd rfl) ?_
  refine aI_c (fun hd => s_ic_lt hX hd (by decide) rfl) ?_
  refine aI_c (fun hd => s_ii hX hd (by decide) rfl) ?_
  refine aI_c (fun hd => s_go hX hd (by decide)) ?_
  refine aI_c (fun hd => s_ii hX hd (by decide) rfl) ?_
  refine aI_c (fun hd => s_is hX hd rfl (by decide)) ?_
  refine aI_c (fun hd => s_al_n hX hd rfl rfl) ?_
  refine aI_c (fun hd => s_gF hX (C := RX5) (T := TX5) (N := 35) (k := 1) rfl (fun w h => up w (inlX5 w h)) (by decide) rfl rfl rfl (up _ lkX5_7) hd rfl) ?_
  refine aI_c (fun hd => s_il_n hX hd rfl rfl) ?_
  refine aI_c (fun hd => s_iald hX hd rfl) ?_
  refine aI_c (fun hd => s_sw hX hd (by decide) (by decide +kernel)) ?_
  refine aI_c (fun hd => s_il hX hd rfl) ?_
  refine aI_c (fun hd => s_ii hX hd (by decide) rfl) ?_
  refine aI_c (fun hd => s_ic_gt hX hd (by decide) rfl) ?_
  refine aI_c (fun hd => s_il hX hd rfl) ?_
  refine aI_c (fun hd => s_il hX hd rfl) ?_
  refine aI_c (fun hd => s_ic_lt hX hd (by decide) rfl) ?_
  refine aI_c (fun hd => s_ii hX hd (by decide) rfl) ?_
  refine aI_c (fun hd => s_go hX hd (by decide)) ?_
  refine aI_c (fun hd => s_ii hX hd (by decide) rfl) ?_
  refine aI_c (fun hd => s_rz hX hr hlk hE hd) ?_
  refine aI_c (fun hd => s_il hX hd rfl) ?_
  refine aI_c (fun hd => s_if_ne hX hd (by decide) rfl) ?_
  refine aI_c (fun hd => s_il hX hd rfl) ?_
  refine aI_c (fun hd => s_il hX hd rfl) ?_
  refine aI_c (fun hd => s_ic_lt hX hd (by decide) rfl) ?_
  refine aI_c (fun hd => s_il hX hd rfl) ?_
  refine aI_c (fun hd => s_if_eq hX hd (by decide) rfl) ?_
  refine aI_c (fun hd => s_ii hX hd (by decide) rfl) ?_
  refine aI_c (fun hd => s_go hX hd (by decide)) ?_
  refine aI_c (fun hd => s_ii hX hd (by decide) rfl) ?_
  refine aI_c (fun hd => s_rz hX hr hlk hE hd) ?_
  refine aI_c (fun hd => s_il_n hX hd rfl rfl) ?_
  refine aI_c (fun hd => s_ii hX hd (by decide) rfl) ?_
  refine aI_c (fun hd => s_al_n hX hd rfl rfl) ?_
  refine aI_c (fun hd => s_gF hX (C := RX5) (T := TX5) (N := 35) (k := 2) rfl (fun w h => up w (inlX5 w h)) (by decide) rfl rfl rfl (up _ lkX5_13) hd rfl) ?_
  refine aI_c (fun hd => s_il_n hX hd rfl rfl) ?_
  refine aI_c (fun hd => s_iald hX hd rfl) ?_
  refine aI_c (fun hd => s_ishl hX hd rfl) ?_
  refine aI_c (fun hd => s_ic_eq hX hd (by decide) rfl) ?_
  refine aI_c (fun hd => s_il hX hd rfl) ?_
  refine aI_c (fun hd => s_ii hX hd (by decide) rfl) ?_
  refine aI_c (fun hd => s_ic_gt hX hd (by decide) rfl) ?_
  refine aI_c (fun hd => s_il hX hd rfl) ?_
  refine aI_c (fun hd => s_il hX hd rfl) ?_
  refine aI_c (fun hd => s_ic_lt hX hd (by decide) rfl) ?_
  refine aI_c (fun hd => s_il_n hX hd rfl rfl) ?_
  refine aI_c (fun hd => s_cS hX (nX5_onesOf l) (wg_S up lmX5_96 loX5_onesOf) rfl rfl rfl (by decide +kernel) ⟨by decide, by decide⟩ ⟨Nat.zero_le _, Nat.zero_le _⟩ hd rfl) ?_
  refine aI_c (fun hd => s_ii hX hd (by decide) rfl) ?_
  refine aI_c (fun hd => s_ic_lt hX hd (by decide) rfl) ?_
  refine aI_c (fun hd => s_ii hX hd (by decide) rfl) ?_
  refine aI_c (fun hd => s_go hX hd (by decide)) ?_
  refine aI_c (fun hd => s_ii hX hd (by decide) rfl) ?_
  refine aI_c (fun hd => s_rz hX hr hlk hE hd) ?_
  refine aI_c (fun hd => s_il hX hd rfl) ?_
  refine aI_c (fun hd => s_if_ne hX hd (by decide) rfl) ?_
  refine aI_c (fun hd => s_il hX hd rfl) ?_
  refine aI_c (fun hd => s_ii hX hd (by decide) rfl) ?_
  refine aI_c (fun hd => s_il hX hd rfl) ?_
  refine aI_c (fun hd => s_imul hX hd rfl) ?_
  refine aI_c (fun hd => s_ic_lt hX hd (by decide) rfl) ?_
  refine aI_c (fun hd => s_il hX hd rfl) ?_
  refine aI_c (fun hd => s_if_eq hX hd (by decide) rfl) ?_
  refine aI_c (fun hd => s_ii hX hd (by decide) rfl) ?_
  refine aI_c (fun hd => s_go hX hd (by decide)) ?_
  refine aI_c (fun hd => s_ii hX hd (by decide) rfl) ?_
  refine aI_c (fun hd => s_rz hX hr hlk hE hd) ?_
  refine aI_c (fun hd => s_al_n hX hd rfl rfl) ?_
  refine aI_c (fun hd => s_gI hX (C := RX5) (T := TX5) (N := 35) (k := 5) rfl (fun w h => up w (inlX5 w h)) (by decide) rfl rfl rfl (up _ lkX5_109) hd rfl) ?_
  refine aI_c (fun hd => s_bp hX hd (by decide) rfl) ?_
  refine aI_c (fun hd => s_irem hX hd rfl) ?_
  refine aI_c (fun hd => s_al_n hX hd rfl rfl) ?_
  refine aI_c (fun hd => s_gF hX (C := RX5) (T := TX5) (N := 35) (k := 2) rfl (fun w h => up w (inlX5 w h)) (by decide) rfl rfl rfl (up _ lkX5_13) hd rfl) ?_
  refine aI_c (fun hd => s_il_n hX hd rfl rfl) ?_
  refine aI_c (fun hd => s_iald hX hd rfl) ?_
  refine aI_c (fun hd => s_ic_ne hX hd (by decide) rfl) ?_
  refine aI_c (fun hd => s_ii hX hd (by decide) rfl) ?_
  refine aI_c (fun hd => s_go hX hd (by decide)) ?_
  refine aI_c (fun hd => s_ii hX hd (by decide) rfl) ?_
  refine aI_c (fun hd => s_rz hX hr hlk hE hd) ?_
  refine aI_c (fun hd => s_il hX hd rfl) ?_
  refine aI_c (fun hd => s_if_ne hX hd (by decide) rfl) ?_
  refine aI_c (fun hd => s_il hX hd rfl) ?_
  refine aI_c (fun hd => s_il hX hd rfl) ?_
  refine aI_c (fun hd => s_ic_lt hX hd (by decide) rfl) ?_
  refine aI_c (fun hd => s_ii hX hd (by decide) rfl) ?_
  refine aI_c (fun hd => s_go hX hd (by decide)) ?_
  refine aI_c (fun hd => s_ii hX hd (by decide) rfl) ?_
  refine aI_c (fun hd => s_rz hX hr hlk hE hd) ?_
  exact trivial

-- JudgesByLossModel.takesOf(II)I
def tX5_takesOf : aT := [
  (0, (.aload_n 0, 1), o_al 0 1),
  (1, (.iconst 1, 1), o_ii 1 2),
  (2, (.iload_n 1, 1), o_il 1 3),
  (3, (.iload_n 2, 1), o_il 2 4),
  (4, (.invokevirtual 179, 3), o_cV CX5_asksOf 5 3 7),
  (7, (.istore_n 3, 1), o_is 3 8),
  (8, (.aload_n 0, 1), o_al 0 9),
  (9, (.getfield 7, 3), o_gF 5 1 12),
  (12, (.iload_n 1, 1), o_il 1 13),
  (13, (.iaload, 1), o_iald 14),
  (14, (.iconst 1, 1), o_ii 1 15),
  (15, (.if_icmp .eq 13, 3), o_ic (fun x y => x = y) 28 18),
  (18, (.aload_n 0, 1), o_al 0 19),
  (19, (.getfield 7, 3), o_gF 5 1 22),
  (22, (.iload_n 1, 1), o_il 1 23),
  (23, (.iaload, 1), o_iald 24),
  (24, (.iconst 3, 1), o_ii 3 25),
  (25, (.if_icmp .ne 14, 3), o_ic (fun x y => ¬ x = y) 39 28),
  (28, (.iload_n 3, 1), o_il 3 29),
  (29, (.aload_n 0, 1), o_al 0 30),
  (30, (.getfield 13, 3), o_gF 5 2 33),
  (33, (.iload_n 1, 1), o_il 1 34),
  (34, (.iaload, 1), o_iald 35),
  (35, (.iadd, 1), o_bi (fun x y => x + y) 36),
  (36, (.goto 20, 3), o_go 56),
  (39, (.aload_n 0, 1), o_al 0 40),
  (40, (.getfield 7, 3), o_gF 5 1 43),
  (43, (.iload_n 1, 1), o_il 1 44),
  (44, (.iaload, 1), o_iald 45),
  (45, (.iconst 4, 1), o_ii 4 46),
  (46, (.if_icmp .ne 9, 3), o_ic (fun x y => ¬ x = y) 55 49),
  (49, (.iconst 2, 1), o_ii 2 50),
  (50, (.iload_n 3, 1), o_il 3 51),
  (51, (.imul, 1), o_bi (fun x y => x * y) 52),
  (52, (.goto 4, 3), o_go 56),
  (55, (.iload_n 3, 1), o_il 3 56),
  (56, (.istore 4, 2), o_is 4 58),
  (58, (.iload 4, 2), o_il 4 60),
  (60, (.iconst 1, 1), o_ii 1 61),
  (61, (.if_icmp .ge 7, 3), o_ic (fun x y => y ≤ x) 68 64),
  (64, (.iconst 1, 1), o_ii 1 65),
  (65, (.goto 5, 3), o_go 70),
  (68, (.iload 4, 2), o_il 4 70),
  (70, (.ireturn, 1), o_ri)]
abbrev CX5_takesOf : aC := aCl tX5_takesOf 5
def rmX5_takesOf : Room := { frames := 4, cells := 0, slots := 0, locals := 70 }
set_option maxRecDepth 100000 in
theorem dX5_takesOf : tX5_takesOf.all (fun q => decide (decode cX5_takesOf q.1 = .ok q.2.1)) = true := by decide +kernel
set_option maxRecDepth 100000 in
set_option maxHeartbeats 4000000 in
theorem nX5_takesOf (l : Launch) : aMt l yX5_takesOf (Cond.code yX5_takesOf cX5_takesOf 5 (some .int) :: wsL_law) rmX5_takesOf CX5_takesOf := by
  refine aMt.of (own := RX5) (cc := cX5_takesOf) (maxL := 5) (ret := (some .int)) (by decide +kernel) rfl rfl ?_
  intro p e s m args below meth c Qc D Z ad P G A E hX hr hlk hE
  have up : ∀ w ∈ wsL_law, w ∈ (Cond.code yX5_takesOf cX5_takesOf 5 (some .int) :: wsL_law) := fun w h => List.mem_cons_of_mem _ h
  refine aImp_all _ dX5_takesOf ?_
  unfold tX5_takesOf
  refine aI_c (fun hd => s_al_n hX hd rfl rfl) ?_
  refine aI_c (fun hd => s_ii hX hd (by decide) rfl) ?_
  refine aI_c (fun hd => s_il_n hX hd rfl rfl) ?_
  refine aI_c (fun hd => s_il_n hX hd rfl rfl) ?_
  refine aI_c (fun hd => s_cV hX (T := TX5) (N := 35) (nX5_asksOf l) rfl (wg_V up lmX5_179 loX5_asksOf) rfl rfl rfl (by decide +kernel) ⟨by decide, by decide⟩ ⟨Nat.zero_le _, Nat.zero_le _⟩ hd rfl) ?_
  refine aI_c (fun hd => s_is_n hX hd rfl rfl (by decide)) ?_
  refine aI_c (fun hd => s_al_n hX hd rfl rfl) ?_
  refine aI_c (fun hd => s_gF hX (C := RX5) (T := TX5) (N := 35) (k := 1) rfl (fun w h => up w (inlX5 w h)) (by decide) rfl rfl rfl (up _ lkX5_7) hd rfl) ?_
  refine aI_c (fun hd => s_il_n hX hd rfl rfl) ?_
  refine aI_c (fun hd => s_iald hX hd rfl) ?_
  refine aI_c (fun hd => s_ii hX hd (by decide) rfl) ?_
  refine aI_c (fun hd => s_ic_eq hX hd (by decide) rfl) ?_
  refine aI_c (fun hd => s_al_n hX hd rfl rfl) ?_
  refine aI_c (fun hd => s_gF hX (C := RX5) (T := TX5) (N := 35) (k := 1) rfl (fun w h => up w (inlX5 w h)) (by decide) rfl rfl rfl (up _ lkX5_7) hd rfl) ?_
  refine aI_c (fun hd => s_il_n hX hd rfl rfl) ?_
  refine aI_c (fun hd => s_iald hX hd rfl) ?_
  refine aI_c (fun hd => s_ii hX hd (by decide) rfl) ?_
  refine aI_c (fun hd => s_ic_ne hX hd (by decide) rfl) ?_
  refine aI_c (fun hd => s_il_n hX hd rfl rfl) ?_
  refine aI_c (fun hd => s_al_n hX hd rfl rfl) ?_
  refine aI_c (fun hd => s_gF hX (C := RX5) (T := TX5) (N := 35) (k := 2) rfl (fun w h => up w (inlX5 w h)) (by decide) rfl rfl rfl (up _ lkX5_13) hd rfl) ?_
  refine aI_c (fun hd => s_il_n hX hd rfl rfl) ?_
  refine aI_c (fun hd => s_iald hX hd rfl) ?_
  refine aI_c (fun hd => s_iadd hX hd rfl) ?_
  refine aI_c (fun hd => s_go hX hd (by decide)) ?_
  refine aI_c (fun hd => s_al_n hX hd rfl rfl) ?_
  refine aI_c (fun hd => s_gF hX (C := RX5) (T := TX5) (N := 35) (k := 1) rfl (fun w h => up w (inlX5 w h)) (by decide) rfl rfl rfl (up _ lkX5_7) hd rfl) ?_
  refine aI_c (fun hd => s_il_n hX hd rfl rfl) ?_
  refine aI_c (fun hd => s_iald hX hd rfl) ?_
  refine aI_c (fun hd => s_ii hX hd (by decide) rfl) ?_
  refine aI_c (fun hd => s_ic_ne hX hd (by decide) rfl) ?_
  refine aI_c (fun hd => s_ii hX hd (by decide) rfl) ?_
  refine aI_c (fun hd => s_il_n hX hd rfl rfl) ?_
  refine aI_c (fun hd => s_imul hX hd rfl) ?_
  refine aI_c (fun hd => s_go hX hd (by decide)) ?_
  refine aI_c (fun hd => s_il_n hX hd rfl rfl) ?_
  refine aI_c (fun hd => s_is hX hd rfl (by decide)) ?_
  refine aI_c (fun hd => s_il hX hd rfl) ?_
  refine aI_c (fun hd => s_ii hX hd (by decide) rfl) ?_
  refine aI_c (fun hd => s_ic_ge hX hd (by decide) rfl) ?_
  refine aI_c (fun hd => s_ii hX hd (by decide) rfl) ?_
  refine aI_c (fun hd => s_go hX hd (by decide)) ?_
  refine aI_c (fun hd => s_il hX hd rfl) ?_
  refine aI_c (fun hd => s_ri hX hr hlk hE hd) ?_
  exact trivial

-- JudgesByLossModel.judgesOf(II)I
def tX5_judgesOf : aT := [
  (0, (.aload_n 0, 1), o_al 0 1),
  (1, (.iconst 2, 1), o_ii 2 2),
  (2, (.iload_n 1, 1), o_il 1 3),
  (3, (.iload_n 2, 1), o_il 2 4),
  (4, (.invokevirtual 179, 3), o_cV CX5_asksOf 5 3 7),
  (7, (.istore_n 3, 1), o_is 3 8),
  (8, (.aload_n 0, 1), o_al 0 9),
  (9, (.getfield 7, 3), o_gF 5 1 12),
  (12, (.iload_n 1, 1), o_il 1 13),
  (13, (.iaload, 1), o_iald 14),
  (14, (.tableswitch 46 2 5 #[30, 39, 30, 43], 30), o_sw [(2, 44), (3, 53), (4, 44), (5, 57)] 60),
  (44, (.iload_n 3, 1), o_il 3 45),
  (45, (.aload_n 0, 1), o_al 0 46),
  (46, (.getfield 13, 3), o_gF 5 2 49),
  (49, (.iload_n 1, 1), o_il 1 50),
  (50, (.iaload, 1), o_iald 51),
  (51, (.iadd, 1), o_bi (fun x y => x + y) 52),
  (52, (.ireturn, 1), o_ri),
  (53, (.iload_n 3, 1), o_il 3 54),
  (54, (.iconst 2, 1), o_ii 2 55),
  (55, (.idiv, 1), o_dv 56),
  (56, (.ireturn, 1), o_ri),
  (57, (.iload_n 3, 1), o_il 3 58),
  (58, (.ineg, 1), o_ui (fun x => -x) 59),
  (59, (.ireturn, 1), o_ri),
  (60, (.iload_n 3, 1), o_il 3 61),
  (61, (.ireturn, 1), o_ri)]
abbrev CX5_judgesOf : aC := aCl tX5_judgesOf 4
def rmX5_judgesOf : Room := { frames := 4, cells := 0, slots := 0, locals := 70 }
set_option maxRecDepth 100000 in
theorem dX5_judgesOf : tX5_judgesOf.all (fun q => decide (decode cX5_judgesOf q.1 = .ok q.2.1)) = true := by decide +kernel
set_option maxRecDepth 100000 in
set_option maxHeartbeats 4000000 in
theorem nX5_judgesOf (l : Launch) : aMt l yX5_judgesOf (Cond.code yX5_judgesOf cX5_judgesOf 4 (some .int) :: wsL_law) rmX5_judgesOf CX5_judgesOf := by
  refine aMt.of (own := RX5) (cc := cX5_judgesOf) (maxL := 4) (ret := (some .int)) (by decide +kernel) rfl rfl ?_
  intro p e s m args below meth c Qc D Z ad P G A E hX hr hlk hE
  have up : ∀ w ∈ wsL_law, w ∈ (Cond.code yX5_judgesOf cX5_judgesOf 4 (some .int) :: wsL_law) := fun w h => List.mem_cons_of_mem _ h
  refine aImp_all _ dX5_judgesOf ?_
  unfold tX5_judgesOf
  refine aI_c (fun hd => s_al_n hX hd rfl rfl) ?_
  refine aI_c (fun hd => s_ii hX hd (by decide) rfl) ?_
  refine aI_c (fun hd => s_il_n hX hd rfl rfl) ?_
  refine aI_c (fun hd => s_il_n hX hd rfl rfl) ?_
  refine aI_c (fun hd => s_cV hX (T := TX5) (N := 35) (nX5_asksOf l) rfl (wg_V up lmX5_179 loX5_asksOf) rfl rfl rfl (by decide +kernel) ⟨by decide, by decide⟩ ⟨Nat.zero_le _, Nat.zero_le _⟩ hd rfl) ?_
  refine aI_c (fun hd => s_is_n hX hd rfl rfl (by decide)) ?_
  refine aI_c (fun hd => s_al_n hX hd rfl rfl) ?_
  refine aI_c (fun hd => s_gF hX (C := RX5) (T := TX5) (N := 35) (k := 1) rfl (fun w h => up w (inlX5 w h)) (by decide) rfl rfl rfl (up _ lkX5_7) hd rfl) ?_
  refine aI_c (fun hd => s_il_n hX hd rfl rfl) ?_
  refine aI_c (fun hd => s_iald hX hd rfl) ?_
  refine aI_c (fun hd => s_sw hX hd (by decide) (by decide +kernel)) ?_
  refine aI_c (fun hd => s_il_n hX hd rfl rfl) ?_
  refine aI_c (fun hd => s_al_n hX hd rfl rfl) ?_
  refine aI_c (fun hd => s_gF hX (C := RX5) (T := TX5) (N := 35) (k := 2) rfl (fun w h => up w (inlX5 w h)) (by decide) rfl rfl rfl (up _ lkX5_13) hd rfl) ?_
  refine aI_c (fun hd => s_il_n hX hd rfl rfl) ?_
  refine aI_c (fun hd => s_iald hX hd rfl) ?_
  refine aI_c (fun hd => s_iadd hX hd rfl) ?_
  refine aI_c (fun hd => s_ri hX hr hlk hE hd) ?_
  refine aI_c (fun hd => s_il_n hX hd rfl rfl) ?_
  refine aI_c (fun hd => s_ii hX hd (by decide) rfl) ?_
  refine aI_c (fun hd => s_idiv hX hd rfl) ?_
  refine aI_c (fun hd => s_ri hX hr hlk hE hd) ?_
  refine aI_c (fun hd => s_il_n hX hd rfl rfl) ?_
  refine aI_c (fun hd => s_ineg hX hd rfl) ?_
  refine aI_c (fun hd => s_ri hX hr hlk hE hd) ?_
  refine aI_c (fun hd => s_il_n hX hd rfl rfl) ?_
  refine aI_c (fun hd => s_ri hX hr hlk hE hd) ?_
  exact trivial

-- JudgesByLossModel.mayHear(I)I
def tX5_mayHear : aT := [
  (0, (.iconst 0, 1), o_ii 0 1),
  (1, (.istore_n 2, 1), o_is 2 2),
  (2, (.iconst 0, 1), o_ii 0 3),
  (3, (.istore_n 3, 1), o_is 3 4),
  (4, (.iload_n 3, 1), o_il 3 5),
  (5, (.bipush 8, 2), o_ii 8 7),
  (7, (.if_icmp .ge 36, 3), o_ic (fun x y => y ≤ x) 43 10),
  (10, (.aload_n 0, 1), o_al 0 11),
  (11, (.iload_n 3, 1), o_il 3 12),
  (12, (.invokevirtual 89, 3), o_cV CX5_isThere 5 1 15),
  (15, (.ifCond .eq 22, 3), o_if (fun x => x = 0) 37 18),
  (18, (.iload_n 2, 1), o_il 2 19),
  (19, (.aload_n 0, 1), o_al 0 20),
  (20, (.iload_n 1, 1), o_il 1 21),
  (21, (.iload_n 3, 1), o_il 3 22),
  (22, (.invokevirtual 182, 3), o_cV CX5_may 5 2 25),
  (25, (.ifCond .eq 9, 3), o_if (fun x => x = 0) 34 28),
  (28, (.iconst 1, 1), o_ii 1 29),
  (29, (.iload_n 3, 1), o_il 3 30),
  (30, (.ishl, 1), o_bi (fun x y => x <<< (y &&& 31)) 31),
  (31, (.goto 4, 3), o_go 35),
  (34, (.iconst 0, 1), o_ii 0 35),
  (35, (.ior, 1), o_bi (fun x y => x ||| y) 36),
  (36, (.istore_n 2, 1), o_is 2 37),
  (37, (.iinc 3 1, 3), o_inc 3 1 40),
  (40, (.goto (-36), 3), o_go 4),
  (43, (.iload_n 2, 1), o_il 2 44),
  (44, (.ireturn, 1), o_ri)]
abbrev CX5_mayHear : aC := aCl tX5_mayHear 4
def rmX5_mayHear : Room := { frames := 5, cells := 0, slots := 0, locals := 97 }
set_option maxRecDepth 100000 in
theorem dX5_mayHear : tX5_mayHear.all (fun q => decide (decode cX5_mayHear q.1 = .ok q.2.1)) = true := by decide +kernel
set_option maxRecDepth 100000 in
set_option maxHeartbeats 4000000 in
theorem nX5_mayHear (l : Launch) : aMt l yX5_mayHear (Cond.code yX5_mayHear cX5_mayHear 4 (some .int) :: wsL_law) rmX5_mayHear CX5_mayHear := by
  refine aMt.of (own := RX5) (cc := cX5_mayHear) (maxL := 4) (ret := (some .int)) (by decide +kernel) rfl rfl ?_
  intro p e s m args below meth c Qc D Z ad P G A E hX hr hlk hE
  have up : ∀ w ∈ wsL_law, w ∈ (Cond.code yX5_mayHear cX5_mayHear 4 (some .int) :: wsL_law) := fun w h => List.mem_cons_of_mem _ h
  refine aImp_all _ dX5_mayHear ?_
  unfold tX5_mayHear
  refine aI_c (fun hd => s_ii hX hd (by decide) rfl) ?_
  refine aI_c (fun hd => s_is_n hX hd rfl rfl (by decide)) ?_
  refine aI_c (fun hd => s_ii hX hd (by decide) rfl) ?_
  refine aI_c (fun hd => s_is_n hX hd rfl rfl (by decide)) ?_
  refine aI_c (fun hd => s_il_n hX hd rfl rfl) ?_
  refine aI_c (fun hd => s_bp hX hd (by decide) rfl) ?_
  refine aI_c (fun hd => s_ic_ge hX hd (by decide) rfl) ?_
  refine aI_c (fun hd => s_al_n hX hd rfl rfl) ?_
  refine aI_c (fun hd => s_il_n hX hd rfl rfl) ?_
  refine aI_c (fun hd => s_cV hX (T := TX5) (N := 35) (nX5_isThere l) rfl (wg_V up lmX5_89 loX5_isThere) rfl rfl rfl (by decide +kernel) ⟨by decide, by decide⟩ ⟨Nat.zero_le _, Nat.zero_le _⟩ hd rfl) ?_
  refine aI_c (fun hd => s_if_eq hX hd (by decide) rfl) ?_
  refine aI_c (fun hd => s_il_n hX hd rfl rfl) ?_
  refine aI_c (fun hd => s_al_n hX hd rfl rfl) ?_
  refine aI_c (fun hd => s_il_n hX hd rfl rfl) ?_
  refine aI_c (fun hd => s_il_n hX hd rfl rfl) ?_
  refine aI_c (fun hd => s_cV hX (T := TX5) (N := 35) (nX5_may l) rfl (wg_V up lmX5_182 loX5_may) rfl rfl rfl (by decide +kernel) ⟨by decide, by decide⟩ ⟨Nat.zero_le _, Nat.zero_le _⟩ hd rfl) ?_
  refine aI_c (fun hd => s_if_eq hX hd (by decide) rfl) ?_
  refine aI_c (fun hd => s_ii hX hd (by decide) rfl) ?_
  refine aI_c (fun hd => s_il_n hX hd rfl rfl) ?_
  refine aI_c (fun hd => s_ishl hX hd rfl) ?_
  refine aI_c (fun hd => s_go hX hd (by decide)) ?_
  refine aI_c (fun hd => s_ii hX hd (by decide) rfl) ?_
  refine aI_c (fun hd => s_ior hX hd rfl) ?_
  refine aI_c (fun hd => s_is_n hX hd rfl rfl (by decide)) ?_
  refine aI_c (fun hd => s_inc hX hd (by decide) rfl (by decide)) ?_
  refine aI_c (fun hd => s_go hX hd (by decide)) ?_
  refine aI_c (fun hd => s_il_n hX hd rfl rfl) ?_
  refine aI_c (fun hd => s_ri hX hr hlk hE hd) ?_
  exact trivial

-- JudgesByLossModel.whoMay(I)I
def tX5_whoMay : aT := [
  (0, (.iconst 0, 1), o_ii 0 1),
  (1, (.istore_n 2, 1), o_is 2 2),
  (2, (.iconst 0, 1), o_ii 0 3),
  (3, (.istore_n 3, 1), o_is 3 4),
  (4, (.iload_n 3, 1), o_il 3 5),
  (5, (.aload_n 0, 1), o_al 0 6),
  (6, (.getfield 78, 3), o_gI 5 0 9),
  (9, (.if_icmp .ge 28, 3), o_ic (fun x y => y ≤ x) 37 12),
  (12, (.iload_n 2, 1), o_il 2 13),
  (13, (.aload_n 0, 1), o_al 0 14),
  (14, (.iload_n 3, 1), o_il 3 15),
  (15, (.iload_n 1, 1), o_il 1 16),
  (16, (.invokevirtual 182, 3), o_cV CX5_may 5 2 19),
  (19, (.ifCond .eq 9, 3), o_if (fun x => x = 0) 28 22),
  (22, (.iconst 1, 1), o_ii 1 23),
  (23, (.iload_n 3, 1), o_il 3 24),
  (24, (.ishl, 1), o_bi (fun x y => x <<< (y &&& 31)) 25),
  (25, (.goto 4, 3), o_go 29),
  (28, (.iconst 0, 1), o_ii 0 29),
  (29, (.ior, 1), o_bi (fun x y => x ||| y) 30),
  (30, (.istore_n 2, 1), o_is 2 31),
  (31, (.iinc 3 1, 3), o_inc 3 1 34),
  (34, (.goto (-30), 3), o_go 4),
  (37, (.iload_n 2, 1), o_il 2 38),
  (38, (.ireturn, 1), o_ri)]
abbrev CX5_whoMay : aC := aCl tX5_whoMay 4
def rmX5_whoMay : Room := { frames := 5, cells := 0, slots := 0, locals := 97 }
set_option maxRecDepth 100000 in
theorem dX5_whoMay : tX5_whoMay.all (fun q => decide (decode cX5_whoMay q.1 = .ok q.2.1)) = true := by decide +kernel
set_option maxRecDepth 100000 in
set_option maxHeartbeats 4000000 in
theorem nX5_whoMay (l : Launch) : aMt l yX5_whoMay (Cond.code yX5_whoMay cX5_whoMay 4 (some .int) :: wsL_law) rmX5_whoMay CX5_whoMay := by
  refine aMt.of (own := RX5) (cc := cX5_whoMay) (maxL := 4) (ret := (some .int)) (by decide +kernel) rfl rfl ?_
  intro p e s m args below meth c Qc D Z ad P G A E hX hr hlk hE
  have up : ∀ w ∈ wsL_law, w ∈ (Cond.code yX5_whoMay cX5_whoMay 4 (some .int) :: wsL_law) := fun w h => List.mem_cons_of_mem _ h
  refine aImp_all _ dX5_whoMay ?_
  unfold tX5_whoMay
  refine aI_c (fun hd => s_ii hX hd (by decide) rfl) ?_
  refine aI_c (fun hd => s_is_n hX hd rfl rfl (by decide)) ?_
  refine aI_c (fun hd => s_ii hX hd (by decide) rfl) ?_
  refine aI_c (fun hd => s_is_n hX hd rfl rfl (by decide)) ?_
  refine aI_c (fun hd => s_il_n hX hd rfl rfl) ?_
  refine aI_c (fun hd => s_al_n hX hd rfl rfl) ?_
  refine aI_c (fun hd => s_gI hX (C := RX5) (T := TX5) (N := 35) (k := 0) rfl (fun w h => up w (inlX5 w h)) (by decide) rfl rfl rfl (up _ lkX5_78) hd rfl) ?_
  refine aI_c (fun hd => s_ic_ge hX hd (by decide) rfl) ?_
  refine aI_c (fun hd => s_il_n hX hd rfl rfl) ?_
  refine aI_c (fun hd => s_al_n hX hd rfl rfl) ?_
  refine aI_c (fun hd => s_il_n hX hd rfl rfl) ?_
  refine aI_c (fun hd => s_il_n hX hd rfl rfl) ?_
  refine aI_c (fun hd => s_cV hX (T := TX5) (N := 35) (nX5_may l) rfl (wg_V up lmX5_182 loX5_may) rfl rfl rfl (by decide +kernel) ⟨by decide, by decide⟩ ⟨Nat.zero_le _, Nat.zero_le _⟩ hd rfl) ?_
  refine aI_c (fun hd => s_if_eq hX hd (by decide) rfl) ?_
  refine aI_c (fun hd => s_ii hX hd (by decide) rfl) ?_
  refine aI_c (fun hd => s_il_n hX hd rfl rfl) ?_
  refine aI_c (fun hd => s_ishl hX hd rfl) ?_
  refine aI_c (fun hd => s_go hX hd (by decide)) ?_
  refine aI_c (fun hd => s_ii hX hd (by decide) rfl) ?_
  refine aI_c (fun hd => s_ior hX hd rfl) ?_
  refine aI_c (fun hd => s_is_n hX hd rfl rfl (by decide)) ?_
  refine aI_c (fun hd => s_inc hX hd (by decide) rfl (by decide)) ?_
  refine aI_c (fun hd => s_go hX hd (by decide)) ?_
  refine aI_c (fun hd => s_il_n hX hd rfl rfl) ?_
  refine aI_c (fun hd => s_ri hX hr hlk hE hd) ?_
  exact trivial

-- JudgesByLossModel.told(II)I
def tX5_told : aT := [
  (0, (.aload_n 0, 1), o_al 0 1),
  (1, (.iload_n 1, 1), o_il 1 2),
  (2, (.invokevirtual 176, 3), o_cV CX5_isOne 5 1 5),
  (5, (.ifCond .ne 6, 3), o_if (fun x => ¬ x = 0) 11 8),
  (8, (.bipush (-5), 2), o_ii (-5) 10),
  (10, (.ireturn, 1), o_ri),
  (11, (.iload_n 2, 1), o_il 2 12),
  (12, (.tableswitch 71 0 5 #[40, 40, 40, 51, 58, 65], 40), o_sw [(0, 52), (1, 52), (2, 52), (3, 63), (4, 70), (5, 77)] 83),
  (52, (.aload_n 0, 1), o_al 0 53),
  (53, (.getfield 16, 3), o_gF 5 3 56),
  (56, (.iconst 3, 1), o_ii 3 57),
  (57, (.iload_n 1, 1), o_il 1 58),
  (58, (.imul, 1), o_bi (fun x y => x * y) 59),
  (59, (.iload_n 2, 1), o_il 2 60),
  (60, (.iadd, 1), o_bi (fun x y => x + y) 61),
  (61, (.iaload, 1), o_iald 62),
  (62, (.ireturn, 1), o_ri),
  (63, (.aload_n 0, 1), o_al 0 64),
  (64, (.getfield 7, 3), o_gF 5 1 67),
  (67, (.iload_n 1, 1), o_il 1 68),
  (68, (.iaload, 1), o_iald 69),
  (69, (.ireturn, 1), o_ri),
  (70, (.aload_n 0, 1), o_al 0 71),
  (71, (.getfield 13, 3), o_gF 5 2 74),
  (74, (.iload_n 1, 1), o_il 1 75),
  (75, (.iaload, 1), o_iald 76),
  (76, (.ireturn, 1), o_ri),
  (77, (.aload_n 0, 1), o_al 0 78),
  (78, (.iload_n 1, 1), o_il 1 79),
  (79, (.invokevirtual 186, 3), o_cV CX5_mayHear 5 1 82),
  (82, (.ireturn, 1), o_ri),
  (83, (.bipush (-7), 2), o_ii (-7) 85),
  (85, (.ireturn, 1), o_ri)]
abbrev CX5_told : aC := aCl tX5_told 3
def rmX5_told : Room := { frames := 6, cells := 0, slots := 0, locals := 120 }
set_option maxRecDepth 100000 in
theorem dX5_told : tX5_told.all (fun q => decide (decode cX5_told q.1 = .ok q.2.1)) = true := by decide +kernel
set_option maxRecDepth 100000 in
set_option maxHeartbeats 4000000 in
theorem nX5_told (l : Launch) : aMt l yX5_told (Cond.code yX5_told cX5_told 3 (some .int) :: wsL_law) rmX5_told CX5_told := by
  refine aMt.of (own := RX5) (cc := cX5_told) (maxL := 3) (ret := (some .int)) (by decide +kernel) rfl rfl ?_
  intro p e s m args below meth c Qc D Z ad P G A E hX hr hlk hE
  have up : ∀ w ∈ wsL_law, w ∈ (Cond.code yX5_told cX5_told 3 (some .int) :: wsL_law) := fun w h => List.mem_cons_of_mem _ h
  refine aImp_all _ dX5_told ?_
  unfold tX5_told
  refine aI_c (fun hd => s_al_n hX hd rfl rfl) ?_
  refine aI_c (fun hd => s_il_n hX hd rfl rfl) ?_
  refine aI_c (fun hd => s_cV hX (T := TX5) (N := 35) (nX5_isOne l) rfl (wg_V up lmX5_176 loX5_isOne) rfl rfl rfl (by decide +kernel) ⟨by decide, by decide⟩ ⟨Nat.zero_le _, Nat.zero_le _⟩ hd rfl) ?_
  refine aI_c (fun hd => s_if_ne hX hd (by decide) rfl) ?_
  refine aI_c (fun hd => s_bp hX hd (by decide) rfl) ?_
  refine aI_c (fun hd => s_ri hX hr hlk hE hd) ?_
  refine aI_c (fun hd => s_il_n hX hd rfl rfl) ?_
  refine aI_c (fun hd => s_sw hX hd (by decide) (by decide +kernel)) ?_
  refine aI_c (fun hd => s_al_n hX hd rfl rfl) ?_
  refine aI_c (fun hd => s_gF hX (C := RX5) (T := TX5) (N := 35) (k := 3) rfl (fun w h => up w (inlX5 w h)) (by decide) rfl rfl rfl (up _ lkX5_16) hd rfl) ?_
  refine aI_c (fun hd => s_ii hX hd (by decide) rfl) ?_
  refine aI_c (fun hd => s_il_n hX hd rfl rfl) ?_
  refine aI_c (fun hd => s_imul hX hd rfl) ?_
  refine aI_c (fun hd => s_il_n hX hd rfl rfl) ?_
  refine aI_c (fun hd => s_iadd hX hd rfl) ?_
  refine aI_c (fun hd => s_iald hX hd rfl) ?_
  refine aI_c (fun hd => s_ri hX hr hlk hE hd) ?_
  refine aI_c (fun hd => s_al_n hX hd rfl rfl) ?_
  refine aI_c (fun hd => s_gF hX (C := RX5) (T := TX5) (N := 35) (k := 1) rfl (fun w h => up w (inlX5 w h)) (by decide) rfl rfl rfl (up _ lkX5_7) hd rfl) ?_
  refine aI_c (fun hd => s_il_n hX hd rfl rfl) ?_
  refine aI_c (fun hd => s_iald hX hd rfl) ?_
  refine aI_c (fun hd => s_ri hX hr hlk hE hd) ?_
  refine aI_c (fun hd => s_al_n hX hd rfl rfl) ?_
  refine aI_c (fun hd => s_gF hX (C := RX5) (T := TX5) (N := 35) (k := 2) rfl (fun w h => up w (inlX5 w h)) (by decide) rfl rfl rfl (up _ lkX5_13) hd rfl) ?_
  refine aI_c (fun hd => s_il_n hX hd rfl rfl) ?_
  refine aI_c (fun hd => s_iald hX hd rfl) ?_
  refine aI_c (fun hd => s_ri hX hr hlk hE hd) ?_
  refine aI_c (fun hd => s_al_n hX hd rfl rfl) ?_
  refine aI_c (fun hd => s_il_n hX hd rfl rfl) ?_
  refine aI_c (fun hd => s_cV hX (T := TX5) (N := 35) (nX5_mayHear l) rfl (wg_V up lmX5_186 loX5_mayHear) rfl rfl rfl (by decide +kernel) ⟨by decide, by decide⟩ ⟨Nat.zero_le _, Nat.zero_le _⟩ hd rfl) ?_
  refine aI_c (fun hd => s_ri hX hr hlk hE hd) ?_
  refine aI_c (fun hd => s_bp hX hd (by decide) rfl) ?_
  refine aI_c (fun hd => s_ri hX hr hlk hE hd) ?_
  exact trivial

-- JudgesByLossModel.paper(II)I
def tX5_paper : aT := [
  (0, (.aload_n 0, 1), o_al 0 1),
  (1, (.iload_n 1, 1), o_il 1 2),
  (2, (.invokevirtual 89, 3), o_cV CX5_isThere 5 1 5),
  (5, (.ifCond .ne 6, 3), o_if (fun x => ¬ x = 0) 11 8),
  (8, (.bipush (-6), 2), o_ii (-6) 10),
  (10, (.ireturn, 1), o_ri),
  (11, (.iload_n 2, 1), o_il 2 12),
  (12, (.iconst 0, 1), o_ii 0 13),
  (13, (.iconst 2, 1), o_ii 2 14),
  (14, (.invokestatic 81, 3), o_cS CX5_in 3 17),
  (17, (.ifCond .eq 16, 3), o_if (fun x => x = 0) 33 20),
  (20, (.aload_n 0, 1), o_al 0 21),
  (21, (.getfield 19, 3), o_gF 5 4 24),
  (24, (.iconst 3, 1), o_ii 3 25),
  (25, (.iload_n 1, 1), o_il 1 26),
  (26, (.imul, 1), o_bi (fun x y => x * y) 27),
  (27, (.iload_n 2, 1), o_il 2 28),
  (28, (.iadd, 1), o_bi (fun x y => x + y) 29),
  (29, (.iaload, 1), o_iald 30),
  (30, (.goto 18, 3), o_go 48),
  (33, (.iload_n 2, 1), o_il 2 34),
  (34, (.iconst 3, 1), o_ii 3 35),
  (35, (.if_icmp .ne 11, 3), o_ic (fun x y => ¬ x = y) 46 38),
  (38, (.aload_n 0, 1), o_al 0 39),
  (39, (.iload_n 1, 1), o_il 1 40),
  (40, (.invokevirtual 189, 3), o_cV CX5_whoMay 5 1 43),
  (43, (.goto 5, 3), o_go 48),
  (46, (.bipush (-7), 2), o_ii (-7) 48),
  (48, (.ireturn, 1), o_ri)]
abbrev CX5_paper : aC := aCl tX5_paper 3
def rmX5_paper : Room := { frames := 6, cells := 0, slots := 0, locals := 120 }
set_option maxRecDepth 100000 in
theorem dX5_paper : tX5_paper.all (fun q => decide (decode cX5_paper q.1 = .ok q.2.1)) = true := by decide +kernel
set_option maxRecDepth 100000 in
set_option maxHeartbeats 4000000 in
theorem nX5_paper (l : Launch) : aMt l yX5_paper (Cond.code yX5_paper cX5_paper 3 (some .int) :: wsL_law) rmX5_paper CX5_paper := by
  refine aMt.of (own := RX5) (cc := cX5_paper) (maxL := 3) (ret := (some .int)) (by decide +kernel) rfl rfl ?_
  intro p e s m args below meth c Qc D Z ad P G A E hX hr hlk hE
  have up : ∀ w ∈ wsL_law, w ∈ (Cond.code yX5_paper cX5_paper 3 (some .int) :: wsL_law) := fun w h => List.mem_cons_of_mem _ h
  refine aImp_all _ dX5_paper ?_
  unfold tX5_paper
  refine aI_c (fun hd => s_al_n hX hd rfl rfl) ?_
  refine aI_c (fun hd => s_il_n hX hd rfl rfl) ?_
  refine aI_c (fun hd => s_cV hX (T := TX5) (N := 35) (nX5_isThere l) rfl (wg_V up lmX5_89 loX5_isThere) rfl rfl rfl (by decide +kernel) ⟨by decide, by decide⟩ ⟨Nat.zero_le _, Nat.zero_le _⟩ hd rfl) ?_
  refine aI_c (fun hd => s_if_ne hX hd (by decide) rfl) ?_
  refine aI_c (fun hd => s_bp hX hd (by decide) rfl) ?_
  refine aI_c (fun hd => s_ri hX hr hlk hE hd) ?_
  refine aI_c (fun hd => s_il_n hX hd rfl rfl) ?_
  refine aI_c (fun hd => s_ii hX hd (by decide) rfl) ?_
  refine aI_c (fun hd => s_ii hX hd (by decide) rfl) ?_
  refine aI_c (fun hd => s_cS hX (nX5_in l) (wg_S up lmX5_81 loX5_in) rfl rfl rfl (by decide +kernel) ⟨by decide, by decide⟩ ⟨Nat.zero_le _, Nat.zero_le _⟩ hd rfl) ?_
  refine aI_c (fun hd => s_if_eq hX hd (by decide) rfl) ?_
  refine aI_c (fun hd => s_al_n hX hd rfl rfl) ?_
  refine aI_c (fun hd => s_gF hX (C := RX5) (T := TX5) (N := 35) (k := 4) rfl (fun w h => up w (inlX5 w h)) (by decide) rfl rfl rfl (up _ lkX5_19) hd rfl) ?_
  refine aI_c (fun hd => s_ii hX hd (by decide) rfl) ?_
  refine aI_c (fun hd => s_il_n hX hd rfl rfl) ?_
  refine aI_c (fun hd => s_imul hX hd rfl) ?_
  refine aI_c (fun hd => s_il_n hX hd rfl rfl) ?_
  refine aI_c (fun hd => s_iadd hX hd rfl) ?_
  refine aI_c (fun hd => s_iald hX hd rfl) ?_
  refine aI_c (fun hd => s_go hX hd (by decide)) ?_
  refine aI_c (fun hd => s_il_n hX hd rfl rfl) ?_
  refine aI_c (fun hd => s_ii hX hd (by decide) rfl) ?_
  refine aI_c (fun hd => s_ic_ne hX hd (by decide) rfl) ?_
  refine aI_c (fun hd => s_al_n hX hd rfl rfl) ?_
  refine aI_c (fun hd => s_il_n hX hd rfl rfl) ?_
  refine aI_c (fun hd => s_cV hX (T := TX5) (N := 35) (nX5_whoMay l) rfl (wg_V up lmX5_189 loX5_whoMay) rfl rfl rfl (by decide +kernel) ⟨by decide, by decide⟩ ⟨Nat.zero_le _, Nat.zero_le _⟩ hd rfl) ?_
  refine aI_c (fun hd => s_go hX hd (by decide)) ?_
  refine aI_c (fun hd => s_bp hX hd (by decide) rfl) ?_
  refine aI_c (fun hd => s_ri hX hr hlk hE hd) ?_
  exact trivial

-- JudgesByLossModel.hearing(III)I
def tX5_hearing : aT := [
  (0, (.aload_n 0, 1), o_al 0 1),
  (1, (.iload_n 1, 1), o_il 1 2),
  (2, (.invokevirtual 176, 3), o_cV CX5_isOne 5 1 5),
  (5, (.ifCond .ne 6, 3), o_if (fun x => ¬ x = 0) 11 8),
  (8, (.bipush (-5), 2), o_ii (-5) 10),
  (10, (.ireturn, 1), o_ri),
  (11, (.aload_n 0, 1), o_al 0 12),
  (12, (.iload_n 2, 1), o_il 2 13),
  (13, (.invokevirtual 89, 3), o_cV CX5_isThere 5 1 16),
  (16, (.ifCond .ne 6, 3), o_if (fun x => ¬ x = 0) 22 19),
  (19, (.bipush (-6), 2), o_ii (-6) 21),
  (21, (.ireturn, 1), o_ri),
  (22, (.iload_n 3, 1), o_il 3 23),
  (23, (.tableswitch 58 0 2 #[25, 40, 47], 25), o_sw [(0, 48), (1, 63), (2, 70)] 81),
  (48, (.aload_n 0, 1), o_al 0 49),
  (49, (.iload_n 1, 1), o_il 1 50),
  (50, (.iload_n 2, 1), o_il 2 51),
  (51, (.invokevirtual 182, 3), o_cV CX5_may 5 2 54),
  (54, (.ifCond .eq 7, 3), o_if (fun x => x = 0) 61 57),
  (57, (.iconst 1, 1), o_ii 1 58),
  (58, (.goto 4, 3), o_go 62),
  (61, (.iconst 0, 1), o_ii 0 62),
  (62, (.ireturn, 1), o_ri),
  (63, (.aload_n 0, 1), o_al 0 64),
  (64, (.iload_n 1, 1), o_il 1 65),
  (65, (.iload_n 2, 1), o_il 2 66),
  (66, (.invokevirtual 192, 3), o_cV CX5_takesOf 5 2 69),
  (69, (.ireturn, 1), o_ri),
  (70, (.sipush 1000, 3), o_ii 1000 73),
  (73, (.aload_n 0, 1), o_al 0 74),
  (74, (.iload_n 1, 1), o_il 1 75),
  (75, (.iload_n 2, 1), o_il 2 76),
  (76, (.invokevirtual 195, 3), o_cV CX5_judgesOf 5 2 79),
  (79, (.iadd, 1), o_bi (fun x y => x + y) 80),
  (80, (.ireturn, 1), o_ri),
  (81, (.bipush (-7), 2), o_ii (-7) 83),
  (83, (.ireturn, 1), o_ri)]
abbrev CX5_hearing : aC := aCl tX5_hearing 4
def rmX5_hearing : Room := { frames := 5, cells := 0, slots := 0, locals := 97 }
set_option maxRecDepth 100000 in
theorem dX5_hearing : tX5_hearing.all (fun q => decide (decode cX5_hearing q.1 = .ok q.2.1)) = true := by decide +kernel
set_option maxRecDepth 100000 in
set_option maxHeartbeats 4000000 in
theorem nX5_hearing (l : Launch) : aMt l yX5_hearing (Cond.code yX5_hearing cX5_hearing 4 (some .int) :: wsL_law) rmX5_hearing CX5_hearing := by
  refine aMt.of (own := RX5) (cc := cX5_hearing) (maxL := 4) (ret := (some .int)) (by decide +kernel) rfl rfl ?_
  intro p e s m args below meth c Qc D Z ad P G A E hX hr hlk hE
  have up : ∀ w ∈ wsL_law, w ∈ (Cond.code yX5_hearing cX5_hearing 4 (some .int) :: wsL_law) := fun w h => List.mem_cons_of_mem _ h
  refine aImp_all _ dX5_hearing ?_
  unfold tX5_hearing
  refine aI_c (fun hd => s_al_n hX hd rfl rfl) ?_
  refine aI_c (fun hd => s_il_n hX hd rfl rfl) ?_
  refine aI_c (fun hd => s_cV hX (T := TX5) (N := 35) (nX5_isOne l) rfl (wg_V up lmX5_176 loX5_isOne) rfl rfl rfl (by decide +kernel) ⟨by decide, by decide⟩ ⟨Nat.zero_le _, Nat.zero_le _⟩ hd rfl) ?_
  refine aI_c (fun hd => s_if_ne hX hd (by decide) rfl) ?_
  refine aI_c (fun hd => s_bp hX hd (by decide) rfl) ?_
  refine aI_c (fun hd => s_ri hX hr hlk hE hd) ?_
  refine aI_c (fun hd => s_al_n hX hd rfl rfl) ?_
  refine aI_c (fun hd => s_il_n hX hd rfl rfl) ?_
  refine aI_c (fun hd => s_cV hX (T := TX5) (N := 35) (nX5_isThere l) rfl (wg_V up lmX5_89 loX5_isThere) rfl rfl rfl (by decide +kernel) ⟨by decide, by decide⟩ ⟨Nat.zero_le _, Nat.zero_le _⟩ hd rfl) ?_
  refine aI_c (fun hd => s_if_ne hX hd (by decide) rfl) ?_
  refine aI_c (fun hd => s_bp hX hd (by decide) rfl) ?_
  refine aI_c (fun hd => s_ri hX hr hlk hE hd) ?_
  refine aI_c (fun hd => s_il_n hX hd rfl rfl) ?_
  refine aI_c (fun hd => s_sw hX hd (by decide) (by decide +kernel)) ?_
  refine aI_c (fun hd => s_al_n hX hd rfl rfl) ?_
  refine aI_c (fun hd => s_il_n hX hd rfl rfl) ?_
  refine aI_c (fun hd => s_il_n hX hd rfl rfl) ?_
  refine aI_c (fun hd => s_cV hX (T := TX5) (N := 35) (nX5_may l) rfl (wg_V up lmX5_182 loX5_may) rfl rfl rfl (by decide +kernel) ⟨by decide, by decide⟩ ⟨Nat.zero_le _, Nat.zero_le _⟩ hd rfl) ?_
  refine aI_c (fun hd => s_if_eq hX hd (by decide) rfl) ?_
  refine aI_c (fun hd => s_ii hX hd (by decide) rfl) ?_
  refine aI_c (fun hd => s_go hX hd (by decide)) ?_
  refine aI_c (fun hd => s_ii hX hd (by decide) rfl) ?_
  refine aI_c (fun hd => s_ri hX hr hlk hE hd) ?_
  refine aI_c (fun hd => s_al_n hX hd rfl rfl) ?_
  refine aI_c (fun hd => s_il_n hX hd rfl rfl) ?_
  refine aI_c (fun hd => s_il_n hX hd rfl rfl) ?_
  refine aI_c (fun hd => s_cV hX (T := TX5) (N := 35) (nX5_takesOf l) rfl (wg_V up lmX5_192 loX5_takesOf) rfl rfl rfl (by decide +kernel) ⟨by decide, by decide⟩ ⟨Nat.zero_le _, Nat.zero_le _⟩ hd rfl) ?_
  refine aI_c (fun hd => s_ri hX hr hlk hE hd) ?_
  refine aI_c (fun hd => s_sp hX hd (by decide) rfl) ?_
  refine aI_c (fun hd => s_al_n hX hd rfl rfl) ?_
  refine aI_c (fun hd => s_il_n hX hd rfl rfl) ?_
  refine aI_c (fun hd => s_il_n hX hd rfl rfl) ?_
  refine aI_c (fun hd => s_cV hX (T := TX5) (N := 35) (nX5_judgesOf l) rfl (wg_V up lmX5_195 loX5_judgesOf) rfl rfl rfl (by decide +kernel) ⟨by decide, by decide⟩ ⟨Nat.zero_le _, Nat.zero_le _⟩ hd rfl) ?_
  refine aI_c (fun hd => s_iadd hX hd rfl) ?_
  refine aI_c (fun hd => s_ri hX hr hlk hE hd) ?_
  refine aI_c (fun hd => s_bp hX hd (by decide) rfl) ?_
  refine aI_c (fun hd => s_ri hX hr hlk hE hd) ?_
  exact trivial

-- JudgesByLossModel.can(II)Z
def tX5_can : aT := [
  (0, (.aload_n 0, 1), o_al 0 1),
  (1, (.getfield 16, 3), o_gF 5 3 4),
  (4, (.iconst 3, 1), o_ii 3 5),
  (5, (.iload_n 1, 1), o_il 1 6),
  (6, (.imul, 1), o_bi (fun x y => x * y) 7),
  (7, (.iconst 2, 1), o_ii 2 8),
  (8, (.iadd, 1), o_bi (fun x y => x + y) 9),
  (9, (.iaload, 1), o_iald 10),
  (10, (.ifCond .ne 16, 3), o_if (fun x => ¬ x = 0) 26 13),
  (13, (.aload_n 0, 1), o_al 0 14),
  (14, (.iload_n 1, 1), o_il 1 15),
  (15, (.iload_n 2, 1), o_il 2 16),
  (16, (.invokevirtual 182, 3), o_cV CX5_may 5 2 19),
  (19, (.ifCond .eq 7, 3), o_if (fun x => x = 0) 26 22),
  (22, (.iconst 1, 1), o_ii 1 23),
  (23, (.goto 4, 3), o_go 27),
  (26, (.iconst 0, 1), o_ii 0 27),
  (27, (.ireturn, 1), o_rz)]
abbrev CX5_can : aC := aCl tX5_can 3
def rmX5_can : Room := { frames := 5, cells := 0, slots := 0, locals := 97 }
set_option maxRecDepth 100000 in
theorem dX5_can : tX5_can.all (fun q => decide (decode cX5_can q.1 = .ok q.2.1)) = true := by decide +kernel
set_option maxRecDepth 100000 in
set_option maxHeartbeats 4000000 in
theorem nX5_can (l : Launch) : aMt l yX5_can (Cond.code yX5_can cX5_can 3 (some .boolean) :: wsL_law) rmX5_can CX5_can := by
  refine aMt.of (own := RX5) (cc := cX5_can) (maxL := 3) (ret := (some .boolean)) (by decide +kernel) rfl rfl ?_
  intro p e s m args below meth c Qc D Z ad P G A E hX hr hlk hE
  have up : ∀ w ∈ wsL_law, w ∈ (Cond.code yX5_can cX5_can 3 (some .boolean) :: wsL_law) := fun w h => List.mem_cons_of_mem _ h
  refine aImp_all _ dX5_can ?_
  unfold tX5_can
  refine aI_c (fun hd => s_al_n hX hd rfl rfl) ?_
  refine aI_c (fun hd => s_gF hX (C := RX5) (T := TX5) (N := 35) (k := 3) rfl (fun w h => up w (inlX5 w h)) (by decide) rfl rfl rfl (up _ lkX5_16) hd rfl) ?_
  refine aI_c (fun hd => s_ii hX hd (by decide) rfl) ?_
  refine aI_c (fun hd => s_il_n hX hd rfl rfl) ?_
  refine aI_c (fun hd => s_imul hX hd rfl) ?_
  refine aI_c (fun hd => s_ii hX hd (by decide) rfl) ?_
  refine aI_c (fun hd => s_iadd hX hd rfl) ?_
  refine aI_c (fun hd => s_iald hX hd rfl) ?_
  refine aI_c (fun hd => s_if_ne hX hd (by decide) rfl) ?_
  refine aI_c (fun hd => s_al_n hX hd rfl rfl) ?_
  refine aI_c (fun hd => s_il_n hX hd rfl rfl) ?_
  refine aI_c (fun hd => s_il_n hX hd rfl rfl) ?_
  refine aI_c (fun hd => s_cV hX (T := TX5) (N := 35) (nX5_may l) rfl (wg_V up lmX5_182 loX5_may) rfl rfl rfl (by decide +kernel) ⟨by decide, by decide⟩ ⟨Nat.zero_le _, Nat.zero_le _⟩ hd rfl) ?_
  refine aI_c (fun hd => s_if_eq hX hd (by decide) rfl) ?_
  refine aI_c (fun hd => s_ii hX hd (by decide) rfl) ?_
  refine aI_c (fun hd => s_go hX hd (by decide)) ?_
  refine aI_c (fun hd => s_ii hX hd (by decide) rfl) ?_
  refine aI_c (fun hd => s_rz hX hr hlk hE hd) ?_
  exact trivial

-- JudgesByLossModel.hears(II)I
def tX5_hears : aT := [
  (0, (.aload_n 0, 1), o_al 0 1),
  (1, (.iload_n 1, 1), o_il 1 2),
  (2, (.iload_n 2, 1), o_il 2 3),
  (3, (.invokevirtual 195, 3), o_cV CX5_judgesOf 5 2 6),
  (6, (.istore_n 3, 1), o_is 3 7),
  (7, (.aload_n 0, 1), o_al 0 8),
  (8, (.iload_n 1, 1), o_il 1 9),
  (9, (.iload_n 2, 1), o_il 2 10),
  (10, (.invokevirtual 192, 3), o_cV CX5_takesOf 5 2 13),
  (13, (.istore 4, 2), o_is 4 15),
  (15, (.aload_n 0, 1), o_al 0 16),
  (16, (.getfield 16, 3), o_gF 5 3 19),
  (19, (.iconst 3, 1), o_ii 3 20),
  (20, (.iload_n 1, 1), o_il 1 21),
  (21, (.imul, 1), o_bi (fun x y => x * y) 22),
  (22, (.iaload, 1), o_iald 23),
  (23, (.aload_n 0, 1), o_al 0 24),
  (24, (.getfield 19, 3), o_gF 5 4 27),
  (27, (.iconst 3, 1), o_ii 3 28),
  (28, (.iload_n 2, 1), o_il 2 29),
  (29, (.imul, 1), o_bi (fun x y => x * y) 30),
  (30, (.iaload, 1), o_iald 31),
  (31, (.iand, 1), o_bi (fun x y => x &&& y) 32),
  (32, (.istore 5, 2), o_is 5 34),
  (34, (.aload_n 0, 1), o_al 0 35),
  (35, (.getfield 16, 3), o_gF 5 3 38),
  (38, (.iconst 3, 1), o_ii 3 39),
  (39, (.iload_n 1, 1), o_il 1 40),
  (40, (.imul, 1), o_bi (fun x y => x * y) 41),
  (41, (.iconst 2, 1), o_ii 2 42),
  (42, (.iadd, 1), o_bi (fun x y => x + y) 43),
  (43, (.iload 4, 2), o_il 4 45),
  (45, (.iastore, 1), o_iast 46),
  (46, (.aload_n 0, 1), o_al 0 47),
  (47, (.getfield 16, 3), o_gF 5 3 50),
  (50, (.iconst 3, 1), o_ii 3 51),
  (51, (.iload_n 1, 1), o_il 1 52),
  (52, (.imul, 1), o_bi (fun x y => x * y) 53),
  (53, (.dup2, 1), o_dup2 54),
  (54, (.iaload, 1), o_iald 55),
  (55, (.iload 5, 2), o_il 5 57),
  (57, (.iload 5, 2), o_il 5 59),
  (59, (.ineg, 1), o_ui (fun x => -x) 60),
  (60, (.iand, 1), o_bi (fun x y => x &&& y) 61),
  (61, (.iconst (-1), 1), o_ii (-1) 62),
  (62, (.ixor, 1), o_bi (fun x y => x ^^^ y) 63),
  (63, (.iand, 1), o_bi (fun x y => x &&& y) 64),
  (64, (.iastore, 1), o_iast 65),
  (65, (.aload_n 0, 1), o_al 0 66),
  (66, (.getfield 16, 3), o_gF 5 3 69),
  (69, (.iconst 3, 1), o_ii 3 70),
  (70, (.iload_n 1, 1), o_il 1 71),
  (71, (.imul, 1), o_bi (fun x y => x * y) 72),
  (72, (.iconst 1, 1), o_ii 1 73),
  (73, (.iadd, 1), o_bi (fun x y => x + y) 74),
  (74, (.aload_n 0, 1), o_al 0 75),
  (75, (.getfield 16, 3), o_gF 5 3 78),
  (78, (.iconst 3, 1), o_ii 3 79),
  (79, (.iload_n 1, 1), o_il 1 80),
  (80, (.imul, 1), o_bi (fun x y => x * y) 81),
  (81, (.iconst 1, 1), o_ii 1 82),
  (82, (.iadd, 1), o_bi (fun x y => x + y) 83),
  (83, (.iaload, 1), o_iald 84),
  (84, (.iload_n 3, 1), o_il 3 85),
  (85, (.iadd, 1), o_bi (fun x y => x + y) 86),
  (86, (.iconst 0, 1), o_ii 0 87),
  (87, (.bipush 99, 2), o_ii 99 89),
  (89, (.invokestatic 85, 3), o_cS CX5_within 3 92),
  (92, (.iastore, 1), o_iast 93),
  (93, (.aload_n 0, 1), o_al 0 94),
  (94, (.getfield 19, 3), o_gF 5 4 97),
  (97, (.iconst 3, 1), o_ii 3 98),
  (98, (.iload_n 2, 1), o_il 2 99),
  (99, (.imul, 1), o_bi (fun x y => x * y) 100),
  (100, (.iconst 0, 1), o_ii 0 101),
  (101, (.iastore, 1), o_iast 102),
  (102, (.aload_n 0, 1), o_al 0 103),
  (103, (.aload_n 0, 1), o_al 0 104),
  (104, (.getfield 100, 3), o_gI 5 6 107),
  (107, (.iconst 1, 1), o_ii 1 108),
  (108, (.iadd, 1), o_bi (fun x y => x + y) 109),
  (109, (.iconst 0, 1), o_ii 0 110),
  (110, (.sipush 999, 3), o_ii 999 113),
  (113, (.invokestatic 85, 3), o_cS CX5_within 3 116),
  (116, (.putfield 100, 3), o_pI 5 6 119),
  (119, (.iload_n 3, 1), o_il 3 120),
  (120, (.ireturn, 1), o_ri)]
abbrev CX5_hears : aC := aCl tX5_hears 6
def rmX5_hears : Room := { frames := 5, cells := 0, slots := 0, locals := 94 }
set_option maxRecDepth 100000 in
theorem dX5_hears : tX5_hears.all (fun q => decide (decode cX5_hears q.1 = .ok q.2.1)) = true := by decide +kernel
set_option maxRecDepth 100000 in
set_option maxHeartbeats 4000000 in
theorem nX5_hears (l : Launch) : aMt l yX5_hears (Cond.code yX5_hears cX5_hears 6 (some .int) :: wsL_law) rmX5_hears CX5_hears := by
  refine aMt.of (own := RX5) (cc := cX5_hears) (maxL := 6) (ret := (some .int)) (by decide +kernel) rfl rfl ?_
  intro p e s m args below meth c Qc D Z ad P G A E hX hr hlk hE
  have up : ∀ w ∈ wsL_law, w ∈ (Cond.code yX5_hears cX5_hears 6 (some .int) :: wsL_law) := fun w h => List.mem_cons_of_mem _ h
  refine aImp_all _ dX5_hears ?_
  unfold tX5_hears
  refine aI_c (fun hd => s_al_n hX hd rfl rfl) ?_
  refine aI_c (fun hd => s_il_n hX hd rfl rfl) ?_
  refine aI_c (fun hd => s_il_n hX hd rfl rfl) ?_
  refine aI_c (fun hd => s_cV hX (T := TX5) (N := 35) (nX5_judgesOf l) rfl (wg_V up lmX5_195 loX5_judgesOf) rfl rfl rfl (by decide +kernel) ⟨by decide, by decide⟩ ⟨Nat.zero_le _, Nat.zero_le _⟩ hd rfl) ?_
  refine aI_c (fun hd => s_is_n hX hd rfl rfl (by decide)) ?_
  refine aI_c (fun hd => s_al_n hX hd rfl rfl) ?_
  refine aI_c (fun hd => s_il_n hX hd rfl rfl) ?_
  refine aI_c (fun hd => s_il_n hX hd rfl rfl) ?_
  refine aI_c (fun hd => s_cV hX (T := TX5) (N := 35) (nX5_takesOf l) rfl (wg_V up lmX5_192 loX5_takesOf) rfl rfl rfl (by decide +kernel) ⟨by decide, by decide⟩ ⟨Nat.zero_le _, Nat.zero_le _⟩ hd rfl) ?_
  refine aI_c (fun hd => s_is hX hd rfl (by decide)) ?_
  refine aI_c (fun hd => s_al_n hX hd rfl rfl) ?_
  refine aI_c (fun hd => s_gF hX (C := RX5) (T := TX5) (N := 35) (k := 3) rfl (fun w h => up w (inlX5 w h)) (by decide) rfl rfl rfl (up _ lkX5_16) hd rfl) ?_
  refine aI_c (fun hd => s_ii hX hd (by decide) rfl) ?_
  refine aI_c (fun hd => s_il_n hX hd rfl rfl) ?_
  refine aI_c (fun hd => s_imul hX hd rfl) ?_
  refine aI_c (fun hd => s_iald hX hd rfl) ?_
  refine aI_c (fun hd => s_al_n hX hd rfl rfl) ?_
  refine aI_c (fun hd => s_gF hX (C := RX5) (T := TX5) (N := 35) (k := 4) rfl (fun w h => up w (inlX5 w h)) (by decide) rfl rfl rfl (up _ lkX5_19) hd rfl) ?_
  refine aI_c (fun hd => s_ii hX hd (by decide) rfl) ?_
  refine aI_c (fun hd => s_il_n hX hd rfl rfl) ?_
  refine aI_c (fun hd => s_imul hX hd rfl) ?_
  refine aI_c (fun hd => s_iald hX hd rfl) ?_
  refine aI_c (fun hd => s_iand hX hd rfl) ?_
  refine aI_c (fun hd => s_is hX hd rfl (by decide)) ?_
  refine aI_c (fun hd => s_al_n hX hd rfl rfl) ?_
  refine aI_c (fun hd => s_gF hX (C := RX5) (T := TX5) (N := 35) (k := 3) rfl (fun w h => up w (inlX5 w h)) (by decide) rfl rfl rfl (up _ lkX5_16) hd rfl) ?_
  refine aI_c (fun hd => s_ii hX hd (by decide) rfl) ?_
  refine aI_c (fun hd => s_il_n hX hd rfl rfl) ?_
  refine aI_c (fun hd => s_imul hX hd rfl) ?_
  refine aI_c (fun hd => s_ii hX hd (by decide) rfl) ?_
  refine aI_c (fun hd => s_iadd hX hd rfl) ?_
  refine aI_c (fun hd => s_il hX hd rfl) ?_
  refine aI_c (fun hd => s_iast hX hd rfl) ?_
  refine aI_c (fun hd => s_al_n hX hd rfl rfl) ?_
  refine aI_c (fun hd => s_gF hX (C := RX5) (T := TX5) (N := 35) (k := 3) rfl (fun w h => up w (inlX5 w h)) (by decide) rfl rfl rfl (up _ lkX5_16) hd rfl) ?_
  refine aI_c (fun hd => s_ii hX hd (by decide) rfl) ?_
  refine aI_c (fun hd => s_il_n hX hd rfl rfl) ?_
  refine aI_c (fun hd => s_imul hX hd rfl) ?_
  refine aI_c (fun hd => s_dup2 hX hd rfl) ?_
  refine aI_c (fun hd => s_iald hX hd rfl) ?_
  refine aI_c (fun hd => s_il hX hd rfl) ?_
  refine aI_c (fun hd => s_il hX hd rfl) ?_
  refine aI_c (fun hd => s_ineg hX hd rfl) ?_
  refine aI_c (fun hd => s_iand hX hd rfl) ?_
  refine aI_c (fun hd => s_ii hX hd (by decide) rfl) ?_
  refine aI_c (fun hd => s_ixor hX hd rfl) ?_
  refine aI_c (fun hd => s_iand hX hd rfl) ?_
  refine aI_c (fun hd => s_iast hX hd rfl) ?_
  refine aI_c (fun hd => s_al_n hX hd rfl rfl) ?_
  refine aI_c (fun hd => s_gF hX (C := RX5) (T := TX5) (N := 35) (k := 3) rfl (fun w h => up w (inlX5 w h)) (by decide) rfl rfl rfl (up _ lkX5_16) hd rfl) ?_
  refine aI_c (fun hd => s_ii hX hd (by decide) rfl) ?_
  refine aI_c (fun hd => s_il_n hX hd rfl rfl) ?_
  refine aI_c (fun hd => s_imul hX hd rfl) ?_
  refine aI_c (fun hd => s_ii hX hd (by decide) rfl) ?_
  refine aI_c (fun hd => s_iadd hX hd rfl) ?_
  refine aI_c (fun hd => s_al_n hX hd rfl rfl) ?_
  refine aI_c (fun hd => s_gF hX (C := RX5) (T := TX5) (N := 35) (k := 3) rfl (fun w h => up w (inlX5 w h)) (by decide) rfl rfl rfl (up _ lkX5_16) hd rfl) ?_
  refine aI_c (fun hd => s_ii hX hd (by decide) rfl) ?_
  refine aI_c (fun hd => s_il_n hX hd rfl rfl) ?_
  refine aI_c (fun hd => s_imul hX hd rfl) ?_
  refine aI_c (fun hd => s_ii hX hd (by decide) rfl) ?_
  refine aI_c (fun hd => s_iadd hX hd rfl) ?_
  refine aI_c (fun hd => s_iald hX hd rfl) ?_
  refine aI_c (fun hd => s_il_n hX hd rfl rfl) ?_
  refine aI_c (fun hd => s_iadd hX hd rfl) ?_
  refine aI_c (fun hd => s_ii hX hd (by decide) rfl) ?_
  refine aI_c (fun hd => s_bp hX hd (by decide) rfl) ?_
  refine aI_c (fun hd => s_cS hX (nX5_within l) (wg_S up lmX5_85 loX5_within) rfl rfl rfl (by decide +kernel) ⟨by decide, by decide⟩ ⟨Nat.zero_le _, Nat.zero_le _⟩ hd rfl) ?_
  refine aI_c (fun hd => s_iast hX hd rfl) ?_
  refine aI_c (fun hd => s_al_n hX hd rfl rfl) ?_
  refine aI_c (fun hd => s_gF hX (C := RX5) (T := TX5) (N := 35) (k := 4) rfl (fun w h => up w (inlX5 w h)) (by decide) rfl rfl rfl (up _ lkX5_19) hd rfl) ?_
  refine aI_c (fun hd => s_ii hX hd (by decide) rfl) ?_
  refine aI_c (fun hd => s_il_n hX hd rfl rfl) ?_
  refine aI_c (fun hd => s_imul hX hd rfl) ?_
  refine aI_c (fun hd => s_ii hX hd (by decide) rfl) ?_
  refine aI_c (fun hd => s_iast hX hd rfl) ?_
  refine aI_c (fun hd => s_al_n hX hd rfl rfl) ?_
  refine aI_c (fun hd => s_al_n hX hd rfl rfl) ?_
  refine aI_c (fun hd => s_gI hX (C := RX5) (T := TX5) (N := 35) (k := 6) rfl (fun w h => up w (inlX5 w h)) (by decide) rfl rfl rfl (up _ lkX5_100) hd rfl) ?_
  refine aI_c (fun hd => s_ii hX hd (by decide) rfl) ?_
  refine aI_c (fun hd => s_iadd hX hd rfl) ?_
  refine aI_c (fun hd => s_ii hX hd (by decide) rfl) ?_
  refine aI_c (fun hd => s_sp hX hd (by decide) rfl) ?_
  refine aI_c (fun hd => s_cS hX (nX5_within l) (wg_S up lmX5_85 loX5_within) rfl rfl rfl (by decide +kernel) ⟨by decide, by decide⟩ ⟨Nat.zero_le _, Nat.zero_le _⟩ hd rfl) ?_
  refine aI_c (fun hd => s_pI hX (C := RX5) (T := TX5) (N := 35) (k := 6) rfl (fun w h => up w (inlX5 w h)) (by decide) rfl rfl tyX5 tyX5_ok nmX5 rfl rfl rfl (up _ lkX5_100) hd rfl) ?_
  refine aI_c (fun hd => s_il_n hX hd rfl rfl) ?_
  refine aI_c (fun hd => s_ri hX hr hlk hE hd) ?_
  exact trivial

-- JudgesByLossModel.hear(II)I
def tX5_hear : aT := [
  (0, (.aload_n 0, 1), o_al 0 1),
  (1, (.iload_n 1, 1), o_il 1 2),
  (2, (.invokevirtual 176, 3), o_cV CX5_isOne 5 1 5),
  (5, (.ifCond .ne 6, 3), o_if (fun x => ¬ x = 0) 11 8),
  (8, (.bipush (-5), 2), o_ii (-5) 10),
  (10, (.ireturn, 1), o_ri),
  (11, (.aload_n 0, 1), o_al 0 12),
  (12, (.iload_n 2, 1), o_il 2 13),
  (13, (.invokevirtual 89, 3), o_cV CX5_isThere 5 1 16),
  (16, (.ifCond .ne 6, 3), o_if (fun x => ¬ x = 0) 22 19),
  (19, (.bipush (-6), 2), o_ii (-6) 21),
  (21, (.ireturn, 1), o_ri),
  (22, (.aload_n 0, 1), o_al 0 23),
  (23, (.iload_n 1, 1), o_il 1 24),
  (24, (.iload_n 2, 1), o_il 2 25),
  (25, (.invokevirtual 198, 3), o_cV CX5_can 5 2 28),
  (28, (.ifCond .eq 16, 3), o_if (fun x => x = 0) 44 31),
  (31, (.sipush 1000, 3), o_ii 1000 34),
  (34, (.aload_n 0, 1), o_al 0 35),
  (35, (.iload_n 1, 1), o_il 1 36),
  (36, (.iload_n 2, 1), o_il 2 37),
  (37, (.invokevirtual 201, 3), o_cV CX5_hears 5 2 40),
  (40, (.iadd, 1), o_bi (fun x y => x + y) 41),
  (41, (.goto 5, 3), o_go 46),
  (44, (.bipush (-3), 2), o_ii (-3) 46),
  (46, (.ireturn, 1), o_ri)]
abbrev CX5_hear : aC := aCl tX5_hear 3
def rmX5_hear : Room := { frames := 6, cells := 0, slots := 0, locals := 119 }
set_option maxRecDepth 100000 in
theorem dX5_hear : tX5_hear.all (fun q => decide (decode cX5_hear q.1 = .ok q.2.1)) = true := by decide +kernel
set_option maxRecDepth 100000 in
set_option maxHeartbeats 4000000 in
theorem nX5_hear (l : Launch) : aMt l yX5_hear (Cond.code yX5_hear cX5_hear 3 (some .int) :: wsL_law) rmX5_hear CX5_hear := by
  refine aMt.of (own := RX5) (cc := cX5_hear) (maxL := 3) (ret := (some .int)) (by decide +kernel) rfl rfl ?_
  intro p e s m args below meth c Qc D Z ad P G A E hX hr hlk hE
  have up : ∀ w ∈ wsL_law, w ∈ (Cond.code yX5_hear cX5_hear 3 (some .int) :: wsL_law) := fun w h => List.mem_cons_of_mem _ h
  refine aImp_all _ dX5_hear ?_
  unfold tX5_hear
  refine aI_c (fun hd => s_al_n hX hd rfl rfl) ?_
  refine aI_c (fun hd => s_il_n hX hd rfl rfl) ?_
  refine aI_c (fun hd => s_cV hX (T := TX5) (N := 35) (nX5_isOne l) rfl (wg_V up lmX5_176 loX5_isOne) rfl rfl rfl (by decide +kernel) ⟨by decide, by decide⟩ ⟨Nat.zero_le _, Nat.zero_le _⟩ hd rfl) ?_
  refine aI_c (fun hd => s_if_ne hX hd (by decide) rfl) ?_
  refine aI_c (fun hd => s_bp hX hd (by decide) rfl) ?_
  refine aI_c (fun hd => s_ri hX hr hlk hE hd) ?_
  refine aI_c (fun hd => s_al_n hX hd rfl rfl) ?_
  refine aI_c (fun hd => s_il_n hX hd rfl rfl) ?_
  refine aI_c (fun hd => s_cV hX (T := TX5) (N := 35) (nX5_isThere l) rfl (wg_V up lmX5_89 loX5_isThere) rfl rfl rfl (by decide +kernel) ⟨by decide, by decide⟩ ⟨Nat.zero_le _, Nat.zero_le _⟩ hd rfl) ?_
  refine aI_c (fun hd => s_if_ne hX hd (by decide) rfl) ?_
  refine aI_c (fun hd => s_bp hX hd (by decide) rfl) ?_
  refine aI_c (fun hd => s_ri hX hr hlk hE hd) ?_
  refine aI_c (fun hd => s_al_n hX hd rfl rfl) ?_
  refine aI_c (fun hd => s_il_n hX hd rfl rfl) ?_
  refine aI_c (fun hd => s_il_n hX hd rfl rfl) ?_
  refine aI_c (fun hd => s_cV hX (T := TX5) (N := 35) (nX5_can l) rfl (wg_V up lmX5_198 loX5_can) rfl rfl rfl (by decide +kernel) ⟨by decide, by decide⟩ ⟨Nat.zero_le _, Nat.zero_le _⟩ hd rfl) ?_
  refine aI_c (fun hd => s_if_eq hX hd (by decide) rfl) ?_
  refine aI_c (fun hd => s_sp hX hd (by decide) rfl) ?_
  refine aI_c (fun hd => s_al_n hX hd rfl rfl) ?_
  refine aI_c (fun hd => s_il_n hX hd rfl rfl) ?_
  refine aI_c (fun hd => s_il_n hX hd rfl rfl) ?_
  refine aI_c (fun hd => s_cV hX (T := TX5) (N := 35) (nX5_hears l) rfl (wg_V up lmX5_201 loX5_hears) rfl rfl rfl (by decide +kernel) ⟨by decide, by decide⟩ ⟨Nat.zero_le _, Nat.zero_le _⟩ hd rfl) ?_
  refine aI_c (fun hd => s_iadd hX hd rfl) ?_
  refine aI_c (fun hd => s_go hX hd (by decide)) ?_
  refine aI_c (fun hd => s_bp hX hd (by decide) rfl) ?_
  refine aI_c (fun hd => s_ri hX hr hlk hE hd) ?_
  exact trivial

-- JudgesByLossModel.rob(II)I
def tX5_rob : aT := [
  (0, (.aload_n 0, 1), o_al 0 1),
  (1, (.iload_n 1, 1), o_il 1 2),
  (2, (.invokevirtual 176, 3), o_cV CX5_isOne 5 1 5),
  (5, (.ifCond .ne 6, 3), o_if (fun x => ¬ x = 0) 11 8),
  (8, (.bipush (-5), 2), o_ii (-5) 10),
  (10, (.ireturn, 1), o_ri),
  (11, (.iload_n 2, 1), o_il 2 12),
  (12, (.iconst 0, 1), o_ii 0 13),
  (13, (.sipush 1023, 3), o_ii 1023 16),
  (16, (.invokestatic 81, 3), o_cS CX5_in 3 19),
  (19, (.ifCond .ne 6, 3), o_if (fun x => ¬ x = 0) 25 22),
  (22, (.bipush (-7), 2), o_ii (-7) 24),
  (24, (.ireturn, 1), o_ri),
  (25, (.aload_n 0, 1), o_al 0 26),
  (26, (.getfield 16, 3), o_gF 5 3 29),
  (29, (.iconst 3, 1), o_ii 3 30),
  (30, (.iload_n 1, 1), o_il 1 31),
  (31, (.imul, 1), o_bi (fun x y => x * y) 32),
  (32, (.dup2, 1), o_dup2 33),
  (33, (.iaload, 1), o_iald 34),
  (34, (.iload_n 2, 1), o_il 2 35),
  (35, (.ixor, 1), o_bi (fun x y => x ^^^ y) 36),
  (36, (.iastore, 1), o_iast 37),
  (37, (.aload_n 0, 1), o_al 0 38),
  (38, (.getfield 16, 3), o_gF 5 3 41),
  (41, (.iconst 3, 1), o_ii 3 42),
  (42, (.iload_n 1, 1), o_il 1 43),
  (43, (.imul, 1), o_bi (fun x y => x * y) 44),
  (44, (.iaload, 1), o_iald 45),
  (45, (.ireturn, 1), o_ri)]
abbrev CX5_rob : aC := aCl tX5_rob 3
def rmX5_rob : Room := { frames := 3, cells := 0, slots := 0, locals := 44 }
set_option maxRecDepth 100000 in
theorem dX5_rob : tX5_rob.all (fun q => decide (decode cX5_rob q.1 = .ok q.2.1)) = true := by decide +kernel
set_option maxRecDepth 100000 in
set_option maxHeartbeats 4000000 in
theorem nX5_rob (l : Launch) : aMt l yX5_rob (Cond.code yX5_rob cX5_rob 3 (some .int) :: wsL_law) rmX5_rob CX5_rob := by
  refine aMt.of (own := RX5) (cc := cX5_rob) (maxL := 3) (ret := (some .int)) (by decide +kernel) rfl rfl ?_
  intro p e s m args below meth c Qc D Z ad P G A E hX hr hlk hE
  have up : ∀ w ∈ wsL_law, w ∈ (Cond.code yX5_rob cX5_rob 3 (some .int) :: wsL_law) := fun w h => List.mem_cons_of_mem _ h
  refine aImp_all _ dX5_rob ?_
  unfold tX5_rob
  refine aI_c (fun hd => s_al_n hX hd rfl rfl) ?_
  refine aI_c (fun hd => s_il_n hX hd rfl rfl) ?_
  refine aI_c (fun hd => s_cV hX (T := TX5) (N := 35) (nX5_isOne l) rfl (wg_V up lmX5_176 loX5_isOne) rfl rfl rfl (by decide +kernel) ⟨by decide, by decide⟩ ⟨Nat.zero_le _, Nat.zero_le _⟩ hd rfl) ?_
  refine aI_c (fun hd => s_if_ne hX hd (by decide) rfl) ?_
  refine aI_c (fun hd => s_bp hX hd (by decide) rfl) ?_
  refine aI_c (fun hd => s_ri hX hr hlk hE hd) ?_
  refine aI_c (fun hd => s_il_n hX hd rfl rfl) ?_
  refine aI_c (fun hd => s_ii hX hd (by decide) rfl) ?_
  refine aI_c (fun hd => s_sp hX hd (by decide) rfl) ?_
  refine aI_c (fun hd => s_cS hX (nX5_in l) (wg_S up lmX5_81 loX5_in) rfl rfl rfl (by decide +kernel) ⟨by decide, by decide⟩ ⟨Nat.zero_le _, Nat.zero_le _⟩ hd rfl) ?_
  refine aI_c (fun hd => s_if_ne hX hd (by decide) rfl) ?_
  refine aI_c (fun hd => s_bp hX hd (by decide) rfl) ?_
  refine aI_c (fun hd => s_ri hX hr hlk hE hd) ?_
  refine aI_c (fun hd => s_al_n hX hd rfl rfl) ?_
  refine aI_c (fun hd => s_gF hX (C := RX5) (T := TX5) (N := 35) (k := 3) rfl (fun w h => up w (inlX5 w h)) (by decide) rfl rfl rfl (up _ lkX5_16) hd rfl) ?_
  refine aI_c (fun hd => s_ii hX hd (by decide) rfl) ?_
  refine aI_c (fun hd => s_il_n hX hd rfl rfl) ?_
  refine aI_c (fun hd => s_imul hX hd rfl) ?_
  refine aI_c (fun hd => s_dup2 hX hd rfl) ?_
  refine aI_c (fun hd => s_iald hX hd rfl) ?_
  refine aI_c (fun hd => s_il_n hX hd rfl rfl) ?_
  refine aI_c (fun hd => s_ixor hX hd rfl) ?_
  refine aI_c (fun hd => s_iast hX hd rfl) ?_
  refine aI_c (fun hd => s_al_n hX hd rfl rfl) ?_
  refine aI_c (fun hd => s_gF hX (C := RX5) (T := TX5) (N := 35) (k := 3) rfl (fun w h => up w (inlX5 w h)) (by decide) rfl rfl rfl (up _ lkX5_16) hd rfl) ?_
  refine aI_c (fun hd => s_ii hX hd (by decide) rfl) ?_
  refine aI_c (fun hd => s_il_n hX hd rfl rfl) ?_
  refine aI_c (fun hd => s_imul hX hd rfl) ?_
  refine aI_c (fun hd => s_iald hX hd rfl) ?_
  refine aI_c (fun hd => s_ri hX hr hlk hE hd) ?_
  exact trivial

-- JudgesByLossModel.isHeard(I)Z
def tX5_isHeard : aT := [
  (0, (.iconst 0, 1), o_ii 0 1),
  (1, (.istore_n 2, 1), o_is 2 2),
  (2, (.iload_n 2, 1), o_il 2 3),
  (3, (.aload_n 0, 1), o_al 0 4),
  (4, (.getfield 78, 3), o_gI 5 0 7),
  (7, (.if_icmp .ge 27, 3), o_ic (fun x y => y ≤ x) 34 10),
  (10, (.aload_n 0, 1), o_al 0 11),
  (11, (.iload_n 2, 1), o_il 2 12),
  (12, (.iload_n 1, 1), o_il 1 13),
  (13, (.invokevirtual 198, 3), o_cV CX5_can 5 2 16),
  (16, (.ifCond .eq 12, 3), o_if (fun x => x = 0) 28 19),
  (19, (.aload_n 0, 1), o_al 0 20),
  (20, (.iload_n 2, 1), o_il 2 21),
  (21, (.iload_n 1, 1), o_il 1 22),
  (22, (.invokevirtual 201, 3), o_cV CX5_hears 5 2 25),
  (25, (.pop, 1), o_pop 26),
  (26, (.iconst 1, 1), o_ii 1 27),
  (27, (.ireturn, 1), o_rz),
  (28, (.iinc 2 1, 3), o_inc 2 1 31),
  (31, (.goto (-29), 3), o_go 2),
  (34, (.iconst 0, 1), o_ii 0 35),
  (35, (.ireturn, 1), o_rz)]
abbrev CX5_isHeard : aC := aCl tX5_isHeard 3
def rmX5_isHeard : Room := { frames := 6, cells := 0, slots := 0, locals := 119 }
set_option maxRecDepth 100000 in
theorem dX5_isHeard : tX5_isHeard.all (fun q => decide (decode cX5_isHeard q.1 = .ok q.2.1)) = true := by decide +kernel
set_option maxRecDepth 100000 in
set_option maxHeartbeats 4000000 in
theorem nX5_isHeard (l : Launch) : aMt l yX5_isHeard (Cond.code yX5_isHeard cX5_isHeard 3 (some .boolean) :: wsL_law) rmX5_isHeard CX5_isHeard := by
  refine aMt.of (own := RX5) (cc := cX5_isHeard) (maxL := 3) (ret := (some .boolean)) (by decide +kernel) rfl rfl ?_
  intro p e s m args below meth c Qc D Z ad P G A E hX hr hlk hE
  have up : ∀ w ∈ wsL_law, w ∈ (Cond.code yX5_isHeard cX5_isHeard 3 (some .boolean) :: wsL_law) := fun w h => List.mem_cons_of_mem _ h
  refine aImp_all _ dX5_isHeard ?_
  unfold tX5_isHeard
  refine aI_c (fun hd => s_ii hX hd (by decide) rfl) ?_
  refine aI_c (fun hd => s_is_n hX hd rfl rfl (by decide)) ?_
  refine aI_c (fun hd => s_il_n hX hd rfl rfl) ?_
  refine aI_c (fun hd => s_al_n hX hd rfl rfl) ?_
  refine aI_c (fun hd => s_gI hX (C := RX5) (T := TX5) (N := 35) (k := 0) rfl (fun w h => up w (inlX5 w h)) (by decide) rfl rfl rfl (up _ lkX5_78) hd rfl) ?_
  refine aI_c (fun hd => s_ic_ge hX hd (by decide) rfl) ?_
  refine aI_c (fun hd => s_al_n hX hd rfl rfl) ?_
  refine aI_c (fun hd => s_il_n hX hd rfl rfl) ?_
  refine aI_c (fun hd => s_il_n hX hd rfl rfl) ?_
  refine aI_c (fun hd => s_cV hX (T := TX5) (N := 35) (nX5_can l) rfl (wg_V up lmX5_198 loX5_can) rfl rfl rfl (by decide +kernel) ⟨by decide, by decide⟩ ⟨Nat.zero_le _, Nat.zero_le _⟩ hd rfl) ?_
  refine aI_c (fun hd => s_if_eq hX hd (by decide) rfl) ?_
  refine aI_c (fun hd => s_al_n hX hd rfl rfl) ?_
  refine aI_c (fun hd => s_il_n hX hd rfl rfl) ?_
  refine aI_c (fun hd => s_il_n hX hd rfl rfl) ?_
  refine aI_c (fun hd => s_cV hX (T := TX5) (N := 35) (nX5_hears l) rfl (wg_V up lmX5_201 loX5_hears) rfl rfl rfl (by decide +kernel) ⟨by decide, by decide⟩ ⟨Nat.zero_le _, Nat.zero_le _⟩ hd rfl) ?_
  refine aI_c (fun hd => s_pop hX hd rfl) ?_
  refine aI_c (fun hd => s_ii hX hd (by decide) rfl) ?_
  refine aI_c (fun hd => s_rz hX hr hlk hE hd) ?_
  refine aI_c (fun hd => s_inc hX hd (by decide) rfl (by decide)) ?_
  refine aI_c (fun hd => s_go hX hd (by decide)) ?_
  refine aI_c (fun hd => s_ii hX hd (by decide) rfl) ?_
  refine aI_c (fun hd => s_rz hX hr hlk hE hd) ?_
  exact trivial

-- JudgesByLossModel.dayOf()I
def tX5_dayOf : aT := [
  (0, (.iconst 0, 1), o_ii 0 1),
  (1, (.istore_n 1, 1), o_is 1 2),
  (2, (.iconst 0, 1), o_ii 0 3),
  (3, (.istore_n 2, 1), o_is 2 4),
  (4, (.iload_n 2, 1), o_il 2 5),
  (5, (.aload_n 0, 1), o_al 0 6),
  (6, (.getfield 78, 3), o_gI 5 0 9),
  (9, (.if_icmp .ge 40, 3), o_ic (fun x y => y ≤ x) 49 12),
  (12, (.aload_n 0, 1), o_al 0 13),
  (13, (.getfield 16, 3), o_gF 5 3 16),
  (16, (.iconst 3, 1), o_ii 3 17),
  (17, (.iload_n 2, 1), o_il 2 18),
  (18, (.imul, 1), o_bi (fun x y => x * y) 19),
  (19, (.iconst 2, 1), o_ii 2 20),
  (20, (.iadd, 1), o_bi (fun x y => x + y) 21),
  (21, (.dup2, 1), o_dup2 22),
  (22, (.iaload, 1), o_iald 23),
  (23, (.aload_n 0, 1), o_al 0 24),
  (24, (.getfield 16, 3), o_gF 5 3 27),
  (27, (.iconst 3, 1), o_ii 3 28),
  (28, (.iload_n 2, 1), o_il 2 29),
  (29, (.imul, 1), o_bi (fun x y => x * y) 30),
  (30, (.iconst 2, 1), o_ii 2 31),
  (31, (.iadd, 1), o_bi (fun x y => x + y) 32),
  (32, (.iaload, 1), o_iald 33),
  (33, (.ifCond .le 7, 3), o_if (fun x => x ≤ 0) 40 36),
  (36, (.iconst 1, 1), o_ii 1 37),
  (37, (.goto 4, 3), o_go 41),
  (40, (.iconst 0, 1), o_ii 0 41),
  (41, (.isub, 1), o_bi (fun x y => x - y) 42),
  (42, (.iastore, 1), o_iast 43),
  (43, (.iinc 2 1, 3), o_inc 2 1 46),
  (46, (.goto (-42), 3), o_go 4),
  (49, (.iconst 0, 1), o_ii 0 50),
  (50, (.istore_n 2, 1), o_is 2 51),
  (51, (.iload_n 2, 1), o_il 2 52),
  (52, (.bipush 8, 2), o_ii 8 54),
  (54, (.if_icmp .ge 62, 3), o_ic (fun x y => y ≤ x) 116 57),
  (57, (.aload_n 0, 1), o_al 0 58),
  (58, (.iload_n 2, 1), o_il 2 59),
  (59, (.invokevirtual 89, 3), o_cV CX5_isThere 5 1 62),
  (62, (.ifCond .eq 48, 3), o_if (fun x => x = 0) 110 65),
  (65, (.aload_n 0, 1), o_al 0 66),
  (66, (.iload_n 2, 1), o_il 2 67),
  (67, (.invokevirtual 204, 3), o_cV CX5_isHeard 5 1 70),
  (70, (.ifCond .eq 12, 3), o_if (fun x => x = 0) 82 73),
  (73, (.iload_n 1, 1), o_il 1 74),
  (74, (.iconst 1, 1), o_ii 1 75),
  (75, (.iload_n 2, 1), o_il 2 76),
  (76, (.ishl, 1), o_bi (fun x y => x <<< (y &&& 31)) 77),
  (77, (.ior, 1), o_bi (fun x y => x ||| y) 78),
  (78, (.istore_n 1, 1), o_is 1 79),
  (79, (.goto 31, 3), o_go 110),
  (82, (.aload_n 0, 1), o_al 0 83),
  (83, (.getfield 19, 3), o_gF 5 4 86),
  (86, (.iconst 3, 1), o_ii 3 87),
  (87, (.iload_n 2, 1), o_il 2 88),
  (88, (.imul, 1), o_bi (fun x y => x * y) 89),
  (89, (.iconst 2, 1), o_ii 2 90),
  (90, (.iadd, 1), o_bi (fun x y => x + y) 91),
  (91, (.aload_n 0, 1), o_al 0 92),
  (92, (.getfield 19, 3), o_gF 5 4 95),
  (95, (.iconst 3, 1), o_ii 3 96),
  (96, (.iload_n 2, 1), o_il 2 97),
  (97, (.imul, 1), o_bi (fun x y => x * y) 98),
  (98, (.iconst 2, 1), o_ii 2 99),
  (99, (.iadd, 1), o_bi (fun x y => x + y) 100),
  (100, (.iaload, 1), o_iald 101),
  (101, (.iconst 1, 1), o_ii 1 102),
  (102, (.iadd, 1), o_bi (fun x y => x + y) 103),
  (103, (.iconst 0, 1), o_ii 0 104),
  (104, (.bipush 99, 2), o_ii 99 106),
  (106, (.invokestatic 85, 3), o_cS CX5_within 3 109),
  (109, (.iastore, 1), o_iast 110),
  (110, (.iinc 2 1, 3), o_inc 2 1 113),
  (113, (.goto (-62), 3), o_go 51),
  (116, (.aload_n 0, 1), o_al 0 117),
  (117, (.dup, 1), o_dup 118),
  (118, (.getfield 109, 3), o_gI 5 5 121),
  (121, (.iconst 1, 1), o_ii 1 122),
  (122, (.iadd, 1), o_bi (fun x y => x + y) 123),
  (123, (.putfield 109, 3), o_pI 5 5 126),
  (126, (.iload_n 1, 1), o_il 1 127),
  (127, (.ireturn, 1), o_ri)]
abbrev CX5_dayOf : aC := aCl tX5_dayOf 3
def rmX5_dayOf : Room := { frames := 7, cells := 0, slots := 0, locals := 141 }
set_option maxRecDepth 100000 in
theorem dX5_dayOf : tX5_dayOf.all (fun q => decide (decode cX5_dayOf q.1 = .ok q.2.1)) = true := by decide +kernel
set_option maxRecDepth 100000 in
set_option maxHeartbeats 4000000 in
theorem nX5_dayOf (l : Launch) : aMt l yX5_dayOf (Cond.code yX5_dayOf cX5_dayOf 3 (some .int) :: wsL_law) rmX5_dayOf CX5_dayOf := by
  refine aMt.of (own := RX5) (cc := cX5_dayOf) (maxL := 3) (ret := (some .int)) (by decide +kernel) rfl rfl ?_
  intro p e s m args below meth c Qc D Z ad P G A E hX hr hlk hE
  have up : ∀ w ∈ wsL_law, w ∈ (Cond.code yX5_dayOf cX5_dayOf 3 (some .int) :: wsL_law) := fun w h => List.mem_cons_of_mem _ h
  refine aImp_all _ dX5_dayOf ?_
  unfold tX5_dayOf
  refine aI_c (fun hd => s_ii hX hd (by decide) rfl) ?_
  refine aI_c (fun hd => s_is_n hX hd rfl rfl (by decide)) ?_
  refine aI_c (fun hd => s_ii hX hd (by decide) rfl) ?_
  refine aI_c (fun hd => s_is_n hX hd rfl rfl (by decide)) ?_
  refine aI_c (fun hd => s_il_n hX hd rfl rfl) ?_
  refine aI_c (fun hd => s_al_n hX hd rfl rfl) ?_
  refine aI_c (fun hd => s_gI hX (C := RX5) (T := TX5) (N := 35) (k := 0) rfl (fun w h => up w (inlX5 w h)) (by decide) rfl rfl rfl (up _ lkX5_78) hd rfl) ?_
  refine aI_c (fun hd => s_ic_ge hX hd (by decide) rfl) ?_
  refine aI_c (fun hd => s_al_n hX hd rfl rfl) ?_
  refine aI_c (fun hd => s_gF hX (C := RX5) (T := TX5) (N := 35) (k := 3) rfl (fun w h => up w (inlX5 w h)) (by decide) rfl rfl rfl (up _ lkX5_16) hd rfl) ?_
  refine aI_c (fun hd => s_ii hX hd (by decide) rfl) ?_
  refine aI_c (fun hd => s_il_n hX hd rfl rfl) ?_
  refine aI_c (fun hd => s_imul hX hd rfl) ?_
  refine aI_c (fun hd => s_ii hX hd (by decide) rfl) ?_
  refine aI_c (fun hd => s_iadd hX hd rfl) ?_
  refine aI_c (fun hd => s_dup2 hX hd rfl) ?_
  refine aI_c (fun hd => s_iald hX hd rfl) ?_
  refine aI_c (fun hd => s_al_n hX hd rfl rfl) ?_
  refine aI_c (fun hd => s_gF hX (C := RX5) (T := TX5) (N := 35) (k := 3) rfl (fun w h => up w (inlX5 w h)) (by decide) rfl rfl rfl (up _ lkX5_16) hd rfl) ?_
  refine aI_c (fun hd => s_ii hX hd (by decide) rfl) ?_
  refine aI_c (fun hd => s_il_n hX hd rfl rfl) ?_
  refine aI_c (fun hd => s_imul hX hd rfl) ?_
  refine aI_c (fun hd => s_ii hX hd (by decide) rfl) ?_
  refine aI_c (fun hd => s_iadd hX hd rfl) ?_
  refine aI_c (fun hd => s_iald hX hd rfl) ?_
  refine aI_c (fun hd => s_if_le hX hd (by decide) rfl) ?_
  refine aI_c (fun hd => s_ii hX hd (by decide) rfl) ?_
  refine aI_c (fun hd => s_go hX hd (by decide)) ?_
  refine aI_c (fun hd => s_ii hX hd (by decide) rfl) ?_
  refine aI_c (fun hd => s_isub hX hd rfl) ?_
  refine aI_c (fun hd => s_iast hX hd rfl) ?_
  refine aI_c (fun hd => s_inc hX hd (by decide) rfl (by decide)) ?_
  refine aI_c (fun hd => s_go hX hd (by decide)) ?_
  refine aI_c (fun hd => s_ii hX hd (by decide) rfl) ?_
  refine aI_c (fun hd => s_is_n hX hd rfl rfl (by decide)) ?_
  refine aI_c (fun hd => s_il_n hX hd rfl rfl) ?_
  refine aI_c (fun hd => s_bp hX hd (by decide) rfl) ?_
  refine aI_c (fun hd => s_ic_ge hX hd (by decide) rfl) ?_
  refine aI_c (fun hd => s_al_n hX hd rfl rfl) ?_
  refine aI_c (fun hd => s_il_n hX hd rfl rfl) ?_
  refine aI_c (fun hd => s_cV hX (T := TX5) (N := 35) (nX5_isThere l) rfl (wg_V up lmX5_89 loX5_isThere) rfl rfl rfl (by decide +kernel) ⟨by decide, by decide⟩ ⟨Nat.zero_le _, Nat.zero_le _⟩ hd rfl) ?_
  refine aI_c (fun hd => s_if_eq hX hd (by decide) rfl) ?_
  refine aI_c (fun hd => s_al_n hX hd rfl rfl) ?_
  refine aI_c (fun hd => s_il_n hX hd rfl rfl) ?_
  refine aI_c (fun hd => s_cV hX (T := TX5) (N := 35) (nX5_isHeard l) rfl (wg_V up lmX5_204 loX5_isHeard) rfl rfl rfl (by decide +kernel) ⟨by decide, by decide⟩ ⟨Nat.zero_le _, Nat.zero_le _⟩ hd rfl) ?_
  refine aI_c (fun hd => s_if_eq hX hd (by decide) rfl) ?_
  refine aI_c (fun hd => s_il_n hX hd rfl rfl) ?_
  refine aI_c (fun hd => s_ii hX hd (by decide) rfl) ?_
  refine aI_c (fun hd => s_il_n hX hd rfl rfl) ?_
  refine aI_c (fun hd => s_ishl hX hd rfl) ?_
  refine aI_c (fun hd => s_ior hX hd rfl) ?_
  refine aI_c (fun hd => s_is_n hX hd rfl rfl (by decide)) ?_
  refine aI_c (fun hd => s_go hX hd (by decide)) ?_
  refine aI_c (fun hd => s_al_n hX hd rfl rfl) ?_
  refine aI_c (fun hd => s_gF hX (C := RX5) (T := TX5) (N := 35) (k := 4) rfl (fun w h => up w (inlX5 w h)) (by decide) rfl rfl rfl (up _ lkX5_19) hd rfl) ?_
  refine aI_c (fun hd => s_ii hX hd (by decide) rfl) ?_
  refine aI_c (fun hd => s_il_n hX hd rfl rfl) ?_
  refine aI_c (fun hd => s_imul hX hd rfl) ?_
  refine aI_c (fun hd => s_ii hX hd (by decide) rfl) ?_
  refine aI_c (fun hd => s_iadd hX hd rfl) ?_
  refine aI_c (fun hd => s_al_n hX hd rfl rfl) ?_
  refine aI_c (fun hd => s_gF hX (C := RX5) (T := TX5) (N := 35) (k := 4) rfl (fun w h => up w (inlX5 w h)) (by decide) rfl rfl rfl (up _ lkX5_19) hd rfl) ?_
  refine aI_c (fun hd => s_ii hX hd (by decide) rfl) ?_
  refine aI_c (fun hd => s_il_n hX hd rfl rfl) ?_
  refine aI_c (fun hd => s_imul hX hd rfl) ?_
  refine aI_c (fun hd => s_ii hX hd (by decide) rfl) ?_
  refine aI_c (fun hd => s_iadd hX hd rfl) ?_
  refine aI_c (fun hd => s_iald hX hd rfl) ?_
  refine aI_c (fun hd => s_ii hX hd (by decide) rfl) ?_
  refine aI_c (fun hd => s_iadd hX hd rfl) ?_
  refine aI_c (fun hd => s_ii hX hd (by decide) rfl) ?_
  refine aI_c (fun hd => s_bp hX hd (by decide) rfl) ?_
  refine aI_c (fun hd => s_cS hX (nX5_within l) (wg_S up lmX5_85 loX5_within) rfl rfl rfl (by decide +kernel) ⟨by decide, by decide⟩ ⟨Nat.zero_le _, Nat.zero_le _⟩ hd rfl) ?_
  refine aI_c (fun hd => s_iast hX hd rfl) ?_
  refine aI_c (fun hd => s_inc hX hd (by decide) rfl (by decide)) ?_
  refine aI_c (fun hd => s_go hX hd (by decide)) ?_
  refine aI_c (fun hd => s_al_n hX hd rfl rfl) ?_
  refine aI_c (fun hd => s_dup hX hd rfl) ?_
  refine aI_c (fun hd => s_gI hX (C := RX5) (T := TX5) (N := 35) (k := 5) rfl (fun w h => up w (inlX5 w h)) (by decide) rfl rfl rfl (up _ lkX5_109) hd rfl) ?_
  refine aI_c (fun hd => s_ii hX hd (by decide) rfl) ?_
  refine aI_c (fun hd => s_iadd hX hd rfl) ?_
  refine aI_c (fun hd => s_pI hX (C := RX5) (T := TX5) (N := 35) (k := 5) rfl (fun w h => up w (inlX5 w h)) (by decide) rfl rfl tyX5 tyX5_ok nmX5 rfl rfl rfl (up _ lkX5_109) hd rfl) ?_
  refine aI_c (fun hd => s_il_n hX hd rfl rfl) ?_
  refine aI_c (fun hd => s_ri hX hr hlk hE hd) ?_
  exact trivial

-- JudgesByLossModel.day()I
def tX5_day : aT := [
  (0, (.aload_n 0, 1), o_al 0 1),
  (1, (.getfield 109, 3), o_gI 5 5 4),
  (4, (.sipush 999, 3), o_ii 999 7),
  (7, (.if_icmp .ne 8, 3), o_ic (fun x y => ¬ x = y) 15 10),
  (10, (.bipush (-3), 2), o_ii (-3) 12),
  (12, (.goto 7, 3), o_go 19),
  (15, (.aload_n 0, 1), o_al 0 16),
  (16, (.invokevirtual 207, 3), o_cV CX5_dayOf 5 0 19),
  (19, (.ireturn, 1), o_ri)]
abbrev CX5_day : aC := aCl tX5_day 1
def rmX5_day : Room := { frames := 8, cells := 0, slots := 0, locals := 163 }
set_option maxRecDepth 100000 in
theorem dX5_day : tX5_day.all (fun q => decide (decode cX5_day q.1 = .ok q.2.1)) = true := by decide +kernel
set_option maxRecDepth 100000 in
set_option maxHeartbeats 4000000 in
theorem nX5_day (l : Launch) : aMt l yX5_day (Cond.code yX5_day cX5_day 1 (some .int) :: wsL_law) rmX5_day CX5_day := by
  refine aMt.of (own := RX5) (cc := cX5_day) (maxL := 1) (ret := (some .int)) (by decide +kernel) rfl rfl ?_
  intro p e s m args below meth c Qc D Z ad P G A E hX hr hlk hE
  have up : ∀ w ∈ wsL_law, w ∈ (Cond.code yX5_day cX5_day 1 (some .int) :: wsL_law) := fun w h => List.mem_cons_of_mem _ h
  refine aImp_all _ dX5_day ?_
  unfold tX5_day
  refine aI_c (fun hd => s_al_n hX hd rfl rfl) ?_
  refine aI_c (fun hd => s_gI hX (C := RX5) (T := TX5) (N := 35) (k := 5) rfl (fun w h => up w (inlX5 w h)) (by decide) rfl rfl rfl (up _ lkX5_109) hd rfl) ?_
  refine aI_c (fun hd => s_sp hX hd (by decide) rfl) ?_
  refine aI_c (fun hd => s_ic_ne hX hd (by decide) rfl) ?_
  refine aI_c (fun hd => s_bp hX hd (by decide) rfl) ?_
  refine aI_c (fun hd => s_go hX hd (by decide)) ?_
  refine aI_c (fun hd => s_al_n hX hd rfl rfl) ?_
  refine aI_c (fun hd => s_cV hX (T := TX5) (N := 35) (nX5_dayOf l) rfl (wg_V up lmX5_207 loX5_dayOf) rfl rfl rfl (by decide +kernel) ⟨by decide, by decide⟩ ⟨Nat.zero_le _, Nat.zero_le _⟩ hd rfl) ?_
  refine aI_c (fun hd => s_ri hX hr hlk hE hd) ?_
  exact trivial

-- JudgesByLossModel.keeps()V
def tX5_keeps : aT := [
  (0, (.iconst 0, 1), o_ii 0 1),
  (1, (.istore_n 1, 1), o_is 1 2),
  (2, (.iload_n 1, 1), o_il 1 3),
  (3, (.bipush 18, 2), o_ii 18 5),
  (5, (.if_icmp .ge 21, 3), o_ic (fun x y => y ≤ x) 26 8),
  (8, (.aload_n 0, 1), o_al 0 9),
  (9, (.getfield 61, 3), o_gF 5 18 12),
  (12, (.iload_n 1, 1), o_il 1 13),
  (13, (.aload_n 0, 1), o_al 0 14),
  (14, (.getfield 16, 3), o_gF 5 3 17),
  (17, (.iload_n 1, 1), o_il 1 18),
  (18, (.iaload, 1), o_iald 19),
  (19, (.iastore, 1), o_iast 20),
  (20, (.iinc 1 1, 3), o_inc 1 1 23),
  (23, (.goto (-21), 3), o_go 2),
  (26, (.iconst 0, 1), o_ii 0 27),
  (27, (.istore_n 1, 1), o_is 1 28),
  (28, (.iload_n 1, 1), o_il 1 29),
  (29, (.bipush 24, 2), o_ii 24 31),
  (31, (.if_icmp .ge 24, 3), o_ic (fun x y => y ≤ x) 55 34),
  (34, (.aload_n 0, 1), o_al 0 35),
  (35, (.getfield 61, 3), o_gF 5 18 38),
  (38, (.bipush 18, 2), o_ii 18 40),
  (40, (.iload_n 1, 1), o_il 1 41),
  (41, (.iadd, 1), o_bi (fun x y => x + y) 42),
  (42, (.aload_n 0, 1), o_al 0 43),
  (43, (.getfield 19, 3), o_gF 5 4 46),
  (46, (.iload_n 1, 1), o_il 1 47),
  (47, (.iaload, 1), o_iald 48),
  (48, (.iastore, 1), o_iast 49),
  (49, (.iinc 1 1, 3), o_inc 1 1 52),
  (52, (.goto (-24), 3), o_go 28),
  (55, (.aload_n 0, 1), o_al 0 56),
  (56, (.getfield 61, 3), o_gF 5 18 59),
  (59, (.bipush 42, 2), o_ii 42 61),
  (61, (.aload_n 0, 1), o_al 0 62),
  (62, (.getfield 109, 3), o_gI 5 5 65),
  (65, (.iastore, 1), o_iast 66),
  (66, (.aload_n 0, 1), o_al 0 67),
  (67, (.getfield 61, 3), o_gF 5 18 70),
  (70, (.bipush 43, 2), o_ii 43 72),
  (72, (.aload_n 0, 1), o_al 0 73),
  (73, (.getfield 100, 3), o_gI 5 6 76),
  (76, (.iastore, 1), o_iast 77),
  (77, (.return_, 1), o_rv)]
abbrev CX5_keeps : aC := aCl tX5_keeps 2
def rmX5_keeps : Room := { frames := 1, cells := 0, slots := 0, locals := 1 }
set_option maxRecDepth 100000 in
theorem dX5_keeps : tX5_keeps.all (fun q => decide (decode cX5_keeps q.1 = .ok q.2.1)) = true := by decide +kernel
set_option maxRecDepth 100000 in
set_option maxHeartbeats 4000000 in
theorem nX5_keeps (l : Launch) : aMt l yX5_keeps (Cond.code yX5_keeps cX5_keeps 2 none :: wsL_law) rmX5_keeps CX5_keeps := by
  refine aMt.of (own := RX5) (cc := cX5_keeps) (maxL := 2) (ret := none) (by decide +kernel) rfl rfl ?_
  intro p e s m args below meth c Qc D Z ad P G A E hX hr hlk hE
  have up : ∀ w ∈ wsL_law, w ∈ (Cond.code yX5_keeps cX5_keeps 2 none :: wsL_law) := fun w h => List.mem_cons_of_mem _ h
  refine aImp_all _ dX5_keeps ?_
  unfold tX5_keeps
  refine aI_c (fun hd => s_ii hX hd (by decide) rfl) ?_
  refine aI_c (fun hd => s_is_n hX hd rfl rfl (by decide)) ?_
  refine aI_c (fun hd => s_il_n hX hd rfl rfl) ?_
  refine aI_c (fun hd => s_bp hX hd (by decide) rfl) ?_
  refine aI_c (fun hd => s_ic_ge hX hd (by decide) rfl) ?_
  refine aI_c (fun hd => s_al_n hX hd rfl rfl) ?_
  refine aI_c (fun hd => s_gF hX (C := RX5) (T := TX5) (N := 35) (k := 31) rfl (fun w h => up w (inlX5 w h)) (by decide) rfl rfl rfl (up _ lkX5_61) hd rfl) ?_
  refine aI_c (fun hd => s_il_n hX hd rfl rfl) ?_
  refine aI_c (fun hd => s_al_n hX hd rfl rfl) ?_
  refine aI_c (fun hd => s_gF hX (C := RX5) (T := TX5) (N := 35) (k := 3) rfl (fun w h => up w (inlX5 w h)) (by decide) rfl rfl rfl (up _ lkX5_16) hd rfl) ?_
  refine aI_c (fun hd => s_il_n hX hd rfl rfl) ?_
  refine aI_c (fun hd => s_iald hX hd rfl) ?_
  refine aI_c (fun hd => s_iast hX hd rfl) ?_
  refine aI_c (fun hd => s_inc hX hd (by decide) rfl (by decide)) ?_
  refine aI_c (fun hd => s_go hX hd (by decide)) ?_
  refine aI_c (fun hd => s_ii hX hd (by decide) rfl) ?_
  refine aI_c (fun hd => s_is_n hX hd rfl rfl (by decide)) ?_
  refine aI_c (fun hd => s_il_n hX hd rfl rfl) ?_
  refine aI_c (fun hd => s_bp hX hd (by decide) rfl) ?_
  refine aI_c (fun hd => s_ic_ge hX hd (by decide) rfl) ?_
  refine aI_c (fun hd => s_al_n hX hd rfl rfl) ?_
  refine aI_c (fun hd => s_gF hX (C := RX5) (T := TX5) (N := 35) (k := 31) rfl (fun w h => up w (inlX5 w h)) (by decide) rfl rfl rfl (up _ lkX5_61) hd rfl) ?_
  refine aI_c (fun hd => s_bp hX hd (by decide) rfl) ?_
  refine aI_c (fun hd => s_il_n hX hd rfl rfl) ?_
  refine aI_c (fun hd => s_iadd hX hd rfl) ?_
  refine aI_c (fun hd => s_al_n hX hd rfl rfl) ?_
  refine aI_c (fun hd => s_gF hX (C := RX5) (T := TX5) (N := 35) (k := 4) rfl (fun w h => up w (inlX5 w h)) (by decide) rfl rfl rfl (up _ lkX5_19) hd rfl) ?_
  refine aI_c (fun hd => s_il_n hX hd rfl rfl) ?_
  refine aI_c (fun hd => s_iald hX hd rfl) ?_
  refine aI_c (fun hd => s_iast hX hd rfl) ?_
  refine aI_c (fun hd => s_inc hX hd (by decide) rfl (by decide)) ?_
  refine aI_c (fun hd => s_go hX hd (by decide)) ?_
  refine aI_c (fun hd => s_al_n hX hd rfl rfl) ?_
  refine aI_c (fun hd => s_gF hX (C := RX5) (T := TX5) (N := 35) (k := 31) rfl (fun w h => up w (inlX5 w h)) (by decide) rfl rfl rfl (up _ lkX5_61) hd rfl) ?_
  refine aI_c (fun hd => s_bp hX hd (by decide) rfl) ?_
  refine aI_c (fun hd => s_al_n hX hd rfl rfl) ?_
  refine aI_c (fun hd => s_gI hX (C := RX5) (T := TX5) (N := 35) (k := 5) rfl (fun w h => up w (inlX5 w h)) (by decide) rfl rfl rfl (up _ lkX5_109) hd rfl) ?_
  refine aI_c (fun hd => s_iast hX hd rfl) ?_
  refine aI_c (fun hd => s_al_n hX hd rfl rfl) ?_
  refine aI_c (fun hd => s_gF hX (C := RX5) (T := TX5) (N := 35) (k := 31) rfl (fun w h => up w (inlX5 w h)) (by decide) rfl rfl rfl (up _ lkX5_61) hd rfl) ?_
  refine aI_c (fun hd => s_bp hX hd (by decide) rfl) ?_
  refine aI_c (fun hd => s_al_n hX hd rfl rfl) ?_
  refine aI_c (fun hd => s_gI hX (C := RX5) (T := TX5) (N := 35) (k := 6) rfl (fun w h => up w (inlX5 w h)) (by decide) rfl rfl rfl (up _ lkX5_100) hd rfl) ?_
  refine aI_c (fun hd => s_iast hX hd rfl) ?_
  refine aI_c (fun hd => s_rv hX hr hlk hE hd) ?_
  exact trivial

-- JudgesByLossModel.lays()V
def tX5_lays : aT := [
  (0, (.iconst 0, 1), o_ii 0 1),
  (1, (.istore_n 1, 1), o_is 1 2),
  (2, (.iload_n 1, 1), o_il 1 3),
  (3, (.bipush 18, 2), o_ii 18 5),
  (5, (.if_icmp .ge 21, 3), o_ic (fun x y => y ≤ x) 26 8),
  (8, (.aload_n 0, 1), o_al 0 9),
  (9, (.getfield 16, 3), o_gF 5 3 12),
  (12, (.iload_n 1, 1), o_il 1 13),
  (13, (.aload_n 0, 1), o_al 0 14),
  (14, (.getfield 61, 3), o_gF 5 18 17),
  (17, (.iload_n 1, 1), o_il 1 18),
  (18, (.iaload, 1), o_iald 19),
  (19, (.iastore, 1), o_iast 20),
  (20, (.iinc 1 1, 3), o_inc 1 1 23),
  (23, (.goto (-21), 3), o_go 2),
  (26, (.iconst 0, 1), o_ii 0 27),
  (27, (.istore_n 1, 1), o_is 1 28),
  (28, (.iload_n 1, 1), o_il 1 29),
  (29, (.bipush 24, 2), o_ii 24 31),
  (31, (.if_icmp .ge 24, 3), o_ic (fun x y => y ≤ x) 55 34),
  (34, (.aload_n 0, 1), o_al 0 35),
  (35, (.getfield 19, 3), o_gF 5 4 38),
  (38, (.iload_n 1, 1), o_il 1 39),
  (39, (.aload_n 0, 1), o_al 0 40),
  (40, (.getfield 61, 3), o_gF 5 18 43),
  (43, (.bipush 18, 2), o_ii 18 45),
  (45, (.iload_n 1, 1), o_il 1 46),
  (46, (.iadd, 1), o_bi (fun x y => x + y) 47),
  (47, (.iaload, 1), o_iald 48),
  (48, (.iastore, 1), o_iast 49),
  (49, (.iinc 1 1, 3), o_inc 1 1 52),
  (52, (.goto (-24), 3), o_go 28),
  (55, (.aload_n 0, 1), o_al 0 56),
  (56, (.aload_n 0, 1), o_al 0 57),
  (57, (.getfield 61, 3), o_gF 5 18 60),
  (60, (.bipush 42, 2), o_ii 42 62),
  (62, (.iaload, 1), o_iald 63),
  (63, (.putfield 109, 3), o_pI 5 5 66),
  (66, (.aload_n 0, 1), o_al 0 67),
  (67, (.aload_n 0, 1), o_al 0 68),
  (68, (.getfield 61, 3), o_gF 5 18 71),
  (71, (.bipush 43, 2), o_ii 43 73),
  (73, (.iaload, 1), o_iald 74),
  (74, (.putfield 100, 3), o_pI 5 6 77),
  (77, (.return_, 1), o_rv)]
abbrev CX5_lays : aC := aCl tX5_lays 2
def rmX5_lays : Room := { frames := 1, cells := 0, slots := 0, locals := 1 }
set_option maxRecDepth 100000 in
theorem dX5_lays : tX5_lays.all (fun q => decide (decode cX5_lays q.1 = .ok q.2.1)) = true := by decide +kernel
set_option maxRecDepth 100000 in
set_option maxHeartbeats 4000000 in
theorem nX5_lays (l : Launch) : aMt l yX5_lays (Cond.code yX5_lays cX5_lays 2 none :: wsL_law) rmX5_lays CX5_lays := by
  refine aMt.of (own := RX5) (cc := cX5_lays) (maxL := 2) (ret := none) (by decide +kernel) rfl rfl ?_
  intro p e s m args below meth c Qc D Z ad P G A E hX hr hlk hE
  have up : ∀ w ∈ wsL_law, w ∈ (Cond.code yX5_lays cX5_lays 2 none :: wsL_law) := fun w h => List.mem_cons_of_mem _ h
  refine aImp_all _ dX5_lays ?_
  unfold tX5_lays
  refine aI_c (fun hd => s_ii hX hd (by decide) rfl) ?_
  refine aI_c (fun hd => s_is_n hX hd rfl rfl (by decide)) ?_
  refine aI_c (fun hd => s_il_n hX hd rfl rfl) ?_
  refine aI_c (fun hd => s_bp hX hd (by decide) rfl) ?_
  refine aI_c (fun hd => s_ic_ge hX hd (by decide) rfl) ?_
  refine aI_c (fun hd => s_al_n hX hd rfl rfl) ?_
  refine aI_c (fun hd => s_gF hX (C := RX5) (T := TX5) (N := 35) (k := 3) rfl (fun w h => up w (inlX5 w h)) (by decide) rfl rfl rfl (up _ lkX5_16) hd rfl) ?_
  refine aI_c (fun hd => s_il_n hX hd rfl rfl) ?_
  refine aI_c (fun hd => s_al_n hX hd rfl rfl) ?_
  refine aI_c (fun hd => s_gF hX (C := RX5) (T := TX5) (N := 35) (k := 31) rfl (fun w h => up w (inlX5 w h)) (by decide) rfl rfl rfl (up _ lkX5_61) hd rfl) ?_
  refine aI_c (fun hd => s_il_n hX hd rfl rfl) ?_
  refine aI_c (fun hd => s_iald hX hd rfl) ?_
  refine aI_c (fun hd => s_iast hX hd rfl) ?_
  refine aI_c (fun hd => s_inc hX hd (by decide) rfl (by decide)) ?_
  refine aI_c (fun hd => s_go hX hd (by decide)) ?_
  refine aI_c (fun hd => s_ii hX hd (by decide) rfl) ?_
  refine aI_c (fun hd => s_is_n hX hd rfl rfl (by decide)) ?_
  refine aI_c (fun hd => s_il_n hX hd rfl rfl) ?_
  refine aI_c (fun hd => s_bp hX hd (by decide) rfl) ?_
  refine aI_c (fun hd => s_ic_ge hX hd (by decide) rfl) ?_
  refine aI_c (fun hd => s_al_n hX hd rfl rfl) ?_
  refine aI_c (fun hd => s_gF hX (C := RX5) (T := TX5) (N := 35) (k := 4) rfl (fun w h => up w (inlX5 w h)) (by decide) rfl rfl rfl (up _ lkX5_19) hd rfl) ?_
  refine aI_c (fun hd => s_il_n hX hd rfl rfl) ?_
  refine aI_c (fun hd => s_al_n hX hd rfl rfl) ?_
  refine aI_c (fun hd => s_gF hX (C := RX5) (T := TX5) (N := 35) (k := 31) rfl (fun w h => up w (inlX5 w h)) (by decide) rfl rfl rfl (up _ lkX5_61) hd rfl) ?_
  refine aI_c (fun hd => s_bp hX hd (by decide) rfl) ?_
  refine aI_c (fun hd => s_il_n hX hd rfl rfl) ?_
  refine aI_c (fun hd => s_iadd hX hd rfl) ?_
  refine aI_c (fun hd => s_iald hX hd rfl) ?_
  refine aI_c (fun hd => s_iast hX hd rfl) ?_
  refine aI_c (fun hd => s_inc hX hd (by decide) rfl (by decide)) ?_
  refine aI_c (fun hd => s_go hX hd (by decide)) ?_
  refine aI_c (fun hd => s_al_n hX hd rfl rfl) ?_
  refine aI_c (fun hd => s_al_n hX hd rfl rfl) ?_
  refine aI_c (fun hd => s_gF hX (C := RX5) (T := TX5) (N := 35) (k := 31) rfl (fun w h => up w (inlX5 w h)) (by decide) rfl rfl rfl (up _ lkX5_61) hd rfl) ?_
  refine aI_c (fun hd => s_bp hX hd (by decide) rfl) ?_
  refine aI_c (fun hd => s_iald hX hd rfl) ?_
  refine aI_c (fun hd => s_pI hX (C := RX5) (T := TX5) (N := 35) (k := 5) rfl (fun w h => up w (inlX5 w h)) (by decide) rfl rfl tyX5 tyX5_ok nmX5 rfl rfl rfl (up _ lkX5_109) hd rfl) ?_
  refine aI_c (fun hd => s_al_n hX hd rfl rfl) ?_
  refine aI_c (fun hd => s_al_n hX hd rfl rfl) ?_
  refine aI_c (fun hd => s_gF hX (C := RX5) (T := TX5) (N := 35) (k := 31) rfl (fun w h => up w (inlX5 w h)) (by decide) rfl rfl rfl (up _ lkX5_61) hd rfl) ?_
  refine aI_c (fun hd => s_bp hX hd (by decide) rfl) ?_
  refine aI_c (fun hd => s_iald hX hd rfl) ?_
  refine aI_c (fun hd => s_pI hX (C := RX5) (T := TX5) (N := 35) (k := 6) rfl (fun w h => up w (inlX5 w h)) (by decide) rfl rfl tyX5 tyX5_ok nmX5 rfl rfl rfl (up _ lkX5_100) hd rfl) ?_
  refine aI_c (fun hd => s_rv hX hr hlk hE hd) ?_
  exact trivial

-- JudgesByLossModel.goes(I)I
def tX5_goes : aT := [
  (0, (.iconst 0, 1), o_ii 0 1),
  (1, (.istore_n 2, 1), o_is 2 2),
  (2, (.iconst 0, 1), o_ii 0 3),
  (3, (.istore_n 3, 1), o_is 3 4),
  (4, (.iload_n 3, 1), o_il 3 5),
  (5, (.iload_n 1, 1), o_il 1 6),
  (6, (.if_icmp .ge 19, 3), o_ic (fun x y => y ≤ x) 25 9),
  (9, (.iload_n 2, 1), o_il 2 10),
  (10, (.aload_n 0, 1), o_al 0 11),
  (11, (.invokevirtual 207, 3), o_cV CX5_dayOf 5 0 14),
  (14, (.invokestatic 96, 3), o_cS CX5_onesOf 1 17),
  (17, (.iadd, 1), o_bi (fun x y => x + y) 18),
  (18, (.istore_n 2, 1), o_is 2 19),
  (19, (.iinc 3 1, 3), o_inc 3 1 22),
  (22, (.goto (-18), 3), o_go 4),
  (25, (.iload_n 2, 1), o_il 2 26),
  (26, (.ireturn, 1), o_ri)]
abbrev CX5_goes : aC := aCl tX5_goes 4
def rmX5_goes : Room := { frames := 8, cells := 0, slots := 0, locals := 163 }
set_option maxRecDepth 100000 in
theorem dX5_goes : tX5_goes.all (fun q => decide (decode cX5_goes q.1 = .ok q.2.1)) = true := by decide +kernel
set_option maxRecDepth 100000 in
set_option maxHeartbeats 4000000 in
theorem nX5_goes (l : Launch) : aMt l yX5_goes (Cond.code yX5_goes cX5_goes 4 (some .int) :: wsL_law) rmX5_goes CX5_goes := by
  refine aMt.of (own := RX5) (cc := cX5_goes) (maxL := 4) (ret := (some .int)) (by decide +kernel) rfl rfl ?_
  intro p e s m args below meth c Qc D Z ad P G A E hX hr hlk hE
  have up : ∀ w ∈ wsL_law, w ∈ (Cond.code yX5_goes cX5_goes 4 (some .int) :: wsL_law) := fun w h => List.mem_cons_of_mem _ h
  refine aImp_all _ dX5_goes ?_
  unfold tX5_goes
  refine aI_c (fun hd => s_ii hX hd (by decide) rfl) ?_
  refine aI_c (fun hd => s_is_n hX hd rfl rfl (by decide)) ?_
  refine aI_c (fun hd => s_ii hX hd (by decide) rfl) ?_
  refine aI_c (fun hd => s_is_n hX hd rfl rfl (by decide)) ?_
  refine aI_c (fun hd => s_il_n hX hd rfl rfl) ?_
  refine aI_c (fun hd => s_il_n hX hd rfl rfl) ?_
  refine aI_c (fun hd => s_ic_ge hX hd (by decide) rfl) ?_
  refine aI_c (fun hd => s_il_n hX hd rfl rfl) ?_
  refine aI_c (fun hd => s_al_n hX hd rfl rfl) ?_
  refine aI_c (fun hd => s_cV hX (T := TX5) (N := 35) (nX5_dayOf l) rfl (wg_V up lmX5_207 loX5_dayOf) rfl rfl rfl (by decide +kernel) ⟨by decide, by decide⟩ ⟨Nat.zero_le _, Nat.zero_le _⟩ hd rfl) ?_
  refine aI_c (fun hd => s_cS hX (nX5_onesOf l) (wg_S up lmX5_96 loX5_onesOf) rfl rfl rfl (by decide +kernel) ⟨by decide, by decide⟩ ⟨Nat.zero_le _, Nat.zero_le _⟩ hd rfl) ?_
  refine aI_c (fun hd => s_iadd hX hd rfl) ?_
  refine aI_c (fun hd => s_is_n hX hd rfl rfl (by decide)) ?_
  refine aI_c (fun hd => s_inc hX hd (by decide) rfl (by decide)) ?_
  refine aI_c (fun hd => s_go hX hd (by decide)) ?_
  refine aI_c (fun hd => s_il_n hX hd rfl rfl) ?_
  refine aI_c (fun hd => s_ri hX hr hlk hE hd) ?_
  exact trivial

-- JudgesByLossModel.waitedAll()I
def tX5_waitedAll : aT := [
  (0, (.iconst 0, 1), o_ii 0 1),
  (1, (.istore_n 1, 1), o_is 1 2),
  (2, (.iconst 0, 1), o_ii 0 3),
  (3, (.istore_n 2, 1), o_is 2 4),
  (4, (.iload_n 2, 1), o_il 2 5),
  (5, (.bipush 8, 2), o_ii 8 7),
  (7, (.if_icmp .ge 34, 3), o_ic (fun x y => y ≤ x) 41 10),
  (10, (.iload_n 1, 1), o_il 1 11),
  (11, (.aload_n 0, 1), o_al 0 12),
  (12, (.iload_n 2, 1), o_il 2 13),
  (13, (.invokevirtual 89, 3), o_cV CX5_isThere 5 1 16),
  (16, (.ifCond .eq 16, 3), o_if (fun x => x = 0) 32 19),
  (19, (.aload_n 0, 1), o_al 0 20),
  (20, (.getfield 19, 3), o_gF 5 4 23),
  (23, (.iconst 3, 1), o_ii 3 24),
  (24, (.iload_n 2, 1), o_il 2 25),
  (25, (.imul, 1), o_bi (fun x y => x * y) 26),
  (26, (.iconst 2, 1), o_ii 2 27),
  (27, (.iadd, 1), o_bi (fun x y => x + y) 28),
  (28, (.iaload, 1), o_iald 29),
  (29, (.goto 4, 3), o_go 33),
  (32, (.iconst 0, 1), o_ii 0 33),
  (33, (.iadd, 1), o_bi (fun x y => x + y) 34),
  (34, (.istore_n 1, 1), o_is 1 35),
  (35, (.iinc 2 1, 3), o_inc 2 1 38),
  (38, (.goto (-34), 3), o_go 4),
  (41, (.iload_n 1, 1), o_il 1 42),
  (42, (.ireturn, 1), o_ri)]
abbrev CX5_waitedAll : aC := aCl tX5_waitedAll 3
def rmX5_waitedAll : Room := { frames := 3, cells := 0, slots := 0, locals := 44 }
set_option maxRecDepth 100000 in
theorem dX5_waitedAll : tX5_waitedAll.all (fun q => decide (decode cX5_waitedAll q.1 = .ok q.2.1)) = true := by decide +kernel
set_option maxRecDepth 100000 in
set_option maxHeartbeats 4000000 in
theorem nX5_waitedAll (l : Launch) : aMt l yX5_waitedAll (Cond.code yX5_waitedAll cX5_waitedAll 3 (some .int) :: wsL_law) rmX5_waitedAll CX5_waitedAll := by
  refine aMt.of (own := RX5) (cc := cX5_waitedAll) (maxL := 3) (ret := (some .int)) (by decide +kernel) rfl rfl ?_
  intro p e s m args below meth c Qc D Z ad P G A E hX hr hlk hE
  have up : ∀ w ∈ wsL_law, w ∈ (Cond.code yX5_waitedAll cX5_waitedAll 3 (some .int) :: wsL_law) := fun w h => List.mem_cons_of_mem _ h
  refine aImp_all _ dX5_waitedAll ?_
  unfold tX5_waitedAll
  refine aI_c (fun hd => s_ii hX hd (by decide) rfl) ?_
  refine aI_c (fun hd => s_is_n hX hd rfl rfl (by decide)) ?_
  refine aI_c (fun hd => s_ii hX hd (by decide) rfl) ?_
  refine aI_c (fun hd => s_is_n hX hd rfl rfl (by decide)) ?_
  refine aI_c (fun hd => s_il_n hX hd rfl rfl) ?_
  refine aI_c (fun hd => s_bp hX hd (by decide) rfl) ?_
  refine aI_c (fun hd => s_ic_ge hX hd (by decide) rfl) ?_
  refine aI_c (fun hd => s_il_n hX hd rfl rfl) ?_
  refine aI_c (fun hd => s_al_n hX hd rfl rfl) ?_
  refine aI_c (fun hd => s_il_n hX hd rfl rfl) ?_
  refine aI_c (fun hd => s_cV hX (T := TX5) (N := 35) (nX5_isThere l) rfl (wg_V up lmX5_89 loX5_isThere) rfl rfl rfl (by decide +kernel) ⟨by decide, by decide⟩ ⟨Nat.zero_le _, Nat.zero_le _⟩ hd rfl) ?_
  refine aI_c (fun hd => s_if_eq hX hd (by decide) rfl) ?_
  refine aI_c (fun hd => s_al_n hX hd rfl rfl) ?_
  refine aI_c (fun hd => s_gF hX (C := RX5) (T := TX5) (N := 35) (k := 4) rfl (fun w h => up w (inlX5 w h)) (by decide) rfl rfl rfl (up _ lkX5_19) hd rfl) ?_
  refine aI_c (fun hd => s_ii hX hd (by decide) rfl) ?_
  refine aI_c (fun hd => s_il_n hX hd rfl rfl) ?_
  refine aI_c (fun hd => s_imul hX hd rfl) ?_
  refine aI_c (fun hd => s_ii hX hd (by decide) rfl) ?_
  refine aI_c (fun hd => s_iadd hX hd rfl) ?_
  refine aI_c (fun hd => s_iald hX hd rfl) ?_
  refine aI_c (fun hd => s_go hX hd (by decide)) ?_
  refine aI_c (fun hd => s_ii hX hd (by decide) rfl) ?_
  refine aI_c (fun hd => s_iadd hX hd rfl) ?_
  refine aI_c (fun hd => s_is_n hX hd rfl rfl (by decide)) ?_
  refine aI_c (fun hd => s_inc hX hd (by decide) rfl (by decide)) ?_
  refine aI_c (fun hd => s_go hX hd (by decide)) ?_
  refine aI_c (fun hd => s_il_n hX hd rfl rfl) ?_
  refine aI_c (fun hd => s_ri hX hr hlk hE hd) ?_
  exact trivial

-- JudgesByLossModel.run(II)I
def tX5_run : aT := [
  (0, (.iload_n 2, 1), o_il 2 1),
  (1, (.iconst 0, 1), o_ii 0 2),
  (2, (.iconst 2, 1), o_ii 2 3),
  (3, (.invokestatic 81, 3), o_cS CX5_in 3 6),
  (6, (.ifCond .ne 35, 3), o_if (fun x => ¬ x = 0) 41 9),
  (9, (.iload_n 2, 1), o_il 2 10),
  (10, (.bipush 10, 2), o_ii 10 12),
  (12, (.bipush 9, 2), o_ii 9 14),
  (14, (.aload_n 0, 1), o_al 0 15),
  (15, (.getfield 78, 3), o_gI 5 0 18),
  (18, (.iadd, 1), o_bi (fun x y => x + y) 19),
  (19, (.invokestatic 81, 3), o_cS CX5_in 3 22),
  (22, (.ifCond .ne 19, 3), o_if (fun x => ¬ x = 0) 41 25),
  (25, (.iload_n 2, 1), o_il 2 26),
  (26, (.bipush 20, 2), o_ii 20 28),
  (28, (.bipush 19, 2), o_ii 19 30),
  (30, (.aload_n 0, 1), o_al 0 31),
  (31, (.getfield 78, 3), o_gI 5 0 34),
  (34, (.iadd, 1), o_bi (fun x y => x + y) 35),
  (35, (.invokestatic 81, 3), o_cS CX5_in 3 38),
  (38, (.ifCond .eq 7, 3), o_if (fun x => x = 0) 45 41),
  (41, (.iconst 1, 1), o_ii 1 42),
  (42, (.goto 4, 3), o_go 46),
  (45, (.iconst 0, 1), o_ii 0 46),
  (46, (.istore_n 3, 1), o_is 3 47),
  (47, (.iload_n 1, 1), o_il 1 48),
  (48, (.iconst 0, 1), o_ii 0 49),
  (49, (.bipush 40, 2), o_ii 40 51),
  (51, (.invokestatic 81, 3), o_cS CX5_in 3 54),
  (54, (.ifCond .eq 7, 3), o_if (fun x => x = 0) 61 57),
  (57, (.iload_n 3, 1), o_il 3 58),
  (58, (.ifCond .ne 6, 3), o_if (fun x => ¬ x = 0) 64 61),
  (61, (.bipush (-2), 2), o_ii (-2) 63),
  (63, (.ireturn, 1), o_ri),
  (64, (.aload_n 0, 1), o_al 0 65),
  (65, (.invokevirtual 210, 3), o_cV CX5_keeps 5 0 68),
  (68, (.aload_n 0, 1), o_al 0 69),
  (69, (.iload_n 1, 1), o_il 1 70),
  (70, (.invokevirtual 213, 3), o_cV CX5_goes 5 1 73),
  (73, (.istore 4, 2), o_is 4 75),
  (75, (.iload_n 2, 1), o_il 2 76),
  (76, (.tableswitch 49 0 2 #[28, 37, 40], 28), o_sw [(0, 104), (1, 113), (2, 116)] 125),
  (104, (.aload_n 0, 1), o_al 0 105),
  (105, (.invokevirtual 93, 3), o_cV CX5_caseSet 5 0 108),
  (108, (.istore 4, 2), o_is 4 110),
  (110, (.goto 50, 3), o_go 160),
  (113, (.goto 47, 3), o_go 160),
  (116, (.aload_n 0, 1), o_al 0 117),
  (117, (.invokevirtual 216, 3), o_cV CX5_waitedAll 5 0 120),
  (120, (.istore 4, 2), o_is 4 122),
  (122, (.goto 38, 3), o_go 160),
  (125, (.iload_n 2, 1), o_il 2 126),
  (126, (.bipush 20, 2), o_ii 20 128),
  (128, (.if_icmp .ge 19, 3), o_ic (fun x y => y ≤ x) 147 131),
  (131, (.aload_n 0, 1), o_al 0 132),
  (132, (.getfield 16, 3), o_gF 5 3 135),
  (135, (.iconst 3, 1), o_ii 3 136),
  (136, (.iload_n 2, 1), o_il 2 137),
  (137, (.bipush 10, 2), o_ii 10 139),
  (139, (.isub, 1), o_bi (fun x y => x - y) 140),
  (140, (.imul, 1), o_bi (fun x y => x * y) 141),
  (141, (.iconst 1, 1), o_ii 1 142),
  (142, (.iadd, 1), o_bi (fun x y => x + y) 143),
  (143, (.iaload, 1), o_iald 144),
  (144, (.goto 14, 3), o_go 158),
  (147, (.aload_n 0, 1), o_al 0 148),
  (148, (.getfield 16, 3), o_gF 5 3 151),
  (151, (.iconst 3, 1), o_ii 3 152),
  (152, (.iload_n 2, 1), o_il 2 153),
  (153, (.bipush 20, 2), o_ii 20 155),
  (155, (.isub, 1), o_bi (fun x y => x - y) 156),
  (156, (.imul, 1), o_bi (fun x y => x * y) 157),
  (157, (.iaload, 1), o_iald 158),
  (158, (.istore 4, 2), o_is 4 160),
  (160, (.aload_n 0, 1), o_al 0 161),
  (161, (.invokevirtual 219, 3), o_cV CX5_lays 5 0 164),
  (164, (.iload 4, 2), o_il 4 166),
  (166, (.ireturn, 1), o_ri)]
abbrev CX5_run : aC := aCl tX5_run 5
def rmX5_run : Room := { frames := 9, cells := 0, slots := 0, locals := 186 }
set_option maxRecDepth 100000 in
theorem dX5_run : tX5_run.all (fun q => decide (decode cX5_run q.1 = .ok q.2.1)) = true := by decide +kernel
set_option maxRecDepth 100000 in
set_option maxHeartbeats 4000000 in
theorem nX5_run (l : Launch) : aMt l yX5_run (Cond.code yX5_run cX5_run 5 (some .int) :: wsL_law) rmX5_run CX5_run := by
  refine aMt.of (own := RX5) (cc := cX5_run) (maxL := 5) (ret := (some .int)) (by decide +kernel) rfl rfl ?_
  intro p e s m args below meth c Qc D Z ad P G A E hX hr hlk hE
  have up : ∀ w ∈ wsL_law, w ∈ (Cond.code yX5_run cX5_run 5 (some .int) :: wsL_law) := fun w h => List.mem_cons_of_mem _ h
  refine aImp_all _ dX5_run ?_
  unfold tX5_run
  refine aI_c (fun hd => s_il_n hX hd rfl rfl) ?_
  refine aI_c (fun hd => s_ii hX hd (by decide) rfl) ?_
  refine aI_c (fun hd => s_ii hX hd (by decide) rfl) ?_
  refine aI_c (fun hd => s_cS hX (nX5_in l) (wg_S up lmX5_81 loX5_in) rfl rfl rfl (by decide +kernel) ⟨by decide, by decide⟩ ⟨Nat.zero_le _, Nat.zero_le _⟩ hd rfl) ?_
  refine aI_c (fun hd => s_if_ne hX hd (by decide) rfl) ?_
  refine aI_c (fun hd => s_il_n hX hd rfl rfl) ?_
  refine aI_c (fun hd => s_bp hX hd (by decide) rfl) ?_
  refine aI_c (fun hd => s_bp hX hd (by decide) rfl) ?_
  refine aI_c (fun hd => s_al_n hX hd rfl rfl) ?_
  refine aI_c (fun hd => s_gI hX (C := RX5) (T := TX5) (N := 35) (k := 0) rfl (fun w h => up w (inlX5 w h)) (by decide) rfl rfl rfl (up _ lkX5_78) hd rfl) ?_
  refine aI_c (fun hd => s_iadd hX hd rfl) ?_
  refine aI_c (fun hd => s_cS hX (nX5_in l) (wg_S up lmX5_81 loX5_in) rfl rfl rfl (by decide +kernel) ⟨by decide, by decide⟩ ⟨Nat.zero_le _, Nat.zero_le _⟩ hd rfl) ?_
  refine aI_c (fun hd => s_if_ne hX hd (by decide) rfl) ?_
  refine aI_c (fun hd => s_il_n hX hd rfl rfl) ?_
  refine aI_c (fun hd => s_bp hX hd (by decide) rfl) ?_
  refine aI_c (fun hd => s_bp hX hd (by decide) rfl) ?_
  refine aI_c (fun hd => s_al_n hX hd rfl rfl) ?_
  refine aI_c (fun hd => s_gI hX (C := RX5) (T := TX5) (N := 35) (k := 0) rfl (fun w h => up w (inlX5 w h)) (by decide) rfl rfl rfl (up _ lkX5_78) hd rfl) ?_
  refine aI_c (fun hd => s_iadd hX hd rfl) ?_
  refine aI_c (fun hd => s_cS hX (nX5_in l) (wg_S up lmX5_81 loX5_in) rfl rfl rfl (by decide +kernel) ⟨by decide, by decide⟩ ⟨Nat.zero_le _, Nat.zero_le _⟩ hd rfl) ?_
  refine aI_c (fun hd => s_if_eq hX hd (by decide) rfl) ?_
  refine aI_c (fun hd => s_ii hX hd (by decide) rfl) ?_
  refine aI_c (fun hd => s_go hX hd (by decide)) ?_
  refine aI_c (fun hd => s_ii hX hd (by decide) rfl) ?_
  refine aI_c (fun hd => s_is_n hX hd rfl rfl (by decide)) ?_
  refine aI_c (fun hd => s_il_n hX hd rfl rfl) ?_
  refine aI_c (fun hd => s_ii hX hd (by decide) rfl) ?_
  refine aI_c (fun hd => s_bp hX hd (by decide) rfl) ?_
  refine aI_c (fun hd => s_cS hX (nX5_in l) (wg_S up lmX5_81 loX5_in) rfl rfl rfl (by decide +kernel) ⟨by decide, by decide⟩ ⟨Nat.zero_le _, Nat.zero_le _⟩ hd rfl) ?_
  refine aI_c (fun hd => s_if_eq hX hd (by decide) rfl) ?_
  refine aI_c (fun hd => s_il_n hX hd rfl rfl) ?_
  refine aI_c (fun hd => s_if_ne hX hd (by decide) rfl) ?_
  refine aI_c (fun hd => s_bp hX hd (by decide) rfl) ?_
  refine aI_c (fun hd => s_ri hX hr hlk hE hd) ?_
  refine aI_c (fun hd => s_al_n hX hd rfl rfl) ?_
  refine aI_c (fun hd => s_cV hX (T := TX5) (N := 35) (nX5_keeps l) rfl (wg_V up lmX5_210 loX5_keeps) rfl rfl rfl (by decide +kernel) ⟨by decide, by decide⟩ ⟨Nat.zero_le _, Nat.zero_le _⟩ hd rfl) ?_
  refine aI_c (fun hd => s_al_n hX hd rfl rfl) ?_
  refine aI_c (fun hd => s_il_n hX hd rfl rfl) ?_
  refine aI_c (fun hd => s_cV hX (T := TX5) (N := 35) (nX5_goes l) rfl (wg_V up lmX5_213 loX5_goes) rfl rfl rfl (by decide +kernel) ⟨by decide, by decide⟩ ⟨Nat.zero_le _, Nat.zero_le _⟩ hd rfl) ?_
  refine aI_c (fun hd => s_is hX hd rfl (by decide)) ?_
  refine aI_c (fun hd => s_il_n hX hd rfl rfl) ?_
  refine aI_c (fun hd => s_sw hX hd (by decide) (by decide +kernel)) ?_
  refine aI_c (fun hd => s_al_n hX hd rfl rfl) ?_
  refine aI_c (fun hd => s_cV hX (T := TX5) (N := 35) (nX5_caseSet l) rfl (wg_V up lmX5_93 loX5_caseSet) rfl rfl rfl (by decide +kernel) ⟨by decide, by decide⟩ ⟨Nat.zero_le _, Nat.zero_le _⟩ hd rfl) ?_
  refine aI_c (fun hd => s_is hX hd rfl (by decide)) ?_
  refine aI_c (fun hd => s_go hX hd (by decide)) ?_
  refine aI_c (fun hd => s_go hX hd (by decide)) ?_
  refine aI_c (fun hd => s_al_n hX hd rfl rfl) ?_
  refine aI_c (fun hd => s_cV hX (T := TX5) (N := 35) (nX5_waitedAll l) rfl (wg_V up lmX5_216 loX5_waitedAll) rfl rfl rfl (by decide +kernel) ⟨by decide, by decide⟩ ⟨Nat.zero_le _, Nat.zero_le _⟩ hd rfl) ?_
  refine aI_c (fun hd => s_is hX hd rfl (by decide)) ?_
  refine aI_c (fun hd => s_go hX hd (by decide)) ?_
  refine aI_c (fun hd => s_il_n hX hd rfl rfl) ?_
  refine aI_c (fun hd => s_bp hX hd (by decide) rfl) ?_
  refine aI_c (fun hd => s_ic_ge hX hd (by decide) rfl) ?_
  refine aI_c (fun hd => s_al_n hX hd rfl rfl) ?_
  refine aI_c (fun hd => s_gF hX (C := RX5) (T := TX5) (N := 35) (k := 3) rfl (fun w h => up w (inlX5 w h)) (by decide) rfl rfl rfl (up _ lkX5_16) hd rfl) ?_
  refine aI_c (fun hd => s_ii hX hd (by decide) rfl) ?_
  refine aI_c (fun hd => s_il_n hX hd rfl rfl) ?_
  refine aI_c (fun hd => s_bp hX hd (by decide) rfl) ?_
  refine aI_c (fun hd => s_isub hX hd rfl) ?_
  refine aI_c (fun hd => s_imul hX hd rfl) ?_
  refine aI_c (fun hd => s_ii hX hd (by decide) rfl) ?_
  refine aI_c (fun hd => s_iadd hX hd rfl) ?_
  refine aI_c (fun hd => s_iald hX hd rfl) ?_
  refine aI_c (fun hd => s_go hX hd (by decide)) ?_
  refine aI_c (fun hd => s_al_n hX hd rfl rfl) ?_
  refine aI_c (fun hd => s_gF hX (C := RX5) (T := TX5) (N := 35) (k := 3) rfl (fun w h => up w (inlX5 w h)) (by decide) rfl rfl rfl (up _ lkX5_16) hd rfl) ?_
  refine aI_c (fun hd => s_ii hX hd (by decide) rfl) ?_
  refine aI_c (fun hd => s_il_n hX hd rfl rfl) ?_
  refine aI_c (fun hd => s_bp hX hd (by decide) rfl) ?_
  refine aI_c (fun hd => s_isub hX hd rfl) ?_
  refine aI_c (fun hd => s_imul hX hd rfl) ?_
  refine aI_c (fun hd => s_iald hX hd rfl) ?_
  refine aI_c (fun hd => s_is hX hd rfl (by decide)) ?_
  refine aI_c (fun hd => s_al_n hX hd rfl rfl) ?_
  refine aI_c (fun hd => s_cV hX (T := TX5) (N := 35) (nX5_lays l) rfl (wg_V up lmX5_219 loX5_lays) rfl rfl rfl (by decide +kernel) ⟨by decide, by decide⟩ ⟨Nat.zero_le _, Nat.zero_le _⟩ hd rfl) ?_
  refine aI_c (fun hd => s_il hX hd rfl) ?_
  refine aI_c (fun hd => s_ri hX hr hlk hE hd) ?_
  exact trivial

-- JudgesByLossModel.when(I)I
def tX5_when : aT := [
  (0, (.iload_n 1, 1), o_il 1 1),
  (1, (.iconst 0, 1), o_ii 0 2),
  (2, (.bipush 8, 2), o_ii 8 4),
  (4, (.invokestatic 81, 3), o_cS CX5_in 3 7),
  (7, (.ifCond .ne 6, 3), o_if (fun x => ¬ x = 0) 13 10),
  (10, (.bipush (-7), 2), o_ii (-7) 12),
  (12, (.ireturn, 1), o_ri),
  (13, (.iload_n 1, 1), o_il 1 14),
  (14, (.bipush 8, 2), o_ii 8 16),
  (16, (.if_icmp .ge 14, 3), o_ic (fun x y => y ≤ x) 30 19),
  (19, (.aload_n 0, 1), o_al 0 20),
  (20, (.iload_n 1, 1), o_il 1 21),
  (21, (.invokevirtual 89, 3), o_cV CX5_isThere 5 1 24),
  (24, (.ifCond .ne 6, 3), o_if (fun x => ¬ x = 0) 30 27),
  (27, (.bipush (-6), 2), o_ii (-6) 29),
  (29, (.ireturn, 1), o_ri),
  (30, (.iconst (-1), 1), o_ii (-1) 31),
  (31, (.istore_n 2, 1), o_is 2 32),
  (32, (.aload_n 0, 1), o_al 0 33),
  (33, (.invokevirtual 210, 3), o_cV CX5_keeps 5 0 36),
  (36, (.iconst 0, 1), o_ii 0 37),
  (37, (.istore_n 3, 1), o_is 3 38),
  (38, (.iload_n 3, 1), o_mk [false, false, false, false, true] (o_il 3 39)),
  (39, (.bipush 60, 2), o_ii 60 41),
  (41, (.if_icmp .gt 66, 3), o_ic (fun x y => y < x) 107 44),
  (44, (.iload_n 2, 1), o_il 2 45),
  (45, (.iconst (-1), 1), o_ii (-1) 46),
  (46, (.if_icmp .ne 61, 3), o_ic (fun x y => ¬ x = y) 107 49),
  (49, (.iload_n 1, 1), o_il 1 50),
  (50, (.bipush 8, 2), o_ii 8 52),
  (52, (.if_icmp .ne 18, 3), o_ic (fun x y => ¬ x = y) 70 55),
  (55, (.aload_n 0, 1), o_al 0 56),
  (56, (.invokevirtual 93, 3), o_cV CX5_caseSet 5 0 59),
  (59, (.ifCond .ne 7, 3), o_if (fun x => ¬ x = 0) 66 62),
  (62, (.iconst 1, 1), o_ii 1 63),
  (63, (.goto 20, 3), o_go 83),
  (66, (.iconst 0, 1), o_ii 0 67),
  (67, (.goto 16, 3), o_go 83),
  (70, (.aload_n 0, 1), o_al 0 71),
  (71, (.iload_n 1, 1), o_il 1 72),
  (72, (.invokevirtual 89, 3), o_cV CX5_isThere 5 1 75),
  (75, (.ifCond .ne 7, 3), o_if (fun x => ¬ x = 0) 82 78),
  (78, (.iconst 1, 1), o_ii 1 79),
  (79, (.goto 4, 3), o_go 83),
  (82, (.iconst 0, 1), o_ii 0 83),
  (83, (.istore 4, 2), o_is 4 85),
  (85, (.iload 4, 2), o_il 4 87),
  (87, (.ifCond .eq 7, 3), o_if (fun x => x = 0) 94 90),
  (90, (.iload_n 3, 1), o_il 3 91),
  (91, (.goto 4, 3), o_go 95),
  (94, (.iconst (-1), 1), o_ii (-1) 95),
  (95, (.istore_n 2, 1), o_is 2 96),
  (96, (.aload_n 0, 1), o_al 0 97),
  (97, (.invokevirtual 207, 3), o_cV CX5_dayOf 5 0 100),
  (100, (.pop, 1), o_pop 101),
  (101, (.iinc 3 1, 3), o_inc 3 1 104),
  (104, (.goto (-66), 3), o_go 38),
  (107, (.aload_n 0, 1), o_al 0 108),
  (108, (.invokevirtual 219, 3), o_cV CX5_lays 5 0 111),
  (111, (.iload_n 2, 1), o_il 2 112),
  (112, (.ireturn, 1), o_ri)]
abbrev CX5_when : aC := aCl tX5_when 5
def rmX5_when : Room := { frames := 8, cells := 0, slots := 0, locals := 163 }
set_option maxRecDepth 100000 in
theorem dX5_when : tX5_when.all (fun q => decide (decode cX5_when q.1 = .ok q.2.1)) = true := by decide +kernel
set_option maxRecDepth 100000 in
set_option maxHeartbeats 4000000 in
theorem nX5_when (l : Launch) : aMt l yX5_when (Cond.code yX5_when cX5_when 5 (some .int) :: wsL_law) rmX5_when CX5_when := by
  refine aMt.of (own := RX5) (cc := cX5_when) (maxL := 5) (ret := (some .int)) (by decide +kernel) rfl rfl ?_
  intro p e s m args below meth c Qc D Z ad P G A E hX hr hlk hE
  have up : ∀ w ∈ wsL_law, w ∈ (Cond.code yX5_when cX5_when 5 (some .int) :: wsL_law) := fun w h => List.mem_cons_of_mem _ h
  refine aImp_all _ dX5_when ?_
  unfold tX5_when
  refine aI_c (fun hd => s_il_n hX hd rfl rfl) ?_
  refine aI_c (fun hd => s_ii hX hd (by decide) rfl) ?_
  refine aI_c (fun hd => s_bp hX hd (by decide) rfl) ?_
  refine aI_c (fun hd => s_cS hX (nX5_in l) (wg_S up lmX5_81 loX5_in) rfl rfl rfl (by decide +kernel) ⟨by decide, by decide⟩ ⟨Nat.zero_le _, Nat.zero_le _⟩ hd rfl) ?_
  refine aI_c (fun hd => s_if_ne hX hd (by decide) rfl) ?_
  refine aI_c (fun hd => s_bp hX hd (by decide) rfl) ?_
  refine aI_c (fun hd => s_ri hX hr hlk hE hd) ?_
  refine aI_c (fun hd => s_il_n hX hd rfl rfl) ?_
  refine aI_c (fun hd => s_bp hX hd (by decide) rfl) ?_
  refine aI_c (fun hd => s_ic_ge hX hd (by decide) rfl) ?_
  refine aI_c (fun hd => s_al_n hX hd rfl rfl) ?_
  refine aI_c (fun hd => s_il_n hX hd rfl rfl) ?_
  refine aI_c (fun hd => s_cV hX (T := TX5) (N := 35) (nX5_isThere l) rfl (wg_V up lmX5_89 loX5_isThere) rfl rfl rfl (by decide +kernel) ⟨by decide, by decide⟩ ⟨Nat.zero_le _, Nat.zero_le _⟩ hd rfl) ?_
  refine aI_c (fun hd => s_if_ne hX hd (by decide) rfl) ?_
  refine aI_c (fun hd => s_bp hX hd (by decide) rfl) ?_
  refine aI_c (fun hd => s_ri hX hr hlk hE hd) ?_
  refine aI_c (fun hd => s_ii hX hd (by decide) rfl) ?_
  refine aI_c (fun hd => s_is_n hX hd rfl rfl (by decide)) ?_
  refine aI_c (fun hd => s_al_n hX hd rfl rfl) ?_
  refine aI_c (fun hd => s_cV hX (T := TX5) (N := 35) (nX5_keeps l) rfl (wg_V up lmX5_210 loX5_keeps) rfl rfl rfl (by decide +kernel) ⟨by decide, by decide⟩ ⟨Nat.zero_le _, Nat.zero_le _⟩ hd rfl) ?_
  refine aI_c (fun hd => s_ii hX hd (by decide) rfl) ?_
  refine aI_c (fun hd => s_is_n hX hd rfl rfl (by decide)) ?_
  refine aI_c (fun hd => s_mk (s_il_n hX hd rfl rfl)) ?_
  refine aI_c (fun hd => s_bp hX hd (by decide) rfl) ?_
  refine aI_c (fun hd => s_ic_gt hX hd (by decide) rfl) ?_
  refine aI_c (fun hd => s_il_n hX hd rfl rfl) ?_
  refine aI_c (fun hd => s_ii hX hd (by decide) rfl) ?_
  refine aI_c (fun hd => s_ic_ne hX hd (by decide) rfl) ?_
  refine aI_c (fun hd => s_il_n hX hd rfl rfl) ?_
  refine aI_c (fun hd => s_bp hX hd (by decide) rfl) ?_
  refine aI_c (fun hd => s_ic_ne hX hd (by decide) rfl) ?_
  refine aI_c (fun hd => s_al_n hX hd rfl rfl) ?_
  refine aI_c (fun hd => s_cV hX (T := TX5) (N := 35) (nX5_caseSet l) rfl (wg_V up lmX5_93 loX5_caseSet) rfl rfl rfl (by decide +kernel) ⟨by decide, by decide⟩ ⟨Nat.zero_le _, Nat.zero_le _⟩ hd rfl) ?_
  refine aI_c (fun hd => s_if_ne hX hd (by decide) rfl) ?_
  refine aI_c (fun hd => s_ii hX hd (by decide) rfl) ?_
  refine aI_c (fun hd => s_go hX hd (by decide)) ?_
  refine aI_c (fun hd => s_ii hX hd (by decide) rfl) ?_
  refine aI_c (fun hd => s_go hX hd (by decide)) ?_
  refine aI_c (fun hd => s_al_n hX hd rfl rfl) ?_
  refine aI_c (fun hd => s_il_n hX hd rfl rfl) ?_
  refine aI_c (fun hd => s_cV hX (T := TX5) (N := 35) (nX5_isThere l) rfl (wg_V up lmX5_89 loX5_isThere) rfl rfl rfl (by decide +kernel) ⟨by decide, by decide⟩ ⟨Nat.zero_le _, Nat.zero_le _⟩ hd rfl) ?_
  refine aI_c (fun hd => s_if_ne hX hd (by decide) rfl) ?_
  refine aI_c (fun hd => s_ii hX hd (by decide) rfl) ?_
  refine aI_c (fun hd => s_go hX hd (by decide)) ?_
  refine aI_c (fun hd => s_ii hX hd (by decide) rfl) ?_
  refine aI_c (fun hd => s_is hX hd rfl (by decide)) ?_
  refine aI_c (fun hd => s_il hX hd rfl) ?_
  refine aI_c (fun hd => s_if_eq hX hd (by decide) rfl) ?_
  refine aI_c (fun hd => s_il_n hX hd rfl rfl) ?_
  refine aI_c (fun hd => s_go hX hd (by decide)) ?_
  refine aI_c (fun hd => s_ii hX hd (by decide) rfl) ?_
  refine aI_c (fun hd => s_is_n hX hd rfl rfl (by decide)) ?_
  refine aI_c (fun hd => s_al_n hX hd rfl rfl) ?_
  refine aI_c (fun hd => s_cV hX (T := TX5) (N := 35) (nX5_dayOf l) rfl (wg_V up lmX5_207 loX5_dayOf) rfl rfl rfl (by decide +kernel) ⟨by decide, by decide⟩ ⟨Nat.zero_le _, Nat.zero_le _⟩ hd rfl) ?_
  refine aI_c (fun hd => s_pop hX hd rfl) ?_
  refine aI_c (fun hd => s_inc hX hd (by decide) rfl (by decide)) ?_
  refine aI_c (fun hd => s_go hX hd (by decide)) ?_
  refine aI_c (fun hd => s_al_n hX hd rfl rfl) ?_
  refine aI_c (fun hd => s_cV hX (T := TX5) (N := 35) (nX5_lays l) rfl (wg_V up lmX5_219 loX5_lays) rfl rfl rfl (by decide +kernel) ⟨by decide, by decide⟩ ⟨Nat.zero_le _, Nat.zero_le _⟩ hd rfl) ?_
  refine aI_c (fun hd => s_il_n hX hd rfl rfl) ?_
  refine aI_c (fun hd => s_ri hX hr hlk hE hd) ?_
  exact trivial

-- JudgesByLossModel.tellsSittings()V
def tX5_tellsSittings : aT := [
  (0, (.iconst 0, 1), o_ii 0 1),
  (1, (.istore_n 1, 1), o_is 1 2),
  (2, (.iload_n 1, 1), o_mk [false, false, true, true, true, true] (o_il 1 3)),
  (3, (.bipush 8, 2), o_ii 8 5),
  (5, (.if_icmp .ge 65, 3), o_ic (fun x y => y ≤ x) 70 8),
  (8, (.aload_n 0, 1), o_al 0 9),
  (9, (.getfield 67, 3), o_gF 5 20 12),
  (12, (.iload_n 1, 1), o_il 1 13),
  (13, (.iconst 0, 1), o_ii 0 14),
  (14, (.iastore, 1), o_iast 15),
  (15, (.iconst 0, 1), o_ii 0 16),
  (16, (.istore_n 2, 1), o_is 2 17),
  (17, (.iload_n 2, 1), o_mk [false, false, false, true, true, true] (o_il 2 18)),
  (18, (.aload_n 0, 1), o_al 0 19),
  (19, (.getfield 78, 3), o_gI 5 0 22),
  (22, (.if_icmp .ge 42, 3), o_ic (fun x y => y ≤ x) 64 25),
  (25, (.aload_n 0, 1), o_al 0 26),
  (26, (.iload_n 1, 1), o_il 1 27),
  (27, (.invokevirtual 89, 3), o_cV CX5_isThere 5 1 30),
  (30, (.ifCond .eq 34, 3), o_if (fun x => x = 0) 64 33),
  (33, (.aload_n 0, 1), o_al 0 34),
  (34, (.getfield 67, 3), o_gF 5 20 37),
  (37, (.iload_n 1, 1), o_il 1 38),
  (38, (.dup2, 1), o_dup2 39),
  (39, (.iaload, 1), o_iald 40),
  (40, (.aload_n 0, 1), o_al 0 41),
  (41, (.iload_n 2, 1), o_il 2 42),
  (42, (.iload_n 1, 1), o_il 1 43),
  (43, (.invokevirtual 198, 3), o_cV CX5_can 5 2 46),
  (46, (.ifCond .eq 9, 3), o_if (fun x => x = 0) 55 49),
  (49, (.iconst 1, 1), o_ii 1 50),
  (50, (.iload_n 2, 1), o_il 2 51),
  (51, (.ishl, 1), o_bi (fun x y => x <<< (y &&& 31)) 52),
  (52, (.goto 4, 3), o_go 56),
  (55, (.iconst 0, 1), o_ii 0 56),
  (56, (.ior, 1), o_bi (fun x y => x ||| y) 57),
  (57, (.iastore, 1), o_iast 58),
  (58, (.iinc 2 1, 3), o_inc 2 1 61),
  (61, (.goto (-44), 3), o_go 17),
  (64, (.iinc 1 1, 3), o_inc 1 1 67),
  (67, (.goto (-65), 3), o_go 2),
  (70, (.iconst 0, 1), o_ii 0 71),
  (71, (.istore_n 1, 1), o_is 1 72),
  (72, (.iload_n 1, 1), o_mk [false, false, true, true, true, true] (o_il 1 73)),
  (73, (.bipush 64, 2), o_ii 64 75),
  (75, (.if_icmp .ge 20, 3), o_ic (fun x y => y ≤ x) 95 78),
  (78, (.aload_n 0, 1), o_al 0 79),
  (79, (.getfield 64, 3), o_gF 5 19 82),
  (82, (.sipush 512, 3), o_ii 512 85),
  (85, (.iload_n 1, 1), o_il 1 86),
  (86, (.iadd, 1), o_bi (fun x y => x + y) 87),
  (87, (.iconst 0, 1), o_ii 0 88),
  (88, (.iastore, 1), o_iast 89),
  (89, (.iinc 1 1, 3), o_inc 1 1 92),
  (92, (.goto (-20), 3), o_go 72),
  (95, (.bipush 7, 2), o_ii 7 97),
  (97, (.istore_n 1, 1), o_is 1 98),
  (98, (.iload_n 1, 1), o_mk [false, false, true, true, true, true] (o_il 1 99)),
  (99, (.ifCond .lt 126, 3), o_if (fun x => x < 0) 225 102),
  (102, (.iconst 0, 1), o_ii 0 103),
  (103, (.istore_n 2, 1), o_is 2 104),
  (104, (.iload_n 2, 1), o_mk [false, false, false, true, true, true] (o_il 2 105)),
  (105, (.bipush 64, 2), o_ii 64 107),
  (107, (.if_icmp .ge 112, 3), o_ic (fun x y => y ≤ x) 219 110),
  (110, (.aload_n 0, 1), o_al 0 111),
  (111, (.getfield 64, 3), o_gF 5 19 114),
  (114, (.bipush 64, 2), o_ii 64 116),
  (116, (.iload_n 1, 1), o_il 1 117),
  (117, (.imul, 1), o_bi (fun x y => x * y) 118),
  (118, (.bipush 64, 2), o_ii 64 120),
  (120, (.iadd, 1), o_bi (fun x y => x + y) 121),
  (121, (.iload_n 2, 1), o_il 2 122),
  (122, (.iadd, 1), o_bi (fun x y => x + y) 123),
  (123, (.iaload, 1), o_iald 124),
  (124, (.istore_n 3, 1), o_is 3 125),
  (125, (.iconst 0, 1), o_ii 0 126),
  (126, (.istore 4, 2), o_is 4 128),
  (128, (.iload 4, 2), o_mk [false, false, false, false, false, true] (o_il 4 130)),
  (130, (.bipush 6, 2), o_ii 6 132),
  (132, (.if_icmp .ge 69, 3), o_ic (fun x y => y ≤ x) 201 135),
  (135, (.aload_n 0, 1), o_al 0 136),
  (136, (.getfield 67, 3), o_gF 5 20 139),
  (139, (.iload_n 1, 1), o_il 1 140),
  (140, (.iaload, 1), o_iald 141),
  (141, (.iload 4, 2), o_il 4 143),
  (143, (.ishr, 1), o_bi (fun x y => x >>> (y &&& 31)) 144),
  (144, (.iconst 1, 1), o_ii 1 145),
  (145, (.iand, 1), o_bi (fun x y => x &&& y) 146),
  (146, (.iconst 1, 1), o_ii 1 147),
  (147, (.if_icmp .ne 48, 3), o_ic (fun x y => ¬ x = y) 195 150),
  (150, (.iload_n 2, 1), o_il 2 151),
  (151, (.iload 4, 2), o_il 4 153),
  (153, (.ishr, 1), o_bi (fun x y => x >>> (y &&& 31)) 154),
  (154, (.iconst 1, 1), o_ii 1 155),
  (155, (.iand, 1), o_bi (fun x y => x &&& y) 156),
  (156, (.ifCond .ne 39, 3), o_if (fun x => ¬ x = 0) 195 159),
  (159, (.iconst 1, 1), o_ii 1 160),
  (160, (.aload_n 0, 1), o_al 0 161),
  (161, (.getfield 64, 3), o_gF 5 19 164),
  (164, (.bipush 64, 2), o_ii 64 166),
  (166, (.iload_n 1, 1), o_il 1 167),
  (167, (.imul, 1), o_bi (fun x y => x * y) 168),
  (168, (.bipush 64, 2), o_ii 64 170),
  (170, (.iadd, 1), o_bi (fun x y => x + y) 171),
  (171, (.iload_n 2, 1), o_il 2 172),
  (172, (.iconst 1, 1), o_ii 1 173),
  (173, (.iload 4, 2), o_il 4 175),
  (175, (.ishl, 1), o_bi (fun x y => x <<< (y &&& 31)) 176),
  (176, (.ior, 1), o_bi (fun x y => x ||| y) 177),
  (177, (.iadd, 1), o_bi (fun x y => x + y) 178),
  (178, (.iaload, 1), o_iald 179),
  (179, (.iadd, 1), o_bi (fun x y => x + y) 180),
  (180, (.istore 5, 2), o_is 5 182),
  (182, (.iload 5, 2), o_il 5 184),
  (184, (.iload_n 3, 1), o_il 3 185),
  (185, (.if_icmp .le 8, 3), o_ic (fun x y => x ≤ y) 193 188),
  (188, (.iload 5, 2), o_il 5 190),
  (190, (.goto 4, 3), o_go 194),
  (193, (.iload_n 3, 1), o_il 3 194),
  (194, (.istore_n 3, 1), o_is 3 195),
  (195, (.iinc 4 1, 3), o_inc 4 1 198),
  (198, (.goto (-70), 3), o_go 128),
  (201, (.aload_n 0, 1), o_al 0 202),
  (202, (.getfield 64, 3), o_gF 5 19 205),
  (205, (.bipush 64, 2), o_ii 64 207),
  (207, (.iload_n 1, 1), o_il 1 208),
  (208, (.imul, 1), o_bi (fun x y => x * y) 209),
  (209, (.iload_n 2, 1), o_il 2 210),
  (210, (.iadd, 1), o_bi (fun x y => x + y) 211),
  (211, (.iload_n 3, 1), o_il 3 212),
  (212, (.iastore, 1), o_iast 213),
  (213, (.iinc 2 1, 3), o_inc 2 1 216),
  (216, (.goto (-112), 3), o_go 104),
  (219, (.iinc 1 (-1), 3), o_inc 1 (-1) 222),
  (222, (.goto (-124), 3), o_go 98),
  (225, (.return_, 1), o_rv)]
abbrev CX5_tellsSittings : aC := aCl tX5_tellsSittings 6
def rmX5_tellsSittings : Room := { frames := 6, cells := 0, slots := 0, locals := 119 }
set_option maxRecDepth 100000 in
theorem dX5_tellsSittings : tX5_tellsSittings.all (fun q => decide (decode cX5_tellsSittings q.1 = .ok q.2.1)) = true := by decide +kernel
set_option maxRecDepth 100000 in
set_option maxHeartbeats 4000000 in
theorem nX5_tellsSittings (l : Launch) : aMt l yX5_tellsSittings (Cond.code yX5_tellsSittings cX5_tellsSittings 6 none :: wsL_law) rmX5_tellsSittings CX5_tellsSittings := by
  refine aMt.of (own := RX5) (cc := cX5_tellsSittings) (maxL := 6) (ret := none) (by decide +kernel) rfl rfl ?_
  intro p e s m args below meth c Qc D Z ad P G A E hX hr hlk hE
  have up : ∀ w ∈ wsL_law, w ∈ (Cond.code yX5_tellsSittings cX5_tellsSittings 6 none :: wsL_law) := fun w h => List.mem_cons_of_mem _ h
  refine aImp_all _ dX5_tellsSittings ?_
  unfold tX5_tellsSittings
  refine aI_c (fun hd => s_ii hX hd (by decide) rfl) ?_
  refine aI_c (fun hd => s_is_n hX hd rfl rfl (by decide)) ?_
  refine aI_c (fun hd => s_mk (s_il_n hX hd rfl rfl)) ?_
  refine aI_c (fun hd => s_bp hX hd (by decide) rfl) ?_
  refine aI_c (fun hd => s_ic_ge hX hd (by decide) rfl) ?_
  refine aI_c (fun hd => s_al_n hX hd rfl rfl) ?_
  refine aI_c (fun hd => s_gF hX (C := RX5) (T := TX5) (N := 35) (k := 33) rfl (fun w h => up w (inlX5 w h)) (by decide) rfl rfl rfl (up _ lkX5_67) hd rfl) ?_
  refine aI_c (fun hd => s_il_n hX hd rfl rfl) ?_
  refine aI_c (fun hd => s_ii hX hd (by decide) rfl) ?_
  refine aI_c (fun hd => s_iast hX hd rfl) ?_
  refine aI_c (fun hd => s_ii hX hd (by decide) rfl) ?_
  refine aI_c (fun hd => s_is_n hX hd rfl rfl (by decide)) ?_
  refine aI_c (fun hd => s_mk (s_il_n hX hd rfl rfl)) ?_
  refine aI_c (fun hd => s_al_n hX hd rfl rfl) ?_
  refine aI_c (fun hd => s_gI hX (C := RX5) (T := TX5) (N := 35) (k := 0) rfl (fun w h => up w (inlX5 w h)) (by decide) rfl rfl rfl (up _ lkX5_78) hd rfl) ?_
  refine aI_c (fun hd => s_ic_ge hX hd (by decide) rfl) ?_
  refine aI_c (fun hd => s_al_n hX hd rfl rfl) ?_
  refine aI_c (fun hd => s_il_n hX hd rfl rfl) ?_
  refine aI_c (fun hd => s_cV hX (T := TX5) (N := 35) (nX5_isThere l) rfl (wg_V up lmX5_89 loX5_isThere) rfl rfl rfl (by decide +kernel) ⟨by decide, by decide⟩ ⟨Nat.zero_le _, Nat.zero_le _⟩ hd rfl) ?_
  refine aI_c (fun hd => s_if_eq hX hd (by decide) rfl) ?_
  refine aI_c (fun hd => s_al_n hX hd rfl rfl) ?_
  refine aI_c (fun hd => s_gF hX (C := RX5) (T := TX5) (N := 35) (k := 33) rfl (fun w h => up w (inlX5 w h)) (by decide) rfl rfl rfl (up _ lkX5_67) hd rfl) ?_
  refine aI_c (fun hd => s_il_n hX hd rfl rfl) ?_
  refine aI_c (fun hd => s_dup2 hX hd rfl) ?_
  refine aI_c (fun hd => s_iald hX hd rfl) ?_
  refine aI_c (fun hd => s_al_n hX hd rfl rfl) ?_
  refine aI_c (fun hd => s_il_n hX hd rfl rfl) ?_
  refine aI_c (fun hd => s_il_n hX hd rfl rfl) ?_
  refine aI_c (fun hd => s_cV hX (T := TX5) (N := 35) (nX5_can l) rfl (wg_V up lmX5_198 loX5_can) rfl rfl rfl (by decide +kernel) ⟨by decide, by decide⟩ ⟨Nat.zero_le _, Nat.zero_le _⟩ hd rfl) ?_
  refine aI_c (fun hd => s_if_eq hX hd (by decide) rfl) ?_
  refine aI_c (fun hd => s_ii hX hd (by decide) rfl) ?_
  refine aI_c (fun hd => s_il_n hX hd rfl rfl) ?_
  refine aI_c (fun hd => s_ishl hX hd rfl) ?_
  refine aI_c (fun hd => s_go hX hd (by decide)) ?_
  refine aI_c (fun hd => s_ii hX hd (by decide) rfl) ?_
  refine aI_c (fun hd => s_ior hX hd rfl) ?_
  refine aI_c (fun hd => s_iast hX hd rfl) ?_
  refine aI_c (fun hd => s_inc hX hd (by decide) rfl (by decide)) ?_
  refine aI_c (fun hd => s_go hX hd (by decide)) ?_
  refine aI_c (fun hd => s_inc hX hd (by decide) rfl (by decide)) ?_
  refine aI_c (fun hd => s_go hX hd (by decide)) ?_
  refine aI_c (fun hd => s_ii hX hd (by decide) rfl) ?_
  refine aI_c (fun hd => s_is_n hX hd rfl rfl (by decide)) ?_
  refine aI_c (fun hd => s_mk (s_il_n hX hd rfl rfl)) ?_
  refine aI_c (fun hd => s_bp hX hd (by decide) rfl) ?_
  refine aI_c (fun hd => s_ic_ge hX hd (by decide) rfl) ?_
  refine aI_c (fun hd => s_al_n hX hd rfl rfl) ?_
  refine aI_c (fun hd => s_gF hX (C := RX5) (T := TX5) (N := 35) (k := 32) rfl (fun w h => up w (inlX5 w h)) (by decide) rfl rfl rfl (up _ lkX5_64) hd rfl) ?_
  refine aI_c (fun hd => s_sp hX hd (by decide) rfl) ?_
  refine aI_c (fun hd => s_il_n hX hd rfl rfl) ?_
  refine aI_c (fun hd => s_iadd hX hd rfl) ?_
  refine aI_c (fun hd => s_ii hX hd (by decide) rfl) ?_
  refine aI_c (fun hd => s_iast hX hd rfl) ?_
  refine aI_c (fun hd => s_inc hX hd (by decide) rfl (by decide)) ?_
  refine aI_c (fun hd => s_go hX hd (by decide)) ?_
  refine aI_c (fun hd => s_bp hX hd (by decide) rfl) ?_
  refine aI_c (fun hd => s_is_n hX hd rfl rfl (by decide)) ?_
  refine aI_c (fun hd => s_mk (s_il_n hX hd rfl rfl)) ?_
  refine aI_c (fun hd => s_if_lt hX hd (by decide) rfl) ?_
  refine aI_c (fun hd => s_ii hX hd (by decide) rfl) ?_
  refine aI_c (fun hd => s_is_n hX hd rfl rfl (by decide)) ?_
  refine aI_c (fun hd => s_mk (s_il_n hX hd rfl rfl)) ?_
  refine aI_c (fun hd => s_bp hX hd (by decide) rfl) ?_
  refine aI_c (fun hd => s_ic_ge hX hd (by decide) rfl) ?_
  refine aI_c (fun hd => s_al_n hX hd rfl rfl) ?_
  refine aI_c (fun hd => s_gF hX (C := RX5) (T := TX5) (N := 35) (k := 32) rfl (fun w h => up w (inlX5 w h)) (by decide) rfl rfl rfl (up _ lkX5_64) hd rfl) ?_
  refine aI_c (fun hd => s_bp hX hd (by decide) rfl) ?_
  refine aI_c (fun hd => s_il_n hX hd rfl rfl) ?_
  refine aI_c (fun hd => s_imul hX hd rfl) ?_
  refine aI_c (fun hd => s_bp hX hd (by decide) rfl) ?_
  refine aI_c (fun hd => s_iadd hX hd rfl) ?_
  refine aI_c (fun hd => s_il_n hX hd rfl rfl) ?_
  refine aI_c (fun hd => s_iadd hX hd rfl) ?_
  refine aI_c (fun hd => s_iald hX hd rfl) ?_
  refine aI_c (fun hd => s_is_n hX hd rfl rfl (by decide)) ?_
  refine aI_c (fun hd => s_ii hX hd (by decide) rfl) ?_
  refine aI_c (fun hd => s_is hX hd rfl (by decide)) ?_
  refine aI_c (fun hd => s_mk (s_il hX hd rfl)) ?_
  refine aI_c (fun hd => s_bp hX hd (by decide) rfl) ?_
  refine aI_c (fun hd => s_ic_ge hX hd (by decide) rfl) ?_
  refine aI_c (fun hd => s_al_n hX hd rfl rfl) ?_
  refine aI_c (fun hd => s_gF hX (C := RX5) (T := TX5) (N := 35) (k := 33) rfl (fun w h => up w (inlX5 w h)) (by decide) rfl rfl rfl (up _ lkX5_67) hd rfl) ?_
  refine aI_c (fun hd => s_il_n hX hd rfl rfl) ?_
  refine aI_c (fun hd => s_iald hX hd rfl) ?_
  refine aI_c (fun hd => s_il hX hd rfl) ?_
  refine aI_c (fun hd => s_ishr hX hd rfl) ?_
  refine aI_c (fun hd => s_ii hX hd (by decide) rfl) ?_
  refine aI_c (fun hd => s_iand hX hd rfl) ?_
  refine aI_c (fun hd => s_ii hX hd (by decide) rfl) ?_
  refine aI_c (fun hd => s_ic_ne hX hd (by decide) rfl) ?_
  refine aI_c (fun hd => s_il_n hX hd rfl rfl) ?_
  refine aI_c (fun hd => s_il hX hd rfl) ?_
  refine aI_c (fun hd => s_ishr hX hd rfl) ?_
  refine aI_c (fun hd => s_ii hX hd (by decide) rfl) ?_
  refine aI_c (fun hd => s_iand hX hd rfl) ?_
  refine aI_c (fun hd => s_if_ne hX hd (by decide) rfl) ?_
  refine aI_c (fun hd => s_ii hX hd (by decide) rfl) ?_
  refine aI_c (fun hd => s_al_n hX hd rfl rfl) ?_
  refine aI_c (fun hd => s_gF hX (C := RX5) (T := TX5) (N := 35) (k := 32) rfl (fun w h => up w (inlX5 w h)) (by decide) rfl rfl rfl (up _ lkX5_64) hd rfl) ?_
  refine aI_c (fun hd => s_bp hX hd (by decide) rfl) ?_
  refine aI_c (fun hd => s_il_n hX hd rfl rfl) ?_
  refine aI_c (fun hd => s_imul hX hd rfl) ?_
  refine aI_c (fun hd => s_bp hX hd (by decide) rfl) ?_
  refine aI_c (fun hd => s_iadd hX hd rfl) ?_
  refine aI_c (fun hd => s_il_n hX hd rfl rfl) ?_
  refine aI_c (fun hd => s_ii hX hd (by decide) rfl) ?_
  refine aI_c (fun hd => s_il hX hd rfl) ?_
  refine aI_c (fun hd => s_ishl hX hd rfl) ?_
  refine aI_c (fun hd => s_ior hX hd rfl) ?_
  refine aI_c (fun hd => s_iadd hX hd rfl) ?_
  refine aI_c (fun hd => s_iald hX hd rfl) ?_
  refine aI_c (fun hd => s_iadd hX hd rfl) ?_
  refine aI_c (fun hd => s_is hX hd rfl (by decide)) ?_
  refine aI_c (fun hd => s_il hX hd rfl) ?_
  refine aI_c (fun hd => s_il_n hX hd rfl rfl) ?_
  refine aI_c (fun hd => s_ic_le hX hd (by decide) rfl) ?_
  refine aI_c (fun hd => s_il hX hd rfl) ?_
  refine aI_c (fun hd => s_go hX hd (by decide)) ?_
  refine aI_c (fun hd => s_il_n hX hd rfl rfl) ?_
  refine aI_c (fun hd => s_is_n hX hd rfl rfl (by decide)) ?_
  refine aI_c (fun hd => s_inc hX hd (by decide) rfl (by decide)) ?_
  refine aI_c (fun hd => s_go hX hd (by decide)) ?_
  refine aI_c (fun hd => s_al_n hX hd rfl rfl) ?_
  refine aI_c (fun hd => s_gF hX (C := RX5) (T := TX5) (N := 35) (k := 32) rfl (fun w h => up w (inlX5 w h)) (by decide) rfl rfl rfl (up _ lkX5_64) hd rfl) ?_
  refine aI_c (fun hd => s_bp hX hd (by decide) rfl) ?_
  refine aI_c (fun hd => s_il_n hX hd rfl rfl) ?_
  refine aI_c (fun hd => s_imul hX hd rfl) ?_
  refine aI_c (fun hd => s_il_n hX hd rfl rfl) ?_
  refine aI_c (fun hd => s_iadd hX hd rfl) ?_
  refine aI_c (fun hd => s_il_n hX hd rfl rfl) ?_
  refine aI_c (fun hd => s_iast hX hd rfl) ?_
  refine aI_c (fun hd => s_inc hX hd (by decide) rfl (by decide)) ?_
  refine aI_c (fun hd => s_go hX hd (by decide)) ?_
  refine aI_c (fun hd => s_inc hX hd (by decide) rfl (by decide)) ?_
  refine aI_c (fun hd => s_go hX hd (by decide)) ?_
  refine aI_c (fun hd => s_rv hX hr hlk hE hd) ?_
  exact trivial

-- JudgesByLossModel.leastSitting()I
def tX5_leastSitting : aT := [
  (0, (.iconst 0, 1), o_ii 0 1),
  (1, (.istore_n 1, 1), o_is 1 2),
  (2, (.iconst 0, 1), o_ii 0 3),
  (3, (.istore_n 2, 1), o_is 2 4),
  (4, (.iconst 0, 1), o_ii 0 5),
  (5, (.istore_n 3, 1), o_is 3 6),
  (6, (.iload_n 3, 1), o_mk [false, false, false, false, true, true, true] (o_il 3 7)),
  (7, (.bipush 8, 2), o_ii 8 9),
  (9, (.if_icmp .ge 156, 3), o_ic (fun x y => y ≤ x) 165 12),
  (12, (.aload_n 0, 1), o_al 0 13),
  (13, (.getfield 64, 3), o_gF 5 19 16),
  (16, (.bipush 64, 2), o_ii 64 18),
  (18, (.iload_n 3, 1), o_il 3 19),
  (19, (.imul, 1), o_bi (fun x y => x * y) 20),
  (20, (.iload_n 2, 1), o_il 2 21),
  (21, (.iadd, 1), o_bi (fun x y => x + y) 22),
  (22, (.iaload, 1), o_iald 23),
  (23, (.istore 4, 2), o_is 4 25),
  (25, (.aload_n 0, 1), o_al 0 26),
  (26, (.getfield 64, 3), o_gF 5 19 29),
  (29, (.bipush 64, 2), o_ii 64 31),
  (31, (.iload_n 3, 1), o_il 3 32),
  (32, (.imul, 1), o_bi (fun x y => x * y) 33),
  (33, (.bipush 64, 2), o_ii 64 35),
  (35, (.iadd, 1), o_bi (fun x y => x + y) 36),
  (36, (.iload_n 2, 1), o_il 2 37),
  (37, (.iadd, 1), o_bi (fun x y => x + y) 38),
  (38, (.iaload, 1), o_iald 39),
  (39, (.iload 4, 2), o_il 4 41),
  (41, (.if_icmp .ne 7, 3), o_ic (fun x y => ¬ x = y) 48 44),
  (44, (.iconst 0, 1), o_ii 0 45),
  (45, (.goto 4, 3), o_go 49),
  (48, (.iconst (-1), 1), o_ii (-1) 49),
  (49, (.istore 5, 2), o_is 5 51),
  (51, (.iconst 0, 1), o_ii 0 52),
  (52, (.istore 6, 2), o_is 6 54),
  (54, (.iload 6, 2), o_il 6 56),
  (56, (.bipush 6, 2), o_ii 6 58),
  (58, (.if_icmp .ge 75, 3), o_ic (fun x y => y ≤ x) 133 61),
  (61, (.iload 5, 2), o_il 5 63),
  (63, (.iconst (-1), 1), o_ii (-1) 64),
  (64, (.if_icmp .ne 69, 3), o_ic (fun x y => ¬ x = y) 133 67),
  (67, (.aload_n 0, 1), o_al 0 68),
  (68, (.getfield 67, 3), o_gF 5 20 71),
  (71, (.iload_n 3, 1), o_il 3 72),
  (72, (.iaload, 1), o_iald 73),
  (73, (.iload 6, 2), o_il 6 75),
  (75, (.ishr, 1), o_bi (fun x y => x >>> (y &&& 31)) 76),
  (76, (.iconst 1, 1), o_ii 1 77),
  (77, (.iand, 1), o_bi (fun x y => x &&& y) 78),
  (78, (.iconst 1, 1), o_ii 1 79),
  (79, (.if_icmp .ne 48, 3), o_ic (fun x y => ¬ x = y) 127 82),
  (82, (.iload_n 2, 1), o_il 2 83),
  (83, (.iload 6, 2), o_il 6 85),
  (85, (.ishr, 1), o_bi (fun x y => x >>> (y &&& 31)) 86),
  (86, (.iconst 1, 1), o_ii 1 87),
  (87, (.iand, 1), o_bi (fun x y => x &&& y) 88),
  (88, (.ifCond .ne 39, 3), o_if (fun x => ¬ x = 0) 127 91),
  (91, (.iconst 1, 1), o_ii 1 92),
  (92, (.aload_n 0, 1), o_al 0 93),
  (93, (.getfield 64, 3), o_gF 5 19 96),
  (96, (.bipush 64, 2), o_ii 64 98),
  (98, (.iload_n 3, 1), o_il 3 99),
  (99, (.imul, 1), o_bi (fun x y => x * y) 100),
  (100, (.bipush 64, 2), o_ii 64 102),
  (102, (.iadd, 1), o_bi (fun x y => x + y) 103),
  (103, (.iload_n 2, 1), o_il 2 104),
  (104, (.iconst 1, 1), o_ii 1 105),
  (105, (.iload 6, 2), o_il 6 107),
  (107, (.ishl, 1), o_bi (fun x y => x <<< (y &&& 31)) 108),
  (108, (.ior, 1), o_bi (fun x y => x ||| y) 109),
  (109, (.iadd, 1), o_bi (fun x y => x + y) 110),
  (110, (.iaload, 1), o_iald 111),
  (111, (.iadd, 1), o_bi (fun x y => x + y) 112),
  (112, (.iload 4, 2), o_il 4 114),
  (114, (.if_icmp .ne 10, 3), o_ic (fun x y => ¬ x = y) 124 117),
  (117, (.iload 6, 2), o_il 6 119),
  (119, (.iconst 1, 1), o_ii 1 120),
  (120, (.iadd, 1), o_bi (fun x y => x + y) 121),
  (121, (.goto 4, 3), o_go 125),
  (124, (.iconst (-1), 1), o_ii (-1) 125),
  (125, (.istore 5, 2), o_is 5 127),
  (127, (.iinc 6 1, 3), o_inc 6 1 130),
  (130, (.goto (-76), 3), o_go 54),
  (133, (.iload_n 2, 1), o_il 2 134),
  (134, (.iload 5, 2), o_il 5 136),
  (136, (.ifCond .le 12, 3), o_if (fun x => x ≤ 0) 148 139),
  (139, (.iconst 1, 1), o_ii 1 140),
  (140, (.iload 5, 2), o_il 5 142),
  (142, (.iconst 1, 1), o_ii 1 143),
  (143, (.isub, 1), o_bi (fun x y => x - y) 144),
  (144, (.ishl, 1), o_bi (fun x y => x <<< (y &&& 31)) 145),
  (145, (.goto 4, 3), o_go 149),
  (148, (.iconst 0, 1), o_ii 0 149),
  (149, (.ior, 1), o_bi (fun x y => x ||| y) 150),
  (150, (.istore_n 2, 1), o_is 2 151),
  (151, (.bipush 10, 2), o_ii 10 153),
  (153, (.iload_n 1, 1), o_il 1 154),
  (154, (.imul, 1), o_bi (fun x y => x * y) 155),
  (155, (.iload 5, 2), o_il 5 157),
  (157, (.iadd, 1), o_bi (fun x y => x + y) 158),
  (158, (.istore_n 1, 1), o_is 1 159),
  (159, (.iinc 3 1, 3), o_inc 3 1 162),
  (162, (.goto (-156), 3), o_go 6),
  (165, (.iload_n 1, 1), o_il 1 166),
  (166, (.ireturn, 1), o_ri)]
abbrev CX5_leastSitting : aC := aCl tX5_leastSitting 7
def rmX5_leastSitting : Room := { frames := 1, cells := 0, slots := 0, locals := 1 }
set_option maxRecDepth 100000 in
theorem dX5_leastSitting : tX5_leastSitting.all (fun q => decide (decode cX5_leastSitting q.1 = .ok q.2.1)) = true := by decide +kernel
set_option maxRecDepth 100000 in
set_option maxHeartbeats 4000000 in
theorem nX5_leastSitting (l : Launch) : aMt l yX5_leastSitting (Cond.code yX5_leastSitting cX5_leastSitting 7 (some .int) :: wsL_law) rmX5_leastSitting CX5_leastSitting := by
  refine aMt.of (own := RX5) (cc := cX5_leastSitting) (maxL := 7) (ret := (some .int)) (by decide +kernel) rfl rfl ?_
  intro p e s m args below meth c Qc D Z ad P G A E hX hr hlk hE
  have up : ∀ w ∈ wsL_law, w ∈ (Cond.code yX5_leastSitting cX5_leastSitting 7 (some .int) :: wsL_law) := fun w h => List.mem_cons_of_mem _ h
  refine aImp_all _ dX5_leastSitting ?_
  unfold tX5_leastSitting
  refine aI_c (fun hd => s_ii hX hd (by decide) rfl) ?_
  refine aI_c (fun hd => s_is_n hX hd rfl rfl (by decide)) ?_
  refine aI_c (fun hd => s_ii hX hd (by decide) rfl) ?_
  refine aI_c (fun hd => s_is_n hX hd rfl rfl (by decide)) ?_
  refine aI_c (fun hd => s_ii hX hd (by decide) rfl) ?_
  refine aI_c (fun hd => s_is_n hX hd rfl rfl (by decide)) ?_
  refine aI_c (fun hd => s_mk (s_il_n hX hd rfl rfl)) ?_
  refine aI_c (fun hd => s_bp hX hd (by decide) rfl) ?_
  refine aI_c (fun hd => s_ic_ge hX hd (by decide) rfl) ?_
  refine aI_c (fun hd => s_al_n hX hd rfl rfl) ?_
  refine aI_c (fun hd => s_gF hX (C := RX5) (T := TX5) (N := 35) (k := 32) rfl (fun w h => up w (inlX5 w h)) (by decide) rfl rfl rfl (up _ lkX5_64) hd rfl) ?_
  refine aI_c (fun hd => s_bp hX hd (by decide) rfl) ?_
  refine aI_c (fun hd => s_il_n hX hd rfl rfl) ?_
  refine aI_c (fun hd => s_imul hX hd rfl) ?_
  refine aI_c (fun hd => s_il_n hX hd rfl rfl) ?_
  refine aI_c (fun hd => s_iadd hX hd rfl) ?_
  refine aI_c (fun hd => s_iald hX hd rfl) ?_
  refine aI_c (fun hd => s_is hX hd rfl (by decide)) ?_
  refine aI_c (fun hd => s_al_n hX hd rfl rfl) ?_
  refine aI_c (fun hd => s_gF hX (C := RX5) (T := TX5) (N := 35) (k := 32) rfl (fun w h => up w (inlX5 w h)) (by decide) rfl rfl rfl (up _ lkX5_64) hd rfl) ?_
  refine aI_c (fun hd => s_bp hX hd (by decide) rfl) ?_
  refine aI_c (fun hd => s_il_n hX hd rfl rfl) ?_
  refine aI_c (fun hd => s_imul hX hd rfl) ?_
  refine aI_c (fun hd => s_bp hX hd (by decide) rfl) ?_
  refine aI_c (fun hd => s_iadd hX hd rfl) ?_
  refine aI_c (fun hd => s_il_n hX hd rfl rfl) ?_
  refine aI_c (fun hd => s_iadd hX hd rfl) ?_
  refine aI_c (fun hd => s_iald hX hd rfl) ?_
  refine aI_c (fun hd => s_il hX hd rfl) ?_
  refine aI_c (fun hd => s_ic_ne hX hd (by decide) rfl) ?_
  refine aI_c (fun hd => s_ii hX hd (by decide) rfl) ?_
  refine aI_c (fun hd => s_go hX hd (by decide)) ?_
  refine aI_c (fun hd => s_ii hX hd (by decide) rfl) ?_
  refine aI_c (fun hd => s_is hX hd rfl (by decide)) ?_
  refine aI_c (fun hd => s_ii hX hd (by decide) rfl) ?_
  refine aI_c (fun hd => s_is hX hd rfl (by decide)) ?_
  refine aI_c (fun hd => s_il hX hd rfl) ?_
  refine aI_c (fun hd => s_bp hX hd (by decide) rfl) ?_
  refine aI_c (fun hd => s_ic_ge hX hd (by decide) rfl) ?_
  refine aI_c (fun hd => s_il hX hd rfl) ?_
  refine aI_c (fun hd => s_ii hX hd (by decide) rfl) ?_
  refine aI_c (fun hd => s_ic_ne hX hd (by decide) rfl) ?_
  refine aI_c (fun hd => s_al_n hX hd rfl rfl) ?_
  refine aI_c (fun hd => s_gF hX (C := RX5) (T := TX5) (N := 35) (k := 33) rfl (fun w h => up w (inlX5 w h)) (by decide) rfl rfl rfl (up _ lkX5_67) hd rfl) ?_
  refine aI_c (fun hd => s_il_n hX hd rfl rfl) ?_
  refine aI_c (fun hd => s_iald hX hd rfl) ?_
  refine aI_c (fun hd => s_il hX hd rfl) ?_
  refine aI_c (fun hd => s_ishr hX hd rfl) ?_
  refine aI_c (fun hd => s_ii hX hd (by decide) rfl) ?_
  refine aI_c (fun hd => s_iand hX hd rfl) ?_
  refine aI_c (fun hd => s_ii hX hd (by decide) rfl) ?_
  refine aI_c (fun hd => s_ic_ne hX hd (by decide) rfl) ?_
  refine aI_c (fun hd => s_il_n hX hd rfl rfl) ?_
  refine aI_c (fun hd => s_il hX hd rfl) ?_
  refine aI_c (fun hd => s_ishr hX hd rfl) ?_
  refine aI_c (fun hd => s_ii hX hd (by decide) rfl) ?_
  refine aI_c (fun hd => s_iand hX hd rfl) ?_
  refine aI_c (fun hd => s_if_ne hX hd (by decide) rfl) ?_
  refine aI_c (fun hd => s_ii hX hd (by decide) rfl) ?_
  refine aI_c (fun hd => s_al_n hX hd rfl rfl) ?_
  refine aI_c (fun hd => s_gF hX (C := RX5) (T := TX5) (N := 35) (k := 32) rfl (fun w h => up w (inlX5 w h)) (by decide) rfl rfl rfl (up _ lkX5_64) hd rfl) ?_
  refine aI_c (fun hd => s_bp hX hd (by decide) rfl) ?_
  refine aI_c (fun hd => s_il_n hX hd rfl rfl) ?_
  refine aI_c (fun hd => s_imul hX hd rfl) ?_
  refine aI_c (fun hd => s_bp hX hd (by decide) rfl) ?_
  refine aI_c (fun hd => s_iadd hX hd rfl) ?_
  refine aI_c (fun hd => s_il_n hX hd rfl rfl) ?_
  refine aI_c (fun hd => s_ii hX hd (by decide) rfl) ?_
  refine aI_c (fun hd => s_il hX hd rfl) ?_
  refine aI_c (fun hd => s_ishl hX hd rfl) ?_
  refine aI_c (fun hd => s_ior hX hd rfl) ?_
  refine aI_c (fun hd => s_iadd hX hd rfl) ?_
  refine aI_c (fun hd => s_iald hX hd rfl) ?_
  refine aI_c (fun hd => s_iadd hX hd rfl) ?_
  refine aI_c (fun hd => s_il hX hd rfl) ?_
  refine aI_c (fun hd => s_ic_ne hX hd (by decide) rfl) ?_
  refine aI_c (fun hd => s_il hX hd rfl) ?_
  refine aI_c (fun hd => s_ii hX hd (by decide) rfl) ?_
  refine aI_c (fun hd => s_iadd hX hd rfl) ?_
  refine aI_c (fun hd => s_go hX hd (by decide)) ?_
  refine aI_c (fun hd => s_ii hX hd (by decide) rfl) ?_
  refine aI_c (fun hd => s_is hX hd rfl (by decide)) ?_
  refine aI_c (fun hd => s_inc hX hd (by decide) rfl (by decide)) ?_
  refine aI_c (fun hd => s_go hX hd (by decide)) ?_
  refine aI_c (fun hd => s_il_n hX hd rfl rfl) ?_
  refine aI_c (fun hd => s_il hX hd rfl) ?_
  refine aI_c (fun hd => s_if_le hX hd (by decide) rfl) ?_
  refine aI_c (fun hd => s_ii hX hd (by decide) rfl) ?_
  refine aI_c (fun hd => s_il hX hd rfl) ?_
  refine aI_c (fun hd => s_ii hX hd (by decide) rfl) ?_
  refine aI_c (fun hd => s_isub hX hd rfl) ?_
  refine aI_c (fun hd => s_ishl hX hd rfl) ?_
  refine aI_c (fun hd => s_go hX hd (by decide)) ?_
  refine aI_c (fun hd => s_ii hX hd (by decide) rfl) ?_
  refine aI_c (fun hd => s_ior hX hd rfl) ?_
  refine aI_c (fun hd => s_is_n hX hd rfl rfl (by decide)) ?_
  refine aI_c (fun hd => s_bp hX hd (by decide) rfl) ?_
  refine aI_c (fun hd => s_il_n hX hd rfl rfl) ?_
  refine aI_c (fun hd => s_imul hX hd rfl) ?_
  refine aI_c (fun hd => s_il hX hd rfl) ?_
  refine aI_c (fun hd => s_iadd hX hd rfl) ?_
  refine aI_c (fun hd => s_is_n hX hd rfl rfl (by decide)) ?_
  refine aI_c (fun hd => s_inc hX hd (by decide) rfl (by decide)) ?_
  refine aI_c (fun hd => s_go hX hd (by decide)) ?_
  refine aI_c (fun hd => s_il_n hX hd rfl rfl) ?_
  refine aI_c (fun hd => s_ri hX hr hlk hE hd) ?_
  exact trivial

-- JudgesByLossModel.sitting(I)I
def tX5_sitting : aT := [
  (0, (.iload_n 1, 1), o_il 1 1),
  (1, (.iconst 0, 1), o_ii 0 2),
  (2, (.iconst 1, 1), o_ii 1 3),
  (3, (.invokestatic 81, 3), o_cS CX5_in 3 6),
  (6, (.ifCond .ne 6, 3), o_if (fun x => ¬ x = 0) 12 9),
  (9, (.bipush (-2), 2), o_ii (-2) 11),
  (11, (.ireturn, 1), o_ri),
  (12, (.aload_n 0, 1), o_al 0 13),
  (13, (.invokevirtual 222, 3), o_cV CX5_tellsSittings 5 0 16),
  (16, (.iload_n 1, 1), o_il 1 17),
  (17, (.ifCond .ne 12, 3), o_if (fun x => ¬ x = 0) 29 20),
  (20, (.aload_n 0, 1), o_al 0 21),
  (21, (.getfield 64, 3), o_gF 5 19 24),
  (24, (.iconst 0, 1), o_ii 0 25),
  (25, (.iaload, 1), o_iald 26),
  (26, (.goto 7, 3), o_go 33),
  (29, (.aload_n 0, 1), o_al 0 30),
  (30, (.invokevirtual 225, 3), o_cV CX5_leastSitting 5 0 33),
  (33, (.ireturn, 1), o_ri)]
abbrev CX5_sitting : aC := aCl tX5_sitting 2
def rmX5_sitting : Room := { frames := 7, cells := 0, slots := 0, locals := 144 }
set_option maxRecDepth 100000 in
theorem dX5_sitting : tX5_sitting.all (fun q => decide (decode cX5_sitting q.1 = .ok q.2.1)) = true := by decide +kernel
set_option maxRecDepth 100000 in
set_option maxHeartbeats 4000000 in
theorem nX5_sitting (l : Launch) : aMt l yX5_sitting (Cond.code yX5_sitting cX5_sitting 2 (some .int) :: wsL_law) rmX5_sitting CX5_sitting := by
  refine aMt.of (own := RX5) (cc := cX5_sitting) (maxL := 2) (ret := (some .int)) (by decide +kernel) rfl rfl ?_
  intro p e s m args below meth c Qc D Z ad P G A E hX hr hlk hE
  have up : ∀ w ∈ wsL_law, w ∈ (Cond.code yX5_sitting cX5_sitting 2 (some .int) :: wsL_law) := fun w h => List.mem_cons_of_mem _ h
  refine aImp_all _ dX5_sitting ?_
  unfold tX5_sitting
  refine aI_c (fun hd => s_il_n hX hd rfl rfl) ?_
  refine aI_c (fun hd => s_ii hX hd (by decide) rfl) ?_
  refine aI_c (fun hd => s_ii hX hd (by decide) rfl) ?_
  refine aI_c (fun hd => s_cS hX (nX5_in l) (wg_S up lmX5_81 loX5_in) rfl rfl rfl (by decide +kernel) ⟨by decide, by decide⟩ ⟨Nat.zero_le _, Nat.zero_le _⟩ hd rfl) ?_
  refine aI_c (fun hd => s_if_ne hX hd (by decide) rfl) ?_
  refine aI_c (fun hd => s_bp hX hd (by decide) rfl) ?_
  refine aI_c (fun hd => s_ri hX hr hlk hE hd) ?_
  refine aI_c (fun hd => s_al_n hX hd rfl rfl) ?_
  refine aI_c (fun hd => s_cV hX (T := TX5) (N := 35) (nX5_tellsSittings l) rfl (wg_V up lmX5_222 loX5_tellsSittings) rfl rfl rfl (by decide +kernel) ⟨by decide, by decide⟩ ⟨Nat.zero_le _, Nat.zero_le _⟩ hd rfl) ?_
  refine aI_c (fun hd => s_il_n hX hd rfl rfl) ?_
  refine aI_c (fun hd => s_if_ne hX hd (by decide) rfl) ?_
  refine aI_c (fun hd => s_al_n hX hd rfl rfl) ?_
  refine aI_c (fun hd => s_gF hX (C := RX5) (T := TX5) (N := 35) (k := 32) rfl (fun w h => up w (inlX5 w h)) (by decide) rfl rfl rfl (up _ lkX5_64) hd rfl) ?_
  refine aI_c (fun hd => s_ii hX hd (by decide) rfl) ?_
  refine aI_c (fun hd => s_iald hX hd rfl) ?_
  refine aI_c (fun hd => s_go hX hd (by decide)) ?_
  refine aI_c (fun hd => s_al_n hX hd rfl rfl) ?_
  refine aI_c (fun hd => s_cV hX (T := TX5) (N := 35) (nX5_leastSitting l) rfl (wg_V up lmX5_225 loX5_leastSitting) rfl rfl rfl (by decide +kernel) ⟨by decide, by decide⟩ ⟨Nat.zero_le _, Nat.zero_le _⟩ hd rfl) ?_
  refine aI_c (fun hd => s_ri hX hr hlk hE hd) ?_
  exact trivial

-- JudgesByLossModel.burglary(II)I
def tX5_burglary : aT := [
  (0, (.iload_n 1, 1), o_il 1 1),
  (1, (.iconst 0, 1), o_ii 0 2),
  (2, (.bipush 40, 2), o_ii 40 4),
  (4, (.invokestatic 81, 3), o_cS CX5_in 3 7),
  (7, (.ifCond .eq 12, 3), o_if (fun x => x = 0) 19 10),
  (10, (.iload_n 2, 1), o_il 2 11),
  (11, (.iconst 0, 1), o_ii 0 12),
  (12, (.iconst 1, 1), o_ii 1 13),
  (13, (.invokestatic 81, 3), o_cS CX5_in 3 16),
  (16, (.ifCond .ne 6, 3), o_if (fun x => ¬ x = 0) 22 19),
  (19, (.bipush (-2), 2), o_ii (-2) 21),
  (21, (.ireturn, 1), o_ri),
  (22, (.iconst (-1), 1), o_ii (-1) 23),
  (23, (.istore_n 3, 1), o_is 3 24),
  (24, (.aload_n 0, 1), o_al 0 25),
  (25, (.invokevirtual 210, 3), o_cV CX5_keeps 5 0 28),
  (28, (.aload_n 0, 1), o_al 0 29),
  (29, (.iload_n 1, 1), o_il 1 30),
  (30, (.invokevirtual 213, 3), o_cV CX5_goes 5 1 33),
  (33, (.istore 4, 2), o_is 4 35),
  (35, (.aload_n 0, 1), o_al 0 36),
  (36, (.invokevirtual 219, 3), o_cV CX5_lays 5 0 39),
  (39, (.iconst 0, 1), o_ii 0 40),
  (40, (.istore 5, 2), o_is 5 42),
  (42, (.iload 5, 2), o_mk [false, false, false, false, false, false, true, true] (o_il 5 44)),
  (44, (.aload_n 0, 1), o_al 0 45),
  (45, (.getfield 78, 3), o_gI 5 0 48),
  (48, (.if_icmp .ge 105, 3), o_ic (fun x y => y ≤ x) 153 51),
  (51, (.iconst 0, 1), o_ii 0 52),
  (52, (.istore 6, 2), o_is 6 54),
  (54, (.iload 6, 2), o_mk [false, false, false, false, false, false, false, true] (o_il 6 56)),
  (56, (.bipush 10, 2), o_ii 10 58),
  (58, (.if_icmp .ge 89, 3), o_ic (fun x y => y ≤ x) 147 61),
  (61, (.aload_n 0, 1), o_al 0 62),
  (62, (.getfield 16, 3), o_gF 5 3 65),
  (65, (.iconst 3, 1), o_ii 3 66),
  (66, (.iload 5, 2), o_il 5 68),
  (68, (.imul, 1), o_bi (fun x y => x * y) 69),
  (69, (.iaload, 1), o_iald 70),
  (70, (.iload 6, 2), o_il 6 72),
  (72, (.ishr, 1), o_bi (fun x y => x >>> (y &&& 31)) 73),
  (73, (.iconst 1, 1), o_ii 1 74),
  (74, (.iand, 1), o_bi (fun x y => x &&& y) 75),
  (75, (.ifCond .ne 66, 3), o_if (fun x => ¬ x = 0) 141 78),
  (78, (.aload_n 0, 1), o_al 0 79),
  (79, (.getfield 16, 3), o_gF 5 3 82),
  (82, (.iconst 3, 1), o_ii 3 83),
  (83, (.iload 5, 2), o_il 5 85),
  (85, (.imul, 1), o_bi (fun x y => x * y) 86),
  (86, (.dup2, 1), o_dup2 87),
  (87, (.iaload, 1), o_iald 88),
  (88, (.iconst 1, 1), o_ii 1 89),
  (89, (.iload 6, 2), o_il 6 91),
  (91, (.ishl, 1), o_bi (fun x y => x <<< (y &&& 31)) 92),
  (92, (.ior, 1), o_bi (fun x y => x ||| y) 93),
  (93, (.iastore, 1), o_iast 94),
  (94, (.aload_n 0, 1), o_al 0 95),
  (95, (.iload_n 1, 1), o_il 1 96),
  (96, (.invokevirtual 213, 3), o_cV CX5_goes 5 1 99),
  (99, (.istore 7, 2), o_is 7 101),
  (101, (.aload_n 0, 1), o_al 0 102),
  (102, (.invokevirtual 219, 3), o_cV CX5_lays 5 0 105),
  (105, (.iload 7, 2), o_il 7 107),
  (107, (.iload 4, 2), o_il 4 109),
  (109, (.if_icmp .le 14, 3), o_ic (fun x y => x ≤ y) 123 112),
  (112, (.bipush 10, 2), o_ii 10 114),
  (114, (.iload 5, 2), o_il 5 116),
  (116, (.imul, 1), o_bi (fun x y => x * y) 117),
  (117, (.iload 6, 2), o_il 6 119),
  (119, (.iadd, 1), o_bi (fun x y => x + y) 120),
  (120, (.goto 4, 3), o_go 124),
  (123, (.iload_n 3, 1), o_il 3 124),
  (124, (.istore_n 3, 1), o_is 3 125),
  (125, (.iload 7, 2), o_il 7 127),
  (127, (.iload 4, 2), o_il 4 129),
  (129, (.if_icmp .le 8, 3), o_ic (fun x y => x ≤ y) 137 132),
  (132, (.iload 7, 2), o_il 7 134),
  (134, (.goto 5, 3), o_go 139),
  (137, (.iload 4, 2), o_il 4 139),
  (139, (.istore 4, 2), o_is 4 141),
  (141, (.iinc 6 1, 3), o_inc 6 1 144),
  (144, (.goto (-90), 3), o_go 54),
  (147, (.iinc 5 1, 3), o_inc 5 1 150),
  (150, (.goto (-108), 3), o_go 42),
  (153, (.iload_n 2, 1), o_il 2 154),
  (154, (.ifCond .ne 7, 3), o_if (fun x => ¬ x = 0) 161 157),
  (157, (.iload_n 3, 1), o_il 3 158),
  (158, (.goto 5, 3), o_go 163),
  (161, (.iload 4, 2), o_il 4 163),
  (163, (.ireturn, 1), o_ri)]
abbrev CX5_burglary : aC := aCl tX5_burglary 8
def rmX5_burglary : Room := { frames := 9, cells := 0, slots := 0, locals := 186 }
set_option maxRecDepth 100000 in
theorem dX5_burglary : tX5_burglary.all (fun q => decide (decode cX5_burglary q.1 = .ok q.2.1)) = true := by decide +kernel
set_option maxRecDepth 100000 in
set_option maxHeartbeats 4000000 in
theorem nX5_burglary (l : Launch) : aMt l yX5_burglary (Cond.code yX5_burglary cX5_burglary 8 (some .int) :: wsL_law) rmX5_burglary CX5_burglary := by
  refine aMt.of (own := RX5) (cc := cX5_burglary) (maxL := 8) (ret := (some .int)) (by decide +kernel) rfl rfl ?_
  intro p e s m args below meth c Qc D Z ad P G A E hX hr hlk hE
  have up : ∀ w ∈ wsL_law, w ∈ (Cond.code yX5_burglary cX5_burglary 8 (some .int) :: wsL_law) := fun w h => List.mem_cons_of_mem _ h
  refine aImp_all _ dX5_burglary ?_
  unfold tX5_burglary
  refine aI_c (fun hd => s_il_n hX hd rfl rfl) ?_
  refine aI_c (fun hd => s_ii hX hd (by decide) rfl) ?_
  refine aI_c (fun hd => s_bp hX hd (by decide) rfl) ?_
  refine aI_c (fun hd => s_cS hX (nX5_in l) (wg_S up lmX5_81 loX5_in) rfl rfl rfl (by decide +kernel) ⟨by decide, by decide⟩ ⟨Nat.zero_le _, Nat.zero_le _⟩ hd rfl) ?_
  refine aI_c (fun hd => s_if_eq hX hd (by decide) rfl) ?_
  refine aI_c (fun hd => s_il_n hX hd rfl rfl) ?_
  refine aI_c (fun hd => s_ii hX hd (by decide) rfl) ?_
  refine aI_c (fun hd => s_ii hX hd (by decide) rfl) ?_
  refine aI_c (fun hd => s_cS hX (nX5_in l) (wg_S up lmX5_81 loX5_in) rfl rfl rfl (by decide +kernel) ⟨by decide, by decide⟩ ⟨Nat.zero_le _, Nat.zero_le _⟩ hd rfl) ?_
  refine aI_c (fun hd => s_if_ne hX hd (by decide) rfl) ?_
  refine aI_c (fun hd => s_bp hX hd (by decide) rfl) ?_
  refine aI_c (fun hd => s_ri hX hr hlk hE hd) ?_
  refine aI_c (fun hd => s_ii hX hd (by decide) rfl) ?_
  refine aI_c (fun hd => s_is_n hX hd rfl rfl (by decide)) ?_
  refine aI_c (fun hd => s_al_n hX hd rfl rfl) ?_
  refine aI_c (fun hd => s_cV hX (T := TX5) (N := 35) (nX5_keeps l) rfl (wg_V up lmX5_210 loX5_keeps) rfl rfl rfl (by decide +kernel) ⟨by decide, by decide⟩ ⟨Nat.zero_le _, Nat.zero_le _⟩ hd rfl) ?_
  refine aI_c (fun hd => s_al_n hX hd rfl rfl) ?_
  refine aI_c (fun hd => s_il_n hX hd rfl rfl) ?_
  refine aI_c (fun hd => s_cV hX (T := TX5) (N := 35) (nX5_goes l) rfl (wg_V up lmX5_213 loX5_goes) rfl rfl rfl (by decide +kernel) ⟨by decide, by decide⟩ ⟨Nat.zero_le _, Nat.zero_le _⟩ hd rfl) ?_
  refine aI_c (fun hd => s_is hX hd rfl (by decide)) ?_
  refine aI_c (fun hd => s_al_n hX hd rfl rfl) ?_
  refine aI_c (fun hd => s_cV hX (T := TX5) (N := 35) (nX5_lays l) rfl (wg_V up lmX5_219 loX5_lays) rfl rfl rfl (by decide +kernel) ⟨by decide, by decide⟩ ⟨Nat.zero_le _, Nat.zero_le _⟩ hd rfl) ?_
  refine aI_c (fun hd => s_ii hX hd (by decide) rfl) ?_
  refine aI_c (fun hd => s_is hX hd rfl (by decide)) ?_
  refine aI_c (fun hd => s_mk (s_il hX hd rfl)) ?_
  refine aI_c (fun hd => s_al_n hX hd rfl rfl) ?_
  refine aI_c (fun hd => s_gI hX (C := RX5) (T := TX5) (N := 35) (k := 0) rfl (fun w h => up w (inlX5 w h)) (by decide) rfl rfl rfl (up _ lkX5_78) hd rfl) ?_
  refine aI_c (fun hd => s_ic_ge hX hd (by decide) rfl) ?_
  refine aI_c (fun hd => s_ii hX hd (by decide) rfl) ?_
  refine aI_c (fun hd => s_is hX hd rfl (by decide)) ?_
  refine aI_c (fun hd => s_mk (s_il hX hd rfl)) ?_
  refine aI_c (fun hd => s_bp hX hd (by decide) rfl) ?_
  refine aI_c (fun hd => s_ic_ge hX hd (by decide) rfl) ?_
  refine aI_c (fun hd => s_al_n hX hd rfl rfl) ?_
  refine aI_c (fun hd => s_gF hX (C := RX5) (T := TX5) (N := 35) (k := 3) rfl (fun w h => up w (inlX5 w h)) (by decide) rfl rfl rfl (up _ lkX5_16) hd rfl) ?_
  refine aI_c (fun hd => s_ii hX hd (by decide) rfl) ?_
  refine aI_c (fun hd => s_il hX hd rfl) ?_
  refine aI_c (fun hd => s_imul hX hd rfl) ?_
  refine aI_c (fun hd => s_iald hX hd rfl) ?_
  refine aI_c (fun hd => s_il hX hd rfl) ?_
  refine aI_c (fun hd => s_ishr hX hd rfl) ?_
  refine aI_c (fun hd => s_ii hX hd (by decide) rfl) ?_
  refine aI_c (fun hd => s_iand hX hd rfl) ?_
  refine aI_c (fun hd => s_if_ne hX hd (by decide) rfl) ?_
  refine aI_c (fun hd => s_al_n hX hd rfl rfl) ?_
  refine aI_c (fun hd => s_gF hX (C := RX5) (T := TX5) (N := 35) (k := 3) rfl (fun w h => up w (inlX5 w h)) (by decide) rfl rfl rfl (up _ lkX5_16) hd rfl) ?_
  refine aI_c (fun hd => s_ii hX hd (by decide) rfl) ?_
  refine aI_c (fun hd => s_il hX hd rfl) ?_
  refine aI_c (fun hd => s_imul hX hd rfl) ?_
  refine aI_c (fun hd => s_dup2 hX hd rfl) ?_
  refine aI_c (fun hd => s_iald hX hd rfl) ?_
  refine aI_c (fun hd => s_ii hX hd (by decide) rfl) ?_
  refine aI_c (fun hd => s_il hX hd rfl) ?_
  refine aI_c (fun hd => s_ishl hX hd rfl) ?_
  refine aI_c (fun hd => s_ior hX hd rfl) ?_
  refine aI_c (fun hd => s_iast hX hd rfl) ?_
  refine aI_c (fun hd => s_al_n hX hd rfl rfl) ?_
  refine aI_c (fun hd => s_il_n hX hd rfl rfl) ?_
  refine aI_c (fun hd => s_cV hX (T := TX5) (N := 35) (nX5_goes l) rfl (wg_V up lmX5_213 loX5_goes) rfl rfl rfl (by decide +kernel) ⟨by decide, by decide⟩ ⟨Nat.zero_le _, Nat.zero_le _⟩ hd rfl) ?_
  refine aI_c (fun hd => s_is hX hd rfl (by decide)) ?_
  refine aI_c (fun hd => s_al_n hX hd rfl rfl) ?_
  refine aI_c (fun hd => s_cV hX (T := TX5) (N := 35) (nX5_lays l) rfl (wg_V up lmX5_219 loX5_lays) rfl rfl rfl (by decide +kernel) ⟨by decide, by decide⟩ ⟨Nat.zero_le _, Nat.zero_le _⟩ hd rfl) ?_
  refine aI_c (fun hd => s_il hX hd rfl) ?_
  refine aI_c (fun hd => s_il hX hd rfl) ?_
  refine aI_c (fun hd => s_ic_le hX hd (by decide) rfl) ?_
  refine aI_c (fun hd => s_bp hX hd (by decide) rfl) ?_
  refine aI_c (fun hd => s_il hX hd rfl) ?_
  refine aI_c (fun hd => s_imul hX hd rfl) ?_
  refine aI_c (fun hd => s_il hX hd rfl) ?_
  refine aI_c (fun hd => s_iadd hX hd rfl) ?_
  refine aI_c (fun hd => s_go hX hd (by decide)) ?_
  refine aI_c (fun hd => s_il_n hX hd rfl rfl) ?_
  refine aI_c (fun hd => s_is_n hX hd rfl rfl (by decide)) ?_
  refine aI_c (fun hd => s_il hX hd rfl) ?_
  refine aI_c (fun hd => s_il hX hd rfl) ?_
  refine aI_c (fun hd => s_ic_le hX hd (by decide) rfl) ?_
  refine aI_c (fun hd => s_il hX hd rfl) ?_
  refine aI_c (fun hd => s_go hX hd (by decide)) ?_
  refine aI_c (fun hd => s_il hX hd rfl) ?_
  refine aI_c (fun hd => s_is hX hd rfl (by decide)) ?_
  refine aI_c (fun hd => s_inc hX hd (by decide) rfl (by decide)) ?_
  refine aI_c (fun hd => s_go hX hd (by decide)) ?_
  refine aI_c (fun hd => s_inc hX hd (by decide) rfl (by decide)) ?_
  refine aI_c (fun hd => s_go hX hd (by decide)) ?_
  refine aI_c (fun hd => s_il_n hX hd rfl rfl) ?_
  refine aI_c (fun hd => s_if_ne hX hd (by decide) rfl) ?_
  refine aI_c (fun hd => s_il_n hX hd rfl rfl) ?_
  refine aI_c (fun hd => s_go hX hd (by decide)) ?_
  refine aI_c (fun hd => s_il hX hd rfl) ?_
  refine aI_c (fun hd => s_ri hX hr hlk hE hd) ?_
  exact trivial

-- JudgesByLossModel.wants(III)I
def tX5_wants : aT := [
  (0, (.aload_n 0, 1), o_al 0 1),
  (1, (.iload_n 1, 1), o_il 1 2),
  (2, (.invokevirtual 176, 3), o_cV CX5_isOne 5 1 5),
  (5, (.ifCond .ne 6, 3), o_if (fun x => ¬ x = 0) 11 8),
  (8, (.bipush (-5), 2), o_ii (-5) 10),
  (10, (.ireturn, 1), o_ri),
  (11, (.aload_n 0, 1), o_al 0 12),
  (12, (.iload_n 2, 1), o_il 2 13),
  (13, (.invokevirtual 89, 3), o_cV CX5_isThere 5 1 16),
  (16, (.ifCond .ne 6, 3), o_if (fun x => ¬ x = 0) 22 19),
  (19, (.bipush (-6), 2), o_ii (-6) 21),
  (21, (.ireturn, 1), o_ri),
  (22, (.iload_n 3, 1), o_il 3 23),
  (23, (.iconst 0, 1), o_ii 0 24),
  (24, (.iconst 1, 1), o_ii 1 25),
  (25, (.invokestatic 81, 3), o_cS CX5_in 3 28),
  (28, (.ifCond .ne 6, 3), o_if (fun x => ¬ x = 0) 34 31),
  (31, (.bipush (-7), 2), o_ii (-7) 33),
  (33, (.ireturn, 1), o_ri),
  (34, (.aload_n 0, 1), o_al 0 35),
  (35, (.getfield 16, 3), o_gF 5 3 38),
  (38, (.iconst 3, 1), o_ii 3 39),
  (39, (.iload_n 1, 1), o_il 1 40),
  (40, (.imul, 1), o_bi (fun x y => x * y) 41),
  (41, (.iaload, 1), o_iald 42),
  (42, (.istore 4, 2), o_is 4 44),
  (44, (.iconst (-1), 1), o_ii (-1) 45),
  (45, (.istore 5, 2), o_is 5 47),
  (47, (.iconst (-1), 1), o_ii (-1) 48),
  (48, (.istore 6, 2), o_is 6 50),
  (50, (.iconst 0, 1), o_ii 0 51),
  (51, (.istore 7, 2), o_is 7 53),
  (53, (.iload 7, 2), o_mk [false, false, false, false, false, false, false, false, true] (o_il 7 55)),
  (55, (.sipush 1023, 3), o_ii 1023 58),
  (58, (.if_icmp .gt 85, 3), o_ic (fun x y => y < x) 143 61),
  (61, (.iload 7, 2), o_il 7 63),
  (63, (.iload 4, 2), o_il 4 65),
  (65, (.iand, 1), o_bi (fun x y => x &&& y) 66),
  (66, (.ifCond .ne 71, 3), o_if (fun x => ¬ x = 0) 137 69),
  (69, (.iload 5, 2), o_il 5 71),
  (71, (.iconst (-1), 1), o_ii (-1) 72),
  (72, (.if_icmp .eq 13, 3), o_ic (fun x y => x = y) 85 75),
  (75, (.iload 7, 2), o_il 7 77),
  (77, (.invokestatic 96, 3), o_cS CX5_onesOf 1 80),
  (80, (.iload 6, 2), o_il 6 82),
  (82, (.if_icmp .ge 55, 3), o_ic (fun x y => y ≤ x) 137 85),
  (85, (.aload_n 0, 1), o_al 0 86),
  (86, (.getfield 16, 3), o_gF 5 3 89),
  (89, (.iconst 3, 1), o_ii 3 90),
  (90, (.iload_n 1, 1), o_il 1 91),
  (91, (.imul, 1), o_bi (fun x y => x * y) 92),
  (92, (.iload 4, 2), o_il 4 94),
  (94, (.iload 7, 2), o_il 7 96),
  (96, (.ior, 1), o_bi (fun x y => x ||| y) 97),
  (97, (.iastore, 1), o_iast 98),
  (98, (.aload_n 0, 1), o_al 0 99),
  (99, (.iload_n 1, 1), o_il 1 100),
  (100, (.iload_n 2, 1), o_il 2 101),
  (101, (.invokevirtual 182, 3), o_cV CX5_may 5 2 104),
  (104, (.istore 8, 2), o_is 8 106),
  (106, (.iload 8, 2), o_il 8 108),
  (108, (.ifCond .eq 8, 3), o_if (fun x => x = 0) 116 111),
  (111, (.iload 7, 2), o_il 7 113),
  (113, (.goto 5, 3), o_go 118),
  (116, (.iload 5, 2), o_il 5 118),
  (118, (.istore 5, 2), o_is 5 120),
  (120, (.iload 8, 2), o_il 8 122),
  (122, (.ifCond .eq 11, 3), o_if (fun x => x = 0) 133 125),
  (125, (.iload 7, 2), o_il 7 127),
  (127, (.invokestatic 96, 3), o_cS CX5_onesOf 1 130),
  (130, (.goto 5, 3), o_go 135),
  (133, (.iload 6, 2), o_il 6 135),
  (135, (.istore 6, 2), o_is 6 137),
  (137, (.iinc 7 1, 3), o_inc 7 1 140),
  (140, (.goto (-87), 3), o_go 53),
  (143, (.aload_n 0, 1), o_al 0 144),
  (144, (.getfield 16, 3), o_gF 5 3 147),
  (147, (.iconst 3, 1), o_ii 3 148),
  (148, (.iload_n 1, 1), o_il 1 149),
  (149, (.imul, 1), o_bi (fun x y => x * y) 150),
  (150, (.iload 4, 2), o_il 4 152),
  (152, (.iastore, 1), o_iast 153),
  (153, (.iload_n 3, 1), o_il 3 154),
  (154, (.ifCond .ne 8, 3), o_if (fun x => ¬ x = 0) 162 157),
  (157, (.iload 5, 2), o_il 5 159),
  (159, (.goto 5, 3), o_go 164),
  (162, (.iload 6, 2), o_il 6 164),
  (164, (.ireturn, 1), o_ri)]
abbrev CX5_wants : aC := aCl tX5_wants 9
def rmX5_wants : Room := { frames := 5, cells := 0, slots := 0, locals := 97 }
set_option maxRecDepth 100000 in
theorem dX5_wants : tX5_wants.all (fun q => decide (decode cX5_wants q.1 = .ok q.2.1)) = true := by decide +kernel
set_option maxRecDepth 100000 in
set_option maxHeartbeats 4000000 in
theorem nX5_wants (l : Launch) : aMt l yX5_wants (Cond.code yX5_wants cX5_wants 9 (some .int) :: wsL_law) rmX5_wants CX5_wants := by
  refine aMt.of (own := RX5) (cc := cX5_wants) (maxL := 9) (ret := (some .int)) (by decide +kernel) rfl rfl ?_
  intro p e s m args below meth c Qc D Z ad P G A E hX hr hlk hE
  have up : ∀ w ∈ wsL_law, w ∈ (Cond.code yX5_wants cX5_wants 9 (some .int) :: wsL_law) := fun w h => List.mem_cons_of_mem _ h
  refine aImp_all _ dX5_wants ?_
  unfold tX5_wants
  refine aI_c (fun hd => s_al_n hX hd rfl rfl) ?_
  refine aI_c (fun hd => s_il_n hX hd rfl rfl) ?_
  refine aI_c (fun hd => s_cV hX (T := TX5) (N := 35) (nX5_isOne l) rfl (wg_V up lmX5_176 loX5_isOne) rfl rfl rfl (by decide +kernel) ⟨by decide, by decide⟩ ⟨Nat.zero_le _, Nat.zero_le _⟩ hd rfl) ?_
  refine aI_c (fun hd => s_if_ne hX hd (by decide) rfl) ?_
  refine aI_c (fun hd => s_bp hX hd (by decide) rfl) ?_
  refine aI_c (fun hd => s_ri hX hr hlk hE hd) ?_
  refine aI_c (fun hd => s_al_n hX hd rfl rfl) ?_
  refine aI_c (fun hd => s_il_n hX hd rfl rfl) ?_
  refine aI_c (fun hd => s_cV hX (T := TX5) (N := 35) (nX5_isThere l) rfl (wg_V up lmX5_89 loX5_isThere) rfl rfl rfl (by decide +kernel) ⟨by decide, by decide⟩ ⟨Nat.zero_le _, Nat.zero_le _⟩ hd rfl) ?_
  refine aI_c (fun hd => s_if_ne hX hd (by decide) rfl) ?_
  refine aI_c (fun hd => s_bp hX hd (by decide) rfl) ?_
  refine aI_c (fun hd => s_ri hX hr hlk hE hd) ?_
  refine aI_c (fun hd => s_il_n hX hd rfl rfl) ?_
  refine aI_c (fun hd => s_ii hX hd (by decide) rfl) ?_
  refine aI_c (fun hd => s_ii hX hd (by decide) rfl) ?_
  refine aI_c (fun hd => s_cS hX (nX5_in l) (wg_S up lmX5_81 loX5_in) rfl rfl rfl (by decide +kernel) ⟨by decide, by decide⟩ ⟨Nat.zero_le _, Nat.zero_le _⟩ hd rfl) ?_
  refine aI_c (fun hd => s_if_ne hX hd (by decide) rfl) ?_
  refine aI_c (fun hd => s_bp hX hd (by decide) rfl) ?_
  refine aI_c (fun hd => s_ri hX hr hlk hE hd) ?_
  refine aI_c (fun hd => s_al_n hX hd rfl rfl) ?_
  refine aI_c (fun hd => s_gF hX (C := RX5) (T := TX5) (N := 35) (k := 3) rfl (fun w h => up w (inlX5 w h)) (by decide) rfl rfl rfl (up _ lkX5_16) hd rfl) ?_
  refine aI_c (fun hd => s_ii hX hd (by decide) rfl) ?_
  refine aI_c (fun hd => s_il_n hX hd rfl rfl) ?_
  refine aI_c (fun hd => s_imul hX hd rfl) ?_
  refine aI_c (fun hd => s_iald hX hd rfl) ?_
  refine aI_c (fun hd => s_is hX hd rfl (by decide)) ?_
  refine aI_c (fun hd => s_ii hX hd (by decide) rfl) ?_
  refine aI_c (fun hd => s_is hX hd rfl (by decide)) ?_
  refine aI_c (fun hd => s_ii hX hd (by decide) rfl) ?_
  refine aI_c (fun hd => s_is hX hd rfl (by decide)) ?_
  refine aI_c (fun hd => s_ii hX hd (by decide) rfl) ?_
  refine aI_c (fun hd => s_is hX hd rfl (by decide)) ?_
  refine aI_c (fun hd => s_mk (s_il hX hd rfl)) ?_
  refine aI_c (fun hd => s_sp hX hd (by decide) rfl) ?_
  refine aI_c (fun hd => s_ic_gt hX hd (by decide) rfl) ?_
  refine aI_c (fun hd => s_il hX hd rfl) ?_
  refine aI_c (fun hd => s_il hX hd rfl) ?_
  refine aI_c (fun hd => s_iand hX hd rfl) ?_
  refine aI_c (fun hd => s_if_ne hX hd (by decide) rfl) ?_
  refine aI_c (fun hd => s_il hX hd rfl) ?_
  refine aI_c (fun hd => s_ii hX hd (by decide) rfl) ?_
  refine aI_c (fun hd => s_ic_eq hX hd (by decide) rfl) ?_
  refine aI_c (fun hd => s_il hX hd rfl) ?_
  refine aI_c (fun hd => s_cS hX (nX5_onesOf l) (wg_S up lmX5_96 loX5_onesOf) rfl rfl rfl (by decide +kernel) ⟨by decide, by decide⟩ ⟨Nat.zero_le _, Nat.zero_le _⟩ hd rfl) ?_
  refine aI_c (fun hd => s_il hX hd rfl) ?_
  refine aI_c (fun hd => s_ic_ge hX hd (by decide) rfl) ?_
  refine aI_c (fun hd => s_al_n hX hd rfl rfl) ?_
  refine aI_c (fun hd => s_gF hX (C := RX5) (T := TX5) (N := 35) (k := 3) rfl (fun w h => up w (inlX5 w h)) (by decide) rfl rfl rfl (up _ lkX5_16) hd rfl) ?_
  refine aI_c (fun hd => s_ii hX hd (by decide) rfl) ?_
  refine aI_c (fun hd => s_il_n hX hd rfl rfl) ?_
  refine aI_c (fun hd => s_imul hX hd rfl) ?_
  refine aI_c (fun hd => s_il hX hd rfl) ?_
  refine aI_c (fun hd => s_il hX hd rfl) ?_
  refine aI_c (fun hd => s_ior hX hd rfl) ?_
  refine aI_c (fun hd => s_iast hX hd rfl) ?_
  refine aI_c (fun hd => s_al_n hX hd rfl rfl) ?_
  refine aI_c (fun hd => s_il_n hX hd rfl rfl) ?_
  refine aI_c (fun hd => s_il_n hX hd rfl rfl) ?_
  refine aI_c (fun hd => s_cV hX (T := TX5) (N := 35) (nX5_may l) rfl (wg_V up lmX5_182 loX5_may) rfl rfl rfl (by decide +kernel) ⟨by decide, by decide⟩ ⟨Nat.zero_le _, Nat.zero_le _⟩ hd rfl) ?_
  refine aI_c (fun hd => s_is hX hd rfl (by decide)) ?_
  refine aI_c (fun hd => s_il hX hd rfl) ?_
  refine aI_c (fun hd => s_if_eq hX hd (by decide) rfl) ?_
  refine aI_c (fun hd => s_il hX hd rfl) ?_
  refine aI_c (fun hd => s_go hX hd (by decide)) ?_
  refine aI_c (fun hd => s_il hX hd rfl) ?_
  refine aI_c (fun hd => s_is hX hd rfl (by decide)) ?_
  refine aI_c (fun hd => s_il hX hd rfl) ?_
  refine aI_c (fun hd => s_if_eq hX hd (by decide) rfl) ?_
  refine aI_c (fun hd => s_il hX hd rfl) ?_
  refine aI_c (fun hd => s_cS hX (nX5_onesOf l) (wg_S up lmX5_96 loX5_onesOf) rfl rfl rfl (by decide +kernel) ⟨by decide, by decide⟩ ⟨Nat.zero_le _, Nat.zero_le _⟩ hd rfl) ?_
  refine aI_c (fun hd => s_go hX hd (by decide)) ?_
  refine aI_c (fun hd => s_il hX hd rfl) ?_
  refine aI_c (fun hd => s_is hX hd rfl (by decide)) ?_
  refine aI_c (fun hd => s_inc hX hd (by decide) rfl (by decide)) ?_
  refine aI_c (fun hd => s_go hX hd (by decide)) ?_
  refine aI_c (fun hd => s_al_n hX hd rfl rfl) ?_
  refine aI_c (fun hd => s_gF hX (C := RX5) (T := TX5) (N := 35) (k := 3) rfl (fun w h => up w (inlX5 w h)) (by decide) rfl rfl rfl (up _ lkX5_16) hd rfl) ?_
  refine aI_c (fun hd => s_ii hX hd (by decide) rfl) ?_
  refine aI_c (fun hd => s_il_n hX hd rfl rfl) ?_
  refine aI_c (fun hd => s_imul hX hd rfl) ?_
  refine aI_c (fun hd => s_il hX hd rfl) ?_
  refine aI_c (fun hd => s_iast hX hd rfl) ?_
  refine aI_c (fun hd => s_il_n hX hd rfl rfl) ?_
  refine aI_c (fun hd => s_if_ne hX hd (by decide) rfl) ?_
  refine aI_c (fun hd => s_il hX hd rfl) ?_
  refine aI_c (fun hd => s_go hX hd (by decide)) ?_
  refine aI_c (fun hd => s_il hX hd rfl) ?_
  refine aI_c (fun hd => s_ri hX hr hlk hE hd) ?_
  exact trivial

-- JudgesByLossModel.fullest(I)I
def tX5_fullest : aT := [
  (0, (.iload_n 1, 1), o_il 1 1),
  (1, (.iconst 0, 1), o_ii 0 2),
  (2, (.iconst 1, 1), o_ii 1 3),
  (3, (.invokestatic 81, 3), o_cS CX5_in 3 6),
  (6, (.ifCond .ne 6, 3), o_if (fun x => ¬ x = 0) 12 9),
  (9, (.bipush (-2), 2), o_ii (-2) 11),
  (11, (.ireturn, 1), o_ri),
  (12, (.iconst (-1), 1), o_ii (-1) 13),
  (13, (.istore_n 2, 1), o_is 2 14),
  (14, (.iconst 0, 1), o_ii 0 15),
  (15, (.istore_n 3, 1), o_is 3 16),
  (16, (.iconst 0, 1), o_ii 0 17),
  (17, (.istore 4, 2), o_is 4 19),
  (19, (.iconst 0, 1), o_ii 0 20),
  (20, (.istore 5, 2), o_is 5 22),
  (22, (.iload 5, 2), o_mk [false, false, false, false, false, false, true, true, true] (o_il 5 24)),
  (24, (.aload_n 0, 1), o_al 0 25),
  (25, (.getfield 78, 3), o_gI 5 0 28),
  (28, (.if_icmp .ge 103, 3), o_ic (fun x y => y ≤ x) 131 31),
  (31, (.aload_n 0, 1), o_al 0 32),
  (32, (.iload 5, 2), o_il 5 34),
  (34, (.invokevirtual 186, 3), o_cV CX5_mayHear 5 1 37),
  (37, (.invokestatic 96, 3), o_cS CX5_onesOf 1 40),
  (40, (.istore 6, 2), o_is 6 42),
  (42, (.aload_n 0, 1), o_al 0 43),
  (43, (.getfield 16, 3), o_gF 5 3 46),
  (46, (.iconst 3, 1), o_ii 3 47),
  (47, (.iload 5, 2), o_il 5 49),
  (49, (.imul, 1), o_bi (fun x y => x * y) 50),
  (50, (.iaload, 1), o_iald 51),
  (51, (.invokestatic 96, 3), o_cS CX5_onesOf 1 54),
  (54, (.istore 7, 2), o_is 7 56),
  (56, (.iload_n 2, 1), o_il 2 57),
  (57, (.iconst (-1), 1), o_ii (-1) 58),
  (58, (.if_icmp .eq 22, 3), o_ic (fun x y => x = y) 80 61),
  (61, (.iload 6, 2), o_il 6 63),
  (63, (.iload_n 3, 1), o_il 3 64),
  (64, (.if_icmp .gt 16, 3), o_ic (fun x y => y < x) 80 67),
  (67, (.iload 6, 2), o_il 6 69),
  (69, (.iload_n 3, 1), o_il 3 70),
  (70, (.if_icmp .ne 14, 3), o_ic (fun x y => ¬ x = y) 84 73),
  (73, (.iload 7, 2), o_il 7 75),
  (75, (.iload 4, 2), o_il 4 77),
  (77, (.if_icmp .le 7, 3), o_ic (fun x y => x ≤ y) 84 80),
  (80, (.iconst 1, 1), o_ii 1 81),
  (81, (.goto 4, 3), o_go 85),
  (84, (.iconst 0, 1), o_ii 0 85),
  (85, (.istore 8, 2), o_is 8 87),
  (87, (.iload 8, 2), o_il 8 89),
  (89, (.ifCond .eq 8, 3), o_if (fun x => x = 0) 97 92),
  (92, (.iload 5, 2), o_il 5 94),
  (94, (.goto 4, 3), o_go 98),
  (97, (.iload_n 2, 1), o_il 2 98),
  (98, (.istore_n 2, 1), o_is 2 99),
  (99, (.iload 8, 2), o_il 8 101),
  (101, (.ifCond .eq 8, 3), o_if (fun x => x = 0) 109 104),
  (104, (.iload 6, 2), o_il 6 106),
  (106, (.goto 4, 3), o_go 110),
  (109, (.iload_n 3, 1), o_il 3 110),
  (110, (.istore_n 3, 1), o_is 3 111),
  (111, (.iload 8, 2), o_il 8 113),
  (113, (.ifCond .eq 8, 3), o_if (fun x => x = 0) 121 116),
  (116, (.iload 7, 2), o_il 7 118),
  (118, (.goto 5, 3), o_go 123),
  (121, (.iload 4, 2), o_il 4 123),
  (123, (.istore 4, 2), o_is 4 125),
  (125, (.iinc 5 1, 3), o_inc 5 1 128),
  (128, (.goto (-106), 3), o_go 22),
  (131, (.iload_n 1, 1), o_il 1 132),
  (132, (.ifCond .ne 7, 3), o_if (fun x => ¬ x = 0) 139 135),
  (135, (.iload_n 2, 1), o_il 2 136),
  (136, (.goto 4, 3), o_go 140),
  (139, (.iload_n 3, 1), o_il 3 140),
  (140, (.ireturn, 1), o_ri)]
abbrev CX5_fullest : aC := aCl tX5_fullest 9
def rmX5_fullest : Room := { frames := 6, cells := 0, slots := 0, locals := 120 }
set_option maxRecDepth 100000 in
theorem dX5_fullest : tX5_fullest.all (fun q => decide (decode cX5_fullest q.1 = .ok q.2.1)) = true := by decide +kernel
set_option maxRecDepth 100000 in
set_option maxHeartbeats 4000000 in
theorem nX5_fullest (l : Launch) : aMt l yX5_fullest (Cond.code yX5_fullest cX5_fullest 9 (some .int) :: wsL_law) rmX5_fullest CX5_fullest := by
  refine aMt.of (own := RX5) (cc := cX5_fullest) (maxL := 9) (ret := (some .int)) (by decide +kernel) rfl rfl ?_
  intro p e s m args below meth c Qc D Z ad P G A E hX hr hlk hE
  have up : ∀ w ∈ wsL_law, w ∈ (Cond.code yX5_fullest cX5_fullest 9 (some .int) :: wsL_law) := fun w h => List.mem_cons_of_mem _ h
  refine aImp_all _ dX5_fullest ?_
  unfold tX5_fullest
  refine aI_c (fun hd => s_il_n hX hd rfl rfl) ?_
  refine aI_c (fun hd => s_ii hX hd (by decide) rfl) ?_
  refine aI_c (fun hd => s_ii hX hd (by decide) rfl) ?_
  refine aI_c (fun hd => s_cS hX (nX5_in l) (wg_S up lmX5_81 loX5_in) rfl rfl rfl (by decide +kernel) ⟨by decide, by decide⟩ ⟨Nat.zero_le _, Nat.zero_le _⟩ hd rfl) ?_
  refine aI_c (fun hd => s_if_ne hX hd (by decide) rfl) ?_
  refine aI_c (fun hd => s_bp hX hd (by decide) rfl) ?_
  refine aI_c (fun hd => s_ri hX hr hlk hE hd) ?_
  refine aI_c (fun hd => s_ii hX hd (by decide) rfl) ?_
  refine aI_c (fun hd => s_is_n hX hd rfl rfl (by decide)) ?_
  refine aI_c (fun hd => s_ii hX hd (by decide) rfl) ?_
  refine aI_c (fun hd => s_is_n hX hd rfl rfl (by decide)) ?_
  refine aI_c (fun hd => s_ii hX hd (by decide) rfl) ?_
  refine aI_c (fun hd => s_is hX hd rfl (by decide)) ?_
  refine aI_c (fun hd => s_ii hX hd (by decide) rfl) ?_
  refine aI_c (fun hd => s_is hX hd rfl (by decide)) ?_
  refine aI_c (fun hd => s_mk (s_il hX hd rfl)) ?_
  refine aI_c (fun hd => s_al_n hX hd rfl rfl) ?_
  refine aI_c (fun hd => s_gI hX (C := RX5) (T := TX5) (N := 35) (k := 0) rfl (fun w h => up w (inlX5 w h)) (by decide) rfl rfl rfl (up _ lkX5_78) hd rfl) ?_
  refine aI_c (fun hd => s_ic_ge hX hd (by decide) rfl) ?_
  refine aI_c (fun hd => s_al_n hX hd rfl rfl) ?_
  refine aI_c (fun hd => s_il hX hd rfl) ?_
  refine aI_c (fun hd => s_cV hX (T := TX5) (N := 35) (nX5_mayHear l) rfl (wg_V up lmX5_186 loX5_mayHear) rfl rfl rfl (by decide +kernel) ⟨by decide, by decide⟩ ⟨Nat.zero_le _, Nat.zero_le _⟩ hd rfl) ?_
  refine aI_c (fun hd => s_cS hX (nX5_onesOf l) (wg_S up lmX5_96 loX5_onesOf) rfl rfl rfl (by decide +kernel) ⟨by decide, by decide⟩ ⟨Nat.zero_le _, Nat.zero_le _⟩ hd rfl) ?_
  refine aI_c (fun hd => s_is hX hd rfl (by decide)) ?_
  refine aI_c (fun hd => s_al_n hX hd rfl rfl) ?_
  refine aI_c (fun hd => s_gF hX (C := RX5) (T := TX5) (N := 35) (k := 3) rfl (fun w h => up w (inlX5 w h)) (by decide) rfl rfl rfl (up _ lkX5_16) hd rfl) ?_
  refine aI_c (fun hd => s_ii hX hd (by decide) rfl) ?_
  refine aI_c (fun hd => s_il hX hd rfl) ?_
  refine aI_c (fun hd => s_imul hX hd rfl) ?_
  refine aI_c (fun hd => s_iald hX hd rfl) ?_
  refine aI_c (fun hd => s_cS hX (nX5_onesOf l) (wg_S up lmX5_96 loX5_onesOf) rfl rfl rfl (by decide +kernel) ⟨by decide, by decide⟩ ⟨Nat.zero_le _, Nat.zero_le _⟩ hd rfl) ?_
  refine aI_c (fun hd => s_is hX hd rfl (by decide)) ?_
  refine aI_c (fun hd => s_il_n hX hd rfl rfl) ?_
  refine aI_c (fun hd => s_ii hX hd (by decide) rfl) ?_
  refine aI_c (fun hd => s_ic_eq hX hd (by decide) rfl) ?_
  refine aI_c (fun hd => s_il hX hd rfl) ?_
  refine aI_c (fun hd => s_il_n hX hd rfl rfl) ?_
  refine aI_c (fun hd => s_ic_gt hX hd (by decide) rfl) ?_
  refine aI_c (fun hd => s_il hX hd rfl) ?_
  refine aI_c (fun hd => s_il_n hX hd rfl rfl) ?_
  refine aI_c (fun hd => s_ic_ne hX hd (by decide) rfl) ?_
  refine aI_c (fun hd => s_il hX hd rfl) ?_
  refine aI_c (fun hd => s_il hX hd rfl) ?_
  refine aI_c (fun hd => s_ic_le hX hd (by decide) rfl) ?_
  refine aI_c (fun hd => s_ii hX hd (by decide) rfl) ?_
  refine aI_c (fun hd => s_go hX hd (by decide)) ?_
  refine aI_c (fun hd => s_ii hX hd (by decide) rfl) ?_
  refine aI_c (fun hd => s_is hX hd rfl (by decide)) ?_
  refine aI_c (fun hd => s_il hX hd rfl) ?_
  refine aI_c (fun hd => s_if_eq hX hd (by decide) rfl) ?_
  refine aI_c (fun hd => s_il hX hd rfl) ?_
  refine aI_c (fun hd => s_go hX hd (by decide)) ?_
  refine aI_c (fun hd => s_il_n hX hd rfl rfl) ?_
  refine aI_c (fun hd => s_is_n hX hd rfl rfl (by decide)) ?_
  refine aI_c (fun hd => s_il hX hd rfl) ?_
  refine aI_c (fun hd => s_if_eq hX hd (by decide) rfl) ?_
  refine aI_c (fun hd => s_il hX hd rfl) ?_
  refine aI_c (fun hd => s_go hX hd (by decide)) ?_
  refine aI_c (fun hd => s_il_n hX hd rfl rfl) ?_
  refine aI_c (fun hd => s_is_n hX hd rfl rfl (by decide)) ?_
  refine aI_c (fun hd => s_il hX hd rfl) ?_
  refine aI_c (fun hd => s_if_eq hX hd (by decide) rfl) ?_
  refine aI_c (fun hd => s_il hX hd rfl) ?_
  refine aI_c (fun hd => s_go hX hd (by decide)) ?_
  refine aI_c (fun hd => s_il hX hd rfl) ?_
  refine aI_c (fun hd => s_is hX hd rfl (by decide)) ?_
  refine aI_c (fun hd => s_inc hX hd (by decide) rfl (by decide)) ?_
  refine aI_c (fun hd => s_go hX hd (by decide)) ?_
  refine aI_c (fun hd => s_il_n hX hd rfl rfl) ?_
  refine aI_c (fun hd => s_if_ne hX hd (by decide) rfl) ?_
  refine aI_c (fun hd => s_il_n hX hd rfl rfl) ?_
  refine aI_c (fun hd => s_go hX hd (by decide)) ?_
  refine aI_c (fun hd => s_il_n hX hd rfl rfl) ?_
  refine aI_c (fun hd => s_ri hX hr hlk hE hd) ?_
  exact trivial

-- JudgesByLossModel.cruel()I
def tX5_cruel : aT := [
  (0, (.iconst 0, 1), o_ii 0 1),
  (1, (.istore_n 1, 1), o_is 1 2),
  (2, (.iconst 0, 1), o_ii 0 3),
  (3, (.istore_n 2, 1), o_is 2 4),
  (4, (.iload_n 2, 1), o_il 2 5),
  (5, (.bipush 8, 2), o_ii 8 7),
  (7, (.if_icmp .ge 35, 3), o_ic (fun x y => y ≤ x) 42 10),
  (10, (.aload_n 0, 1), o_al 0 11),
  (11, (.iload_n 2, 1), o_il 2 12),
  (12, (.invokevirtual 89, 3), o_cV CX5_isThere 5 1 15),
  (15, (.ifCond .eq 21, 3), o_if (fun x => x = 0) 36 18),
  (18, (.iload_n 1, 1), o_il 1 19),
  (19, (.aload_n 0, 1), o_al 0 20),
  (20, (.iload_n 2, 1), o_il 2 21),
  (21, (.invokevirtual 189, 3), o_cV CX5_whoMay 5 1 24),
  (24, (.ifCond .ne 9, 3), o_if (fun x => ¬ x = 0) 33 27),
  (27, (.iconst 1, 1), o_ii 1 28),
  (28, (.iload_n 2, 1), o_il 2 29),
  (29, (.ishl, 1), o_bi (fun x y => x <<< (y &&& 31)) 30),
  (30, (.goto 4, 3), o_go 34),
  (33, (.iconst 0, 1), o_ii 0 34),
  (34, (.ior, 1), o_bi (fun x y => x ||| y) 35),
  (35, (.istore_n 1, 1), o_is 1 36),
  (36, (.iinc 2 1, 3), o_inc 2 1 39),
  (39, (.goto (-35), 3), o_go 4),
  (42, (.iload_n 1, 1), o_il 1 43),
  (43, (.ireturn, 1), o_ri)]
abbrev CX5_cruel : aC := aCl tX5_cruel 3
def rmX5_cruel : Room := { frames := 6, cells := 0, slots := 0, locals := 120 }
set_option maxRecDepth 100000 in
theorem dX5_cruel : tX5_cruel.all (fun q => decide (decode cX5_cruel q.1 = .ok q.2.1)) = true := by decide +kernel
set_option maxRecDepth 100000 in
set_option maxHeartbeats 4000000 in
theorem nX5_cruel (l : Launch) : aMt l yX5_cruel (Cond.code yX5_cruel cX5_cruel 3 (some .int) :: wsL_law) rmX5_cruel CX5_cruel := by
  refine aMt.of (own := RX5) (cc := cX5_cruel) (maxL := 3) (ret := (some .int)) (by decide +kernel) rfl rfl ?_
  intro p e s m args below meth c Qc D Z ad P G A E hX hr hlk hE
  have up : ∀ w ∈ wsL_law, w ∈ (Cond.code yX5_cruel cX5_cruel 3 (some .int) :: wsL_law) := fun w h => List.mem_cons_of_mem _ h
  refine aImp_all _ dX5_cruel ?_
  unfold tX5_cruel
  refine aI_c (fun hd => s_ii hX hd (by decide) rfl) ?_
  refine aI_c (fun hd => s_is_n hX hd rfl rfl (by decide)) ?_
  refine aI_c (fun hd => s_ii hX hd (by decide) rfl) ?_
  refine aI_c (fun hd => s_is_n hX hd rfl rfl (by decide)) ?_
  refine aI_c (fun hd => s_il_n hX hd rfl rfl) ?_
  refine aI_c (fun hd => s_bp hX hd (by decide) rfl) ?_
  refine aI_c (fun hd => s_ic_ge hX hd (by decide) rfl) ?_
  refine aI_c (fun hd => s_al_n hX hd rfl rfl) ?_
  refine aI_c (fun hd => s_il_n hX hd rfl rfl) ?_
  refine aI_c (fun hd => s_cV hX (T := TX5) (N := 35) (nX5_isThere l) rfl (wg_V up lmX5_89 loX5_isThere) rfl rfl rfl (by decide +kernel) ⟨by decide, by decide⟩ ⟨Nat.zero_le _, Nat.zero_le _⟩ hd rfl) ?_
  refine aI_c (fun hd => s_if_eq hX hd (by decide) rfl) ?_
  refine aI_c (fun hd => s_il_n hX hd rfl rfl) ?_
  refine aI_c (fun hd => s_al_n hX hd rfl rfl) ?_
  refine aI_c (fun hd => s_il_n hX hd rfl rfl) ?_
  refine aI_c (fun hd => s_cV hX (T := TX5) (N := 35) (nX5_whoMay l) rfl (wg_V up lmX5_189 loX5_whoMay) rfl rfl rfl (by decide +kernel) ⟨by decide, by decide⟩ ⟨Nat.zero_le _, Nat.zero_le _⟩ hd rfl) ?_
  refine aI_c (fun hd => s_if_ne hX hd (by decide) rfl) ?_
  refine aI_c (fun hd => s_ii hX hd (by decide) rfl) ?_
  refine aI_c (fun hd => s_il_n hX hd rfl rfl) ?_
  refine aI_c (fun hd => s_ishl hX hd rfl) ?_
  refine aI_c (fun hd => s_go hX hd (by decide)) ?_
  refine aI_c (fun hd => s_ii hX hd (by decide) rfl) ?_
  refine aI_c (fun hd => s_ior hX hd rfl) ?_
  refine aI_c (fun hd => s_is_n hX hd rfl rfl (by decide)) ?_
  refine aI_c (fun hd => s_inc hX hd (by decide) rfl (by decide)) ?_
  refine aI_c (fun hd => s_go hX hd (by decide)) ?_
  refine aI_c (fun hd => s_il_n hX hd rfl rfl) ?_
  refine aI_c (fun hd => s_ri hX hr hlk hE hd) ?_
  exact trivial

-- JudgesByLossModel.lowest(JJI)J
def tX5_lowest : aT := [
  (0, (.lload_n 0, 1), o_ll 0 1),
  (1, (.lconst 0, 1), o_lc 0 2),
  (2, (.lcmp, 1), o_lcm 3),
  (3, (.ifCond .ne 7, 3), o_if (fun x => ¬ x = 0) 10 6),
  (6, (.iload 4, 2), o_il 4 8),
  (8, (.i2l, 1), o_tl (fun x => x.toInt64) 9),
  (9, (.lreturn, 1), o_rl),
  (10, (.lload_n 0, 1), o_ll 0 11),
  (11, (.lstore 5, 2), o_ls 5 13),
  (13, (.lload_n 2, 1), o_ll 2 14),
  (14, (.lstore 7, 2), o_ls 7 16),
  (16, (.lload 7, 2), o_mk [false, true, false, true, false, false, true, false, true, true, true] (o_ll 7 18)),
  (18, (.lconst 0, 1), o_lc 0 19),
  (19, (.lcmp, 1), o_lcm 20),
  (20, (.ifCond .eq 21, 3), o_if (fun x => x = 0) 41 23),
  (23, (.lload 5, 2), o_ll 5 25),
  (25, (.lload 7, 2), o_ll 7 27),
  (27, (.lrem, 1), o_lrm 28),
  (28, (.lstore 9, 2), o_ls 9 30),
  (30, (.lload 7, 2), o_ll 7 32),
  (32, (.lstore 5, 2), o_ls 5 34),
  (34, (.lload 9, 2), o_ll 9 36),
  (36, (.lstore 7, 2), o_ls 7 38),
  (38, (.goto (-22), 3), o_go 16),
  (41, (.iload 4, 2), o_il 4 43),
  (43, (.ifCond .ne 7, 3), o_if (fun x => ¬ x = 0) 50 46),
  (46, (.lload_n 0, 1), o_ll 0 47),
  (47, (.goto 4, 3), o_go 51),
  (50, (.lload_n 2, 1), o_ll 2 51),
  (51, (.lload 5, 2), o_ll 5 53),
  (53, (.ldiv, 1), o_ldv 54),
  (54, (.lreturn, 1), o_rl)]
abbrev CX5_lowest : aC := aCl tX5_lowest 11
def rmX5_lowest : Room := { frames := 1, cells := 0, slots := 0, locals := 1 }
set_option maxRecDepth 100000 in
theorem dX5_lowest : tX5_lowest.all (fun q => decide (decode cX5_lowest q.1 = .ok q.2.1)) = true := by decide +kernel
set_option maxRecDepth 100000 in
set_option maxHeartbeats 4000000 in
theorem nX5_lowest (l : Launch) : aMt l yX5_lowest (Cond.code yX5_lowest cX5_lowest 11 (some .long) :: wsL_law) rmX5_lowest CX5_lowest := by
  refine aMt.of (own := RX5) (cc := cX5_lowest) (maxL := 11) (ret := (some .long)) (by decide +kernel) rfl rfl ?_
  intro p e s m args below meth c Qc D Z ad P G A E hX hr hlk hE
  have up : ∀ w ∈ wsL_law, w ∈ (Cond.code yX5_lowest cX5_lowest 11 (some .long) :: wsL_law) := fun w h => List.mem_cons_of_mem _ h
  refine aImp_all _ dX5_lowest ?_
  unfold tX5_lowest
  refine aI_c (fun hd => s_ll_n hX hd rfl rfl) ?_
  refine aI_c (fun hd => s_lc hX hd (by decide) rfl) ?_
  refine aI_c (fun hd => s_lcmp hX hd rfl) ?_
  refine aI_c (fun hd => s_if_ne hX hd (by decide) rfl) ?_
  refine aI_c (fun hd => s_il hX hd rfl) ?_
  refine aI_c (fun hd => s_i2l hX hd rfl) ?_
  refine aI_c (fun hd => s_rl hX hr hlk hE hd) ?_
  refine aI_c (fun hd => s_ll_n hX hd rfl rfl) ?_
  refine aI_c (fun hd => s_ls hX hd rfl (by decide)) ?_
  refine aI_c (fun hd => s_ll_n hX hd rfl rfl) ?_
  refine aI_c (fun hd => s_ls hX hd rfl (by decide)) ?_
  refine aI_c (fun hd => s_mk (s_ll hX hd rfl)) ?_
  refine aI_c (fun hd => s_lc hX hd (by decide) rfl) ?_
  refine aI_c (fun hd => s_lcmp hX hd rfl) ?_
  refine aI_c (fun hd => s_if_eq hX hd (by decide) rfl) ?_
  refine aI_c (fun hd => s_ll hX hd rfl) ?_
  refine aI_c (fun hd => s_ll hX hd rfl) ?_
  refine aI_c (fun hd => s_lrem hX hd rfl) ?_
  refine aI_c (fun hd => s_ls hX hd rfl (by decide)) ?_
  refine aI_c (fun hd => s_ll hX hd rfl) ?_
  refine aI_c (fun hd => s_ls hX hd rfl (by decide)) ?_
  refine aI_c (fun hd => s_ll hX hd rfl) ?_
  refine aI_c (fun hd => s_ls hX hd rfl (by decide)) ?_
  refine aI_c (fun hd => s_go hX hd (by decide)) ?_
  refine aI_c (fun hd => s_il hX hd rfl) ?_
  refine aI_c (fun hd => s_if_ne hX hd (by decide) rfl) ?_
  refine aI_c (fun hd => s_ll_n hX hd rfl rfl) ?_
  refine aI_c (fun hd => s_go hX hd (by decide)) ?_
  refine aI_c (fun hd => s_ll_n hX hd rfl rfl) ?_
  refine aI_c (fun hd => s_ll hX hd rfl) ?_
  refine aI_c (fun hd => s_ldiv hX hd rfl) ?_
  refine aI_c (fun hd => s_rl hX hr hlk hE hd) ?_
  exact trivial

-- JudgesByLossModel.ruin(I)J
def tX5_ruin : aT := [
  (0, (.iconst 0, 1), o_ii 0 1),
  (1, (.istore_n 2, 1), o_is 2 2),
  (2, (.iconst 0, 1), o_ii 0 3),
  (3, (.istore_n 3, 1), o_is 3 4),
  (4, (.iload_n 3, 1), o_il 3 5),
  (5, (.aload_n 0, 1), o_al 0 6),
  (6, (.getfield 78, 3), o_gI 5 0 9),
  (9, (.if_icmp .ge 23, 3), o_ic (fun x y => y ≤ x) 32 12),
  (12, (.iload_n 2, 1), o_il 2 13),
  (13, (.aload_n 0, 1), o_al 0 14),
  (14, (.getfield 16, 3), o_gF 5 3 17),
  (17, (.iconst 3, 1), o_ii 3 18),
  (18, (.iload_n 3, 1), o_il 3 19),
  (19, (.imul, 1), o_bi (fun x y => x * y) 20),
  (20, (.iaload, 1), o_iald 21),
  (21, (.invokestatic 96, 3), o_cS CX5_onesOf 1 24),
  (24, (.iadd, 1), o_bi (fun x y => x + y) 25),
  (25, (.istore_n 2, 1), o_is 2 26),
  (26, (.iinc 3 1, 3), o_inc 3 1 29),
  (29, (.goto (-25), 3), o_go 4),
  (32, (.iload_n 1, 1), o_il 1 33),
  (33, (.iconst 0, 1), o_ii 0 34),
  (34, (.iconst 1, 1), o_ii 1 35),
  (35, (.invokestatic 81, 3), o_cS CX5_in 3 38),
  (38, (.ifCond .eq 24, 3), o_if (fun x => x = 0) 62 41),
  (41, (.aload_n 0, 1), o_al 0 42),
  (42, (.getfield 78, 3), o_gI 5 0 45),
  (45, (.ifCond .le 17, 3), o_if (fun x => x ≤ 0) 62 48),
  (48, (.iload_n 2, 1), o_il 2 49),
  (49, (.i2l, 1), o_tl (fun x => x.toInt64) 50),
  (50, (.aload_n 0, 1), o_al 0 51),
  (51, (.getfield 78, 3), o_gI 5 0 54),
  (54, (.i2l, 1), o_tl (fun x => x.toInt64) 55),
  (55, (.iload_n 1, 1), o_il 1 56),
  (56, (.invokestatic 228, 3), o_cS CX5_lowest 3 59),
  (59, (.goto 6, 3), o_go 65),
  (62, (.ldc2_w 232, 3), o_lc (-4611686018427387904) 65),
  (65, (.lreturn, 1), o_rl)]
abbrev CX5_ruin : aC := aCl tX5_ruin 4
def rmX5_ruin : Room := { frames := 2, cells := 0, slots := 0, locals := 31 }
set_option maxRecDepth 100000 in
theorem dX5_ruin : tX5_ruin.all (fun q => decide (decode cX5_ruin q.1 = .ok q.2.1)) = true := by decide +kernel
set_option maxRecDepth 100000 in
set_option maxHeartbeats 4000000 in
theorem nX5_ruin (l : Launch) : aMt l yX5_ruin (Cond.code yX5_ruin cX5_ruin 4 (some .long) :: wsL_law) rmX5_ruin CX5_ruin := by
  refine aMt.of (own := RX5) (cc := cX5_ruin) (maxL := 4) (ret := (some .long)) (by decide +kernel) rfl rfl ?_
  intro p e s m args below meth c Qc D Z ad P G A E hX hr hlk hE
  have up : ∀ w ∈ wsL_law, w ∈ (Cond.code yX5_ruin cX5_ruin 4 (some .long) :: wsL_law) := fun w h => List.mem_cons_of_mem _ h
  refine aImp_all _ dX5_ruin ?_
  unfold tX5_ruin
  refine aI_c (fun hd => s_ii hX hd (by decide) rfl) ?_
  refine aI_c (fun hd => s_is_n hX hd rfl rfl (by decide)) ?_
  refine aI_c (fun hd => s_ii hX hd (by decide) rfl) ?_
  refine aI_c (fun hd => s_is_n hX hd rfl rfl (by decide)) ?_
  refine aI_c (fun hd => s_il_n hX hd rfl rfl) ?_
  refine aI_c (fun hd => s_al_n hX hd rfl rfl) ?_
  refine aI_c (fun hd => s_gI hX (C := RX5) (T := TX5) (N := 35) (k := 0) rfl (fun w h => up w (inlX5 w h)) (by decide) rfl rfl rfl (up _ lkX5_78) hd rfl) ?_
  refine aI_c (fun hd => s_ic_ge hX hd (by decide) rfl) ?_
  refine aI_c (fun hd => s_il_n hX hd rfl rfl) ?_
  refine aI_c (fun hd => s_al_n hX hd rfl rfl) ?_
  refine aI_c (fun hd => s_gF hX (C := RX5) (T := TX5) (N := 35) (k := 3) rfl (fun w h => up w (inlX5 w h)) (by decide) rfl rfl rfl (up _ lkX5_16) hd rfl) ?_
  refine aI_c (fun hd => s_ii hX hd (by decide) rfl) ?_
  refine aI_c (fun hd => s_il_n hX hd rfl rfl) ?_
  refine aI_c (fun hd => s_imul hX hd rfl) ?_
  refine aI_c (fun hd => s_iald hX hd rfl) ?_
  refine aI_c (fun hd => s_cS hX (nX5_onesOf l) (wg_S up lmX5_96 loX5_onesOf) rfl rfl rfl (by decide +kernel) ⟨by decide, by decide⟩ ⟨Nat.zero_le _, Nat.zero_le _⟩ hd rfl) ?_
  refine aI_c (fun hd => s_iadd hX hd rfl) ?_
  refine aI_c (fun hd => s_is_n hX hd rfl rfl (by decide)) ?_
  refine aI_c (fun hd => s_inc hX hd (by decide) rfl (by decide)) ?_
  refine aI_c (fun hd => s_go hX hd (by decide)) ?_
  refine aI_c (fun hd => s_il_n hX hd rfl rfl) ?_
  refine aI_c (fun hd => s_ii hX hd (by decide) rfl) ?_
  refine aI_c (fun hd => s_ii hX hd (by decide) rfl) ?_
  refine aI_c (fun hd => s_cS hX (nX5_in l) (wg_S up lmX5_81 loX5_in) rfl rfl rfl (by decide +kernel) ⟨by decide, by decide⟩ ⟨Nat.zero_le _, Nat.zero_le _⟩ hd rfl) ?_
  refine aI_c (fun hd => s_if_eq hX hd (by decide) rfl) ?_
  refine aI_c (fun hd => s_al_n hX hd rfl rfl) ?_
  refine aI_c (fun hd => s_gI hX (C := RX5) (T := TX5) (N := 35) (k := 0) rfl (fun w h => up w (inlX5 w h)) (by decide) rfl rfl rfl (up _ lkX5_78) hd rfl) ?_
  refine aI_c (fun hd => s_if_le hX hd (by decide) rfl) ?_
  refine aI_c (fun hd => s_il_n hX hd rfl rfl) ?_
  refine aI_c (fun hd => s_i2l hX hd rfl) ?_
  refine aI_c (fun hd => s_al_n hX hd rfl rfl) ?_
  refine aI_c (fun hd => s_gI hX (C := RX5) (T := TX5) (N := 35) (k := 0) rfl (fun w h => up w (inlX5 w h)) (by decide) rfl rfl rfl (up _ lkX5_78) hd rfl) ?_
  refine aI_c (fun hd => s_i2l hX hd rfl) ?_
  refine aI_c (fun hd => s_il_n hX hd rfl rfl) ?_
  refine aI_c (fun hd => s_cS hX (nX5_lowest l) (wg_S up lmX5_228 loX5_lowest) rfl rfl rfl (by decide +kernel) ⟨by decide, by decide⟩ ⟨Nat.zero_le _, Nat.zero_le _⟩ hd rfl) ?_
  refine aI_c (fun hd => s_go hX hd (by decide)) ?_
  refine aI_c (fun hd => s_ldc2 hX hd (up _ lcX5_232) rfl) ?_
  refine aI_c (fun hd => s_rl hX hr hlk hE hd) ?_
  exact trivial

-- JudgesByLossModel.sheetWrong(I)I
def tX5_sheetWrong : aT := [
  (0, (.iload_n 1, 1), o_il 1 1),
  (1, (.iconst 0, 1), o_ii 0 2),
  (2, (.iconst 3, 1), o_ii 3 3),
  (3, (.invokestatic 81, 3), o_cS CX5_in 3 6),
  (6, (.ifCond .ne 6, 3), o_if (fun x => ¬ x = 0) 12 9),
  (9, (.bipush (-2), 2), o_ii (-2) 11),
  (11, (.ireturn, 1), o_ri),
  (12, (.aload_n 0, 1), o_al 0 13),
  (13, (.getfield 37, 3), o_gF 5 10 16),
  (16, (.iload_n 1, 1), o_il 1 17),
  (17, (.iaload, 1), o_iald 18),
  (18, (.iconst (-1), 1), o_ii (-1) 19),
  (19, (.if_icmp .ne 6, 3), o_ic (fun x y => ¬ x = y) 25 22),
  (22, (.bipush (-11), 2), o_ii (-11) 24),
  (24, (.ireturn, 1), o_ri),
  (25, (.aload_n 0, 1), o_al 0 26),
  (26, (.getfield 40, 3), o_gF 5 11 29),
  (29, (.iload_n 1, 1), o_il 1 30),
  (30, (.iaload, 1), o_iald 31),
  (31, (.bipush 20, 2), o_ii 20 33),
  (33, (.if_icmp .le 8, 3), o_ic (fun x y => x ≤ y) 41 36),
  (36, (.bipush (-2), 2), o_ii (-2) 38),
  (38, (.goto 4, 3), o_go 42),
  (41, (.iconst 0, 1), o_ii 0 42),
  (42, (.ireturn, 1), o_ri)]
abbrev CX5_sheetWrong : aC := aCl tX5_sheetWrong 2
def rmX5_sheetWrong : Room := { frames := 2, cells := 0, slots := 0, locals := 23 }
set_option maxRecDepth 100000 in
theorem dX5_sheetWrong : tX5_sheetWrong.all (fun q => decide (decode cX5_sheetWrong q.1 = .ok q.2.1)) = true := by decide +kernel
set_option maxRecDepth 100000 in
set_option maxHeartbeats 4000000 in
theorem nX5_sheetWrong (l : Launch) : aMt l yX5_sheetWrong (Cond.code yX5_sheetWrong cX5_sheetWrong 2 (some .int) :: wsL_law) rmX5_sheetWrong CX5_sheetWrong := by
  refine aMt.of (own := RX5) (cc := cX5_sheetWrong) (maxL := 2) (ret := (some .int)) (by decide +kernel) rfl rfl ?_
  intro p e s m args below meth c Qc D Z ad P G A E hX hr hlk hE
  have up : ∀ w ∈ wsL_law, w ∈ (Cond.code yX5_sheetWrong cX5_sheetWrong 2 (some .int) :: wsL_law) := fun w h => List.mem_cons_of_mem _ h
  refine aImp_all _ dX5_sheetWrong ?_
  unfold tX5_sheetWrong
  refine aI_c (fun hd => s_il_n hX hd rfl rfl) ?_
  refine aI_c (fun hd => s_ii hX hd (by decide) rfl) ?_
  refine aI_c (fun hd => s_ii hX hd (by decide) rfl) ?_
  refine aI_c (fun hd => s_cS hX (nX5_in l) (wg_S up lmX5_81 loX5_in) rfl rfl rfl (by decide +kernel) ⟨by decide, by decide⟩ ⟨Nat.zero_le _, Nat.zero_le _⟩ hd rfl) ?_
  refine aI_c (fun hd => s_if_ne hX hd (by decide) rfl) ?_
  refine aI_c (fun hd => s_bp hX hd (by decide) rfl) ?_
  refine aI_c (fun hd => s_ri hX hr hlk hE hd) ?_
  refine aI_c (fun hd => s_al_n hX hd rfl rfl) ?_
  refine aI_c (fun hd => s_gF hX (C := RX5) (T := TX5) (N := 35) (k := 16) rfl (fun w h => up w (inlX5 w h)) (by decide) rfl rfl rfl (up _ lkX5_37) hd rfl) ?_
  refine aI_c (fun hd => s_il_n hX hd rfl rfl) ?_
  refine aI_c (fun hd => s_iald hX hd rfl) ?_
  refine aI_c (fun hd => s_ii hX hd (by decide) rfl) ?_
  refine aI_c (fun hd => s_ic_ne hX hd (by decide) rfl) ?_
  refine aI_c (fun hd => s_bp hX hd (by decide) rfl) ?_
  refine aI_c (fun hd => s_ri hX hr hlk hE hd) ?_
  refine aI_c (fun hd => s_al_n hX hd rfl rfl) ?_
  refine aI_c (fun hd => s_gF hX (C := RX5) (T := TX5) (N := 35) (k := 17) rfl (fun w h => up w (inlX5 w h)) (by decide) rfl rfl rfl (up _ lkX5_40) hd rfl) ?_
  refine aI_c (fun hd => s_il_n hX hd rfl rfl) ?_
  refine aI_c (fun hd => s_iald hX hd rfl) ?_
  refine aI_c (fun hd => s_bp hX hd (by decide) rfl) ?_
  refine aI_c (fun hd => s_ic_le hX hd (by decide) rfl) ?_
  refine aI_c (fun hd => s_bp hX hd (by decide) rfl) ?_
  refine aI_c (fun hd => s_go hX hd (by decide)) ?_
  refine aI_c (fun hd => s_ii hX hd (by decide) rfl) ?_
  refine aI_c (fun hd => s_ri hX hr hlk hE hd) ?_
  exact trivial

-- JudgesByLossModel.unlike(I)I
def tX5_unlike : aT := [
  (0, (.iconst (-1), 1), o_ii (-1) 1),
  (1, (.istore_n 2, 1), o_is 2 2),
  (2, (.aload_n 0, 1), o_al 0 3),
  (3, (.invokevirtual 210, 3), o_cV CX5_keeps 5 0 6),
  (6, (.iconst 0, 1), o_ii 0 7),
  (7, (.istore_n 3, 1), o_is 3 8),
  (8, (.iload_n 3, 1), o_il 3 9),
  (9, (.aload_n 0, 1), o_al 0 10),
  (10, (.getfield 40, 3), o_gF 5 11 13),
  (13, (.iload_n 1, 1), o_il 1 14),
  (14, (.iaload, 1), o_iald 15),
  (15, (.if_icmp .ge 41, 3), o_ic (fun x y => y ≤ x) 56 18),
  (18, (.iload_n 2, 1), o_il 2 19),
  (19, (.iconst (-1), 1), o_ii (-1) 20),
  (20, (.if_icmp .ne 36, 3), o_ic (fun x y => ¬ x = y) 56 23),
  (23, (.aload_n 0, 1), o_al 0 24),
  (24, (.getfield 43, 3), o_gF 5 12 27),
  (27, (.bipush 40, 2), o_ii 40 29),
  (29, (.iload_n 1, 1), o_il 1 30),
  (30, (.imul, 1), o_bi (fun x y => x * y) 31),
  (31, (.iload_n 3, 1), o_il 3 32),
  (32, (.iadd, 1), o_bi (fun x y => x + y) 33),
  (33, (.iaload, 1), o_iald 34),
  (34, (.aload_n 0, 1), o_al 0 35),
  (35, (.invokevirtual 207, 3), o_cV CX5_dayOf 5 0 38),
  (38, (.invokestatic 96, 3), o_cS CX5_onesOf 1 41),
  (41, (.if_icmp .ne 7, 3), o_ic (fun x y => ¬ x = y) 48 44),
  (44, (.iconst (-1), 1), o_ii (-1) 45),
  (45, (.goto 4, 3), o_go 49),
  (48, (.iload_n 3, 1), o_il 3 49),
  (49, (.istore_n 2, 1), o_is 2 50),
  (50, (.iinc 3 1, 3), o_inc 3 1 53),
  (53, (.goto (-45), 3), o_go 8),
  (56, (.aload_n 0, 1), o_al 0 57),
  (57, (.invokevirtual 219, 3), o_cV CX5_lays 5 0 60),
  (60, (.iload_n 2, 1), o_il 2 61),
  (61, (.ireturn, 1), o_ri)]
abbrev CX5_unlike : aC := aCl tX5_unlike 4
def rmX5_unlike : Room := { frames := 8, cells := 0, slots := 0, locals := 163 }
set_option maxRecDepth 100000 in
theorem dX5_unlike : tX5_unlike.all (fun q => decide (decode cX5_unlike q.1 = .ok q.2.1)) = true := by decide +kernel
set_option maxRecDepth 100000 in
set_option maxHeartbeats 4000000 in
theorem nX5_unlike (l : Launch) : aMt l yX5_unlike (Cond.code yX5_unlike cX5_unlike 4 (some .int) :: wsL_law) rmX5_unlike CX5_unlike := by
  refine aMt.of (own := RX5) (cc := cX5_unlike) (maxL := 4) (ret := (some .int)) (by decide +kernel) rfl rfl ?_
  intro p e s m args below meth c Qc D Z ad P G A E hX hr hlk hE
  have up : ∀ w ∈ wsL_law, w ∈ (Cond.code yX5_unlike cX5_unlike 4 (some .int) :: wsL_law) := fun w h => List.mem_cons_of_mem _ h
  refine aImp_all _ dX5_unlike ?_
  unfold tX5_unlike
  refine aI_c (fun hd => s_ii hX hd (by decide) rfl) ?_
  refine aI_c (fun hd => s_is_n hX hd rfl rfl (by decide)) ?_
  refine aI_c (fun hd => s_al_n hX hd rfl rfl) ?_
  refine aI_c (fun hd => s_cV hX (T := TX5) (N := 35) (nX5_keeps l) rfl (wg_V up lmX5_210 loX5_keeps) rfl rfl rfl (by decide +kernel) ⟨by decide, by decide⟩ ⟨Nat.zero_le _, Nat.zero_le _⟩ hd rfl) ?_
  refine aI_c (fun hd => s_ii hX hd (by decide) rfl) ?_
  refine aI_c (fun hd => s_is_n hX hd rfl rfl (by decide)) ?_
  refine aI_c (fun hd => s_il_n hX hd rfl rfl) ?_
  refine aI_c (fun hd => s_al_n hX hd rfl rfl) ?_
  refine aI_c (fun hd => s_gF hX (C := RX5) (T := TX5) (N := 35) (k := 17) rfl (fun w h => up w (inlX5 w h)) (by decide) rfl rfl rfl (up _ lkX5_40) hd rfl) ?_
  refine aI_c (fun hd => s_il_n hX hd rfl rfl) ?_
  refine aI_c (fun hd => s_iald hX hd rfl) ?_
  refine aI_c (fun hd => s_ic_ge hX hd (by decide) rfl) ?_
  refine aI_c (fun hd => s_il_n hX hd rfl rfl) ?_
  refine aI_c (fun hd => s_ii hX hd (by decide) rfl) ?_
  refine aI_c (fun hd => s_ic_ne hX hd (by decide) rfl) ?_
  refine aI_c (fun hd => s_al_n hX hd rfl rfl) ?_
  refine aI_c (fun hd => s_gF hX (C := RX5) (T := TX5) (N := 35) (k := 18) rfl (fun w h => up w (inlX5 w h)) (by decide) rfl rfl rfl (up _ lkX5_43) hd rfl) ?_
  refine aI_c (fun hd => s_bp hX hd (by decide) rfl) ?_
  refine aI_c (fun hd => s_il_n hX hd rfl rfl) ?_
  refine aI_c (fun hd => s_imul hX hd rfl) ?_
  refine aI_c (fun hd => s_il_n hX hd rfl rfl) ?_
  refine aI_c (fun hd => s_iadd hX hd rfl) ?_
  refine aI_c (fun hd => s_iald hX hd rfl) ?_
  refine aI_c (fun hd => s_al_n hX hd rfl rfl) ?_
  refine aI_c (fun hd => s_cV hX (T := TX5) (N := 35) (nX5_dayOf l) rfl (wg_V up lmX5_207 loX5_dayOf) rfl rfl rfl (by decide +kernel) ⟨by decide, by decide⟩ ⟨Nat.zero_le _, Nat.zero_le _⟩ hd rfl) ?_
  refine aI_c (fun hd => s_cS hX (nX5_onesOf l) (wg_S up lmX5_96 loX5_onesOf) rfl rfl rfl (by decide +kernel) ⟨by decide, by decide⟩ ⟨Nat.zero_le _, Nat.zero_le _⟩ hd rfl) ?_
  refine aI_c (fun hd => s_ic_ne hX hd (by decide) rfl) ?_
  refine aI_c (fun hd => s_ii hX hd (by decide) rfl) ?_
  refine aI_c (fun hd => s_go hX hd (by decide)) ?_
  refine aI_c (fun hd => s_il_n hX hd rfl rfl) ?_
  refine aI_c (fun hd => s_is_n hX hd rfl rfl (by decide)) ?_
  refine aI_c (fun hd => s_inc hX hd (by decide) rfl (by decide)) ?_
  refine aI_c (fun hd => s_go hX hd (by decide)) ?_
  refine aI_c (fun hd => s_al_n hX hd rfl rfl) ?_
  refine aI_c (fun hd => s_cV hX (T := TX5) (N := 35) (nX5_lays l) rfl (wg_V up lmX5_219 loX5_lays) rfl rfl rfl (by decide +kernel) ⟨by decide, by decide⟩ ⟨Nat.zero_le _, Nat.zero_le _⟩ hd rfl) ?_
  refine aI_c (fun hd => s_il_n hX hd rfl rfl) ?_
  refine aI_c (fun hd => s_ri hX hr hlk hE hd) ?_
  exact trivial

-- JudgesByLossModel.tells(I)I
def tX5_tells : aT := [
  (0, (.aload_n 0, 1), o_al 0 1),
  (1, (.iload_n 1, 1), o_il 1 2),
  (2, (.invokevirtual 234, 3), o_cV CX5_sheetWrong 5 1 5),
  (5, (.istore_n 2, 1), o_is 2 6),
  (6, (.iload_n 2, 1), o_il 2 7),
  (7, (.ifCond .ne 11, 3), o_if (fun x => ¬ x = 0) 18 10),
  (10, (.aload_n 0, 1), o_al 0 11),
  (11, (.iload_n 1, 1), o_il 1 12),
  (12, (.invokevirtual 237, 3), o_cV CX5_unlike 5 1 15),
  (15, (.goto 4, 3), o_go 19),
  (18, (.iload_n 2, 1), o_il 2 19),
  (19, (.ireturn, 1), o_ri)]
abbrev CX5_tells : aC := aCl tX5_tells 3
def rmX5_tells : Room := { frames := 9, cells := 0, slots := 0, locals := 186 }
set_option maxRecDepth 100000 in
theorem dX5_tells : tX5_tells.all (fun q => decide (decode cX5_tells q.1 = .ok q.2.1)) = true := by decide +kernel
set_option maxRecDepth 100000 in
set_option maxHeartbeats 4000000 in
theorem nX5_tells (l : Launch) : aMt l yX5_tells (Cond.code yX5_tells cX5_tells 3 (some .int) :: wsL_law) rmX5_tells CX5_tells := by
  refine aMt.of (own := RX5) (cc := cX5_tells) (maxL := 3) (ret := (some .int)) (by decide +kernel) rfl rfl ?_
  intro p e s m args below meth c Qc D Z ad P G A E hX hr hlk hE
  have up : ∀ w ∈ wsL_law, w ∈ (Cond.code yX5_tells cX5_tells 3 (some .int) :: wsL_law) := fun w h => List.mem_cons_of_mem _ h
  refine aImp_all _ dX5_tells ?_
  unfold tX5_tells
  refine aI_c (fun hd => s_al_n hX hd rfl rfl) ?_
  refine aI_c (fun hd => s_il_n hX hd rfl rfl) ?_
  refine aI_c (fun hd => s_cV hX (T := TX5) (N := 35) (nX5_sheetWrong l) rfl (wg_V up lmX5_234 loX5_sheetWrong) rfl rfl rfl (by decide +kernel) ⟨by decide, by decide⟩ ⟨Nat.zero_le _, Nat.zero_le _⟩ hd rfl) ?_
  refine aI_c (fun hd => s_is_n hX hd rfl rfl (by decide)) ?_
  refine aI_c (fun hd => s_il_n hX hd rfl rfl) ?_
  refine aI_c (fun hd => s_if_ne hX hd (by decide) rfl) ?_
  refine aI_c (fun hd => s_al_n hX hd rfl rfl) ?_
  refine aI_c (fun hd => s_il_n hX hd rfl rfl) ?_
  refine aI_c (fun hd => s_cV hX (T := TX5) (N := 35) (nX5_unlike l) rfl (wg_V up lmX5_237 loX5_unlike) rfl rfl rfl (by decide +kernel) ⟨by decide, by decide⟩ ⟨Nat.zero_le _, Nat.zero_le _⟩ hd rfl) ?_
  refine aI_c (fun hd => s_go hX hd (by decide)) ?_
  refine aI_c (fun hd => s_il_n hX hd rfl rfl) ?_
  refine aI_c (fun hd => s_ri hX hr hlk hE hd) ?_
  exact trivial

-- JudgesByLossModel.kinds(III)I
def tX5_kinds : aT := [
  (0, (.aload_n 0, 1), o_al 0 1),
  (1, (.iload_n 1, 1), o_il 1 2),
  (2, (.invokevirtual 234, 3), o_cV CX5_sheetWrong 5 1 5),
  (5, (.istore 4, 2), o_is 4 7),
  (7, (.iload 4, 2), o_il 4 9),
  (9, (.ifCond .eq 6, 3), o_if (fun x => x = 0) 15 12),
  (12, (.iload 4, 2), o_il 4 14),
  (14, (.ireturn, 1), o_ri),
  (15, (.aload_n 0, 1), o_al 0 16),
  (16, (.iload_n 2, 1), o_il 2 17),
  (17, (.invokevirtual 176, 3), o_cV CX5_isOne 5 1 20),
  (20, (.ifCond .ne 6, 3), o_if (fun x => ¬ x = 0) 26 23),
  (23, (.bipush (-5), 2), o_ii (-5) 25),
  (25, (.ireturn, 1), o_ri),
  (26, (.iload_n 3, 1), o_il 3 27),
  (27, (.iconst 0, 1), o_ii 0 28),
  (28, (.iconst 1, 1), o_ii 1 29),
  (29, (.invokestatic 81, 3), o_cS CX5_in 3 32),
  (32, (.ifCond .ne 6, 3), o_if (fun x => ¬ x = 0) 38 35),
  (35, (.bipush (-7), 2), o_ii (-7) 37),
  (37, (.ireturn, 1), o_ri),
  (38, (.aload_n 0, 1), o_al 0 39),
  (39, (.getfield 7, 3), o_gF 5 1 42),
  (42, (.iload_n 2, 1), o_il 2 43),
  (43, (.iaload, 1), o_iald 44),
  (44, (.istore 5, 2), o_is 5 46),
  (46, (.aload_n 0, 1), o_al 0 47),
  (47, (.getfield 13, 3), o_gF 5 2 50),
  (50, (.iload_n 2, 1), o_il 2 51),
  (51, (.iaload, 1), o_iald 52),
  (52, (.istore 6, 2), o_is 6 54),
  (54, (.iconst 0, 1), o_ii 0 55),
  (55, (.istore 7, 2), o_is 7 57),
  (57, (.iconst 0, 1), o_ii 0 58),
  (58, (.istore 8, 2), o_is 8 60),
  (60, (.iload 8, 2), o_mk [false, false, false, false, true, false, false, false, false] (o_il 8 62)),
  (62, (.iload_n 3, 1), o_il 3 63),
  (63, (.ifCond .ne 8, 3), o_if (fun x => ¬ x = 0) 71 66),
  (66, (.bipush 6, 2), o_ii 6 68),
  (68, (.goto 5, 3), o_go 73),
  (71, (.bipush 10, 2), o_ii 10 73),
  (73, (.if_icmp .ge 66, 3), o_ic (fun x y => y ≤ x) 139 76),
  (76, (.aload_n 0, 1), o_al 0 77),
  (77, (.getfield 7, 3), o_gF 5 1 80),
  (80, (.iload_n 2, 1), o_il 2 81),
  (81, (.iload_n 3, 1), o_il 3 82),
  (82, (.ifCond .ne 8, 3), o_if (fun x => ¬ x = 0) 90 85),
  (85, (.iload 8, 2), o_il 8 87),
  (87, (.goto 5, 3), o_go 92),
  (90, (.iload 5, 2), o_il 5 92),
  (92, (.iastore, 1), o_iast 93),
  (93, (.aload_n 0, 1), o_al 0 94),
  (94, (.getfield 13, 3), o_gF 5 2 97),
  (97, (.iload_n 2, 1), o_il 2 98),
  (98, (.iload_n 3, 1), o_il 3 99),
  (99, (.iconst 1, 1), o_ii 1 100),
  (100, (.if_icmp .ne 8, 3), o_ic (fun x y => ¬ x = y) 108 103),
  (103, (.iload 8, 2), o_il 8 105),
  (105, (.goto 5, 3), o_go 110),
  (108, (.iload 6, 2), o_il 6 110),
  (110, (.iastore, 1), o_iast 111),
  (111, (.iload 7, 2), o_il 7 113),
  (113, (.aload_n 0, 1), o_al 0 114),
  (114, (.iload_n 1, 1), o_il 1 115),
  (115, (.invokevirtual 237, 3), o_cV CX5_unlike 5 1 118),
  (118, (.iconst (-1), 1), o_ii (-1) 119),
  (119, (.if_icmp .ne 10, 3), o_ic (fun x y => ¬ x = y) 129 122),
  (122, (.iconst 1, 1), o_ii 1 123),
  (123, (.iload 8, 2), o_il 8 125),
  (125, (.ishl, 1), o_bi (fun x y => x <<< (y &&& 31)) 126),
  (126, (.goto 4, 3), o_go 130),
  (129, (.iconst 0, 1), o_ii 0 130),
  (130, (.ior, 1), o_bi (fun x y => x ||| y) 131),
  (131, (.istore 7, 2), o_is 7 133),
  (133, (.iinc 8 1, 3), o_inc 8 1 136),
  (136, (.goto (-76), 3), o_go 60),
  (139, (.aload_n 0, 1), o_al 0 140),
  (140, (.getfield 7, 3), o_gF 5 1 143),
  (143, (.iload_n 2, 1), o_il 2 144),
  (144, (.iload 5, 2), o_il 5 146),
  (146, (.iastore, 1), o_iast 147),
  (147, (.aload_n 0, 1), o_al 0 148),
  (148, (.getfield 13, 3), o_gF 5 2 151),
  (151, (.iload_n 2, 1), o_il 2 152),
  (152, (.iload 6, 2), o_il 6 154),
  (154, (.iastore, 1), o_iast 155),
  (155, (.iload 7, 2), o_il 7 157),
  (157, (.ireturn, 1), o_ri)]
abbrev CX5_kinds : aC := aCl tX5_kinds 9
def rmX5_kinds : Room := { frames := 9, cells := 0, slots := 0, locals := 186 }
set_option maxRecDepth 100000 in
theorem dX5_kinds : tX5_kinds.all (fun q => decide (decode cX5_kinds q.1 = .ok q.2.1)) = true := by decide +kernel
set_option maxRecDepth 100000 in
set_option maxHeartbeats 4000000 in
theorem nX5_kinds (l : Launch) : aMt l yX5_kinds (Cond.code yX5_kinds cX5_kinds 9 (some .int) :: wsL_law) rmX5_kinds CX5_kinds := by
  refine aMt.of (own := RX5) (cc := cX5_kinds) (maxL := 9) (ret := (some .int)) (by decide +kernel) rfl rfl ?_
  intro p e s m args below meth c Qc D Z ad P G A E hX hr hlk hE
  have up : ∀ w ∈ wsL_law, w ∈ (Cond.code yX5_kinds cX5_kinds 9 (some .int) :: wsL_law) := fun w h => List.mem_cons_of_mem _ h
  refine aImp_all _ dX5_kinds ?_
  unfold tX5_kinds
  refine aI_c (fun hd => s_al_n hX hd rfl rfl) ?_
  refine aI_c (fun hd => s_il_n hX hd rfl rfl) ?_
  refine aI_c (fun hd => s_cV hX (T := TX5) (N := 35) (nX5_sheetWrong l) rfl (wg_V up lmX5_234 loX5_sheetWrong) rfl rfl rfl (by decide +kernel) ⟨by decide, by decide⟩ ⟨Nat.zero_le _, Nat.zero_le _⟩ hd rfl) ?_
  refine aI_c (fun hd => s_is hX hd rfl (by decide)) ?_
  refine aI_c (fun hd => s_il hX hd rfl) ?_
  refine aI_c (fun hd => s_if_eq hX hd (by decide) rfl) ?_
  refine aI_c (fun hd => s_il hX hd rfl) ?_
  refine aI_c (fun hd => s_ri hX hr hlk hE hd) ?_
  refine aI_c (fun hd => s_al_n hX hd rfl rfl) ?_
  refine aI_c (fun hd => s_il_n hX hd rfl rfl) ?_
  refine aI_c (fun hd => s_cV hX (T := TX5) (N := 35) (nX5_isOne l) rfl (wg_V up lmX5_176 loX5_isOne) rfl rfl rfl (by decide +kernel) ⟨by decide, by decide⟩ ⟨Nat.zero_le _, Nat.zero_le _⟩ hd rfl) ?_
  refine aI_c (fun hd => s_if_ne hX hd (by decide) rfl) ?_
  refine aI_c (fun hd => s_bp hX hd (by decide) rfl) ?_
  refine aI_c (fun hd => s_ri hX hr hlk hE hd) ?_
  refine aI_c (fun hd => s_il_n hX hd rfl rfl) ?_
  refine aI_c (fun hd => s_ii hX hd (by decide) rfl) ?_
  refine aI_c (fun hd => s_ii hX hd (by decide) rfl) ?_
  refine aI_c (fun hd => s_cS hX (nX5_in l) (wg_S up lmX5_81 loX5_in) rfl rfl rfl (by decide +kernel) ⟨by decide, by decide⟩ ⟨Nat.zero_le _, Nat.zero_le _⟩ hd rfl) ?_
  refine aI_c (fun hd => s_if_ne hX hd (by decide) rfl) ?_
  refine aI_c (fun hd => s_bp hX hd (by decide) rfl) ?_
  refine aI_c (fun hd => s_ri hX hr hlk hE hd) ?_
  refine aI_c (fun hd => s_al_n hX hd rfl rfl) ?_
  refine aI_c (fun hd => s_gF hX (C := RX5) (T := TX5) (N := 35) (k := 1) rfl (fun w h => up w (inlX5 w h)) (by decide) rfl rfl rfl (up _ lkX5_7) hd rfl) ?_
  refine aI_c (fun hd => s_il_n hX hd rfl rfl) ?_
  refine aI_c (fun hd => s_iald hX hd rfl) ?_
  refine aI_c (fun hd => s_is hX hd rfl (by decide)) ?_
  refine aI_c (fun hd => s_al_n hX hd rfl rfl) ?_
  refine aI_c (fun hd => s_gF hX (C := RX5) (T := TX5) (N := 35) (k := 2) rfl (fun w h => up w (inlX5 w h)) (by decide) rfl rfl rfl (up _ lkX5_13) hd rfl) ?_
  refine aI_c (fun hd => s_il_n hX hd rfl rfl) ?_
  refine aI_c (fun hd => s_iald hX hd rfl) ?_
  refine aI_c (fun hd => s_is hX hd rfl (by decide)) ?_
  refine aI_c (fun hd => s_ii hX hd (by decide) rfl) ?_
  refine aI_c (fun hd => s_is hX hd rfl (by decide)) ?_
  refine aI_c (fun hd => s_ii hX hd (by decide) rfl) ?_
  refine aI_c (fun hd => s_is hX hd rfl (by decide)) ?_
  refine aI_c (fun hd => s_mk (s_il hX hd rfl)) ?_
  refine aI_c (fun hd => s_il_n hX hd rfl rfl) ?_
  refine aI_c (fun hd => s_if_ne hX hd (by decide) rfl) ?_
  refine aI_c (fun hd => s_bp hX hd (by decide) rfl) ?_
  refine aI_c (fun hd => s_go hX hd (by decide)) ?_
  refine aI_c (fun hd => s_bp hX hd (by decide) rfl) ?_
  refine aI_c (fun hd => s_ic_ge hX hd (by decide) rfl) ?_
  refine aI_c (fun hd => s_al_n hX hd rfl rfl) ?_
  refine aI_c (fun hd => s_gF hX (C := RX5) (T := TX5) (N := 35) (k := 1) rfl (fun w h => up w (inlX5 w h)) (by decide) rfl rfl rfl (up _ lkX5_7) hd rfl) ?_
  refine aI_c (fun hd => s_il_n hX hd rfl rfl) ?_
  refine aI_c (fun hd => s_il_n hX hd rfl rfl) ?_
  refine aI_c (fun hd => s_if_ne hX hd (by decide) rfl) ?_
  refine aI_c (fun hd => s_il hX hd rfl) ?_
  refine aI_c (fun hd => s_go hX hd (by decide)) ?_
  refine aI_c (fun hd => s_il hX hd rfl) ?_
  refine aI_c (fun hd => s_iast hX hd rfl) ?_
  refine aI_c (fun hd => s_al_n hX hd rfl rfl) ?_
  refine aI_c (fun hd => s_gF hX (C := RX5) (T := TX5) (N := 35) (k := 2) rfl (fun w h => up w (inlX5 w h)) (by decide) rfl rfl rfl (up _ lkX5_13) hd rfl) ?_
  refine aI_c (fun hd => s_il_n hX hd rfl rfl) ?_
  refine aI_c (fun hd => s_il_n hX hd rfl rfl) ?_
  refine aI_c (fun hd => s_ii hX hd (by decide) rfl) ?_
  refine aI_c (fun hd => s_ic_ne hX hd (by decide) rfl) ?_
  refine aI_c (fun hd => s_il hX hd rfl) ?_
  refine aI_c (fun hd => s_go hX hd (by decide)) ?_
  refine aI_c (fun hd => s_il hX hd rfl) ?_
  refine aI_c (fun hd => s_iast hX hd rfl) ?_
  refine aI_c (fun hd => s_il hX hd rfl) ?_
  refine aI_c (fun hd => s_al_n hX hd rfl rfl) ?_
  refine aI_c (fun hd => s_il_n hX hd rfl rfl) ?_
  refine aI_c (fun hd => s_cV hX (T := TX5) (N := 35) (nX5_unlike l) rfl (wg_V up lmX5_237 loX5_unlike) rfl rfl rfl (by decide +kernel) ⟨by decide, by decide⟩ ⟨Nat.zero_le _, Nat.zero_le _⟩ hd rfl) ?_
  refine aI_c (fun hd => s_ii hX hd (by decide) rfl) ?_
  refine aI_c (fun hd => s_ic_ne hX hd (by decide) rfl) ?_
  refine aI_c (fun hd => s_ii hX hd (by decide) rfl) ?_
  refine aI_c (fun hd => s_il hX hd rfl) ?_
  refine aI_c (fun hd => s_ishl hX hd rfl) ?_
  refine aI_c (fun hd => s_go hX hd (by decide)) ?_
  refine aI_c (fun hd => s_ii hX hd (by decide) rfl) ?_
  refine aI_c (fun hd => s_ior hX hd rfl) ?_
  refine aI_c (fun hd => s_is hX hd rfl (by decide)) ?_
  refine aI_c (fun hd => s_inc hX hd (by decide) rfl (by decide)) ?_
  refine aI_c (fun hd => s_go hX hd (by decide)) ?_
  refine aI_c (fun hd => s_al_n hX hd rfl rfl) ?_
  refine aI_c (fun hd => s_gF hX (C := RX5) (T := TX5) (N := 35) (k := 1) rfl (fun w h => up w (inlX5 w h)) (by decide) rfl rfl rfl (up _ lkX5_7) hd rfl) ?_
  refine aI_c (fun hd => s_il_n hX hd rfl rfl) ?_
  refine aI_c (fun hd => s_il hX hd rfl) ?_
  refine aI_c (fun hd => s_iast hX hd rfl) ?_
  refine aI_c (fun hd => s_al_n hX hd rfl rfl) ?_
  refine aI_c (fun hd => s_gF hX (C := RX5) (T := TX5) (N := 35) (k := 2) rfl (fun w h => up w (inlX5 w h)) (by decide) rfl rfl rfl (up _ lkX5_13) hd rfl) ?_
  refine aI_c (fun hd => s_il_n hX hd rfl rfl) ?_
  refine aI_c (fun hd => s_il hX hd rfl) ?_
  refine aI_c (fun hd => s_iast hX hd rfl) ?_
  refine aI_c (fun hd => s_il hX hd rfl) ?_
  refine aI_c (fun hd => s_ri hX hr hlk hE hd) ?_
  exact trivial

-- JudgesByLossModel.turned(II)I
def tX5_turned : aT := [
  (0, (.aload_n 0, 1), o_al 0 1),
  (1, (.iload_n 1, 1), o_il 1 2),
  (2, (.invokevirtual 234, 3), o_cV CX5_sheetWrong 5 1 5),
  (5, (.istore_n 3, 1), o_is 3 6),
  (6, (.iload_n 3, 1), o_il 3 7),
  (7, (.ifCond .eq 5, 3), o_if (fun x => x = 0) 12 10),
  (10, (.iload_n 3, 1), o_il 3 11),
  (11, (.ireturn, 1), o_ri),
  (12, (.aload_n 0, 1), o_al 0 13),
  (13, (.iload_n 2, 1), o_il 2 14),
  (14, (.invokevirtual 176, 3), o_cV CX5_isOne 5 1 17),
  (17, (.ifCond .ne 6, 3), o_if (fun x => ¬ x = 0) 23 20),
  (20, (.bipush (-5), 2), o_ii (-5) 22),
  (22, (.ireturn, 1), o_ri),
  (23, (.iconst 0, 1), o_ii 0 24),
  (24, (.istore 4, 2), o_is 4 26),
  (26, (.iconst 0, 1), o_ii 0 27),
  (27, (.istore 5, 2), o_is 5 29),
  (29, (.iload 5, 2), o_mk [false, false, false, true, false, false] (o_il 5 31)),
  (31, (.bipush 10, 2), o_ii 10 33),
  (33, (.if_icmp .ge 61, 3), o_ic (fun x y => y ≤ x) 94 36),
  (36, (.aload_n 0, 1), o_al 0 37),
  (37, (.getfield 16, 3), o_gF 5 3 40),
  (40, (.iconst 3, 1), o_ii 3 41),
  (41, (.iload_n 2, 1), o_il 2 42),
  (42, (.imul, 1), o_bi (fun x y => x * y) 43),
  (43, (.dup2, 1), o_dup2 44),
  (44, (.iaload, 1), o_iald 45),
  (45, (.iconst 1, 1), o_ii 1 46),
  (46, (.iload 5, 2), o_il 5 48),
  (48, (.ishl, 1), o_bi (fun x y => x <<< (y &&& 31)) 49),
  (49, (.ixor, 1), o_bi (fun x y => x ^^^ y) 50),
  (50, (.iastore, 1), o_iast 51),
  (51, (.iload 4, 2), o_il 4 53),
  (53, (.aload_n 0, 1), o_al 0 54),
  (54, (.iload_n 1, 1), o_il 1 55),
  (55, (.invokevirtual 237, 3), o_cV CX5_unlike 5 1 58),
  (58, (.iconst (-1), 1), o_ii (-1) 59),
  (59, (.if_icmp .ne 10, 3), o_ic (fun x y => ¬ x = y) 69 62),
  (62, (.iconst 1, 1), o_ii 1 63),
  (63, (.iload 5, 2), o_il 5 65),
  (65, (.ishl, 1), o_bi (fun x y => x <<< (y &&& 31)) 66),
  (66, (.goto 4, 3), o_go 70),
  (69, (.iconst 0, 1), o_ii 0 70),
  (70, (.ior, 1), o_bi (fun x y => x ||| y) 71),
  (71, (.istore 4, 2), o_is 4 73),
  (73, (.aload_n 0, 1), o_al 0 74),
  (74, (.getfield 16, 3), o_gF 5 3 77),
  (77, (.iconst 3, 1), o_ii 3 78),
  (78, (.iload_n 2, 1), o_il 2 79),
  (79, (.imul, 1), o_bi (fun x y => x * y) 80),
  (80, (.dup2, 1), o_dup2 81),
  (81, (.iaload, 1), o_iald 82),
  (82, (.iconst 1, 1), o_ii 1 83),
  (83, (.iload 5, 2), o_il 5 85),
  (85, (.ishl, 1), o_bi (fun x y => x <<< (y &&& 31)) 86),
  (86, (.ixor, 1), o_bi (fun x y => x ^^^ y) 87),
  (87, (.iastore, 1), o_iast 88),
  (88, (.iinc 5 1, 3), o_inc 5 1 91),
  (91, (.goto (-62), 3), o_go 29),
  (94, (.iload 4, 2), o_il 4 96),
  (96, (.ireturn, 1), o_ri)]
abbrev CX5_turned : aC := aCl tX5_turned 6
def rmX5_turned : Room := { frames := 9, cells := 0, slots := 0, locals := 186 }
set_option maxRecDepth 100000 in
theorem dX5_turned : tX5_turned.all (fun q => decide (decode cX5_turned q.1 = .ok q.2.1)) = true := by decide +kernel
set_option maxRecDepth 100000 in
set_option maxHeartbeats 4000000 in
theorem nX5_turned (l : Launch) : aMt l yX5_turned (Cond.code yX5_turned cX5_turned 6 (some .int) :: wsL_law) rmX5_turned CX5_turned := by
  refine aMt.of (own := RX5) (cc := cX5_turned) (maxL := 6) (ret := (some .int)) (by decide +kernel) rfl rfl ?_
  intro p e s m args below meth c Qc D Z ad P G A E hX hr hlk hE
  have up : ∀ w ∈ wsL_law, w ∈ (Cond.code yX5_turned cX5_turned 6 (some .int) :: wsL_law) := fun w h => List.mem_cons_of_mem _ h
  refine aImp_all _ dX5_turned ?_
  unfold tX5_turned
  refine aI_c (fun hd => s_al_n hX hd rfl rfl) ?_
  refine aI_c (fun hd => s_il_n hX hd rfl rfl) ?_
  refine aI_c (fun hd => s_cV hX (T := TX5) (N := 35) (nX5_sheetWrong l) rfl (wg_V up lmX5_234 loX5_sheetWrong) rfl rfl rfl (by decide +kernel) ⟨by decide, by decide⟩ ⟨Nat.zero_le _, Nat.zero_le _⟩ hd rfl) ?_
  refine aI_c (fun hd => s_is_n hX hd rfl rfl (by decide)) ?_
  refine aI_c (fun hd => s_il_n hX hd rfl rfl) ?_
  refine aI_c (fun hd => s_if_eq hX hd (by decide) rfl) ?_
  refine aI_c (fun hd => s_il_n hX hd rfl rfl) ?_
  refine aI_c (fun hd => s_ri hX hr hlk hE hd) ?_
  refine aI_c (fun hd => s_al_n hX hd rfl rfl) ?_
  refine aI_c (fun hd => s_il_n hX hd rfl rfl) ?_
  refine aI_c (fun hd => s_cV hX (T := TX5) (N := 35) (nX5_isOne l) rfl (wg_V up lmX5_176 loX5_isOne) rfl rfl rfl (by decide +kernel) ⟨by decide, by decide⟩ ⟨Nat.zero_le _, Nat.zero_le _⟩ hd rfl) ?_
  refine aI_c (fun hd => s_if_ne hX hd (by decide) rfl) ?_
  refine aI_c (fun hd => s_bp hX hd (by decide) rfl) ?_
  refine aI_c (fun hd => s_ri hX hr hlk hE hd) ?_
  refine aI_c (fun hd => s_ii hX hd (by decide) rfl) ?_
  refine aI_c (fun hd => s_is hX hd rfl (by decide)) ?_
  refine aI_c (fun hd => s_ii hX hd (by decide) rfl) ?_
  refine aI_c (fun hd => s_is hX hd rfl (by decide)) ?_
  refine aI_c (fun hd => s_mk (s_il hX hd rfl)) ?_
  refine aI_c (fun hd => s_bp hX hd (by decide) rfl) ?_
  refine aI_c (fun hd => s_ic_ge hX hd (by decide) rfl) ?_
  refine aI_c (fun hd => s_al_n hX hd rfl rfl) ?_
  refine aI_c (fun hd => s_gF hX (C := RX5) (T := TX5) (N := 35) (k := 3) rfl (fun w h => up w (inlX5 w h)) (by decide) rfl rfl rfl (up _ lkX5_16) hd rfl) ?_
  refine aI_c (fun hd => s_ii hX hd (by decide) rfl) ?_
  refine aI_c (fun hd => s_il_n hX hd rfl rfl) ?_
  refine aI_c (fun hd => s_imul hX hd rfl) ?_
  refine aI_c (fun hd => s_dup2 hX hd rfl) ?_
  refine aI_c (fun hd => s_iald hX hd rfl) ?_
  refine aI_c (fun hd => s_ii hX hd (by decide) rfl) ?_
  refine aI_c (fun hd => s_il hX hd rfl) ?_
  refine aI_c (fun hd => s_ishl hX hd rfl) ?_
  refine aI_c (fun hd => s_ixor hX hd rfl) ?_
  refine aI_c (fun hd => s_iast hX hd rfl) ?_
  refine aI_c (fun hd => s_il hX hd rfl) ?_
  refine aI_c (fun hd => s_al_n hX hd rfl rfl) ?_
  refine aI_c (fun hd => s_il_n hX hd rfl rfl) ?_
  refine aI_c (fun hd => s_cV hX (T := TX5) (N := 35) (nX5_unlike l) rfl (wg_V up lmX5_237 loX5_unlike) rfl rfl rfl (by decide +kernel) ⟨by decide, by decide⟩ ⟨Nat.zero_le _, Nat.zero_le _⟩ hd rfl) ?_
  refine aI_c (fun hd => s_ii hX hd (by decide) rfl) ?_
  refine aI_c (fun hd => s_ic_ne hX hd (by decide) rfl) ?_
  refine aI_c (fun hd => s_ii hX hd (by decide) rfl) ?_
  refine aI_c (fun hd => s_il hX hd rfl) ?_
  refine aI_c (fun hd => s_ishl hX hd rfl) ?_
  refine aI_c (fun hd => s_go hX hd (by decide)) ?_
  refine aI_c (fun hd => s_ii hX hd (by decide) rfl) ?_
  refine aI_c (fun hd => s_ior hX hd rfl) ?_
  refine aI_c (fun hd => s_is hX hd rfl (by decide)) ?_
  refine aI_c (fun hd => s_al_n hX hd rfl rfl) ?_
  refine aI_c (fun hd => s_gF hX (C := RX5) (T := TX5) (N := 35) (k := 3) rfl (fun w h => up w (inlX5 w h)) (by decide) rfl rfl rfl (up _ lkX5_16) hd rfl) ?_
  refine aI_c (fun hd => s_ii hX hd (by decide) rfl) ?_
  refine aI_c (fun hd => s_il_n hX hd rfl rfl) ?_
  refine aI_c (fun hd => s_imul hX hd rfl) ?_
  refine aI_c (fun hd => s_dup2 hX hd rfl) ?_
  refine aI_c (fun hd => s_iald hX hd rfl) ?_
  refine aI_c (fun hd => s_ii hX hd (by decide) rfl) ?_
  refine aI_c (fun hd => s_il hX hd rfl) ?_
  refine aI_c (fun hd => s_ishl hX hd rfl) ?_
  refine aI_c (fun hd => s_ixor hX hd rfl) ?_
  refine aI_c (fun hd => s_iast hX hd rfl) ?_
  refine aI_c (fun hd => s_inc hX hd (by decide) rfl (by decide)) ?_
  refine aI_c (fun hd => s_go hX hd (by decide)) ?_
  refine aI_c (fun hd => s_il hX hd rfl) ?_
  refine aI_c (fun hd => s_ri hX hr hlk hE hd) ?_
  exact trivial

-- JudgesByLossModel.states(IIII)I
def tX5_states : aT := [
  (0, (.aload_n 0, 1), o_al 0 1),
  (1, (.iload_n 1, 1), o_il 1 2),
  (2, (.invokevirtual 234, 3), o_cV CX5_sheetWrong 5 1 5),
  (5, (.istore 5, 2), o_is 5 7),
  (7, (.iload 5, 2), o_il 5 9),
  (9, (.ifCond .eq 6, 3), o_if (fun x => x = 0) 15 12),
  (12, (.iload 5, 2), o_il 5 14),
  (14, (.ireturn, 1), o_ri),
  (15, (.aload_n 0, 1), o_al 0 16),
  (16, (.iload_n 2, 1), o_il 2 17),
  (17, (.invokevirtual 176, 3), o_cV CX5_isOne 5 1 20),
  (20, (.ifCond .ne 6, 3), o_if (fun x => ¬ x = 0) 26 23),
  (23, (.bipush (-5), 2), o_ii (-5) 25),
  (25, (.ireturn, 1), o_ri),
  (26, (.iload_n 3, 1), o_il 3 27),
  (27, (.iconst 1, 1), o_ii 1 28),
  (28, (.iconst 2, 1), o_ii 2 29),
  (29, (.invokestatic 81, 3), o_cS CX5_in 3 32),
  (32, (.ifCond .eq 13, 3), o_if (fun x => x = 0) 45 35),
  (35, (.iload 4, 2), o_il 4 37),
  (37, (.iconst 0, 1), o_ii 0 38),
  (38, (.iconst 1, 1), o_ii 1 39),
  (39, (.invokestatic 81, 3), o_cS CX5_in 3 42),
  (42, (.ifCond .ne 6, 3), o_if (fun x => ¬ x = 0) 48 45),
  (45, (.bipush (-7), 2), o_ii (-7) 47),
  (47, (.ireturn, 1), o_ri),
  (48, (.aload_n 0, 1), o_al 0 49),
  (49, (.getfield 16, 3), o_gF 5 3 52),
  (52, (.iconst 3, 1), o_ii 3 53),
  (53, (.iload_n 2, 1), o_il 2 54),
  (54, (.imul, 1), o_bi (fun x y => x * y) 55),
  (55, (.iload_n 3, 1), o_il 3 56),
  (56, (.iadd, 1), o_bi (fun x y => x + y) 57),
  (57, (.iaload, 1), o_iald 58),
  (58, (.istore 6, 2), o_is 6 60),
  (60, (.iconst 0, 1), o_ii 0 61),
  (61, (.istore 7, 2), o_is 7 63),
  (63, (.iconst (-1), 1), o_ii (-1) 64),
  (64, (.istore 8, 2), o_is 8 66),
  (66, (.iconst 0, 1), o_ii 0 67),
  (67, (.istore 9, 2), o_is 9 69),
  (69, (.iload 9, 2), o_mk [false, false, false, false, false, true, false, false, false, false, true] (o_il 9 71)),
  (71, (.bipush 99, 2), o_ii 99 73),
  (73, (.if_icmp .gt 72, 3), o_ic (fun x y => y < x) 145 76),
  (76, (.aload_n 0, 1), o_al 0 77),
  (77, (.getfield 16, 3), o_gF 5 3 80),
  (80, (.iconst 3, 1), o_ii 3 81),
  (81, (.iload_n 2, 1), o_il 2 82),
  (82, (.imul, 1), o_bi (fun x y => x * y) 83),
  (83, (.iload_n 3, 1), o_il 3 84),
  (84, (.iadd, 1), o_bi (fun x y => x + y) 85),
  (85, (.iload 9, 2), o_il 9 87),
  (87, (.iastore, 1), o_iast 88),
  (88, (.aload_n 0, 1), o_al 0 89),
  (89, (.iload_n 1, 1), o_il 1 90),
  (90, (.invokevirtual 237, 3), o_cV CX5_unlike 5 1 93),
  (93, (.iconst (-1), 1), o_ii (-1) 94),
  (94, (.if_icmp .ne 7, 3), o_ic (fun x y => ¬ x = y) 101 97),
  (97, (.iconst 1, 1), o_ii 1 98),
  (98, (.goto 4, 3), o_go 102),
  (101, (.iconst 0, 1), o_ii 0 102),
  (102, (.istore 10, 2), o_is 10 104),
  (104, (.iload 7, 2), o_il 7 106),
  (106, (.iload 10, 2), o_il 10 108),
  (108, (.ifCond .eq 7, 3), o_if (fun x => x = 0) 115 111),
  (111, (.iconst 1, 1), o_ii 1 112),
  (112, (.goto 4, 3), o_go 116),
  (115, (.iconst 0, 1), o_ii 0 116),
  (116, (.iadd, 1), o_bi (fun x y => x + y) 117),
  (117, (.istore 7, 2), o_is 7 119),
  (119, (.iload 10, 2), o_il 10 121),
  (121, (.ifCond .eq 14, 3), o_if (fun x => x = 0) 135 124),
  (124, (.iload 8, 2), o_il 8 126),
  (126, (.iconst (-1), 1), o_ii (-1) 127),
  (127, (.if_icmp .ne 8, 3), o_ic (fun x y => ¬ x = y) 135 130),
  (130, (.iload 9, 2), o_il 9 132),
  (132, (.goto 5, 3), o_go 137),
  (135, (.iload 8, 2), o_il 8 137),
  (137, (.istore 8, 2), o_is 8 139),
  (139, (.iinc 9 1, 3), o_inc 9 1 142),
  (142, (.goto (-73), 3), o_go 69),
  (145, (.aload_n 0, 1), o_al 0 146),
  (146, (.getfield 16, 3), o_gF 5 3 149),
  (149, (.iconst 3, 1), o_ii 3 150),
  (150, (.iload_n 2, 1), o_il 2 151),
  (151, (.imul, 1), o_bi (fun x y => x * y) 152),
  (152, (.iload_n 3, 1), o_il 3 153),
  (153, (.iadd, 1), o_bi (fun x y => x + y) 154),
  (154, (.iload 6, 2), o_il 6 156),
  (156, (.iastore, 1), o_iast 157),
  (157, (.iload 4, 2), o_il 4 159),
  (159, (.ifCond .ne 8, 3), o_if (fun x => ¬ x = 0) 167 162),
  (162, (.iload 7, 2), o_il 7 164),
  (164, (.goto 5, 3), o_go 169),
  (167, (.iload 8, 2), o_il 8 169),
  (169, (.ireturn, 1), o_ri)]
abbrev CX5_states : aC := aCl tX5_states 11
def rmX5_states : Room := { frames := 9, cells := 0, slots := 0, locals := 186 }
set_option maxRecDepth 100000 in
theorem dX5_states : tX5_states.all (fun q => decide (decode cX5_states q.1 = .ok q.2.1)) = true := by decide +kernel
set_option maxRecDepth 100000 in
set_option maxHeartbeats 4000000 in
theorem nX5_states (l : Launch) : aMt l yX5_states (Cond.code yX5_states cX5_states 11 (some .int) :: wsL_law) rmX5_states CX5_states := by
  refine aMt.of (own := RX5) (cc := cX5_states) (maxL := 11) (ret := (some .int)) (by decide +kernel) rfl rfl ?_
  intro p e s m args below meth c Qc D Z ad P G A E hX hr hlk hE
  have up : ∀ w ∈ wsL_law, w ∈ (Cond.code yX5_states cX5_states 11 (some .int) :: wsL_law) := fun w h => List.mem_cons_of_mem _ h
  refine aImp_all _ dX5_states ?_
  unfold tX5_states
  refine aI_c (fun hd => s_al_n hX hd rfl rfl) ?_
  refine aI_c (fun hd => s_il_n hX hd rfl rfl) ?_
  refine aI_c (fun hd => s_cV hX (T := TX5) (N := 35) (nX5_sheetWrong l) rfl (wg_V up lmX5_234 loX5_sheetWrong) rfl rfl rfl (by decide +kernel) ⟨by decide, by decide⟩ ⟨Nat.zero_le _, Nat.zero_le _⟩ hd rfl) ?_
  refine aI_c (fun hd => s_is hX hd rfl (by decide)) ?_
  refine aI_c (fun hd => s_il hX hd rfl) ?_
  refine aI_c (fun hd => s_if_eq hX hd (by decide) rfl) ?_
  refine aI_c (fun hd => s_il hX hd rfl) ?_
  refine aI_c (fun hd => s_ri hX hr hlk hE hd) ?_
  refine aI_c (fun hd => s_al_n hX hd rfl rfl) ?_
  refine aI_c (fun hd => s_il_n hX hd rfl rfl) ?_
  refine aI_c (fun hd => s_cV hX (T := TX5) (N := 35) (nX5_isOne l) rfl (wg_V up lmX5_176 loX5_isOne) rfl rfl rfl (by decide +kernel) ⟨by decide, by decide⟩ ⟨Nat.zero_le _, Nat.zero_le _⟩ hd rfl) ?_
  refine aI_c (fun hd => s_if_ne hX hd (by decide) rfl) ?_
  refine aI_c (fun hd => s_bp hX hd (by decide) rfl) ?_
  refine aI_c (fun hd => s_ri hX hr hlk hE hd) ?_
  refine aI_c (fun hd => s_il_n hX hd rfl rfl) ?_
  refine aI_c (fun hd => s_ii hX hd (by decide) rfl) ?_
  refine aI_c (fun hd => s_ii hX hd (by decide) rfl) ?_
  refine aI_c (fun hd => s_cS hX (nX5_in l) (wg_S up lmX5_81 loX5_in) rfl rfl rfl (by decide +kernel) ⟨by decide, by decide⟩ ⟨Nat.zero_le _, Nat.zero_le _⟩ hd rfl) ?_
  refine aI_c (fun hd => s_if_eq hX hd (by decide) rfl) ?_
  refine aI_c (fun hd => s_il hX hd rfl) ?_
  refine aI_c (fun hd => s_ii hX hd (by decide) rfl) ?_
  refine aI_c (fun hd => s_ii hX hd (by decide) rfl) ?_
  refine aI_c (fun hd => s_cS hX (nX5_in l) (wg_S up lmX5_81 loX5_in) rfl rfl rfl (by decide +kernel) ⟨by decide, by decide⟩ ⟨Nat.zero_le _, Nat.zero_le _⟩ hd rfl) ?_
  refine aI_c (fun hd => s_if_ne hX hd (by decide) rfl) ?_
  refine aI_c (fun hd => s_bp hX hd (by decide) rfl) ?_
  refine aI_c (fun hd => s_ri hX hr hlk hE hd) ?_
  refine aI_c (fun hd => s_al_n hX hd rfl rfl) ?_
  refine aI_c (fun hd => s_gF hX (C := RX5) (T := TX5) (N := 35) (k := 3) rfl (fun w h => up w (inlX5 w h)) (by decide) rfl rfl rfl (up _ lkX5_16) hd rfl) ?_
  refine aI_c (fun hd => s_ii hX hd (by decide) rfl) ?_
  refine aI_c (fun hd => s_il_n hX hd rfl rfl) ?_
  refine aI_c (fun hd => s_imul hX hd rfl) ?_
  refine aI_c (fun hd => s_il_n hX hd rfl rfl) ?_
  refine aI_c (fun hd => s_iadd hX hd rfl) ?_
  refine aI_c (fun hd => s_iald hX hd rfl) ?_
  refine aI_c (fun hd => s_is hX hd rfl (by decide)) ?_
  refine aI_c (fun hd => s_ii hX hd (by decide) rfl) ?_
  refine aI_c (fun hd => s_is hX hd rfl (by decide)) ?_
  refine aI_c (fun hd => s_ii hX hd (by decide) rfl) ?_
  refine aI_c (fun hd => s_is hX hd rfl (by decide)) ?_
  refine aI_c (fun hd => s_ii hX hd (by decide) rfl) ?_
  refine aI_c (fun hd => s_is hX hd rfl (by decide)) ?_
  refine aI_c (fun hd => s_mk (s_il hX hd rfl)) ?_
  refine aI_c (fun hd => s_bp hX hd (by decide) rfl) ?_
  refine aI_c (fun hd => s_ic_gt hX hd (by decide) rfl) ?_
  refine aI_c (fun hd => s_al_n hX hd rfl rfl) ?_
  refine aI_c (fun hd => s_gF hX (C := RX5) (T := TX5) (N := 35) (k := 3) rfl (fun w h => up w (inlX5 w h)) (by decide) rfl rfl rfl (up _ lkX5_16) hd rfl) ?_
  refine aI_c (fun hd => s_ii hX hd (by decide) rfl) ?_
  refine aI_c (fun hd => s_il_n hX hd rfl rfl) ?_
  refine aI_c (fun hd => s_imul hX hd rfl) ?_
  refine aI_c (fun hd => s_il_n hX hd rfl rfl) ?_
  refine aI_c (fun hd => s_iadd hX hd rfl) ?_
  refine aI_c (fun hd => s_il hX hd rfl) ?_
  refine aI_c (fun hd => s_iast hX hd rfl) ?_
  refine aI_c (fun hd => s_al_n hX hd rfl rfl) ?_
  refine aI_c (fun hd => s_il_n hX hd rfl rfl) ?_
  refine aI_c (fun hd => s_cV hX (T := TX5) (N := 35) (nX5_unlike l) rfl (wg_V up lmX5_237 loX5_unlike) rfl rfl rfl (by decide +kernel) ⟨by decide, by decide⟩ ⟨Nat.zero_le _, Nat.zero_le _⟩ hd rfl) ?_
  refine aI_c (fun hd => s_ii hX hd (by decide) rfl) ?_
  refine aI_c (fun hd => s_ic_ne hX hd (by decide) rfl) ?_
  refine aI_c (fun hd => s_ii hX hd (by decide) rfl) ?_
  refine aI_c (fun hd => s_go hX hd (by decide)) ?_
  refine aI_c (fun hd => s_ii hX hd (by decide) rfl) ?_
  refine aI_c (fun hd => s_is hX hd rfl (by decide)) ?_
  refine aI_c (fun hd => s_il hX hd rfl) ?_
  refine aI_c (fun hd => s_il hX hd rfl) ?_
  refine aI_c (fun hd => s_if_eq hX hd (by decide) rfl) ?_
  refine aI_c (fun hd => s_ii hX hd (by decide) rfl) ?_
  refine aI_c (fun hd => s_go hX hd (by decide)) ?_
  refine aI_c (fun hd => s_ii hX hd (by decide) rfl) ?_
  refine aI_c (fun hd => s_iadd hX hd rfl) ?_
  refine aI_c (fun hd => s_is hX hd rfl (by decide)) ?_
  refine aI_c (fun hd => s_il hX hd rfl) ?_
  refine aI_c (fun hd => s_if_eq hX hd (by decide) rfl) ?_
  refine aI_c (fun hd => s_il hX hd rfl) ?_
  refine aI_c (fun hd => s_ii hX hd (by decide) rfl) ?_
  refine aI_c (fun hd => s_ic_ne hX hd (by decide) rfl) ?_
  refine aI_c (fun hd => s_il hX hd rfl) ?_
  refine aI_c (fun hd => s_go hX hd (by decide)) ?_
  refine aI_c (fun hd => s_il hX hd rfl) ?_
  refine aI_c (fun hd => s_is hX hd rfl (by decide)) ?_
  refine aI_c (fun hd => s_inc hX hd (by decide) rfl (by decide)) ?_
  refine aI_c (fun hd => s_go hX hd (by decide)) ?_
  refine aI_c (fun hd => s_al_n hX hd rfl rfl) ?_
  refine aI_c (fun hd => s_gF hX (C := RX5) (T := TX5) (N := 35) (k := 3) rfl (fun w h => up w (inlX5 w h)) (by decide) rfl rfl rfl (up _ lkX5_16) hd rfl) ?_
  refine aI_c (fun hd => s_ii hX hd (by decide) rfl) ?_
  refine aI_c (fun hd => s_il_n hX hd rfl rfl) ?_
  refine aI_c (fun hd => s_imul hX hd rfl) ?_
  refine aI_c (fun hd => s_il_n hX hd rfl rfl) ?_
  refine aI_c (fun hd => s_iadd hX hd rfl) ?_
  refine aI_c (fun hd => s_il hX hd rfl) ?_
  refine aI_c (fun hd => s_iast hX hd rfl) ?_
  refine aI_c (fun hd => s_il hX hd rfl) ?_
  refine aI_c (fun hd => s_if_ne hX hd (by decide) rfl) ?_
  refine aI_c (fun hd => s_il hX hd rfl) ?_
  refine aI_c (fun hd => s_go hX hd (by decide)) ?_
  refine aI_c (fun hd => s_il hX hd rfl) ?_
  refine aI_c (fun hd => s_ri hX hr hlk hE hd) ?_
  exact trivial

-- JudgesByLossModel.dropped(I)I
def tX5_dropped : aT := [
  (0, (.aload_n 0, 1), o_al 0 1),
  (1, (.iload_n 1, 1), o_il 1 2),
  (2, (.invokevirtual 234, 3), o_cV CX5_sheetWrong 5 1 5),
  (5, (.istore_n 2, 1), o_is 2 6),
  (6, (.iload_n 2, 1), o_il 2 7),
  (7, (.ifCond .eq 5, 3), o_if (fun x => x = 0) 12 10),
  (10, (.iload_n 2, 1), o_il 2 11),
  (11, (.ireturn, 1), o_ri),
  (12, (.iconst 0, 1), o_ii 0 13),
  (13, (.istore_n 3, 1), o_is 3 14),
  (14, (.iconst 0, 1), o_ii 0 15),
  (15, (.istore 4, 2), o_is 4 17),
  (17, (.iload 4, 2), o_mk [false, false, true, false, false, true] (o_il 4 19)),
  (19, (.bipush 8, 2), o_ii 8 21),
  (21, (.if_icmp .ge 66, 3), o_ic (fun x y => y ≤ x) 87 24),
  (24, (.aload_n 0, 1), o_al 0 25),
  (25, (.getfield 19, 3), o_gF 5 4 28),
  (28, (.iconst 3, 1), o_ii 3 29),
  (29, (.iload 4, 2), o_il 4 31),
  (31, (.imul, 1), o_bi (fun x y => x * y) 32),
  (32, (.iaload, 1), o_iald 33),
  (33, (.istore 5, 2), o_is 5 35),
  (35, (.iload 5, 2), o_il 5 37),
  (37, (.ifCond .eq 44, 3), o_if (fun x => x = 0) 81 40),
  (40, (.aload_n 0, 1), o_al 0 41),
  (41, (.getfield 19, 3), o_gF 5 4 44),
  (44, (.iconst 3, 1), o_ii 3 45),
  (45, (.iload 4, 2), o_il 4 47),
  (47, (.imul, 1), o_bi (fun x y => x * y) 48),
  (48, (.iconst 0, 1), o_ii 0 49),
  (49, (.iastore, 1), o_iast 50),
  (50, (.iload_n 3, 1), o_il 3 51),
  (51, (.aload_n 0, 1), o_al 0 52),
  (52, (.iload_n 1, 1), o_il 1 53),
  (53, (.invokevirtual 237, 3), o_cV CX5_unlike 5 1 56),
  (56, (.iconst (-1), 1), o_ii (-1) 57),
  (57, (.if_icmp .ne 10, 3), o_ic (fun x y => ¬ x = y) 67 60),
  (60, (.iconst 1, 1), o_ii 1 61),
  (61, (.iload 4, 2), o_il 4 63),
  (63, (.ishl, 1), o_bi (fun x y => x <<< (y &&& 31)) 64),
  (64, (.goto 4, 3), o_go 68),
  (67, (.iconst 0, 1), o_ii 0 68),
  (68, (.ior, 1), o_bi (fun x y => x ||| y) 69),
  (69, (.istore_n 3, 1), o_is 3 70),
  (70, (.aload_n 0, 1), o_al 0 71),
  (71, (.getfield 19, 3), o_gF 5 4 74),
  (74, (.iconst 3, 1), o_ii 3 75),
  (75, (.iload 4, 2), o_il 4 77),
  (77, (.imul, 1), o_bi (fun x y => x * y) 78),
  (78, (.iload 5, 2), o_il 5 80),
  (80, (.iastore, 1), o_iast 81),
  (81, (.iinc 4 1, 3), o_inc 4 1 84),
  (84, (.goto (-67), 3), o_go 17),
  (87, (.iload_n 3, 1), o_il 3 88),
  (88, (.ireturn, 1), o_ri)]
abbrev CX5_dropped : aC := aCl tX5_dropped 6
def rmX5_dropped : Room := { frames := 9, cells := 0, slots := 0, locals := 186 }
set_option maxRecDepth 100000 in
theorem dX5_dropped : tX5_dropped.all (fun q => decide (decode cX5_dropped q.1 = .ok q.2.1)) = true := by decide +kernel
set_option maxRecDepth 100000 in
set_option maxHeartbeats 4000000 in
theorem nX5_dropped (l : Launch) : aMt l yX5_dropped (Cond.code yX5_dropped cX5_dropped 6 (some .int) :: wsL_law) rmX5_dropped CX5_dropped := by
  refine aMt.of (own := RX5) (cc := cX5_dropped) (maxL := 6) (ret := (some .int)) (by decide +kernel) rfl rfl ?_
  intro p e s m args below meth c Qc D Z ad P G A E hX hr hlk hE
  have up : ∀ w ∈ wsL_law, w ∈ (Cond.code yX5_dropped cX5_dropped 6 (some .int) :: wsL_law) := fun w h => List.mem_cons_of_mem _ h
  refine aImp_all _ dX5_dropped ?_
  unfold tX5_dropped
  refine aI_c (fun hd => s_al_n hX hd rfl rfl) ?_
  refine aI_c (fun hd => s_il_n hX hd rfl rfl) ?_
  refine aI_c (fun hd => s_cV hX (T := TX5) (N := 35) (nX5_sheetWrong l) rfl (wg_V up lmX5_234 loX5_sheetWrong) rfl rfl rfl (by decide +kernel) ⟨by decide, by decide⟩ ⟨Nat.zero_le _, Nat.zero_le _⟩ hd rfl) ?_
  refine aI_c (fun hd => s_is_n hX hd rfl rfl (by decide)) ?_
  refine aI_c (fun hd => s_il_n hX hd rfl rfl) ?_
  refine aI_c (fun hd => s_if_eq hX hd (by decide) rfl) ?_
  refine aI_c (fun hd => s_il_n hX hd rfl rfl) ?_
  refine aI_c (fun hd => s_ri hX hr hlk hE hd) ?_
  refine aI_c (fun hd => s_ii hX hd (by decide) rfl) ?_
  refine aI_c (fun hd => s_is_n hX hd rfl rfl (by decide)) ?_
  refine aI_c (fun hd => s_ii hX hd (by decide) rfl) ?_
  refine aI_c (fun hd => s_is hX hd rfl (by decide)) ?_
  refine aI_c (fun hd => s_mk (s_il hX hd rfl)) ?_
  refine aI_c (fun hd => s_bp hX hd (by decide) rfl) ?_
  refine aI_c (fun hd => s_ic_ge hX hd (by decide) rfl) ?_
  refine aI_c (fun hd => s_al_n hX hd rfl rfl) ?_
  refine aI_c (fun hd => s_gF hX (C := RX5) (T := TX5) (N := 35) (k := 4) rfl (fun w h => up w (inlX5 w h)) (by decide) rfl rfl rfl (up _ lkX5_19) hd rfl) ?_
  refine aI_c (fun hd => s_ii hX hd (by decide) rfl) ?_
  refine aI_c (fun hd => s_il hX hd rfl) ?_
  refine aI_c (fun hd => s_imul hX hd rfl) ?_
  refine aI_c (fun hd => s_iald hX hd rfl) ?_
  refine aI_c (fun hd => s_is hX hd rfl (by decide)) ?_
  refine aI_c (fun hd => s_il hX hd rfl) ?_
  refine aI_c (fun hd => s_if_eq hX hd (by decide) rfl) ?_
  refine aI_c (fun hd => s_al_n hX hd rfl rfl) ?_
  refine aI_c (fun hd => s_gF hX (C := RX5) (T := TX5) (N := 35) (k := 4) rfl (fun w h => up w (inlX5 w h)) (by decide) rfl rfl rfl (up _ lkX5_19) hd rfl) ?_
  refine aI_c (fun hd => s_ii hX hd (by decide) rfl) ?_
  refine aI_c (fun hd => s_il hX hd rfl) ?_
  refine aI_c (fun hd => s_imul hX hd rfl) ?_
  refine aI_c (fun hd => s_ii hX hd (by decide) rfl) ?_
  refine aI_c (fun hd => s_iast hX hd rfl) ?_
  refine aI_c (fun hd => s_il_n hX hd rfl rfl) ?_
  refine aI_c (fun hd => s_al_n hX hd rfl rfl) ?_
  refine aI_c (fun hd => s_il_n hX hd rfl rfl) ?_
  refine aI_c (fun hd => s_cV hX (T := TX5) (N := 35) (nX5_unlike l) rfl (wg_V up lmX5_237 loX5_unlike) rfl rfl rfl (by decide +kernel) ⟨by decide, by decide⟩ ⟨Nat.zero_le _, Nat.zero_le _⟩ hd rfl) ?_
  refine aI_c (fun hd => s_ii hX hd (by decide) rfl) ?_
  refine aI_c (fun hd => s_ic_ne hX hd (by decide) rfl) ?_
  refine aI_c (fun hd => s_ii hX hd (by decide) rfl) ?_
  refine aI_c (fun hd => s_il hX hd rfl) ?_
  refine aI_c (fun hd => s_ishl hX hd rfl) ?_
  refine aI_c (fun hd => s_go hX hd (by decide)) ?_
  refine aI_c (fun hd => s_ii hX hd (by decide) rfl) ?_
  refine aI_c (fun hd => s_ior hX hd rfl) ?_
  refine aI_c (fun hd => s_is_n hX hd rfl rfl (by decide)) ?_
  refine aI_c (fun hd => s_al_n hX hd rfl rfl) ?_
  refine aI_c (fun hd => s_gF hX (C := RX5) (T := TX5) (N := 35) (k := 4) rfl (fun w h => up w (inlX5 w h)) (by decide) rfl rfl rfl (up _ lkX5_19) hd rfl) ?_
  refine aI_c (fun hd => s_ii hX hd (by decide) rfl) ?_
  refine aI_c (fun hd => s_il hX hd rfl) ?_
  refine aI_c (fun hd => s_imul hX hd rfl) ?_
  refine aI_c (fun hd => s_il hX hd rfl) ?_
  refine aI_c (fun hd => s_iast hX hd rfl) ?_
  refine aI_c (fun hd => s_inc hX hd (by decide) rfl (by decide)) ?_
  refine aI_c (fun hd => s_go hX hd (by decide)) ?_
  refine aI_c (fun hd => s_il_n hX hd rfl rfl) ?_
  refine aI_c (fun hd => s_ri hX hr hlk hE hd) ?_
  exact trivial

-- JudgesByLossModel.laws(I)I
def tX5_laws : aT := [
  (0, (.aload_n 0, 1), o_al 0 1),
  (1, (.iload_n 1, 1), o_il 1 2),
  (2, (.invokevirtual 234, 3), o_cV CX5_sheetWrong 5 1 5),
  (5, (.istore_n 2, 1), o_is 2 6),
  (6, (.iload_n 2, 1), o_il 2 7),
  (7, (.ifCond .eq 5, 3), o_if (fun x => x = 0) 12 10),
  (10, (.iload_n 2, 1), o_il 2 11),
  (11, (.ireturn, 1), o_ri),
  (12, (.aload_n 0, 1), o_al 0 13),
  (13, (.getfield 106, 3), o_gI 5 12 16),
  (16, (.istore_n 3, 1), o_is 3 17),
  (17, (.iconst 0, 1), o_ii 0 18),
  (18, (.istore 4, 2), o_is 4 20),
  (20, (.iconst 0, 1), o_ii 0 21),
  (21, (.istore 5, 2), o_is 5 23),
  (23, (.iload 5, 2), o_mk [false, false, true, false, false, false] (o_il 5 25)),
  (25, (.aload_n 0, 1), o_al 0 26),
  (26, (.getfield 103, 3), o_gI 5 11 29),
  (29, (.if_icmp .ge 37, 3), o_ic (fun x y => y ≤ x) 66 32),
  (32, (.aload_n 0, 1), o_al 0 33),
  (33, (.iload 5, 2), o_il 5 35),
  (35, (.putfield 106, 3), o_pI 5 12 38),
  (38, (.iload 4, 2), o_il 4 40),
  (40, (.aload_n 0, 1), o_al 0 41),
  (41, (.iload_n 1, 1), o_il 1 42),
  (42, (.invokevirtual 237, 3), o_cV CX5_unlike 5 1 45),
  (45, (.iconst (-1), 1), o_ii (-1) 46),
  (46, (.if_icmp .ne 10, 3), o_ic (fun x y => ¬ x = y) 56 49),
  (49, (.iconst 1, 1), o_ii 1 50),
  (50, (.iload 5, 2), o_il 5 52),
  (52, (.ishl, 1), o_bi (fun x y => x <<< (y &&& 31)) 53),
  (53, (.goto 4, 3), o_go 57),
  (56, (.iconst 0, 1), o_ii 0 57),
  (57, (.ior, 1), o_bi (fun x y => x ||| y) 58),
  (58, (.istore 4, 2), o_is 4 60),
  (60, (.iinc 5 1, 3), o_inc 5 1 63),
  (63, (.goto (-40), 3), o_go 23),
  (66, (.aload_n 0, 1), o_al 0 67),
  (67, (.iload_n 3, 1), o_il 3 68),
  (68, (.putfield 106, 3), o_pI 5 12 71),
  (71, (.iload 4, 2), o_il 4 73),
  (73, (.ireturn, 1), o_ri)]
abbrev CX5_laws : aC := aCl tX5_laws 6
def rmX5_laws : Room := { frames := 9, cells := 0, slots := 0, locals := 186 }
set_option maxRecDepth 100000 in
theorem dX5_laws : tX5_laws.all (fun q => decide (decode cX5_laws q.1 = .ok q.2.1)) = true := by decide +kernel
set_option maxRecDepth 100000 in
set_option maxHeartbeats 4000000 in
theorem nX5_laws (l : Launch) : aMt l yX5_laws (Cond.code yX5_laws cX5_laws 6 (some .int) :: wsL_law) rmX5_laws CX5_laws := by
  refine aMt.of (own := RX5) (cc := cX5_laws) (maxL := 6) (ret := (some .int)) (by decide +kernel) rfl rfl ?_
  intro p e s m args below meth c Qc D Z ad P G A E hX hr hlk hE
  have up : ∀ w ∈ wsL_law, w ∈ (Cond.code yX5_laws cX5_laws 6 (some .int) :: wsL_law) := fun w h => List.mem_cons_of_mem _ h
  refine aImp_all _ dX5_laws ?_
  unfold tX5_laws
  refine aI_c (fun hd => s_al_n hX hd rfl rfl) ?_
  refine aI_c (fun hd => s_il_n hX hd rfl rfl) ?_
  refine aI_c (fun hd => s_cV hX (T := TX5) (N := 35) (nX5_sheetWrong l) rfl (wg_V up lmX5_234 loX5_sheetWrong) rfl rfl rfl (by decide +kernel) ⟨by decide, by decide⟩ ⟨Nat.zero_le _, Nat.zero_le _⟩ hd rfl) ?_
  refine aI_c (fun hd => s_is_n hX hd rfl rfl (by decide)) ?_
  refine aI_c (fun hd => s_il_n hX hd rfl rfl) ?_
  refine aI_c (fun hd => s_if_eq hX hd (by decide) rfl) ?_
  refine aI_c (fun hd => s_il_n hX hd rfl rfl) ?_
  refine aI_c (fun hd => s_ri hX hr hlk hE hd) ?_
  refine aI_c (fun hd => s_al_n hX hd rfl rfl) ?_
  refine aI_c (fun hd => s_gI hX (C := RX5) (T := TX5) (N := 35) (k := 12) rfl (fun w h => up w (inlX5 w h)) (by decide) rfl rfl rfl (up _ lkX5_106) hd rfl) ?_
  refine aI_c (fun hd => s_is_n hX hd rfl rfl (by decide)) ?_
  refine aI_c (fun hd => s_ii hX hd (by decide) rfl) ?_
  refine aI_c (fun hd => s_is hX hd rfl (by decide)) ?_
  refine aI_c (fun hd => s_ii hX hd (by decide) rfl) ?_
  refine aI_c (fun hd => s_is hX hd rfl (by decide)) ?_
  refine aI_c (fun hd => s_mk (s_il hX hd rfl)) ?_
  refine aI_c (fun hd => s_al_n hX hd rfl rfl) ?_
  refine aI_c (fun hd => s_gI hX (C := RX5) (T := TX5) (N := 35) (k := 11) rfl (fun w h => up w (inlX5 w h)) (by decide) rfl rfl rfl (up _ lkX5_103) hd rfl) ?_
  refine aI_c (fun hd => s_ic_ge hX hd (by decide) rfl) ?_
  refine aI_c (fun hd => s_al_n hX hd rfl rfl) ?_
  refine aI_c (fun hd => s_il hX hd rfl) ?_
  refine aI_c (fun hd => s_pI hX (C := RX5) (T := TX5) (N := 35) (k := 12) rfl (fun w h => up w (inlX5 w h)) (by decide) rfl rfl tyX5 tyX5_ok nmX5 rfl rfl rfl (up _ lkX5_106) hd rfl) ?_
  refine aI_c (fun hd => s_il hX hd rfl) ?_
  refine aI_c (fun hd => s_al_n hX hd rfl rfl) ?_
  refine aI_c (fun hd => s_il_n hX hd rfl rfl) ?_
  refine aI_c (fun hd => s_cV hX (T := TX5) (N := 35) (nX5_unlike l) rfl (wg_V up lmX5_237 loX5_unlike) rfl rfl rfl (by decide +kernel) ⟨by decide, by decide⟩ ⟨Nat.zero_le _, Nat.zero_le _⟩ hd rfl) ?_
  refine aI_c (fun hd => s_ii hX hd (by decide) rfl) ?_
  refine aI_c (fun hd => s_ic_ne hX hd (by decide) rfl) ?_
  refine aI_c (fun hd => s_ii hX hd (by decide) rfl) ?_
  refine aI_c (fun hd => s_il hX hd rfl) ?_
  refine aI_c (fun hd => s_ishl hX hd rfl) ?_
  refine aI_c (fun hd => s_go hX hd (by decide)) ?_
  refine aI_c (fun hd => s_ii hX hd (by decide) rfl) ?_
  refine aI_c (fun hd => s_ior hX hd rfl) ?_
  refine aI_c (fun hd => s_is hX hd rfl (by decide)) ?_
  refine aI_c (fun hd => s_inc hX hd (by decide) rfl (by decide)) ?_
  refine aI_c (fun hd => s_go hX hd (by decide)) ?_
  refine aI_c (fun hd => s_al_n hX hd rfl rfl) ?_
  refine aI_c (fun hd => s_il_n hX hd rfl rfl) ?_
  refine aI_c (fun hd => s_pI hX (C := RX5) (T := TX5) (N := 35) (k := 12) rfl (fun w h => up w (inlX5 w h)) (by decide) rfl rfl tyX5 tyX5_ok nmX5 rfl rfl rfl (up _ lkX5_106) hd rfl) ?_
  refine aI_c (fun hd => s_il hX hd rfl) ?_
  refine aI_c (fun hd => s_ri hX hr hlk hE hd) ?_
  exact trivial

-- JudgesByLossModel.film(II)I
def tX5_film : aT := [
  (0, (.iload_n 1, 1), o_il 1 1),
  (1, (.iconst 0, 1), o_ii 0 2),
  (2, (.iconst 3, 1), o_ii 3 3),
  (3, (.invokestatic 81, 3), o_cS CX5_in 3 6),
  (6, (.ifCond .ne 6, 3), o_if (fun x => ¬ x = 0) 12 9),
  (9, (.bipush (-2), 2), o_ii (-2) 11),
  (11, (.ireturn, 1), o_ri),
  (12, (.iload_n 2, 1), o_il 2 13),
  (13, (.iconst 0, 1), o_ii 0 14),
  (14, (.bipush 20, 2), o_ii 20 16),
  (16, (.invokestatic 81, 3), o_cS CX5_in 3 19),
  (19, (.ifCond .ne 6, 3), o_if (fun x => ¬ x = 0) 25 22),
  (22, (.bipush (-7), 2), o_ii (-7) 24),
  (24, (.ireturn, 1), o_ri),
  (25, (.aload_n 0, 1), o_al 0 26),
  (26, (.getfield 37, 3), o_gF 5 10 29),
  (29, (.iload_n 1, 1), o_il 1 30),
  (30, (.iconst 0, 1), o_ii 0 31),
  (31, (.iastore, 1), o_iast 32),
  (32, (.aload_n 0, 1), o_al 0 33),
  (33, (.getfield 40, 3), o_gF 5 11 36),
  (36, (.iload_n 1, 1), o_il 1 37),
  (37, (.iload_n 2, 1), o_il 2 38),
  (38, (.iastore, 1), o_iast 39),
  (39, (.aload_n 0, 1), o_al 0 40),
  (40, (.invokevirtual 210, 3), o_cV CX5_keeps 5 0 43),
  (43, (.iconst 0, 1), o_ii 0 44),
  (44, (.istore_n 3, 1), o_is 3 45),
  (45, (.iload_n 3, 1), o_il 3 46),
  (46, (.bipush 40, 2), o_ii 40 48),
  (48, (.if_icmp .ge 36, 3), o_ic (fun x y => y ≤ x) 84 51),
  (51, (.aload_n 0, 1), o_al 0 52),
  (52, (.getfield 43, 3), o_gF 5 12 55),
  (55, (.bipush 40, 2), o_ii 40 57),
  (57, (.iload_n 1, 1), o_il 1 58),
  (58, (.imul, 1), o_bi (fun x y => x * y) 59),
  (59, (.iload_n 3, 1), o_il 3 60),
  (60, (.iadd, 1), o_bi (fun x y => x + y) 61),
  (61, (.iload_n 3, 1), o_il 3 62),
  (62, (.iload_n 2, 1), o_il 2 63),
  (63, (.if_icmp .ge 13, 3), o_ic (fun x y => y ≤ x) 76 66),
  (66, (.aload_n 0, 1), o_al 0 67),
  (67, (.invokevirtual 207, 3), o_cV CX5_dayOf 5 0 70),
  (70, (.invokestatic 96, 3), o_cS CX5_onesOf 1 73),
  (73, (.goto 4, 3), o_go 77),
  (76, (.iconst 0, 1), o_ii 0 77),
  (77, (.iastore, 1), o_iast 78),
  (78, (.iinc 3 1, 3), o_inc 3 1 81),
  (81, (.goto (-36), 3), o_go 45),
  (84, (.aload_n 0, 1), o_al 0 85),
  (85, (.invokevirtual 219, 3), o_cV CX5_lays 5 0 88),
  (88, (.iload_n 2, 1), o_il 2 89),
  (89, (.ireturn, 1), o_ri)]
abbrev CX5_film : aC := aCl tX5_film 4
def rmX5_film : Room := { frames := 8, cells := 0, slots := 0, locals := 163 }
set_option maxRecDepth 100000 in
theorem dX5_film : tX5_film.all (fun q => decide (decode cX5_film q.1 = .ok q.2.1)) = true := by decide +kernel
set_option maxRecDepth 100000 in
set_option maxHeartbeats 4000000 in
theorem nX5_film (l : Launch) : aMt l yX5_film (Cond.code yX5_film cX5_film 4 (some .int) :: wsL_law) rmX5_film CX5_film := by
  refine aMt.of (own := RX5) (cc := cX5_film) (maxL := 4) (ret := (some .int)) (by decide +kernel) rfl rfl ?_
  intro p e s m args below meth c Qc D Z ad P G A E hX hr hlk hE
  have up : ∀ w ∈ wsL_law, w ∈ (Cond.code yX5_film cX5_film 4 (some .int) :: wsL_law) := fun w h => List.mem_cons_of_mem _ h
  refine aImp_all _ dX5_film ?_
  unfold tX5_film
  refine aI_c (fun hd => s_il_n hX hd rfl rfl) ?_
  refine aI_c (fun hd => s_ii hX hd (by decide) rfl) ?_
  refine aI_c (fun hd => s_ii hX hd (by decide) rfl) ?_
  refine aI_c (fun hd => s_cS hX (nX5_in l) (wg_S up lmX5_81 loX5_in) rfl rfl rfl (by decide +kernel) ⟨by decide, by decide⟩ ⟨Nat.zero_le _, Nat.zero_le _⟩ hd rfl) ?_
  refine aI_c (fun hd => s_if_ne hX hd (by decide) rfl) ?_
  refine aI_c (fun hd => s_bp hX hd (by decide) rfl) ?_
  refine aI_c (fun hd => s_ri hX hr hlk hE hd) ?_
  refine aI_c (fun hd => s_il_n hX hd rfl rfl) ?_
  refine aI_c (fun hd => s_ii hX hd (by decide) rfl) ?_
  refine aI_c (fun hd => s_bp hX hd (by decide) rfl) ?_
  refine aI_c (fun hd => s_cS hX (nX5_in l) (wg_S up lmX5_81 loX5_in) rfl rfl rfl (by decide +kernel) ⟨by decide, by decide⟩ ⟨Nat.zero_le _, Nat.zero_le _⟩ hd rfl) ?_
  refine aI_c (fun hd => s_if_ne hX hd (by decide) rfl) ?_
  refine aI_c (fun hd => s_bp hX hd (by decide) rfl) ?_
  refine aI_c (fun hd => s_ri hX hr hlk hE hd) ?_
  refine aI_c (fun hd => s_al_n hX hd rfl rfl) ?_
  refine aI_c (fun hd => s_gF hX (C := RX5) (T := TX5) (N := 35) (k := 16) rfl (fun w h => up w (inlX5 w h)) (by decide) rfl rfl rfl (up _ lkX5_37) hd rfl) ?_
  refine aI_c (fun hd => s_il_n hX hd rfl rfl) ?_
  refine aI_c (fun hd => s_ii hX hd (by decide) rfl) ?_
  refine aI_c (fun hd => s_iast hX hd rfl) ?_
  refine aI_c (fun hd => s_al_n hX hd rfl rfl) ?_
  refine aI_c (fun hd => s_gF hX (C := RX5) (T := TX5) (N := 35) (k := 17) rfl (fun w h => up w (inlX5 w h)) (by decide) rfl rfl rfl (up _ lkX5_40) hd rfl) ?_
  refine aI_c (fun hd => s_il_n hX hd rfl rfl) ?_
  refine aI_c (fun hd => s_il_n hX hd rfl rfl) ?_
  refine aI_c (fun hd => s_iast hX hd rfl) ?_
  refine aI_c (fun hd => s_al_n hX hd rfl rfl) ?_
  refine aI_c (fun hd => s_cV hX (T := TX5) (N := 35) (nX5_keeps l) rfl (wg_V up lmX5_210 loX5_keeps) rfl rfl rfl (by decide +kernel) ⟨by decide, by decide⟩ ⟨Nat.zero_le _, Nat.zero_le _⟩ hd rfl) ?_
  refine aI_c (fun hd => s_ii hX hd (by decide) rfl) ?_
  refine aI_c (fun hd => s_is_n hX hd rfl rfl (by decide)) ?_
  refine aI_c (fun hd => s_il_n hX hd rfl rfl) ?_
  refine aI_c (fun hd => s_bp hX hd (by decide) rfl) ?_
  refine aI_c (fun hd => s_ic_ge hX hd (by decide) rfl) ?_
  refine aI_c (fun hd => s_al_n hX hd rfl rfl) ?_
  refine aI_c (fun hd => s_gF hX (C := RX5) (T := TX5) (N := 35) (k := 18) rfl (fun w h => up w (inlX5 w h)) (by decide) rfl rfl rfl (up _ lkX5_43) hd rfl) ?_
  refine aI_c (fun hd => s_bp hX hd (by decide) rfl) ?_
  refine aI_c (fun hd => s_il_n hX hd rfl rfl) ?_
  refine aI_c (fun hd => s_imul hX hd rfl) ?_
  refine aI_c (fun hd => s_il_n hX hd rfl rfl) ?_
  refine aI_c (fun hd => s_iadd hX hd rfl) ?_
  refine aI_c (fun hd => s_il_n hX hd rfl rfl) ?_
  refine aI_c (fun hd => s_il_n hX hd rfl rfl) ?_
  refine aI_c (fun hd => s_ic_ge hX hd (by decide) rfl) ?_
  refine aI_c (fun hd => s_al_n hX hd rfl rfl) ?_
  refine aI_c (fun hd => s_cV hX (T := TX5) (N := 35) (nX5_dayOf l) rfl (wg_V up lmX5_207 loX5_dayOf) rfl rfl rfl (by decide +kernel) ⟨by decide, by decide⟩ ⟨Nat.zero_le _, Nat.zero_le _⟩ hd rfl) ?_
  refine aI_c (fun hd => s_cS hX (nX5_onesOf l) (wg_S up lmX5_96 loX5_onesOf) rfl rfl rfl (by decide +kernel) ⟨by decide, by decide⟩ ⟨Nat.zero_le _, Nat.zero_le _⟩ hd rfl) ?_
  refine aI_c (fun hd => s_go hX hd (by decide)) ?_
  refine aI_c (fun hd => s_ii hX hd (by decide) rfl) ?_
  refine aI_c (fun hd => s_iast hX hd rfl) ?_
  refine aI_c (fun hd => s_inc hX hd (by decide) rfl (by decide)) ?_
  refine aI_c (fun hd => s_go hX hd (by decide)) ?_
  refine aI_c (fun hd => s_al_n hX hd rfl rfl) ?_
  refine aI_c (fun hd => s_cV hX (T := TX5) (N := 35) (nX5_lays l) rfl (wg_V up lmX5_219 loX5_lays) rfl rfl rfl (by decide +kernel) ⟨by decide, by decide⟩ ⟨Nat.zero_le _, Nat.zero_le _⟩ hd rfl) ?_
  refine aI_c (fun hd => s_il_n hX hd rfl rfl) ?_
  refine aI_c (fun hd => s_ri hX hr hlk hE hd) ?_
  exact trivial

-- JudgesByLossModel.burglars(I)I
def tX5_burglars : aT := [
  (0, (.iload_n 1, 1), o_il 1 1),
  (1, (.i2l, 1), o_tl (fun x => x.toInt64) 2),
  (2, (.lconst 1, 1), o_lc 1 3),
  (3, (.ladd, 1), o_bl (fun x y => x + y) 4),
  (4, (.lstore_n 2, 1), o_ls 2 5),
  (5, (.iconst 0, 1), o_ii 0 6),
  (6, (.istore 4, 2), o_is 4 8),
  (8, (.aload_n 0, 1), o_al 0 9),
  (9, (.invokevirtual 210, 3), o_cV CX5_keeps 5 0 12),
  (12, (.iconst 0, 1), o_ii 0 13),
  (13, (.istore 5, 2), o_is 5 15),
  (15, (.iload 5, 2), o_mk [false, true, false, true, false, false, true] (o_il 5 17)),
  (17, (.bipush 10, 2), o_ii 10 19),
  (19, (.if_icmp .ge 78, 3), o_ic (fun x y => y ≤ x) 97 22),
  (22, (.lload_n 2, 1), o_ll 2 23),
  (23, (.ldc2_w 240, 3), o_lc 48271 26),
  (26, (.lmul, 1), o_bl (fun x y => x * y) 27),
  (27, (.ldc2_w 242, 3), o_lc 2147483647 30),
  (30, (.lrem, 1), o_lrm 31),
  (31, (.lstore_n 2, 1), o_ls 2 32),
  (32, (.lload_n 2, 1), o_ll 2 33),
  (33, (.ldc2_w 244, 3), o_lc 6 36),
  (36, (.lrem, 1), o_lrm 37),
  (37, (.l2i, 1), o_ti (fun x => x.toInt32) 38),
  (38, (.istore 6, 2), o_is 6 40),
  (40, (.lload_n 2, 1), o_ll 2 41),
  (41, (.ldc2_w 240, 3), o_lc 48271 44),
  (44, (.lmul, 1), o_bl (fun x y => x * y) 45),
  (45, (.ldc2_w 242, 3), o_lc 2147483647 48),
  (48, (.lrem, 1), o_lrm 49),
  (49, (.lstore_n 2, 1), o_ls 2 50),
  (50, (.iload 6, 2), o_il 6 52),
  (52, (.aload_n 0, 1), o_al 0 53),
  (53, (.getfield 78, 3), o_gI 5 0 56),
  (56, (.if_icmp .ge 23, 3), o_ic (fun x y => y ≤ x) 79 59),
  (59, (.aload_n 0, 1), o_al 0 60),
  (60, (.getfield 16, 3), o_gF 5 3 63),
  (63, (.iconst 3, 1), o_ii 3 64),
  (64, (.iload 6, 2), o_il 6 66),
  (66, (.imul, 1), o_bi (fun x y => x * y) 67),
  (67, (.dup2, 1), o_dup2 68),
  (68, (.iaload, 1), o_iald 69),
  (69, (.iconst 1, 1), o_ii 1 70),
  (70, (.lload_n 2, 1), o_ll 2 71),
  (71, (.ldc2_w 246, 3), o_lc 10 74),
  (74, (.lrem, 1), o_lrm 75),
  (75, (.l2i, 1), o_ti (fun x => x.toInt32) 76),
  (76, (.ishl, 1), o_bi (fun x y => x <<< (y &&& 31)) 77),
  (77, (.ixor, 1), o_bi (fun x y => x ^^^ y) 78),
  (78, (.iastore, 1), o_iast 79),
  (79, (.iload 4, 2), o_il 4 81),
  (81, (.aload_n 0, 1), o_al 0 82),
  (82, (.invokevirtual 207, 3), o_cV CX5_dayOf 5 0 85),
  (85, (.invokestatic 96, 3), o_cS CX5_onesOf 1 88),
  (88, (.iadd, 1), o_bi (fun x y => x + y) 89),
  (89, (.istore 4, 2), o_is 4 91),
  (91, (.iinc 5 1, 3), o_inc 5 1 94),
  (94, (.goto (-79), 3), o_go 15),
  (97, (.aload_n 0, 1), o_al 0 98),
  (98, (.aload_n 0, 1), o_al 0 99),
  (99, (.invokevirtual 93, 3), o_cV CX5_caseSet 5 0 102),
  (102, (.putfield 248, 3), o_pI 5 34 105),
  (105, (.aload_n 0, 1), o_al 0 106),
  (106, (.invokevirtual 219, 3), o_cV CX5_lays 5 0 109),
  (109, (.iload 4, 2), o_il 4 111),
  (111, (.ireturn, 1), o_ri)]
abbrev CX5_burglars : aC := aCl tX5_burglars 7
def rmX5_burglars : Room := { frames := 8, cells := 0, slots := 0, locals := 163 }
set_option maxRecDepth 100000 in
theorem dX5_burglars : tX5_burglars.all (fun q => decide (decode cX5_burglars q.1 = .ok q.2.1)) = true := by decide +kernel
set_option maxRecDepth 100000 in
set_option maxHeartbeats 4000000 in
theorem nX5_burglars (l : Launch) : aMt l yX5_burglars (Cond.code yX5_burglars cX5_burglars 7 (some .int) :: wsL_law) rmX5_burglars CX5_burglars := by
  refine aMt.of (own := RX5) (cc := cX5_burglars) (maxL := 7) (ret := (some .int)) (by decide +kernel) rfl rfl ?_
  intro p e s m args below meth c Qc D Z ad P G A E hX hr hlk hE
  have up : ∀ w ∈ wsL_law, w ∈ (Cond.code yX5_burglars cX5_burglars 7 (some .int) :: wsL_law) := fun w h => List.mem_cons_of_mem _ h
  refine aImp_all _ dX5_burglars ?_
  unfold tX5_burglars
  refine aI_c (fun hd => s_il_n hX hd rfl rfl) ?_
  refine aI_c (fun hd => s_i2l hX hd rfl) ?_
  refine aI_c (fun hd => s_lc hX hd (by decide) rfl) ?_
  refine aI_c (fun hd => s_ladd hX hd rfl) ?_
  refine aI_c (fun hd => s_ls_n hX hd rfl rfl (by decide)) ?_
  refine aI_c (fun hd => s_ii hX hd (by decide) rfl) ?_
  refine aI_c (fun hd => s_is hX hd rfl (by decide)) ?_
  refine aI_c (fun hd => s_al_n hX hd rfl rfl) ?_
  refine aI_c (fun hd => s_cV hX (T := TX5) (N := 35) (nX5_keeps l) rfl (wg_V up lmX5_210 loX5_keeps) rfl rfl rfl (by decide +kernel) ⟨by decide, by decide⟩ ⟨Nat.zero_le _, Nat.zero_le _⟩ hd rfl) ?_
  refine aI_c (fun hd => s_ii hX hd (by decide) rfl) ?_
  refine aI_c (fun hd => s_is hX hd rfl (by decide)) ?_
  refine aI_c (fun hd => s_mk (s_il hX hd rfl)) ?_
  refine aI_c (fun hd => s_bp hX hd (by decide) rfl) ?_
  refine aI_c (fun hd => s_ic_ge hX hd (by decide) rfl) ?_
  refine aI_c (fun hd => s_ll_n hX hd rfl rfl) ?_
  refine aI_c (fun hd => s_ldc2 hX hd (up _ lcX5_240) rfl) ?_
  refine aI_c (fun hd => s_lmul hX hd rfl) ?_
  refine aI_c (fun hd => s_ldc2 hX hd (up _ lcX5_242) rfl) ?_
  refine aI_c (fun hd => s_lrem hX hd rfl) ?_
  refine aI_c (fun hd => s_ls_n hX hd rfl rfl (by decide)) ?_
  refine aI_c (fun hd => s_ll_n hX hd rfl rfl) ?_
  refine aI_c (fun hd => s_ldc2 hX hd (up _ lcX5_244) rfl) ?_
  refine aI_c (fun hd => s_lrem hX hd rfl) ?_
  refine aI_c (fun hd => s_l2i hX hd rfl) ?_
  refine aI_c (fun hd => s_is hX hd rfl (by decide)) ?_
  refine aI_c (fun hd => s_ll_n hX hd rfl rfl) ?_
  refine aI_c (fun hd => s_ldc2 hX hd (up _ lcX5_240) rfl) ?_
  refine aI_c (fun hd => s_lmul hX hd rfl) ?_
  refine aI_c (fun hd => s_ldc2 hX hd (up _ lcX5_242) rfl) ?_
  refine aI_c (fun hd => s_lrem hX hd rfl) ?_
  refine aI_c (fun hd => s_ls_n hX hd rfl rfl (by decide)) ?_
  refine aI_c (fun hd => s_il hX hd rfl) ?_
  refine aI_c (fun hd => s_al_n hX hd rfl rfl) ?_
  refine aI_c (fun hd => s_gI hX (C := RX5) (T := TX5) (N := 35) (k := 0) rfl (fun w h => up w (inlX5 w h)) (by decide) rfl rfl rfl (up _ lkX5_78) hd rfl) ?_
  refine aI_c (fun hd => s_ic_ge hX hd (by decide) rfl) ?_
  refine aI_c (fun hd => s_al_n hX hd rfl rfl) ?_
  refine aI_c (fun hd => s_gF hX (C := RX5) (T := TX5) (N := 35) (k := 3) rfl (fun w h => up w (inlX5 w h)) (by decide) rfl rfl rfl (up _ lkX5_16) hd rfl) ?_
  refine aI_c (fun hd => s_ii hX hd (by decide) rfl) ?_
  refine aI_c (fun hd => s_il hX hd rfl) ?_
  refine aI_c (fun hd => s_imul hX hd rfl) ?_
  refine aI_c (fun hd => s_dup2 hX hd rfl) ?_
  refine aI_c (fun hd => s_iald hX hd rfl) ?_
  refine aI_c (fun hd => s_ii hX hd (by decide) rfl) ?_
  refine aI_c (fun hd => s_ll_n hX hd rfl rfl) ?_
  refine aI_c (fun hd => s_ldc2 hX hd (up _ lcX5_246) rfl) ?_
  refine aI_c (fun hd => s_lrem hX hd rfl) ?_
  refine aI_c (fun hd => s_l2i hX hd rfl) ?_
  refine aI_c (fun hd => s_ishl hX hd rfl) ?_
  refine aI_c (fun hd => s_ixor hX hd rfl) ?_
  refine aI_c (fun hd => s_iast hX hd rfl) ?_
  refine aI_c (fun hd => s_il hX hd rfl) ?_
  refine aI_c (fun hd => s_al_n hX hd rfl rfl) ?_
  refine aI_c (fun hd => s_cV hX (T := TX5) (N := 35) (nX5_dayOf l) rfl (wg_V up lmX5_207 loX5_dayOf) rfl rfl rfl (by decide +kernel) ⟨by decide, by decide⟩ ⟨Nat.zero_le _, Nat.zero_le _⟩ hd rfl) ?_
  refine aI_c (fun hd => s_cS hX (nX5_onesOf l) (wg_S up lmX5_96 loX5_onesOf) rfl rfl rfl (by decide +kernel) ⟨by decide, by decide⟩ ⟨Nat.zero_le _, Nat.zero_le _⟩ hd rfl) ?_
  refine aI_c (fun hd => s_iadd hX hd rfl) ?_
  refine aI_c (fun hd => s_is hX hd rfl (by decide)) ?_
  refine aI_c (fun hd => s_inc hX hd (by decide) rfl (by decide)) ?_
  refine aI_c (fun hd => s_go hX hd (by decide)) ?_
  refine aI_c (fun hd => s_al_n hX hd rfl rfl) ?_
  refine aI_c (fun hd => s_al_n hX hd rfl rfl) ?_
  refine aI_c (fun hd => s_cV hX (T := TX5) (N := 35) (nX5_caseSet l) rfl (wg_V up lmX5_93 loX5_caseSet) rfl rfl rfl (by decide +kernel) ⟨by decide, by decide⟩ ⟨Nat.zero_le _, Nat.zero_le _⟩ hd rfl) ?_
  refine aI_c (fun hd => s_pI hX (C := RX5) (T := TX5) (N := 35) (k := 34) rfl (fun w h => up w (inlX5 w h)) (by decide) rfl rfl tyX5 tyX5_ok nmX5 rfl rfl rfl (up _ lkX5_248) hd rfl) ?_
  refine aI_c (fun hd => s_al_n hX hd rfl rfl) ?_
  refine aI_c (fun hd => s_cV hX (T := TX5) (N := 35) (nX5_lays l) rfl (wg_V up lmX5_219 loX5_lays) rfl rfl rfl (by decide +kernel) ⟨by decide, by decide⟩ ⟨Nat.zero_le _, Nat.zero_le _⟩ hd rfl) ?_
  refine aI_c (fun hd => s_il hX hd rfl) ?_
  refine aI_c (fun hd => s_ri hX hr hlk hE hd) ?_
  exact trivial

-- JudgesByLossModel.drawn(II)I
def tX5_drawn : aT := [
  (0, (.iload_n 1, 1), o_il 1 1),
  (1, (.iconst 0, 1), o_ii 0 2),
  (2, (.ldc 251, 2), o_ii 99999 4),
  (4, (.invokestatic 81, 3), o_cS CX5_in 3 7),
  (7, (.ifCond .eq 12, 3), o_if (fun x => x = 0) 19 10),
  (10, (.iload_n 2, 1), o_il 2 11),
  (11, (.iconst 0, 1), o_ii 0 12),
  (12, (.iconst 1, 1), o_ii 1 13),
  (13, (.invokestatic 81, 3), o_cS CX5_in 3 16),
  (16, (.ifCond .ne 6, 3), o_if (fun x => ¬ x = 0) 22 19),
  (19, (.bipush (-2), 2), o_ii (-2) 21),
  (21, (.ireturn, 1), o_ri),
  (22, (.aload_n 0, 1), o_al 0 23),
  (23, (.iload_n 1, 1), o_il 1 24),
  (24, (.invokevirtual 252, 3), o_cV CX5_burglars 5 1 27),
  (27, (.istore_n 3, 1), o_is 3 28),
  (28, (.iload_n 2, 1), o_il 2 29),
  (29, (.ifCond .ne 7, 3), o_if (fun x => ¬ x = 0) 36 32),
  (32, (.iload_n 3, 1), o_il 3 33),
  (33, (.goto 7, 3), o_go 40),
  (36, (.aload_n 0, 1), o_al 0 37),
  (37, (.getfield 248, 3), o_gI 5 34 40),
  (40, (.ireturn, 1), o_ri)]
abbrev CX5_drawn : aC := aCl tX5_drawn 4
def rmX5_drawn : Room := { frames := 9, cells := 0, slots := 0, locals := 189 }
set_option maxRecDepth 100000 in
theorem dX5_drawn : tX5_drawn.all (fun q => decide (decode cX5_drawn q.1 = .ok q.2.1)) = true := by decide +kernel
set_option maxRecDepth 100000 in
set_option maxHeartbeats 4000000 in
theorem nX5_drawn (l : Launch) : aMt l yX5_drawn (Cond.code yX5_drawn cX5_drawn 4 (some .int) :: wsL_law) rmX5_drawn CX5_drawn := by
  refine aMt.of (own := RX5) (cc := cX5_drawn) (maxL := 4) (ret := (some .int)) (by decide +kernel) rfl rfl ?_
  intro p e s m args below meth c Qc D Z ad P G A E hX hr hlk hE
  have up : ∀ w ∈ wsL_law, w ∈ (Cond.code yX5_drawn cX5_drawn 4 (some .int) :: wsL_law) := fun w h => List.mem_cons_of_mem _ h
  refine aImp_all _ dX5_drawn ?_
  unfold tX5_drawn
  refine aI_c (fun hd => s_il_n hX hd rfl rfl) ?_
  refine aI_c (fun hd => s_ii hX hd (by decide) rfl) ?_
  refine aI_c (fun hd => s_ldc hX hd (up _ lcX5_251) rfl) ?_
  refine aI_c (fun hd => s_cS hX (nX5_in l) (wg_S up lmX5_81 loX5_in) rfl rfl rfl (by decide +kernel) ⟨by decide, by decide⟩ ⟨Nat.zero_le _, Nat.zero_le _⟩ hd rfl) ?_
  refine aI_c (fun hd => s_if_eq hX hd (by decide) rfl) ?_
  refine aI_c (fun hd => s_il_n hX hd rfl rfl) ?_
  refine aI_c (fun hd => s_ii hX hd (by decide) rfl) ?_
  refine aI_c (fun hd => s_ii hX hd (by decide) rfl) ?_
  refine aI_c (fun hd => s_cS hX (nX5_in l) (wg_S up lmX5_81 loX5_in) rfl rfl rfl (by decide +kernel) ⟨by decide, by decide⟩ ⟨Nat.zero_le _, Nat.zero_le _⟩ hd rfl) ?_
  refine aI_c (fun hd => s_if_ne hX hd (by decide) rfl) ?_
  refine aI_c (fun hd => s_bp hX hd (by decide) rfl) ?_
  refine aI_c (fun hd => s_ri hX hr hlk hE hd) ?_
  refine aI_c (fun hd => s_al_n hX hd rfl rfl) ?_
  refine aI_c (fun hd => s_il_n hX hd rfl rfl) ?_
  refine aI_c (fun hd => s_cV hX (T := TX5) (N := 35) (nX5_burglars l) rfl (wg_V up lmX5_252 loX5_burglars) rfl rfl rfl (by decide +kernel) ⟨by decide, by decide⟩ ⟨Nat.zero_le _, Nat.zero_le _⟩ hd rfl) ?_
  refine aI_c (fun hd => s_is_n hX hd rfl rfl (by decide)) ?_
  refine aI_c (fun hd => s_il_n hX hd rfl rfl) ?_
  refine aI_c (fun hd => s_if_ne hX hd (by decide) rfl) ?_
  refine aI_c (fun hd => s_il_n hX hd rfl rfl) ?_
  refine aI_c (fun hd => s_go hX hd (by decide)) ?_
  refine aI_c (fun hd => s_al_n hX hd rfl rfl) ?_
  refine aI_c (fun hd => s_gI hX (C := RX5) (T := TX5) (N := 35) (k := 34) rfl (fun w h => up w (inlX5 w h)) (by decide) rfl rfl rfl (up _ lkX5_248) hd rfl) ?_
  refine aI_c (fun hd => s_ri hX hr hlk hE hd) ?_
  exact trivial

-- JudgesByLossModel.odds(IIII)J
def tX5_odds : aT := [
  (0, (.iload_n 1, 1), o_il 1 1),
  (1, (.iconst 0, 1), o_ii 0 2),
  (2, (.ldc 251, 2), o_ii 99999 4),
  (4, (.invokestatic 81, 3), o_cS CX5_in 3 7),
  (7, (.ifCond .eq 33, 3), o_if (fun x => x = 0) 40 10),
  (10, (.iload_n 2, 1), o_il 2 11),
  (11, (.iconst 1, 1), o_ii 1 12),
  (12, (.bipush 40, 2), o_ii 40 14),
  (14, (.invokestatic 81, 3), o_cS CX5_in 3 17),
  (17, (.ifCond .eq 23, 3), o_if (fun x => x = 0) 40 20),
  (20, (.iload_n 3, 1), o_il 3 21),
  (21, (.iconst 0, 1), o_ii 0 22),
  (22, (.bipush 8, 2), o_ii 8 24),
  (24, (.invokestatic 81, 3), o_cS CX5_in 3 27),
  (27, (.ifCond .eq 13, 3), o_if (fun x => x = 0) 40 30),
  (30, (.iload 4, 2), o_il 4 32),
  (32, (.iconst 0, 1), o_ii 0 33),
  (33, (.iconst 1, 1), o_ii 1 34),
  (34, (.invokestatic 81, 3), o_cS CX5_in 3 37),
  (37, (.ifCond .ne 7, 3), o_if (fun x => ¬ x = 0) 44 40),
  (40, (.ldc2_w 232, 3), o_lc (-4611686018427387904) 43),
  (43, (.lreturn, 1), o_rl),
  (44, (.lconst 0, 1), o_lc 0 45),
  (45, (.lstore 5, 2), o_ls 5 47),
  (47, (.iconst 0, 1), o_ii 0 48),
  (48, (.istore 7, 2), o_is 7 50),
  (50, (.iload 7, 2), o_mk [false, false, false, false, false, false, true, false] (o_il 7 52)),
  (52, (.iload_n 2, 1), o_il 2 53),
  (53, (.if_icmp .ge 31, 3), o_ic (fun x y => y ≤ x) 84 56),
  (56, (.lload 5, 2), o_ll 5 58),
  (58, (.aload_n 0, 1), o_al 0 59),
  (59, (.iload_n 1, 1), o_il 1 60),
  (60, (.iload 7, 2), o_il 7 62),
  (62, (.iadd, 1), o_bi (fun x y => x + y) 63),
  (63, (.invokevirtual 252, 3), o_cV CX5_burglars 5 1 66),
  (66, (.iload_n 3, 1), o_il 3 67),
  (67, (.if_icmp .lt 7, 3), o_ic (fun x y => x < y) 74 70),
  (70, (.lconst 1, 1), o_lc 1 71),
  (71, (.goto 4, 3), o_go 75),
  (74, (.lconst 0, 1), o_lc 0 75),
  (75, (.ladd, 1), o_bl (fun x y => x + y) 76),
  (76, (.lstore 5, 2), o_ls 5 78),
  (78, (.iinc 7 1, 3), o_inc 7 1 81),
  (81, (.goto (-31), 3), o_go 50),
  (84, (.lload 5, 2), o_ll 5 86),
  (86, (.iload_n 2, 1), o_il 2 87),
  (87, (.i2l, 1), o_tl (fun x => x.toInt64) 88),
  (88, (.iload 4, 2), o_il 4 90),
  (90, (.invokestatic 228, 3), o_cS CX5_lowest 3 93),
  (93, (.lreturn, 1), o_rl)]
abbrev CX5_odds : aC := aCl tX5_odds 8
def rmX5_odds : Room := { frames := 9, cells := 0, slots := 0, locals := 189 }
set_option maxRecDepth 100000 in
theorem dX5_odds : tX5_odds.all (fun q => decide (decode cX5_odds q.1 = .ok q.2.1)) = true := by decide +kernel
set_option maxRecDepth 100000 in
set_option maxHeartbeats 4000000 in
theorem nX5_odds (l : Launch) : aMt l yX5_odds (Cond.code yX5_odds cX5_odds 8 (some .long) :: wsL_law) rmX5_odds CX5_odds := by
  refine aMt.of (own := RX5) (cc := cX5_odds) (maxL := 8) (ret := (some .long)) (by decide +kernel) rfl rfl ?_
  intro p e s m args below meth c Qc D Z ad P G A E hX hr hlk hE
  have up : ∀ w ∈ wsL_law, w ∈ (Cond.code yX5_odds cX5_odds 8 (some .long) :: wsL_law) := fun w h => List.mem_cons_of_mem _ h
  refine aImp_all _ dX5_odds ?_
  unfold tX5_odds
  refine aI_c (fun hd => s_il_n hX hd rfl rfl) ?_
  refine aI_c (fun hd => s_ii hX hd (by decide) rfl) ?_
  refine aI_c (fun hd => s_ldc hX hd (up _ lcX5_251) rfl) ?_
  refine aI_c (fun hd => s_cS hX (nX5_in l) (wg_S up lmX5_81 loX5_in) rfl rfl rfl (by decide +kernel) ⟨by decide, by decide⟩ ⟨Nat.zero_le _, Nat.zero_le _⟩ hd rfl) ?_
  refine aI_c (fun hd => s_if_eq hX hd (by decide) rfl) ?_
  refine aI_c (fun hd => s_il_n hX hd rfl rfl) ?_
  refine aI_c (fun hd => s_ii hX hd (by decide) rfl) ?_
  refine aI_c (fun hd => s_bp hX hd (by decide) rfl) ?_
  refine aI_c (fun hd => s_cS hX (nX5_in l) (wg_S up lmX5_81 loX5_in) rfl rfl rfl (by decide +kernel) ⟨by decide, by decide⟩ ⟨Nat.zero_le _, Nat.zero_le _⟩ hd rfl) ?_
  refine aI_c (fun hd => s_if_eq hX hd (by decide) rfl) ?_
  refine aI_c (fun hd => s_il_n hX hd rfl rfl) ?_
  refine aI_c (fun hd => s_ii hX hd (by decide) rfl) ?_
  refine aI_c (fun hd => s_bp hX hd (by decide) rfl) ?_
  refine aI_c (fun hd => s_cS hX (nX5_in l) (wg_S up lmX5_81 loX5_in) rfl rfl rfl (by decide +kernel) ⟨by decide, by decide⟩ ⟨Nat.zero_le _, Nat.zero_le _⟩ hd rfl) ?_
  refine aI_c (fun hd => s_if_eq hX hd (by decide) rfl) ?_
  refine aI_c (fun hd => s_il hX hd rfl) ?_
  refine aI_c (fun hd => s_ii hX hd (by decide) rfl) ?_
  refine aI_c (fun hd => s_ii hX hd (by decide) rfl) ?_
  refine aI_c (fun hd => s_cS hX (nX5_in l) (wg_S up lmX5_81 loX5_in) rfl rfl rfl (by decide +kernel) ⟨by decide, by decide⟩ ⟨Nat.zero_le _, Nat.zero_le _⟩ hd rfl) ?_
  refine aI_c (fun hd => s_if_ne hX hd (by decide) rfl) ?_
  refine aI_c (fun hd => s_ldc2 hX hd (up _ lcX5_232) rfl) ?_
  refine aI_c (fun hd => s_rl hX hr hlk hE hd) ?_
  refine aI_c (fun hd => s_lc hX hd (by decide) rfl) ?_
  refine aI_c (fun hd => s_ls hX hd rfl (by decide)) ?_
  refine aI_c (fun hd => s_ii hX hd (by decide) rfl) ?_
  refine aI_c (fun hd => s_is hX hd rfl (by decide)) ?_
  refine aI_c (fun hd => s_mk (s_il hX hd rfl)) ?_
  refine aI_c (fun hd => s_il_n hX hd rfl rfl) ?_
  refine aI_c (fun hd => s_ic_ge hX hd (by decide) rfl) ?_
  refine aI_c (fun hd => s_ll hX hd rfl) ?_
  refine aI_c (fun hd => s_al_n hX hd rfl rfl) ?_
  refine aI_c (fun hd => s_il_n hX hd rfl rfl) ?_
  refine aI_c (fun hd => s_il hX hd rfl) ?_
  refine aI_c (fun hd => s_iadd hX hd rfl) ?_
  refine aI_c (fun hd => s_cV hX (T := TX5) (N := 35) (nX5_burglars l) rfl (wg_V up lmX5_252 loX5_burglars) rfl rfl rfl (by decide +kernel) ⟨by decide, by decide⟩ ⟨Nat.zero_le _, Nat.zero_le _⟩ hd rfl) ?_
  refine aI_c (fun hd => s_il_n hX hd rfl rfl) ?_
  refine aI_c (fun hd => s_ic_lt hX hd (by decide) rfl) ?_
  refine aI_c (fun hd => s_lc hX hd (by decide) rfl) ?_
  refine aI_c (fun hd => s_go hX hd (by decide)) ?_
  refine aI_c (fun hd => s_lc hX hd (by decide) rfl) ?_
  refine aI_c (fun hd => s_ladd hX hd rfl) ?_
  refine aI_c (fun hd => s_ls hX hd rfl (by decide)) ?_
  refine aI_c (fun hd => s_inc hX hd (by decide) rfl (by decide)) ?_
  refine aI_c (fun hd => s_go hX hd (by decide)) ?_
  refine aI_c (fun hd => s_ll hX hd rfl) ?_
  refine aI_c (fun hd => s_il_n hX hd rfl rfl) ?_
  refine aI_c (fun hd => s_i2l hX hd rfl) ?_
  refine aI_c (fun hd => s_il hX hd rfl) ?_
  refine aI_c (fun hd => s_cS hX (nX5_lowest l) (wg_S up lmX5_228 loX5_lowest) rfl rfl rfl (by decide +kernel) ⟨by decide, by decide⟩ ⟨Nat.zero_le _, Nat.zero_le _⟩ hd rfl) ?_
  refine aI_c (fun hd => s_rl hX hr hlk hE hd) ?_
  exact trivial

-- JudgesByLossModel.image()I
def tX5_image : aT := [
  (0, (.aload_n 0, 1), o_al 0 1),
  (1, (.iconst 1, 1), o_ii 1 2),
  (2, (.putfield 255, 3), o_pZ 5 13 5),
  (5, (.iconst 0, 1), o_ii 0 6),
  (6, (.istore_n 1, 1), o_is 1 7),
  (7, (.iload_n 1, 1), o_il 1 8),
  (8, (.bipush 18, 2), o_ii 18 10),
  (10, (.if_icmp .ge 21, 3), o_ic (fun x y => y ≤ x) 31 13),
  (13, (.aload_n 0, 1), o_al 0 14),
  (14, (.getfield 31, 3), o_gF 5 8 17),
  (17, (.iload_n 1, 1), o_il 1 18),
  (18, (.aload_n 0, 1), o_al 0 19),
  (19, (.getfield 16, 3), o_gF 5 3 22),
  (22, (.iload_n 1, 1), o_il 1 23),
  (23, (.iaload, 1), o_iald 24),
  (24, (.iastore, 1), o_iast 25),
  (25, (.iinc 1 1, 3), o_inc 1 1 28),
  (28, (.goto (-21), 3), o_go 7),
  (31, (.iconst 0, 1), o_ii 0 32),
  (32, (.istore_n 1, 1), o_is 1 33),
  (33, (.iload_n 1, 1), o_il 1 34),
  (34, (.bipush 24, 2), o_ii 24 36),
  (36, (.if_icmp .ge 24, 3), o_ic (fun x y => y ≤ x) 60 39),
  (39, (.aload_n 0, 1), o_al 0 40),
  (40, (.getfield 31, 3), o_gF 5 8 43),
  (43, (.bipush 18, 2), o_ii 18 45),
  (45, (.iload_n 1, 1), o_il 1 46),
  (46, (.iadd, 1), o_bi (fun x y => x + y) 47),
  (47, (.aload_n 0, 1), o_al 0 48),
  (48, (.getfield 19, 3), o_gF 5 4 51),
  (51, (.iload_n 1, 1), o_il 1 52),
  (52, (.iaload, 1), o_iald 53),
  (53, (.iastore, 1), o_iast 54),
  (54, (.iinc 1 1, 3), o_inc 1 1 57),
  (57, (.goto (-24), 3), o_go 33),
  (60, (.aload_n 0, 1), o_al 0 61),
  (61, (.getfield 34, 3), o_gF 5 9 64),
  (64, (.iconst 0, 1), o_ii 0 65),
  (65, (.aload_n 0, 1), o_al 0 66),
  (66, (.getfield 78, 3), o_gI 5 0 69),
  (69, (.iastore, 1), o_iast 70),
  (70, (.aload_n 0, 1), o_al 0 71),
  (71, (.getfield 34, 3), o_gF 5 9 74),
  (74, (.iconst 1, 1), o_ii 1 75),
  (75, (.aload_n 0, 1), o_al 0 76),
  (76, (.getfield 109, 3), o_gI 5 5 79),
  (79, (.iastore, 1), o_iast 80),
  (80, (.aload_n 0, 1), o_al 0 81),
  (81, (.getfield 34, 3), o_gF 5 9 84),
  (84, (.iconst 2, 1), o_ii 2 85),
  (85, (.aload_n 0, 1), o_al 0 86),
  (86, (.getfield 100, 3), o_gI 5 6 89),
  (89, (.iastore, 1), o_iast 90),
  (90, (.aload_n 0, 1), o_al 0 91),
  (91, (.getfield 34, 3), o_gF 5 9 94),
  (94, (.iconst 3, 1), o_ii 3 95),
  (95, (.aload_n 0, 1), o_al 0 96),
  (96, (.getfield 106, 3), o_gI 5 12 99),
  (99, (.iastore, 1), o_iast 100),
  (100, (.aload_n 0, 1), o_al 0 101),
  (101, (.getfield 78, 3), o_gI 5 0 104),
  (104, (.ireturn, 1), o_ri)]
abbrev CX5_image : aC := aCl tX5_image 2
def rmX5_image : Room := { frames := 1, cells := 0, slots := 0, locals := 1 }
set_option maxRecDepth 100000 in
theorem dX5_image : tX5_image.all (fun q => decide (decode cX5_image q.1 = .ok q.2.1)) = true := by decide +kernel
set_option maxRecDepth 100000 in
set_option maxHeartbeats 4000000 in
theorem nX5_image (l : Launch) : aMt l yX5_image (Cond.code yX5_image cX5_image 2 (some .int) :: wsL_law) rmX5_image CX5_image := by
  refine aMt.of (own := RX5) (cc := cX5_image) (maxL := 2) (ret := (some .int)) (by decide +kernel) rfl rfl ?_
  intro p e s m args below meth c Qc D Z ad P G A E hX hr hlk hE
  have up : ∀ w ∈ wsL_law, w ∈ (Cond.code yX5_image cX5_image 2 (some .int) :: wsL_law) := fun w h => List.mem_cons_of_mem _ h
  refine aImp_all _ dX5_image ?_
  unfold tX5_image
  refine aI_c (fun hd => s_al_n hX hd rfl rfl) ?_
  refine aI_c (fun hd => s_ii hX hd (by decide) rfl) ?_
  refine aI_c (fun hd => s_pZ hX (C := RX5) (T := TX5) (N := 35) (k := 13) rfl (fun w h => up w (inlX5 w h)) (by decide) rfl rfl tyX5 tyX5_ok nmX5 rfl rfl rfl (up _ lkX5_255) hd rfl) ?_
  refine aI_c (fun hd => s_ii hX hd (by decide) rfl) ?_
  refine aI_c (fun hd => s_is_n hX hd rfl rfl (by decide)) ?_
  refine aI_c (fun hd => s_il_n hX hd rfl rfl) ?_
  refine aI_c (fun hd => s_bp hX hd (by decide) rfl) ?_
  refine aI_c (fun hd => s_ic_ge hX hd (by decide) rfl) ?_
  refine aI_c (fun hd => s_al_n hX hd rfl rfl) ?_
  refine aI_c (fun hd => s_gF hX (C := RX5) (T := TX5) (N := 35) (k := 14) rfl (fun w h => up w (inlX5 w h)) (by decide) rfl rfl rfl (up _ lkX5_31) hd rfl) ?_
  refine aI_c (fun hd => s_il_n hX hd rfl rfl) ?_
  refine aI_c (fun hd => s_al_n hX hd rfl rfl) ?_
  refine aI_c (fun hd => s_gF hX (C := RX5) (T := TX5) (N := 35) (k := 3) rfl (fun w h => up w (inlX5 w h)) (by decide) rfl rfl rfl (up _ lkX5_16) hd rfl) ?_
  refine aI_c (fun hd => s_il_n hX hd rfl rfl) ?_
  refine aI_c (fun hd => s_iald hX hd rfl) ?_
  refine aI_c (fun hd => s_iast hX hd rfl) ?_
  refine aI_c (fun hd => s_inc hX hd (by decide) rfl (by decide)) ?_
  refine aI_c (fun hd => s_go hX hd (by decide)) ?_
  refine aI_c (fun hd => s_ii hX hd (by decide) rfl) ?_
  refine aI_c (fun hd => s_is_n hX hd rfl rfl (by decide)) ?_
  refine aI_c (fun hd => s_il_n hX hd rfl rfl) ?_
  refine aI_c (fun hd => s_bp hX hd (by decide) rfl) ?_
  refine aI_c (fun hd => s_ic_ge hX hd (by decide) rfl) ?_
  refine aI_c (fun hd => s_al_n hX hd rfl rfl) ?_
  refine aI_c (fun hd => s_gF hX (C := RX5) (T := TX5) (N := 35) (k := 14) rfl (fun w h => up w (inlX5 w h)) (by decide) rfl rfl rfl (up _ lkX5_31) hd rfl) ?_
  refine aI_c (fun hd => s_bp hX hd (by decide) rfl) ?_
  refine aI_c (fun hd => s_il_n hX hd rfl rfl) ?_
  refine aI_c (fun hd => s_iadd hX hd rfl) ?_
  refine aI_c (fun hd => s_al_n hX hd rfl rfl) ?_
  refine aI_c (fun hd => s_gF hX (C := RX5) (T := TX5) (N := 35) (k := 4) rfl (fun w h => up w (inlX5 w h)) (by decide) rfl rfl rfl (up _ lkX5_19) hd rfl) ?_
  refine aI_c (fun hd => s_il_n hX hd rfl rfl) ?_
  refine aI_c (fun hd => s_iald hX hd rfl) ?_
  refine aI_c (fun hd => s_iast hX hd rfl) ?_
  refine aI_c (fun hd => s_inc hX hd (by decide) rfl (by decide)) ?_
  refine aI_c (fun hd => s_go hX hd (by decide)) ?_
  refine aI_c (fun hd => s_al_n hX hd rfl rfl) ?_
  refine aI_c (fun hd => s_gF hX (C := RX5) (T := TX5) (N := 35) (k := 15) rfl (fun w h => up w (inlX5 w h)) (by decide) rfl rfl rfl (up _ lkX5_34) hd rfl) ?_
  refine aI_c (fun hd => s_ii hX hd (by decide) rfl) ?_
  refine aI_c (fun hd => s_al_n hX hd rfl rfl) ?_
  refine aI_c (fun hd => s_gI hX (C := RX5) (T := TX5) (N := 35) (k := 0) rfl (fun w h => up w (inlX5 w h)) (by decide) rfl rfl rfl (up _ lkX5_78) hd rfl) ?_
  refine aI_c (fun hd => s_iast hX hd rfl) ?_
  refine aI_c (fun hd => s_al_n hX hd rfl rfl) ?_
  refine aI_c (fun hd => s_gF hX (C := RX5) (T := TX5) (N := 35) (k := 15) rfl (fun w h => up w (inlX5 w h)) (by decide) rfl rfl rfl (up _ lkX5_34) hd rfl) ?_
  refine aI_c (fun hd => s_ii hX hd (by decide) rfl) ?_
  refine aI_c (fun hd => s_al_n hX hd rfl rfl) ?_
  refine aI_c (fun hd => s_gI hX (C := RX5) (T := TX5) (N := 35) (k := 5) rfl (fun w h => up w (inlX5 w h)) (by decide) rfl rfl rfl (up _ lkX5_109) hd rfl) ?_
  refine aI_c (fun hd => s_iast hX hd rfl) ?_
  refine aI_c (fun hd => s_al_n hX hd rfl rfl) ?_
  refine aI_c (fun hd => s_gF hX (C := RX5) (T := TX5) (N := 35) (k := 15) rfl (fun w h => up w (inlX5 w h)) (by decide) rfl rfl rfl (up _ lkX5_34) hd rfl) ?_
  refine aI_c (fun hd => s_ii hX hd (by decide) rfl) ?_
  refine aI_c (fun hd => s_al_n hX hd rfl rfl) ?_
  refine aI_c (fun hd => s_gI hX (C := RX5) (T := TX5) (N := 35) (k := 6) rfl (fun w h => up w (inlX5 w h)) (by decide) rfl rfl rfl (up _ lkX5_100) hd rfl) ?_
  refine aI_c (fun hd => s_iast hX hd rfl) ?_
  refine aI_c (fun hd => s_al_n hX hd rfl rfl) ?_
  refine aI_c (fun hd => s_gF hX (C := RX5) (T := TX5) (N := 35) (k := 15) rfl (fun w h => up w (inlX5 w h)) (by decide) rfl rfl rfl (up _ lkX5_34) hd rfl) ?_
  refine aI_c (fun hd => s_ii hX hd (by decide) rfl) ?_
  refine aI_c (fun hd => s_al_n hX hd rfl rfl) ?_
  refine aI_c (fun hd => s_gI hX (C := RX5) (T := TX5) (N := 35) (k := 12) rfl (fun w h => up w (inlX5 w h)) (by decide) rfl rfl rfl (up _ lkX5_106) hd rfl) ?_
  refine aI_c (fun hd => s_iast hX hd rfl) ?_
  refine aI_c (fun hd => s_al_n hX hd rfl rfl) ?_
  refine aI_c (fun hd => s_gI hX (C := RX5) (T := TX5) (N := 35) (k := 0) rfl (fun w h => up w (inlX5 w h)) (by decide) rfl rfl rfl (up _ lkX5_78) hd rfl) ?_
  refine aI_c (fun hd => s_ri hX hr hlk hE hd) ?_
  exact trivial

-- JudgesByLossModel.back()I
def tX5_back : aT := [
  (0, (.aload_n 0, 1), o_al 0 1),
  (1, (.getfield 255, 3), o_gI 5 13 4),
  (4, (.ifCond .ne 6, 3), o_if (fun x => ¬ x = 0) 10 7),
  (7, (.bipush (-3), 2), o_ii (-3) 9),
  (9, (.ireturn, 1), o_ri),
  (10, (.iconst 0, 1), o_ii 0 11),
  (11, (.istore_n 1, 1), o_is 1 12),
  (12, (.iload_n 1, 1), o_il 1 13),
  (13, (.bipush 18, 2), o_ii 18 15),
  (15, (.if_icmp .ge 21, 3), o_ic (fun x y => y ≤ x) 36 18),
  (18, (.aload_n 0, 1), o_al 0 19),
  (19, (.getfield 16, 3), o_gF 5 3 22),
  (22, (.iload_n 1, 1), o_il 1 23),
  (23, (.aload_n 0, 1), o_al 0 24),
  (24, (.getfield 31, 3), o_gF 5 8 27),
  (27, (.iload_n 1, 1), o_il 1 28),
  (28, (.iaload, 1), o_iald 29),
  (29, (.iastore, 1), o_iast 30),
  (30, (.iinc 1 1, 3), o_inc 1 1 33),
  (33, (.goto (-21), 3), o_go 12),
  (36, (.iconst 0, 1), o_ii 0 37),
  (37, (.istore_n 1, 1), o_is 1 38),
  (38, (.iload_n 1, 1), o_il 1 39),
  (39, (.bipush 24, 2), o_ii 24 41),
  (41, (.if_icmp .ge 24, 3), o_ic (fun x y => y ≤ x) 65 44),
  (44, (.aload_n 0, 1), o_al 0 45),
  (45, (.getfield 19, 3), o_gF 5 4 48),
  (48, (.iload_n 1, 1), o_il 1 49),
  (49, (.aload_n 0, 1), o_al 0 50),
  (50, (.getfield 31, 3), o_gF 5 8 53),
  (53, (.bipush 18, 2), o_ii 18 55),
  (55, (.iload_n 1, 1), o_il 1 56),
  (56, (.iadd, 1), o_bi (fun x y => x + y) 57),
  (57, (.iaload, 1), o_iald 58),
  (58, (.iastore, 1), o_iast 59),
  (59, (.iinc 1 1, 3), o_inc 1 1 62),
  (62, (.goto (-24), 3), o_go 38),
  (65, (.aload_n 0, 1), o_al 0 66),
  (66, (.aload_n 0, 1), o_al 0 67),
  (67, (.getfield 34, 3), o_gF 5 9 70),
  (70, (.iconst 0, 1), o_ii 0 71),
  (71, (.iaload, 1), o_iald 72),
  (72, (.putfield 78, 3), o_pI 5 0 75),
  (75, (.aload_n 0, 1), o_al 0 76),
  (76, (.aload_n 0, 1), o_al 0 77),
  (77, (.getfield 34, 3), o_gF 5 9 80),
  (80, (.iconst 1, 1), o_ii 1 81),
  (81, (.iaload, 1), o_iald 82),
  (82, (.putfield 109, 3), o_pI 5 5 85),
  (85, (.aload_n 0, 1), o_al 0 86),
  (86, (.aload_n 0, 1), o_al 0 87),
  (87, (.getfield 34, 3), o_gF 5 9 90),
  (90, (.iconst 2, 1), o_ii 2 91),
  (91, (.iaload, 1), o_iald 92),
  (92, (.putfield 100, 3), o_pI 5 6 95),
  (95, (.aload_n 0, 1), o_al 0 96),
  (96, (.aload_n 0, 1), o_al 0 97),
  (97, (.getfield 34, 3), o_gF 5 9 100),
  (100, (.iconst 3, 1), o_ii 3 101),
  (101, (.iaload, 1), o_iald 102),
  (102, (.putfield 106, 3), o_pI 5 12 105),
  (105, (.aload_n 0, 1), o_al 0 106),
  (106, (.getfield 78, 3), o_gI 5 0 109),
  (109, (.ireturn, 1), o_ri)]
abbrev CX5_back : aC := aCl tX5_back 2
def rmX5_back : Room := { frames := 1, cells := 0, slots := 0, locals := 1 }
set_option maxRecDepth 100000 in
theorem dX5_back : tX5_back.all (fun q => decide (decode cX5_back q.1 = .ok q.2.1)) = true := by decide +kernel
set_option maxRecDepth 100000 in
set_option maxHeartbeats 4000000 in
theorem nX5_back (l : Launch) : aMt l yX5_back (Cond.code yX5_back cX5_back 2 (some .int) :: wsL_law) rmX5_back CX5_back := by
  refine aMt.of (own := RX5) (cc := cX5_back) (maxL := 2) (ret := (some .int)) (by decide +kernel) rfl rfl ?_
  intro p e s m args below meth c Qc D Z ad P G A E hX hr hlk hE
  have up : ∀ w ∈ wsL_law, w ∈ (Cond.code yX5_back cX5_back 2 (some .int) :: wsL_law) := fun w h => List.mem_cons_of_mem _ h
  refine aImp_all _ dX5_back ?_
  unfold tX5_back
  refine aI_c (fun hd => s_al_n hX hd rfl rfl) ?_
  refine aI_c (fun hd => s_gI hX (C := RX5) (T := TX5) (N := 35) (k := 13) rfl (fun w h => up w (inlX5 w h)) (by decide) rfl rfl rfl (up _ lkX5_255) hd rfl) ?_
  refine aI_c (fun hd => s_if_ne hX hd (by decide) rfl) ?_
  refine aI_c (fun hd => s_bp hX hd (by decide) rfl) ?_
  refine aI_c (fun hd => s_ri hX hr hlk hE hd) ?_
  refine aI_c (fun hd => s_ii hX hd (by decide) rfl) ?_
  refine aI_c (fun hd => s_is_n hX hd rfl rfl (by decide)) ?_
  refine aI_c (fun hd => s_il_n hX hd rfl rfl) ?_
  refine aI_c (fun hd => s_bp hX hd (by decide) rfl) ?_
  refine aI_c (fun hd => s_ic_ge hX hd (by decide) rfl) ?_
  refine aI_c (fun hd => s_al_n hX hd rfl rfl) ?_
  refine aI_c (fun hd => s_gF hX (C := RX5) (T := TX5) (N := 35) (k := 3) rfl (fun w h => up w (inlX5 w h)) (by decide) rfl rfl rfl (up _ lkX5_16) hd rfl) ?_
  refine aI_c (fun hd => s_il_n hX hd rfl rfl) ?_
  refine aI_c (fun hd => s_al_n hX hd rfl rfl) ?_
  refine aI_c (fun hd => s_gF hX (C := RX5) (T := TX5) (N := 35) (k := 14) rfl (fun w h => up w (inlX5 w h)) (by decide) rfl rfl rfl (up _ lkX5_31) hd rfl) ?_
  refine aI_c (fun hd => s_il_n hX hd rfl rfl) ?_
  refine aI_c (fun hd => s_iald hX hd rfl) ?_
  refine aI_c (fun hd => s_iast hX hd rfl) ?_
  refine aI_c (fun hd => s_inc hX hd (by decide) rfl (by decide)) ?_
  refine aI_c (fun hd => s_go hX hd (by decide)) ?_
  refine aI_c (fun hd => s_ii hX hd (by decide) rfl) ?_
  refine aI_c (fun hd => s_is_n hX hd rfl rfl (by decide)) ?_
  refine aI_c (fun hd => s_il_n hX hd rfl rfl) ?_
  refine aI_c (fun hd => s_bp hX hd (by decide) rfl) ?_
  refine aI_c (fun hd => s_ic_ge hX hd (by decide) rfl) ?_
  refine aI_c (fun hd => s_al_n hX hd rfl rfl) ?_
  refine aI_c (fun hd => s_gF hX (C := RX5) (T := TX5) (N := 35) (k := 4) rfl (fun w h => up w (inlX5 w h)) (by decide) rfl rfl rfl (up _ lkX5_19) hd rfl) ?_
  refine aI_c (fun hd => s_il_n hX hd rfl rfl) ?_
  refine aI_c (fun hd => s_al_n hX hd rfl rfl) ?_
  refine aI_c (fun hd => s_gF hX (C := RX5) (T := TX5) (N := 35) (k := 14) rfl (fun w h => up w (inlX5 w h)) (by decide) rfl rfl rfl (up _ lkX5_31) hd rfl) ?_
  refine aI_c (fun hd => s_bp hX hd (by decide) rfl) ?_
  refine aI_c (fun hd => s_il_n hX hd rfl rfl) ?_
  refine aI_c (fun hd => s_iadd hX hd rfl) ?_
  refine aI_c (fun hd => s_iald hX hd rfl) ?_
  refine aI_c (fun hd => s_iast hX hd rfl) ?_
  refine aI_c (fun hd => s_inc hX hd (by decide) rfl (by decide)) ?_
  refine aI_c (fun hd => s_go hX hd (by decide)) ?_
  refine aI_c (fun hd => s_al_n hX hd rfl rfl) ?_
  refine aI_c (fun hd => s_al_n hX hd rfl rfl) ?_
  refine aI_c (fun hd => s_gF hX (C := RX5) (T := TX5) (N := 35) (k := 15) rfl (fun w h => up w (inlX5 w h)) (by decide) rfl rfl rfl (up _ lkX5_34) hd rfl) ?_
  refine aI_c (fun hd => s_ii hX hd (by decide) rfl) ?_
  refine aI_c (fun hd => s_iald hX hd rfl) ?_
  refine aI_c (fun hd => s_pI hX (C := RX5) (T := TX5) (N := 35) (k := 0) rfl (fun w h => up w (inlX5 w h)) (by decide) rfl rfl tyX5 tyX5_ok nmX5 rfl rfl rfl (up _ lkX5_78) hd rfl) ?_
  refine aI_c (fun hd => s_al_n hX hd rfl rfl) ?_
  refine aI_c (fun hd => s_al_n hX hd rfl rfl) ?_
  refine aI_c (fun hd => s_gF hX (C := RX5) (T := TX5) (N := 35) (k := 15) rfl (fun w h => up w (inlX5 w h)) (by decide) rfl rfl rfl (up _ lkX5_34) hd rfl) ?_
  refine aI_c (fun hd => s_ii hX hd (by decide) rfl) ?_
  refine aI_c (fun hd => s_iald hX hd rfl) ?_
  refine aI_c (fun hd => s_pI hX (C := RX5) (T := TX5) (N := 35) (k := 5) rfl (fun w h => up w (inlX5 w h)) (by decide) rfl rfl tyX5 tyX5_ok nmX5 rfl rfl rfl (up _ lkX5_109) hd rfl) ?_
  refine aI_c (fun hd => s_al_n hX hd rfl rfl) ?_
  refine aI_c (fun hd => s_al_n hX hd rfl rfl) ?_
  refine aI_c (fun hd => s_gF hX (C := RX5) (T := TX5) (N := 35) (k := 15) rfl (fun w h => up w (inlX5 w h)) (by decide) rfl rfl rfl (up _ lkX5_34) hd rfl) ?_
  refine aI_c (fun hd => s_ii hX hd (by decide) rfl) ?_
  refine aI_c (fun hd => s_iald hX hd rfl) ?_
  refine aI_c (fun hd => s_pI hX (C := RX5) (T := TX5) (N := 35) (k := 6) rfl (fun w h => up w (inlX5 w h)) (by decide) rfl rfl tyX5 tyX5_ok nmX5 rfl rfl rfl (up _ lkX5_100) hd rfl) ?_
  refine aI_c (fun hd => s_al_n hX hd rfl rfl) ?_
  refine aI_c (fun hd => s_al_n hX hd rfl rfl) ?_
  refine aI_c (fun hd => s_gF hX (C := RX5) (T := TX5) (N := 35) (k := 15) rfl (fun w h => up w (inlX5 w h)) (by decide) rfl rfl rfl (up _ lkX5_34) hd rfl) ?_
  refine aI_c (fun hd => s_ii hX hd (by decide) rfl) ?_
  refine aI_c (fun hd => s_iald hX hd rfl) ?_
  refine aI_c (fun hd => s_pI hX (C := RX5) (T := TX5) (N := 35) (k := 12) rfl (fun w h => up w (inlX5 w h)) (by decide) rfl rfl tyX5 tyX5_ok nmX5 rfl rfl rfl (up _ lkX5_106) hd rfl) ?_
  refine aI_c (fun hd => s_al_n hX hd rfl rfl) ?_
  refine aI_c (fun hd => s_gI hX (C := RX5) (T := TX5) (N := 35) (k := 0) rfl (fun w h => up w (inlX5 w h)) (by decide) rfl rfl rfl (up _ lkX5_78) hd rfl) ?_
  refine aI_c (fun hd => s_ri hX hr hlk hE hd) ?_
  exact trivial

-- JudgesByLossModel.sheet(III)I
def tX5_sheet : aT := [
  (0, (.iload_n 1, 1), o_il 1 1),
  (1, (.iconst 0, 1), o_ii 0 2),
  (2, (.iconst 3, 1), o_ii 3 3),
  (3, (.invokestatic 81, 3), o_cS CX5_in 3 6),
  (6, (.ifCond .eq 23, 3), o_if (fun x => x = 0) 29 9),
  (9, (.iload_n 2, 1), o_il 2 10),
  (10, (.iconst (-1), 1), o_ii (-1) 11),
  (11, (.iconst 2, 1), o_ii 2 12),
  (12, (.invokestatic 81, 3), o_cS CX5_in 3 15),
  (15, (.ifCond .eq 14, 3), o_if (fun x => x = 0) 29 18),
  (18, (.iload_n 2, 1), o_il 2 19),
  (19, (.iconst (-1), 1), o_ii (-1) 20),
  (20, (.if_icmp .eq 12, 3), o_ic (fun x y => x = y) 32 23),
  (23, (.iload_n 3, 1), o_il 3 24),
  (24, (.bipush 40, 2), o_ii 40 26),
  (26, (.if_icmp .le 6, 3), o_ic (fun x y => x ≤ y) 32 29),
  (29, (.bipush (-2), 2), o_ii (-2) 31),
  (31, (.ireturn, 1), o_ri),
  (32, (.iload_n 2, 1), o_il 2 33),
  (33, (.iconst (-1), 1), o_ii (-1) 34),
  (34, (.if_icmp .eq 10, 3), o_ic (fun x y => x = y) 44 37),
  (37, (.iload_n 3, 1), o_il 3 38),
  (38, (.ifCond .ge 6, 3), o_if (fun x => 0 ≤ x) 44 41),
  (41, (.bipush (-14), 2), o_ii (-14) 43),
  (43, (.ireturn, 1), o_ri),
  (44, (.aload_n 0, 1), o_al 0 45),
  (45, (.getfield 37, 3), o_gF 5 10 48),
  (48, (.iload_n 1, 1), o_il 1 49),
  (49, (.iload_n 2, 1), o_il 2 50),
  (50, (.iastore, 1), o_iast 51),
  (51, (.aload_n 0, 1), o_al 0 52),
  (52, (.getfield 40, 3), o_gF 5 11 55),
  (55, (.iload_n 1, 1), o_il 1 56),
  (56, (.iload_n 2, 1), o_il 2 57),
  (57, (.iconst (-1), 1), o_ii (-1) 58),
  (58, (.if_icmp .ne 7, 3), o_ic (fun x y => ¬ x = y) 65 61),
  (61, (.iconst 0, 1), o_ii 0 62),
  (62, (.goto 4, 3), o_go 66),
  (65, (.iload_n 3, 1), o_il 3 66),
  (66, (.iastore, 1), o_iast 67),
  (67, (.iconst 0, 1), o_ii 0 68),
  (68, (.istore 4, 2), o_is 4 70),
  (70, (.iload 4, 2), o_mk [false, false, true, true, false] (o_il 4 72)),
  (72, (.bipush 40, 2), o_ii 40 74),
  (74, (.if_icmp .ge 22, 3), o_ic (fun x y => y ≤ x) 96 77),
  (77, (.aload_n 0, 1), o_al 0 78),
  (78, (.getfield 43, 3), o_gF 5 12 81),
  (81, (.bipush 40, 2), o_ii 40 83),
  (83, (.iload_n 1, 1), o_il 1 84),
  (84, (.imul, 1), o_bi (fun x y => x * y) 85),
  (85, (.iload 4, 2), o_il 4 87),
  (87, (.iadd, 1), o_bi (fun x y => x + y) 88),
  (88, (.iconst 0, 1), o_ii 0 89),
  (89, (.iastore, 1), o_iast 90),
  (90, (.iinc 4 1, 3), o_inc 4 1 93),
  (93, (.goto (-23), 3), o_go 70),
  (96, (.iconst 1, 1), o_ii 1 97),
  (97, (.ireturn, 1), o_ri)]
abbrev CX5_sheet : aC := aCl tX5_sheet 5
def rmX5_sheet : Room := { frames := 2, cells := 0, slots := 0, locals := 23 }
set_option maxRecDepth 100000 in
theorem dX5_sheet : tX5_sheet.all (fun q => decide (decode cX5_sheet q.1 = .ok q.2.1)) = true := by decide +kernel
set_option maxRecDepth 100000 in
set_option maxHeartbeats 4000000 in
theorem nX5_sheet (l : Launch) : aMt l yX5_sheet (Cond.code yX5_sheet cX5_sheet 5 (some .int) :: wsL_law) rmX5_sheet CX5_sheet := by
  refine aMt.of (own := RX5) (cc := cX5_sheet) (maxL := 5) (ret := (some .int)) (by decide +kernel) rfl rfl ?_
  intro p e s m args below meth c Qc D Z ad P G A E hX hr hlk hE
  have up : ∀ w ∈ wsL_law, w ∈ (Cond.code yX5_sheet cX5_sheet 5 (some .int) :: wsL_law) := fun w h => List.mem_cons_of_mem _ h
  refine aImp_all _ dX5_sheet ?_
  unfold tX5_sheet
  refine aI_c (fun hd => s_il_n hX hd rfl rfl) ?_
  refine aI_c (fun hd => s_ii hX hd (by decide) rfl) ?_
  refine aI_c (fun hd => s_ii hX hd (by decide) rfl) ?_
  refine aI_c (fun hd => s_cS hX (nX5_in l) (wg_S up lmX5_81 loX5_in) rfl rfl rfl (by decide +kernel) ⟨by decide, by decide⟩ ⟨Nat.zero_le _, Nat.zero_le _⟩ hd rfl) ?_
  refine aI_c (fun hd => s_if_eq hX hd (by decide) rfl) ?_
  refine aI_c (fun hd => s_il_n hX hd rfl rfl) ?_
  refine aI_c (fun hd => s_ii hX hd (by decide) rfl) ?_
  refine aI_c (fun hd => s_ii hX hd (by decide) rfl) ?_
  refine aI_c (fun hd => s_cS hX (nX5_in l) (wg_S up lmX5_81 loX5_in) rfl rfl rfl (by decide +kernel) ⟨by decide, by decide⟩ ⟨Nat.zero_le _, Nat.zero_le _⟩ hd rfl) ?_
  refine aI_c (fun hd => s_if_eq hX hd (by decide) rfl) ?_
  refine aI_c (fun hd => s_il_n hX hd rfl rfl) ?_
  refine aI_c (fun hd => s_ii hX hd (by decide) rfl) ?_
  refine aI_c (fun hd => s_ic_eq hX hd (by decide) rfl) ?_
  refine aI_c (fun hd => s_il_n hX hd rfl rfl) ?_
  refine aI_c (fun hd => s_bp hX hd (by decide) rfl) ?_
  refine aI_c (fun hd => s_ic_le hX hd (by decide) rfl) ?_
  refine aI_c (fun hd => s_bp hX hd (by decide) rfl) ?_
  refine aI_c (fun hd => s_ri hX hr hlk hE hd) ?_
  refine aI_c (fun hd => s_il_n hX hd rfl rfl) ?_
  refine aI_c (fun hd => s_ii hX hd (by decide) rfl) ?_
  refine aI_c (fun hd => s_ic_eq hX hd (by decide) rfl) ?_
  refine aI_c (fun hd => s_il_n hX hd rfl rfl) ?_
  refine aI_c (fun hd => s_if_ge hX hd (by decide) rfl) ?_
  refine aI_c (fun hd => s_bp hX hd (by decide) rfl) ?_
  refine aI_c (fun hd => s_ri hX hr hlk hE hd) ?_
  refine aI_c (fun hd => s_al_n hX hd rfl rfl) ?_
  refine aI_c (fun hd => s_gF hX (C := RX5) (T := TX5) (N := 35) (k := 16) rfl (fun w h => up w (inlX5 w h)) (by decide) rfl rfl rfl (up _ lkX5_37) hd rfl) ?_
  refine aI_c (fun hd => s_il_n hX hd rfl rfl) ?_
  refine aI_c (fun hd => s_il_n hX hd rfl rfl) ?_
  refine aI_c (fun hd => s_iast hX hd rfl) ?_
  refine aI_c (fun hd => s_al_n hX hd rfl rfl) ?_
  refine aI_c (fun hd => s_gF hX (C := RX5) (T := TX5) (N := 35) (k := 17) rfl (fun w h => up w (inlX5 w h)) (by decide) rfl rfl rfl (up _ lkX5_40) hd rfl) ?_
  refine aI_c (fun hd => s_il_n hX hd rfl rfl) ?_
  refine aI_c (fun hd => s_il_n hX hd rfl rfl) ?_
  refine aI_c (fun hd => s_ii hX hd (by decide) rfl) ?_
  refine aI_c (fun hd => s_ic_ne hX hd (by decide) rfl) ?_
  refine aI_c (fun hd => s_ii hX hd (by decide) rfl) ?_
  refine aI_c (fun hd => s_go hX hd (by decide)) ?_
  refine aI_c (fun hd => s_il_n hX hd rfl rfl) ?_
  refine aI_c (fun hd => s_iast hX hd rfl) ?_
  refine aI_c (fun hd => s_ii hX hd (by decide) rfl) ?_
  refine aI_c (fun hd => s_is hX hd rfl (by decide)) ?_
  refine aI_c (fun hd => s_mk (s_il hX hd rfl)) ?_
  refine aI_c (fun hd => s_bp hX hd (by decide) rfl) ?_
  refine aI_c (fun hd => s_ic_ge hX hd (by decide) rfl) ?_
  refine aI_c (fun hd => s_al_n hX hd rfl rfl) ?_
  refine aI_c (fun hd => s_gF hX (C := RX5) (T := TX5) (N := 35) (k := 18) rfl (fun w h => up w (inlX5 w h)) (by decide) rfl rfl rfl (up _ lkX5_43) hd rfl) ?_
  refine aI_c (fun hd => s_bp hX hd (by decide) rfl) ?_
  refine aI_c (fun hd => s_il_n hX hd rfl rfl) ?_
  refine aI_c (fun hd => s_imul hX hd rfl) ?_
  refine aI_c (fun hd => s_il hX hd rfl) ?_
  refine aI_c (fun hd => s_iadd hX hd rfl) ?_
  refine aI_c (fun hd => s_ii hX hd (by decide) rfl) ?_
  refine aI_c (fun hd => s_iast hX hd rfl) ?_
  refine aI_c (fun hd => s_inc hX hd (by decide) rfl (by decide)) ?_
  refine aI_c (fun hd => s_go hX hd (by decide)) ?_
  refine aI_c (fun hd => s_ii hX hd (by decide) rfl) ?_
  refine aI_c (fun hd => s_ri hX hr hlk hE hd) ?_
  exact trivial

-- JudgesByLossModel.cell(III)I
def tX5_cell : aT := [
  (0, (.iload_n 1, 1), o_il 1 1),
  (1, (.iconst 0, 1), o_ii 0 2),
  (2, (.iconst 3, 1), o_ii 3 3),
  (3, (.invokestatic 81, 3), o_cS CX5_in 3 6),
  (6, (.ifCond .ne 6, 3), o_if (fun x => ¬ x = 0) 12 9),
  (9, (.bipush (-2), 2), o_ii (-2) 11),
  (11, (.ireturn, 1), o_ri),
  (12, (.aload_n 0, 1), o_al 0 13),
  (13, (.getfield 37, 3), o_gF 5 10 16),
  (16, (.iload_n 1, 1), o_il 1 17),
  (17, (.iaload, 1), o_iald 18),
  (18, (.iconst (-1), 1), o_ii (-1) 19),
  (19, (.if_icmp .ne 6, 3), o_ic (fun x y => ¬ x = y) 25 22),
  (22, (.bipush (-11), 2), o_ii (-11) 24),
  (24, (.ireturn, 1), o_ri),
  (25, (.iload_n 2, 1), o_il 2 26),
  (26, (.iconst 0, 1), o_ii 0 27),
  (27, (.aload_n 0, 1), o_al 0 28),
  (28, (.getfield 40, 3), o_gF 5 11 31),
  (31, (.iload_n 1, 1), o_il 1 32),
  (32, (.iaload, 1), o_iald 33),
  (33, (.iconst 1, 1), o_ii 1 34),
  (34, (.isub, 1), o_bi (fun x y => x - y) 35),
  (35, (.invokestatic 81, 3), o_cS CX5_in 3 38),
  (38, (.ifCond .ne 6, 3), o_if (fun x => ¬ x = 0) 44 41),
  (41, (.bipush (-12), 2), o_ii (-12) 43),
  (43, (.ireturn, 1), o_ri),
  (44, (.aload_n 0, 1), o_al 0 45),
  (45, (.getfield 43, 3), o_gF 5 12 48),
  (48, (.bipush 40, 2), o_ii 40 50),
  (50, (.iload_n 1, 1), o_il 1 51),
  (51, (.imul, 1), o_bi (fun x y => x * y) 52),
  (52, (.iload_n 2, 1), o_il 2 53),
  (53, (.iadd, 1), o_bi (fun x y => x + y) 54),
  (54, (.aload_n 0, 1), o_al 0 55),
  (55, (.getfield 37, 3), o_gF 5 10 58),
  (58, (.iload_n 1, 1), o_il 1 59),
  (59, (.iaload, 1), o_iald 60),
  (60, (.ifCond .ne 8, 3), o_if (fun x => ¬ x = 0) 68 63),
  (63, (.iload_n 3, 1), o_il 3 64),
  (64, (.i2b, 1), o_ui (fun x => x.toInt8.toInt32) 65),
  (65, (.goto 19, 3), o_go 84),
  (68, (.aload_n 0, 1), o_al 0 69),
  (69, (.getfield 37, 3), o_gF 5 10 72),
  (72, (.iload_n 1, 1), o_il 1 73),
  (73, (.iaload, 1), o_iald 74),
  (74, (.iconst 1, 1), o_ii 1 75),
  (75, (.if_icmp .ne 8, 3), o_ic (fun x y => ¬ x = y) 83 78),
  (78, (.iload_n 3, 1), o_il 3 79),
  (79, (.i2s, 1), o_ui (fun x => x.toInt16.toInt32) 80),
  (80, (.goto 4, 3), o_go 84),
  (83, (.iload_n 3, 1), o_il 3 84),
  (84, (.iastore, 1), o_iast 85),
  (85, (.iconst 1, 1), o_ii 1 86),
  (86, (.ireturn, 1), o_ri)]
abbrev CX5_cell : aC := aCl tX5_cell 4
def rmX5_cell : Room := { frames := 2, cells := 0, slots := 0, locals := 23 }
set_option maxRecDepth 100000 in
theorem dX5_cell : tX5_cell.all (fun q => decide (decode cX5_cell q.1 = .ok q.2.1)) = true := by decide +kernel
set_option maxRecDepth 100000 in
set_option maxHeartbeats 4000000 in
theorem nX5_cell (l : Launch) : aMt l yX5_cell (Cond.code yX5_cell cX5_cell 4 (some .int) :: wsL_law) rmX5_cell CX5_cell := by
  refine aMt.of (own := RX5) (cc := cX5_cell) (maxL := 4) (ret := (some .int)) (by decide +kernel) rfl rfl ?_
  intro p e s m args below meth c Qc D Z ad P G A E hX hr hlk hE
  have up : ∀ w ∈ wsL_law, w ∈ (Cond.code yX5_cell cX5_cell 4 (some .int) :: wsL_law) := fun w h => List.mem_cons_of_mem _ h
  refine aImp_all _ dX5_cell ?_
  unfold tX5_cell
  refine aI_c (fun hd => s_il_n hX hd rfl rfl) ?_
  refine aI_c (fun hd => s_ii hX hd (by decide) rfl) ?_
  refine aI_c (fun hd => s_ii hX hd (by decide) rfl) ?_
  refine aI_c (fun hd => s_cS hX (nX5_in l) (wg_S up lmX5_81 loX5_in) rfl rfl rfl (by decide +kernel) ⟨by decide, by decide⟩ ⟨Nat.zero_le _, Nat.zero_le _⟩ hd rfl) ?_
  refine aI_c (fun hd => s_if_ne hX hd (by decide) rfl) ?_
  refine aI_c (fun hd => s_bp hX hd (by decide) rfl) ?_
  refine aI_c (fun hd => s_ri hX hr hlk hE hd) ?_
  refine aI_c (fun hd => s_al_n hX hd rfl rfl) ?_
  refine aI_c (fun hd => s_gF hX (C := RX5) (T := TX5) (N := 35) (k := 16) rfl (fun w h => up w (inlX5 w h)) (by decide) rfl rfl rfl (up _ lkX5_37) hd rfl) ?_
  refine aI_c (fun hd => s_il_n hX hd rfl rfl) ?_
  refine aI_c (fun hd => s_iald hX hd rfl) ?_
  refine aI_c (fun hd => s_ii hX hd (by decide) rfl) ?_
  refine aI_c (fun hd => s_ic_ne hX hd (by decide) rfl) ?_
  refine aI_c (fun hd => s_bp hX hd (by decide) rfl) ?_
  refine aI_c (fun hd => s_ri hX hr hlk hE hd) ?_
  refine aI_c (fun hd => s_il_n hX hd rfl rfl) ?_
  refine aI_c (fun hd => s_ii hX hd (by decide) rfl) ?_
  refine aI_c (fun hd => s_al_n hX hd rfl rfl) ?_
  refine aI_c (fun hd => s_gF hX (C := RX5) (T := TX5) (N := 35) (k := 17) rfl (fun w h => up w (inlX5 w h)) (by decide) rfl rfl rfl (up _ lkX5_40) hd rfl) ?_
  refine aI_c (fun hd => s_il_n hX hd rfl rfl) ?_
  refine aI_c (fun hd => s_iald hX hd rfl) ?_
  refine aI_c (fun hd => s_ii hX hd (by decide) rfl) ?_
  refine aI_c (fun hd => s_isub hX hd rfl) ?_
  refine aI_c (fun hd => s_cS hX (nX5_in l) (wg_S up lmX5_81 loX5_in) rfl rfl rfl (by decide +kernel) ⟨by decide, by decide⟩ ⟨Nat.zero_le _, Nat.zero_le _⟩ hd rfl) ?_
  refine aI_c (fun hd => s_if_ne hX hd (by decide) rfl) ?_
  refine aI_c (fun hd => s_bp hX hd (by decide) rfl) ?_
  refine aI_c (fun hd => s_ri hX hr hlk hE hd) ?_
  refine aI_c (fun hd => s_al_n hX hd rfl rfl) ?_
  refine aI_c (fun hd => s_gF hX (C := RX5) (T := TX5) (N := 35) (k := 18) rfl (fun w h => up w (inlX5 w h)) (by decide) rfl rfl rfl (up _ lkX5_43) hd rfl) ?_
  refine aI_c (fun hd => s_bp hX hd (by decide) rfl) ?_
  refine aI_c (fun hd => s_il_n hX hd rfl rfl) ?_
  refine aI_c (fun hd => s_imul hX hd rfl) ?_
  refine aI_c (fun hd => s_il_n hX hd rfl rfl) ?_
  refine aI_c (fun hd => s_iadd hX hd rfl) ?_
  refine aI_c (fun hd => s_al_n hX hd rfl rfl) ?_
  refine aI_c (fun hd => s_gF hX (C := RX5) (T := TX5) (N := 35) (k := 16) rfl (fun w h => up w (inlX5 w h)) (by decide) rfl rfl rfl (up _ lkX5_37) hd rfl) ?_
  refine aI_c (fun hd => s_il_n hX hd rfl rfl) ?_
  refine aI_c (fun hd => s_iald hX hd rfl) ?_
  refine aI_c (fun hd => s_if_ne hX hd (by decide) rfl) ?_
  refine aI_c (fun hd => s_il_n hX hd rfl rfl) ?_
  refine aI_c (fun hd => s_i2b hX hd rfl) ?_
  refine aI_c (fun hd => s_go hX hd (by decide)) ?_
  refine aI_c (fun hd => s_al_n hX hd rfl rfl) ?_
  refine aI_c (fun hd => s_gF hX (C := RX5) (T := TX5) (N := 35) (k := 16) rfl (fun w h => up w (inlX5 w h)) (by decide) rfl rfl rfl (up _ lkX5_37) hd rfl) ?_
  refine aI_c (fun hd => s_il_n hX hd rfl rfl) ?_
  refine aI_c (fun hd => s_iald hX hd rfl) ?_
  refine aI_c (fun hd => s_ii hX hd (by decide) rfl) ?_
  refine aI_c (fun hd => s_ic_ne hX hd (by decide) rfl) ?_
  refine aI_c (fun hd => s_il_n hX hd rfl rfl) ?_
  refine aI_c (fun hd => s_i2s hX hd rfl) ?_
  refine aI_c (fun hd => s_go hX hd (by decide)) ?_
  refine aI_c (fun hd => s_il_n hX hd rfl rfl) ?_
  refine aI_c (fun hd => s_iast hX hd rfl) ?_
  refine aI_c (fun hd => s_ii hX hd (by decide) rfl) ?_
  refine aI_c (fun hd => s_ri hX hr hlk hE hd) ?_
  exact trivial

-- JudgesByLossModel.copy(IIIII)I
def tX5_copy : aT := [
  (0, (.iload_n 1, 1), o_il 1 1),
  (1, (.iconst 0, 1), o_ii 0 2),
  (2, (.iconst 3, 1), o_ii 3 3),
  (3, (.invokestatic 81, 3), o_cS CX5_in 3 6),
  (6, (.ifCond .eq 12, 3), o_if (fun x => x = 0) 18 9),
  (9, (.iload_n 3, 1), o_il 3 10),
  (10, (.iconst 0, 1), o_ii 0 11),
  (11, (.iconst 3, 1), o_ii 3 12),
  (12, (.invokestatic 81, 3), o_cS CX5_in 3 15),
  (15, (.ifCond .ne 6, 3), o_if (fun x => ¬ x = 0) 21 18),
  (18, (.bipush (-2), 2), o_ii (-2) 20),
  (20, (.ireturn, 1), o_ri),
  (21, (.aload_n 0, 1), o_al 0 22),
  (22, (.getfield 37, 3), o_gF 5 10 25),
  (25, (.iload_n 1, 1), o_il 1 26),
  (26, (.iaload, 1), o_iald 27),
  (27, (.iconst (-1), 1), o_ii (-1) 28),
  (28, (.if_icmp .eq 13, 3), o_ic (fun x y => x = y) 41 31),
  (31, (.aload_n 0, 1), o_al 0 32),
  (32, (.getfield 37, 3), o_gF 5 10 35),
  (35, (.iload_n 3, 1), o_il 3 36),
  (36, (.iaload, 1), o_iald 37),
  (37, (.iconst (-1), 1), o_ii (-1) 38),
  (38, (.if_icmp .ne 6, 3), o_ic (fun x y => ¬ x = y) 44 41),
  (41, (.bipush (-11), 2), o_ii (-11) 43),
  (43, (.ireturn, 1), o_ri),
  (44, (.aload_n 0, 1), o_al 0 45),
  (45, (.getfield 37, 3), o_gF 5 10 48),
  (48, (.iload_n 1, 1), o_il 1 49),
  (49, (.iaload, 1), o_iald 50),
  (50, (.aload_n 0, 1), o_al 0 51),
  (51, (.getfield 37, 3), o_gF 5 10 54),
  (54, (.iload_n 3, 1), o_il 3 55),
  (55, (.iaload, 1), o_iald 56),
  (56, (.if_icmp .eq 6, 3), o_ic (fun x y => x = y) 62 59),
  (59, (.bipush (-13), 2), o_ii (-13) 61),
  (61, (.ireturn, 1), o_ri),
  (62, (.iload 5, 2), o_il 5 64),
  (64, (.ifCond .lt 60, 3), o_if (fun x => x < 0) 124 67),
  (67, (.iload_n 2, 1), o_il 2 68),
  (68, (.ifCond .lt 56, 3), o_if (fun x => x < 0) 124 71),
  (71, (.iload 4, 2), o_il 4 73),
  (73, (.ifCond .lt 51, 3), o_if (fun x => x < 0) 124 76),
  (76, (.iload_n 2, 1), o_il 2 77),
  (77, (.aload_n 0, 1), o_al 0 78),
  (78, (.getfield 40, 3), o_gF 5 11 81),
  (81, (.iload_n 1, 1), o_il 1 82),
  (82, (.iaload, 1), o_iald 83),
  (83, (.if_icmp .gt 41, 3), o_ic (fun x y => y < x) 124 86),
  (86, (.iload 4, 2), o_il 4 88),
  (88, (.aload_n 0, 1), o_al 0 89),
  (89, (.getfield 40, 3), o_gF 5 11 92),
  (92, (.iload_n 3, 1), o_il 3 93),
  (93, (.iaload, 1), o_iald 94),
  (94, (.if_icmp .gt 30, 3), o_ic (fun x y => y < x) 124 97),
  (97, (.iload 5, 2), o_il 5 99),
  (99, (.aload_n 0, 1), o_al 0 100),
  (100, (.getfield 40, 3), o_gF 5 11 103),
  (103, (.iload_n 1, 1), o_il 1 104),
  (104, (.iaload, 1), o_iald 105),
  (105, (.iload_n 2, 1), o_il 2 106),
  (106, (.isub, 1), o_bi (fun x y => x - y) 107),
  (107, (.if_icmp .gt 17, 3), o_ic (fun x y => y < x) 124 110),
  (110, (.iload 5, 2), o_il 5 112),
  (112, (.aload_n 0, 1), o_al 0 113),
  (113, (.getfield 40, 3), o_gF 5 11 116),
  (116, (.iload_n 3, 1), o_il 3 117),
  (117, (.iaload, 1), o_iald 118),
  (118, (.iload 4, 2), o_il 4 120),
  (120, (.isub, 1), o_bi (fun x y => x - y) 121),
  (121, (.if_icmp .le 6, 3), o_ic (fun x y => x ≤ y) 127 124),
  (124, (.bipush (-12), 2), o_ii (-12) 126),
  (126, (.ireturn, 1), o_ri),
  (127, (.bipush 40, 2), o_ii 40 129),
  (129, (.iload_n 1, 1), o_il 1 130),
  (130, (.imul, 1), o_bi (fun x y => x * y) 131),
  (131, (.iload_n 2, 1), o_il 2 132),
  (132, (.iadd, 1), o_bi (fun x y => x + y) 133),
  (133, (.istore 6, 2), o_is 6 135),
  (135, (.bipush 40, 2), o_ii 40 137),
  (137, (.iload_n 3, 1), o_il 3 138),
  (138, (.imul, 1), o_bi (fun x y => x * y) 139),
  (139, (.iload 4, 2), o_il 4 141),
  (141, (.iadd, 1), o_bi (fun x y => x + y) 142),
  (142, (.istore 7, 2), o_is 7 144),
  (144, (.iconst 0, 1), o_ii 0 145),
  (145, (.istore 8, 2), o_is 8 147),
  (147, (.iload 8, 2), o_mk [false, true, true, true, true, false, false, false, false, true] (o_il 8 149)),
  (149, (.iload 5, 2), o_il 5 151),
  (151, (.if_icmp .ge 50, 3), o_ic (fun x y => y ≤ x) 201 154),
  (154, (.iload 6, 2), o_il 6 156),
  (156, (.iload 7, 2), o_il 7 158),
  (158, (.if_icmp .ge 13, 3), o_ic (fun x y => y ≤ x) 171 161),
  (161, (.iload 5, 2), o_il 5 163),
  (163, (.iconst 1, 1), o_ii 1 164),
  (164, (.isub, 1), o_bi (fun x y => x - y) 165),
  (165, (.iload 8, 2), o_il 8 167),
  (167, (.isub, 1), o_bi (fun x y => x - y) 168),
  (168, (.goto 5, 3), o_go 173),
  (171, (.iload 8, 2), o_il 8 173),
  (173, (.istore 9, 2), o_is 9 175),
  (175, (.aload_n 0, 1), o_al 0 176),
  (176, (.getfield 43, 3), o_gF 5 12 179),
  (179, (.iload 7, 2), o_il 7 181),
  (181, (.iload 9, 2), o_il 9 183),
  (183, (.iadd, 1), o_bi (fun x y => x + y) 184),
  (184, (.aload_n 0, 1), o_al 0 185),
  (185, (.getfield 43, 3), o_gF 5 12 188),
  (188, (.iload 6, 2), o_il 6 190),
  (190, (.iload 9, 2), o_il 9 192),
  (192, (.iadd, 1), o_bi (fun x y => x + y) 193),
  (193, (.iaload, 1), o_iald 194),
  (194, (.iastore, 1), o_iast 195),
  (195, (.iinc 8 1, 3), o_inc 8 1 198),
  (198, (.goto (-51), 3), o_go 147),
  (201, (.iload 5, 2), o_il 5 203),
  (203, (.ireturn, 1), o_ri)]
abbrev CX5_copy : aC := aCl tX5_copy 10
def rmX5_copy : Room := { frames := 2, cells := 0, slots := 0, locals := 23 }
set_option maxRecDepth 100000 in
theorem dX5_copy : tX5_copy.all (fun q => decide (decode cX5_copy q.1 = .ok q.2.1)) = true := by decide +kernel
set_option maxRecDepth 100000 in
set_option maxHeartbeats 4000000 in
theorem nX5_copy (l : Launch) : aMt l yX5_copy (Cond.code yX5_copy cX5_copy 10 (some .int) :: wsL_law) rmX5_copy CX5_copy := by
  refine aMt.of (own := RX5) (cc := cX5_copy) (maxL := 10) (ret := (some .int)) (by decide +kernel) rfl rfl ?_
  intro p e s m args below meth c Qc D Z ad P G A E hX hr hlk hE
  have up : ∀ w ∈ wsL_law, w ∈ (Cond.code yX5_copy cX5_copy 10 (some .int) :: wsL_law) := fun w h => List.mem_cons_of_mem _ h
  refine aImp_all _ dX5_copy ?_
  unfold tX5_copy
  refine aI_c (fun hd => s_il_n hX hd rfl rfl) ?_
  refine aI_c (fun hd => s_ii hX hd (by decide) rfl) ?_
  refine aI_c (fun hd => s_ii hX hd (by decide) rfl) ?_
  refine aI_c (fun hd => s_cS hX (nX5_in l) (wg_S up lmX5_81 loX5_in) rfl rfl rfl (by decide +kernel) ⟨by decide, by decide⟩ ⟨Nat.zero_le _, Nat.zero_le _⟩ hd rfl) ?_
  refine aI_c (fun hd => s_if_eq hX hd (by decide) rfl) ?_
  refine aI_c (fun hd => s_il_n hX hd rfl rfl) ?_
  refine aI_c (fun hd => s_ii hX hd (by decide) rfl) ?_
  refine aI_c (fun hd => s_ii hX hd (by decide) rfl) ?_
  refine aI_c (fun hd => s_cS hX (nX5_in l) (wg_S up lmX5_81 loX5_in) rfl rfl rfl (by decide +kernel) ⟨by decide, by decide⟩ ⟨Nat.zero_le _, Nat.zero_le _⟩ hd rfl) ?_
  refine aI_c (fun hd => s_if_ne hX hd (by decide) rfl) ?_
  refine aI_c (fun hd => s_bp hX hd (by decide) rfl) ?_
  refine aI_c (fun hd => s_ri hX hr hlk hE hd) ?_
  refine aI_c (fun hd => s_al_n hX hd rfl rfl) ?_
  refine aI_c (fun hd => s_gF hX (C := RX5) (T := TX5) (N := 35) (k := 16) rfl (fun w h => up w (inlX5 w h)) (by decide) rfl rfl rfl (up _ lkX5_37) hd rfl) ?_
  refine aI_c (fun hd => s_il_n hX hd rfl rfl) ?_
  refine aI_c (fun hd => s_iald hX hd rfl) ?_
  refine aI_c (fun hd => s_ii hX hd (by decide) rfl) ?_
  refine aI_c (fun hd => s_ic_eq hX hd (by decide) rfl) ?_
  refine aI_c (fun hd => s_al_n hX hd rfl rfl) ?_
  refine aI_c (fun hd => s_gF hX (C := RX5) (T := TX5) (N := 35) (k := 16) rfl (fun w h => up w (inlX5 w h)) (by decide) rfl rfl rfl (up _ lkX5_37) hd rfl) ?_
  refine aI_c (fun hd => s_il_n hX hd rfl rfl) ?_
  refine aI_c (fun hd => s_iald hX hd rfl) ?_
  refine aI_c (fun hd => s_ii hX hd (by decide) rfl) ?_
  refine aI_c (fun hd => s_ic_ne hX hd (by decide) rfl) ?_
  refine aI_c (fun hd => s_bp hX hd (by decide) rfl) ?_
  refine aI_c (fun hd => s_ri hX hr hlk hE hd) ?_
  refine aI_c (fun hd => s_al_n hX hd rfl rfl) ?_
  refine aI_c (fun hd => s_gF hX (C := RX5) (T := TX5) (N := 35) (k := 16) rfl (fun w h => up w (inlX5 w h)) (by decide) rfl rfl rfl (up _ lkX5_37) hd rfl) ?_
  refine aI_c (fun hd => s_il_n hX hd rfl rfl) ?_
  refine aI_c (fun hd => s_iald hX hd rfl) ?_
  refine aI_c (fun hd => s_al_n hX hd rfl rfl) ?_
  refine aI_c (fun hd => s_gF hX (C := RX5) (T := TX5) (N := 35) (k := 16) rfl (fun w h => up w (inlX5 w h)) (by decide) rfl rfl rfl (up _ lkX5_37) hd rfl) ?_
  refine aI_c (fun hd => s_il_n hX hd rfl rfl) ?_
  refine aI_c (fun hd => s_iald hX hd rfl) ?_
  refine aI_c (fun hd => s_ic_eq hX hd (by decide) rfl) ?_
  refine aI_c (fun hd => s_bp hX hd (by decide) rfl) ?_
  refine aI_c (fun hd => s_ri hX hr hlk hE hd) ?_
  refine aI_c (fun hd => s_il hX hd rfl) ?_
  refine aI_c (fun hd => s_if_lt hX hd (by decide) rfl) ?_
  refine aI_c (fun hd => s_il_n hX hd rfl rfl) ?_
  refine aI_c (fun hd => s_if_lt hX hd (by decide) rfl) ?_
  refine aI_c (fun hd => s_il hX hd rfl) ?_
  refine aI_c (fun hd => s_if_lt hX hd (by decide) rfl) ?_
  refine aI_c (fun hd => s_il_n hX hd rfl rfl) ?_
  refine aI_c (fun hd => s_al_n hX hd rfl rfl) ?_
  refine aI_c (fun hd => s_gF hX (C := RX5) (T := TX5) (N := 35) (k := 17) rfl (fun w h => up w (inlX5 w h)) (by decide) rfl rfl rfl (up _ lkX5_40) hd rfl) ?_
  refine aI_c (fun hd => s_il_n hX hd rfl rfl) ?_
  refine aI_c (fun hd => s_iald hX hd rfl) ?_
  refine aI_c (fun hd => s_ic_gt hX hd (by decide) rfl) ?_
  refine aI_c (fun hd => s_il hX hd rfl) ?_
  refine aI_c (fun hd => s_al_n hX hd rfl rfl) ?_
  refine aI_c (fun hd => s_gF hX (C := RX5) (T := TX5) (N := 35) (k := 17) rfl (fun w h => up w (inlX5 w h)) (by decide) rfl rfl rfl (up _ lkX5_40) hd rfl) ?_
  refine aI_c (fun hd => s_il_n hX hd rfl rfl) ?_
  refine aI_c (fun hd => s_iald hX hd rfl) ?_
  refine aI_c (fun hd => s_ic_gt hX hd (by decide) rfl) ?_
  refine aI_c (fun hd => s_il hX hd rfl) ?_
  refine aI_c (fun hd => s_al_n hX hd rfl rfl) ?_
  refine aI_c (fun hd => s_gF hX (C := RX5) (T := TX5) (N := 35) (k := 17) rfl (fun w h => up w (inlX5 w h)) (by decide) rfl rfl rfl (up _ lkX5_40) hd rfl) ?_
  refine aI_c (fun hd => s_il_n hX hd rfl rfl) ?_
  refine aI_c (fun hd => s_iald hX hd rfl) ?_
  refine aI_c (fun hd => s_il_n hX hd rfl rfl) ?_
  refine aI_c (fun hd => s_isub hX hd rfl) ?_
  refine aI_c (fun hd => s_ic_gt hX hd (by decide) rfl) ?_
  refine aI_c (fun hd => s_il hX hd rfl) ?_
  refine aI_c (fun hd => s_al_n hX hd rfl rfl) ?_
  refine aI_c (fun hd => s_gF hX (C := RX5) (T := TX5) (N := 35) (k := 17) rfl (fun w h => up w (inlX5 w h)) (by decide) rfl rfl rfl (up _ lkX5_40) hd rfl) ?_
  refine aI_c (fun hd => s_il_n hX hd rfl rfl) ?_
  refine aI_c (fun hd => s_iald hX hd rfl) ?_
  refine aI_c (fun hd => s_il hX hd rfl) ?_
  refine aI_c (fun hd => s_isub hX hd rfl) ?_
  refine aI_c (fun hd => s_ic_le hX hd (by decide) rfl) ?_
  refine aI_c (fun hd => s_bp hX hd (by decide) rfl) ?_
  refine aI_c (fun hd => s_ri hX hr hlk hE hd) ?_
  refine aI_c (fun hd => s_bp hX hd (by decide) rfl) ?_
  refine aI_c (fun hd => s_il_n hX hd rfl rfl) ?_
  refine aI_c (fun hd => s_imul hX hd rfl) ?_
  refine aI_c (fun hd => s_il_n hX hd rfl rfl) ?_
  refine aI_c (fun hd => s_iadd hX hd rfl) ?_
  refine aI_c (fun hd => s_is hX hd rfl (by decide)) ?_
  refine aI_c (fun hd => s_bp hX hd (by decide) rfl) ?_
  refine aI_c (fun hd => s_il_n hX hd rfl rfl) ?_
  refine aI_c (fun hd => s_imul hX hd rfl) ?_
  refine aI_c (fun hd => s_il hX hd rfl) ?_
  refine aI_c (fun hd => s_iadd hX hd rfl) ?_
  refine aI_c (fun hd => s_is hX hd rfl (by decide)) ?_
  refine aI_c (fun hd => s_ii hX hd (by decide) rfl) ?_
  refine aI_c (fun hd => s_is hX hd rfl (by decide)) ?_
  refine aI_c (fun hd => s_mk (s_il hX hd rfl)) ?_
  refine aI_c (fun hd => s_il hX hd rfl) ?_
  refine aI_c (fun hd => s_ic_ge hX hd (by decide) rfl) ?_
  refine aI_c (fun hd => s_il hX hd rfl) ?_
  refine aI_c (fun hd => s_il hX hd rfl) ?_
  refine aI_c (fun hd => s_ic_ge hX hd (by decide) rfl) ?_
  refine aI_c (fun hd => s_il hX hd rfl) ?_
  refine aI_c (fun hd => s_ii hX hd (by decide) rfl) ?_
  refine aI_c (fun hd => s_isub hX hd rfl) ?_
  refine aI_c (fun hd => s_il hX hd rfl) ?_
  refine aI_c (fun hd => s_isub hX hd rfl) ?_
  refine aI_c (fun hd => s_go hX hd (by decide)) ?_
  refine aI_c (fun hd => s_il hX hd rfl) ?_
  refine aI_c (fun hd => s_is hX hd rfl (by decide)) ?_
  refine aI_c (fun hd => s_al_n hX hd rfl rfl) ?_
  refine aI_c (fun hd => s_gF hX (C := RX5) (T := TX5) (N := 35) (k := 18) rfl (fun w h => up w (inlX5 w h)) (by decide) rfl rfl rfl (up _ lkX5_43) hd rfl) ?_
  refine aI_c (fun hd => s_il hX hd rfl) ?_
  refine aI_c (fun hd => s_il hX hd rfl) ?_
  refine aI_c (fun hd => s_iadd hX hd rfl) ?_
  refine aI_c (fun hd => s_al_n hX hd rfl rfl) ?_
  refine aI_c (fun hd => s_gF hX (C := RX5) (T := TX5) (N := 35) (k := 18) rfl (fun w h => up w (inlX5 w h)) (by decide) rfl rfl rfl (up _ lkX5_43) hd rfl) ?_
  refine aI_c (fun hd => s_il hX hd rfl) ?_
  refine aI_c (fun hd => s_il hX hd rfl) ?_
  refine aI_c (fun hd => s_iadd hX hd rfl) ?_
  refine aI_c (fun hd => s_iald hX hd rfl) ?_
  refine aI_c (fun hd => s_iast hX hd rfl) ?_
  refine aI_c (fun hd => s_inc hX hd (by decide) rfl (by decide)) ?_
  refine aI_c (fun hd => s_go hX hd (by decide)) ?_
  refine aI_c (fun hd => s_il hX hd rfl) ?_
  refine aI_c (fun hd => s_ri hX hr hlk hE hd) ?_
  exact trivial

-- JudgesByLossModel.judgesBy(IIII)I
def tX5_judgesBy : aT := [
  (0, (.iload_n 1, 1), o_il 1 1),
  (1, (.iconst 0, 1), o_ii 0 2),
  (2, (.iconst 3, 1), o_ii 3 3),
  (3, (.invokestatic 81, 3), o_cS CX5_in 3 6),
  (6, (.ifCond .eq 23, 3), o_if (fun x => x = 0) 29 9),
  (9, (.iload_n 2, 1), o_il 2 10),
  (10, (.iconst 0, 1), o_ii 0 11),
  (11, (.iconst 2, 1), o_ii 2 12),
  (12, (.invokestatic 81, 3), o_cS CX5_in 3 15),
  (15, (.ifCond .eq 14, 3), o_if (fun x => x = 0) 29 18),
  (18, (.iload 4, 2), o_il 4 20),
  (20, (.iconst 0, 1), o_ii 0 21),
  (21, (.bipush 6, 2), o_ii 6 23),
  (23, (.invokestatic 81, 3), o_cS CX5_in 3 26),
  (26, (.ifCond .ne 6, 3), o_if (fun x => ¬ x = 0) 32 29),
  (29, (.bipush (-2), 2), o_ii (-2) 31),
  (31, (.ireturn, 1), o_ri),
  (32, (.aload_n 0, 1), o_al 0 33),
  (33, (.getfield 37, 3), o_gF 5 10 36),
  (36, (.iload_n 1, 1), o_il 1 37),
  (37, (.iaload, 1), o_iald 38),
  (38, (.iconst (-1), 1), o_ii (-1) 39),
  (39, (.if_icmp .ne 6, 3), o_ic (fun x y => ¬ x = y) 45 42),
  (42, (.bipush (-11), 2), o_ii (-11) 44),
  (44, (.ireturn, 1), o_ri),
  (45, (.aload_n 0, 1), o_al 0 46),
  (46, (.getfield 37, 3), o_gF 5 10 49),
  (49, (.iload_n 1, 1), o_il 1 50),
  (50, (.iaload, 1), o_iald 51),
  (51, (.iload_n 2, 1), o_il 2 52),
  (52, (.if_icmp .eq 6, 3), o_ic (fun x y => x = y) 58 55),
  (55, (.bipush (-13), 2), o_ii (-13) 57),
  (57, (.ireturn, 1), o_ri),
  (58, (.iconst 0, 1), o_ii 0 59),
  (59, (.istore 5, 2), o_is 5 61),
  (61, (.iconst 0, 1), o_ii 0 62),
  (62, (.istore 6, 2), o_is 6 64),
  (64, (.iload 6, 2), o_mk [false, false, true, false, false, false, false, true, true] (o_il 6 66)),
  (66, (.iload 4, 2), o_il 4 68),
  (68, (.if_icmp .ge 94, 3), o_ic (fun x y => y ≤ x) 162 71),
  (71, (.iload_n 3, 1), o_il 3 72),
  (72, (.iconst 3, 1), o_ii 3 73),
  (73, (.iload 6, 2), o_il 6 75),
  (75, (.imul, 1), o_bi (fun x y => x * y) 76),
  (76, (.iadd, 1), o_bi (fun x y => x + y) 77),
  (77, (.istore 7, 2), o_is 7 79),
  (79, (.iload_n 3, 1), o_il 3 80),
  (80, (.ifCond .lt 22, 3), o_if (fun x => x < 0) 102 83),
  (83, (.iload 7, 2), o_il 7 85),
  (85, (.iload_n 3, 1), o_il 3 86),
  (86, (.if_icmp .lt 16, 3), o_ic (fun x y => x < y) 102 89),
  (89, (.iload 7, 2), o_il 7 91),
  (91, (.aload_n 0, 1), o_al 0 92),
  (92, (.getfield 40, 3), o_gF 5 11 95),
  (95, (.iload_n 1, 1), o_il 1 96),
  (96, (.iaload, 1), o_iald 97),
  (97, (.iconst 3, 1), o_ii 3 98),
  (98, (.isub, 1), o_bi (fun x y => x - y) 99),
  (99, (.if_icmp .le 6, 3), o_ic (fun x y => x ≤ y) 105 102),
  (102, (.bipush (-12), 2), o_ii (-12) 104),
  (104, (.ireturn, 1), o_ri),
  (105, (.bipush 40, 2), o_ii 40 107),
  (107, (.iload_n 1, 1), o_il 1 108),
  (108, (.imul, 1), o_bi (fun x y => x * y) 109),
  (109, (.iload 7, 2), o_il 7 111),
  (111, (.iadd, 1), o_bi (fun x y => x + y) 112),
  (112, (.istore 8, 2), o_is 8 114),
  (114, (.iload 5, 2), o_il 5 116),
  (116, (.aload_n 0, 1), o_al 0 117),
  (117, (.aload_n 0, 1), o_al 0 118),
  (118, (.getfield 43, 3), o_gF 5 12 121),
  (121, (.iload 8, 2), o_il 8 123),
  (123, (.iaload, 1), o_iald 124),
  (124, (.aload_n 0, 1), o_al 0 125),
  (125, (.getfield 43, 3), o_gF 5 12 128),
  (128, (.iload 8, 2), o_il 8 130),
  (130, (.iconst 1, 1), o_ii 1 131),
  (131, (.iadd, 1), o_bi (fun x y => x + y) 132),
  (132, (.iaload, 1), o_iald 133),
  (133, (.aload_n 0, 1), o_al 0 134),
  (134, (.getfield 43, 3), o_gF 5 12 137),
  (137, (.iload 8, 2), o_il 8 139),
  (139, (.iconst 2, 1), o_ii 2 140),
  (140, (.iadd, 1), o_bi (fun x y => x + y) 141),
  (141, (.iaload, 1), o_iald 142),
  (142, (.invokevirtual 259, 3), o_cV CX5_judge 5 3 145),
  (145, (.ifCond .lt 7, 3), o_if (fun x => x < 0) 152 148),
  (148, (.iconst 1, 1), o_ii 1 149),
  (149, (.goto 4, 3), o_go 153),
  (152, (.iconst 0, 1), o_ii 0 153),
  (153, (.iadd, 1), o_bi (fun x y => x + y) 154),
  (154, (.istore 5, 2), o_is 5 156),
  (156, (.iinc 6 1, 3), o_inc 6 1 159),
  (159, (.goto (-95), 3), o_go 64),
  (162, (.iload 5, 2), o_il 5 164),
  (164, (.ireturn, 1), o_ri)]
abbrev CX5_judgesBy : aC := aCl tX5_judgesBy 9
def rmX5_judgesBy : Room := { frames := 3, cells := 0, slots := 0, locals := 46 }
set_option maxRecDepth 100000 in
theorem dX5_judgesBy : tX5_judgesBy.all (fun q => decide (decode cX5_judgesBy q.1 = .ok q.2.1)) = true := by decide +kernel
set_option maxRecDepth 100000 in
set_option maxHeartbeats 4000000 in
theorem nX5_judgesBy (l : Launch) : aMt l yX5_judgesBy (Cond.code yX5_judgesBy cX5_judgesBy 9 (some .int) :: wsL_law) rmX5_judgesBy CX5_judgesBy := by
  refine aMt.of (own := RX5) (cc := cX5_judgesBy) (maxL := 9) (ret := (some .int)) (by decide +kernel) rfl rfl ?_
  intro p e s m args below meth c Qc D Z ad P G A E hX hr hlk hE
  have up : ∀ w ∈ wsL_law, w ∈ (Cond.code yX5_judgesBy cX5_judgesBy 9 (some .int) :: wsL_law) := fun w h => List.mem_cons_of_mem _ h
  refine aImp_all _ dX5_judgesBy ?_
  unfold tX5_judgesBy
  refine aI_c (fun hd => s_il_n hX hd rfl rfl) ?_
  refine aI_c (fun hd => s_ii hX hd (by decide) rfl) ?_
  refine aI_c (fun hd => s_ii hX hd (by decide) rfl) ?_
  refine aI_c (fun hd => s_cS hX (nX5_in l) (wg_S up lmX5_81 loX5_in) rfl rfl rfl (by decide +kernel) ⟨by decide, by decide⟩ ⟨Nat.zero_le _, Nat.zero_le _⟩ hd rfl) ?_
  refine aI_c (fun hd => s_if_eq hX hd (by decide) rfl) ?_
  refine aI_c (fun hd => s_il_n hX hd rfl rfl) ?_
  refine aI_c (fun hd => s_ii hX hd (by decide) rfl) ?_
  refine aI_c (fun hd => s_ii hX hd (by decide) rfl) ?_
  refine aI_c (fun hd => s_cS hX (nX5_in l) (wg_S up lmX5_81 loX5_in) rfl rfl rfl (by decide +kernel) ⟨by decide, by decide⟩ ⟨Nat.zero_le _, Nat.zero_le _⟩ hd rfl) ?_
  refine aI_c (fun hd => s_if_eq hX hd (by decide) rfl) ?_
  refine aI_c (fun hd => s_il hX hd rfl) ?_
  refine aI_c (fun hd => s_ii hX hd (by decide) rfl) ?_
  refine aI_c (fun hd => s_bp hX hd (by decide) rfl) ?_
  refine aI_c (fun hd => s_cS hX (nX5_in l) (wg_S up lmX5_81 loX5_in) rfl rfl rfl (by decide +kernel) ⟨by decide, by decide⟩ ⟨Nat.zero_le _, Nat.zero_le _⟩ hd rfl) ?_
  refine aI_c (fun hd => s_if_ne hX hd (by decide) rfl) ?_
  refine aI_c (fun hd => s_bp hX hd (by decide) rfl) ?_
  refine aI_c (fun hd => s_ri hX hr hlk hE hd) ?_
  refine aI_c (fun hd => s_al_n hX hd rfl rfl) ?_
  refine aI_c (fun hd => s_gF hX (C := RX5) (T := TX5) (N := 35) (k := 16) rfl (fun w h => up w (inlX5 w h)) (by decide) rfl rfl rfl (up _ lkX5_37) hd rfl) ?_
  refine aI_c (fun hd => s_il_n hX hd rfl rfl) ?_
  refine aI_c (fun hd => s_iald hX hd rfl) ?_
  refine aI_c (fun hd => s_ii hX hd (by decide) rfl) ?_
  refine aI_c (fun hd => s_ic_ne hX hd (by decide) rfl) ?_
  refine aI_c (fun hd => s_bp hX hd (by decide) rfl) ?_
  refine aI_c (fun hd => s_ri hX hr hlk hE hd) ?_
  refine aI_c (fun hd => s_al_n hX hd rfl rfl) ?_
  refine aI_c (fun hd => s_gF hX (C := RX5) (T := TX5) (N := 35) (k := 16) rfl (fun w h => up w (inlX5 w h)) (by decide) rfl rfl rfl (up _ lkX5_37) hd rfl) ?_
  refine aI_c (fun hd => s_il_n hX hd rfl rfl) ?_
  refine aI_c (fun hd => s_iald hX hd rfl) ?_
  refine aI_c (fun hd => s_il_n hX hd rfl rfl) ?_
  refine aI_c (fun hd => s_ic_eq hX hd (by decide) rfl) ?_
  refine aI_c (fun hd => s_bp hX hd (by decide) rfl) ?_
  refine aI_c (fun hd => s_ri hX hr hlk hE hd) ?_
  refine aI_c (fun hd => s_ii hX hd (by decide) rfl) ?_
  refine aI_c (fun hd => s_is hX hd rfl (by decide)) ?_
  refine aI_c (fun hd => s_ii hX hd (by decide) rfl) ?_
  refine aI_c (fun hd => s_is hX hd rfl (by decide)) ?_
  refine aI_c (fun hd => s_mk (s_il hX hd rfl)) ?_
  refine aI_c (fun hd => s_il hX hd rfl) ?_
  refine aI_c (fun hd => s_ic_ge hX hd (by decide) rfl) ?_
  refine aI_c (fun hd => s_il_n hX hd rfl rfl) ?_
  refine aI_c (fun hd => s_ii hX hd (by decide) rfl) ?_
  refine aI_c (fun hd => s_il hX hd rfl) ?_
  refine aI_c (fun hd => s_imul hX hd rfl) ?_
  refine aI_c (fun hd => s_iadd hX hd rfl) ?_
  refine aI_c (fun hd => s_is hX hd rfl (by decide)) ?_
  refine aI_c (fun hd => s_il_n hX hd rfl rfl) ?_
  refine aI_c (fun hd => s_if_lt hX hd (by decide) rfl) ?_
  refine aI_c (fun hd => s_il hX hd rfl) ?_
  refine aI_c (fun hd => s_il_n hX hd rfl rfl) ?_
  refine aI_c (fun hd => s_ic_lt hX hd (by decide) rfl) ?_
  refine aI_c (fun hd => s_il hX hd rfl) ?_
  refine aI_c (fun hd => s_al_n hX hd rfl rfl) ?_
  refine aI_c (fun hd => s_gF hX (C := RX5) (T := TX5) (N := 35) (k := 17) rfl (fun w h => up w (inlX5 w h)) (by decide) rfl rfl rfl (up _ lkX5_40) hd rfl) ?_
  refine aI_c (fun hd => s_il_n hX hd rfl rfl) ?_
  refine aI_c (fun hd => s_iald hX hd rfl) ?_
  refine aI_c (fun hd => s_ii hX hd (by decide) rfl) ?_
  refine aI_c (fun hd => s_isub hX hd rfl) ?_
  refine aI_c (fun hd => s_ic_le hX hd (by decide) rfl) ?_
  refine aI_c (fun hd => s_bp hX hd (by decide) rfl) ?_
  refine aI_c (fun hd => s_ri hX hr hlk hE hd) ?_
  refine aI_c (fun hd => s_bp hX hd (by decide) rfl) ?_
  refine aI_c (fun hd => s_il_n hX hd rfl rfl) ?_
  refine aI_c (fun hd => s_imul hX hd rfl) ?_
  refine aI_c (fun hd => s_il hX hd rfl) ?_
  refine aI_c (fun hd => s_iadd hX hd rfl) ?_
  refine aI_c (fun hd => s_is hX hd rfl (by decide)) ?_
  refine aI_c (fun hd => s_il hX hd rfl) ?_
  refine aI_c (fun hd => s_al_n hX hd rfl rfl) ?_
  refine aI_c (fun hd => s_al_n hX hd rfl rfl) ?_
  refine aI_c (fun hd => s_gF hX (C := RX5) (T := TX5) (N := 35) (k := 18) rfl (fun w h => up w (inlX5 w h)) (by decide) rfl rfl rfl (up _ lkX5_43) hd rfl) ?_
  refine aI_c (fun hd => s_il hX hd rfl) ?_
  refine aI_c (fun hd => s_iald hX hd rfl) ?_
  refine aI_c (fun hd => s_al_n hX hd rfl rfl) ?_
  refine aI_c (fun hd => s_gF hX (C := RX5) (T := TX5) (N := 35) (k := 18) rfl (fun w h => up w (inlX5 w h)) (by decide) rfl rfl rfl (up _ lkX5_43) hd rfl) ?_
  refine aI_c (fun hd => s_il hX hd rfl) ?_
  refine aI_c (fun hd => s_ii hX hd (by decide) rfl) ?_
  refine aI_c (fun hd => s_iadd hX hd rfl) ?_
  refine aI_c (fun hd => s_iald hX hd rfl) ?_
  refine aI_c (fun hd => s_al_n hX hd rfl rfl) ?_
  refine aI_c (fun hd => s_gF hX (C := RX5) (T := TX5) (N := 35) (k := 18) rfl (fun w h => up w (inlX5 w h)) (by decide) rfl rfl rfl (up _ lkX5_43) hd rfl) ?_
  refine aI_c (fun hd => s_il hX hd rfl) ?_
  refine aI_c (fun hd => s_ii hX hd (by decide) rfl) ?_
  refine aI_c (fun hd => s_iadd hX hd rfl) ?_
  refine aI_c (fun hd => s_iald hX hd rfl) ?_
  refine aI_c (fun hd => s_cV hX (T := TX5) (N := 35) (nX5_judge l) rfl (wg_V up lmX5_259 loX5_judge) rfl rfl rfl (by decide +kernel) ⟨by decide, by decide⟩ ⟨Nat.zero_le _, Nat.zero_le _⟩ hd rfl) ?_
  refine aI_c (fun hd => s_if_lt hX hd (by decide) rfl) ?_
  refine aI_c (fun hd => s_ii hX hd (by decide) rfl) ?_
  refine aI_c (fun hd => s_go hX hd (by decide)) ?_
  refine aI_c (fun hd => s_ii hX hd (by decide) rfl) ?_
  refine aI_c (fun hd => s_iadd hX hd rfl) ?_
  refine aI_c (fun hd => s_is hX hd rfl (by decide)) ?_
  refine aI_c (fun hd => s_inc hX hd (by decide) rfl (by decide)) ?_
  refine aI_c (fun hd => s_go hX hd (by decide)) ?_
  refine aI_c (fun hd => s_il hX hd rfl) ?_
  refine aI_c (fun hd => s_ri hX hr hlk hE hd) ?_
  exact trivial

-- JudgesByLossModel.isUnder(II)Z
def tX5_isUnder : aT := [
  (0, (.iload_n 1, 1), o_il 1 1),
  (1, (.ifCond .eq 28, 3), o_if (fun x => x = 0) 29 4),
  (4, (.iload_n 0, 1), o_il 0 5),
  (5, (.iload_n 1, 1), o_il 1 6),
  (6, (.if_icmp .eq 23, 3), o_ic (fun x y => x = y) 29 9),
  (9, (.iload_n 1, 1), o_il 1 10),
  (10, (.iconst 1, 1), o_ii 1 11),
  (11, (.if_icmp .ne 8, 3), o_ic (fun x y => ¬ x = y) 19 14),
  (14, (.iload_n 0, 1), o_il 0 15),
  (15, (.iconst 3, 1), o_ii 3 16),
  (16, (.if_icmp .eq 13, 3), o_ic (fun x y => x = y) 29 19),
  (19, (.iload_n 1, 1), o_il 1 20),
  (20, (.iconst 2, 1), o_ii 2 21),
  (21, (.if_icmp .ne 12, 3), o_ic (fun x y => ¬ x = y) 33 24),
  (24, (.iload_n 0, 1), o_il 0 25),
  (25, (.iconst 4, 1), o_ii 4 26),
  (26, (.if_icmp .ne 7, 3), o_ic (fun x y => ¬ x = y) 33 29),
  (29, (.iconst 1, 1), o_ii 1 30),
  (30, (.goto 4, 3), o_go 34),
  (33, (.iconst 0, 1), o_ii 0 34),
  (34, (.ireturn, 1), o_rz)]
abbrev CX5_isUnder : aC := aCl tX5_isUnder 2
def rmX5_isUnder : Room := { frames := 1, cells := 0, slots := 0, locals := 1 }
set_option maxRecDepth 100000 in
theorem dX5_isUnder : tX5_isUnder.all (fun q => decide (decode cX5_isUnder q.1 = .ok q.2.1)) = true := by decide +kernel
set_option maxRecDepth 100000 in
set_option maxHeartbeats 4000000 in
theorem nX5_isUnder (l : Launch) : aMt l yX5_isUnder (Cond.code yX5_isUnder cX5_isUnder 2 (some .boolean) :: wsL_law) rmX5_isUnder CX5_isUnder := by
  refine aMt.of (own := RX5) (cc := cX5_isUnder) (maxL := 2) (ret := (some .boolean)) (by decide +kernel) rfl rfl ?_
  intro p e s m args below meth c Qc D Z ad P G A E hX hr hlk hE
  have up : ∀ w ∈ wsL_law, w ∈ (Cond.code yX5_isUnder cX5_isUnder 2 (some .boolean) :: wsL_law) := fun w h => List.mem_cons_of_mem _ h
  refine aImp_all _ dX5_isUnder ?_
  unfold tX5_isUnder
  refine aI_c (fun hd => s_il_n hX hd rfl rfl) ?_
  refine aI_c (fun hd => s_if_eq hX hd (by decide) rfl) ?_
  refine aI_c (fun hd => s_il_n hX hd rfl rfl) ?_
  refine aI_c (fun hd => s_il_n hX hd rfl rfl) ?_
  refine aI_c (fun hd => s_ic_eq hX hd (by decide) rfl) ?_
  refine aI_c (fun hd => s_il_n hX hd rfl rfl) ?_
  refine aI_c (fun hd => s_ii hX hd (by decide) rfl) ?_
  refine aI_c (fun hd => s_ic_ne hX hd (by decide) rfl) ?_
  refine aI_c (fun hd => s_il_n hX hd rfl rfl) ?_
  refine aI_c (fun hd => s_ii hX hd (by decide) rfl) ?_
  refine aI_c (fun hd => s_ic_eq hX hd (by decide) rfl) ?_
  refine aI_c (fun hd => s_il_n hX hd rfl rfl) ?_
  refine aI_c (fun hd => s_ii hX hd (by decide) rfl) ?_
  refine aI_c (fun hd => s_ic_ne hX hd (by decide) rfl) ?_
  refine aI_c (fun hd => s_il_n hX hd rfl rfl) ?_
  refine aI_c (fun hd => s_ii hX hd (by decide) rfl) ?_
  refine aI_c (fun hd => s_ic_ne hX hd (by decide) rfl) ?_
  refine aI_c (fun hd => s_ii hX hd (by decide) rfl) ?_
  refine aI_c (fun hd => s_go hX hd (by decide)) ?_
  refine aI_c (fun hd => s_ii hX hd (by decide) rfl) ?_
  refine aI_c (fun hd => s_rz hX hr hlk hE hd) ?_
  exact trivial

-- JudgesByLossModel.taken(II)I
def tX5_taken : aT := [
  (0, (.iload_n 2, 1), o_il 2 1),
  (1, (.iconst 0, 1), o_ii 0 2),
  (2, (.bipush 6, 2), o_ii 6 4),
  (4, (.invokestatic 81, 3), o_cS CX5_in 3 7),
  (7, (.ifCond .ne 6, 3), o_if (fun x => ¬ x = 0) 13 10),
  (10, (.bipush (-2), 2), o_ii (-2) 12),
  (12, (.ireturn, 1), o_ri),
  (13, (.iload_n 1, 1), o_il 1 14),
  (14, (.iconst 0, 1), o_ii 0 15),
  (15, (.bipush 13, 2), o_ii 13 17),
  (17, (.invokestatic 81, 3), o_cS CX5_in 3 20),
  (20, (.ifCond .ne 6, 3), o_if (fun x => ¬ x = 0) 26 23),
  (23, (.bipush (-12), 2), o_ii (-12) 25),
  (25, (.ireturn, 1), o_ri),
  (26, (.iload_n 1, 1), o_il 1 27),
  (27, (.bipush 6, 2), o_ii 6 29),
  (29, (.if_icmp .lt 41, 3), o_ic (fun x y => x < y) 70 32),
  (32, (.iload_n 1, 1), o_il 1 33),
  (33, (.bipush 6, 2), o_ii 6 35),
  (35, (.isub, 1), o_bi (fun x y => x - y) 36),
  (36, (.istore_n 3, 1), o_is 3 37),
  (37, (.aload_n 0, 1), o_al 0 38),
  (38, (.iload_n 3, 1), o_il 3 39),
  (39, (.invokevirtual 89, 3), o_cV CX5_isThere 5 1 42),
  (42, (.ifCond .ne 8, 3), o_if (fun x => ¬ x = 0) 50 45),
  (45, (.bipush (-11), 2), o_ii (-11) 47),
  (47, (.goto 22, 3), o_go 69),
  (50, (.iload_n 2, 1), o_il 2 51),
  (51, (.bipush 6, 2), o_ii 6 53),
  (53, (.if_icmp .ne 14, 3), o_ic (fun x y => ¬ x = y) 67 56),
  (56, (.aload_n 0, 1), o_al 0 57),
  (57, (.getfield 19, 3), o_gF 5 4 60),
  (60, (.iconst 3, 1), o_ii 3 61),
  (61, (.iload_n 3, 1), o_il 3 62),
  (62, (.imul, 1), o_bi (fun x y => x * y) 63),
  (63, (.iaload, 1), o_iald 64),
  (64, (.goto 5, 3), o_go 69),
  (67, (.bipush (-13), 2), o_ii (-13) 69),
  (69, (.ireturn, 1), o_ri),
  (70, (.iload_n 1, 1), o_il 1 71),
  (71, (.aload_n 0, 1), o_al 0 72),
  (72, (.getfield 78, 3), o_gI 5 0 75),
  (75, (.if_icmp .lt 8, 3), o_ic (fun x y => x < y) 83 78),
  (78, (.bipush (-11), 2), o_ii (-11) 80),
  (80, (.goto 28, 3), o_go 108),
  (83, (.iload_n 2, 1), o_il 2 84),
  (84, (.bipush 6, 2), o_ii 6 86),
  (86, (.if_icmp .ge 20, 3), o_ic (fun x y => y ≤ x) 106 89),
  (89, (.aload_n 0, 1), o_al 0 90),
  (90, (.getfield 7, 3), o_gF 5 1 93),
  (93, (.iload_n 1, 1), o_il 1 94),
  (94, (.iaload, 1), o_iald 95),
  (95, (.iload_n 2, 1), o_il 2 96),
  (96, (.invokestatic 262, 3), o_cS CX5_isUnder 2 99),
  (99, (.ifCond .eq 7, 3), o_if (fun x => x = 0) 106 102),
  (102, (.iload_n 1, 1), o_il 1 103),
  (103, (.goto 5, 3), o_go 108),
  (106, (.bipush (-13), 2), o_ii (-13) 108),
  (108, (.ireturn, 1), o_ri)]
abbrev CX5_taken : aC := aCl tX5_taken 4
def rmX5_taken : Room := { frames := 3, cells := 0, slots := 0, locals := 44 }
set_option maxRecDepth 100000 in
theorem dX5_taken : tX5_taken.all (fun q => decide (decode cX5_taken q.1 = .ok q.2.1)) = true := by decide +kernel
set_option maxRecDepth 100000 in
set_option maxHeartbeats 4000000 in
theorem nX5_taken (l : Launch) : aMt l yX5_taken (Cond.code yX5_taken cX5_taken 4 (some .int) :: wsL_law) rmX5_taken CX5_taken := by
  refine aMt.of (own := RX5) (cc := cX5_taken) (maxL := 4) (ret := (some .int)) (by decide +kernel) rfl rfl ?_
  intro p e s m args below meth c Qc D Z ad P G A E hX hr hlk hE
  have up : ∀ w ∈ wsL_law, w ∈ (Cond.code yX5_taken cX5_taken 4 (some .int) :: wsL_law) := fun w h => List.mem_cons_of_mem _ h
  refine aImp_all _ dX5_taken ?_
  unfold tX5_taken
  refine aI_c (fun hd => s_il_n hX hd rfl rfl) ?_
  refine aI_c (fun hd => s_ii hX hd (by decide) rfl) ?_
  refine aI_c (fun hd => s_bp hX hd (by decide) rfl) ?_
  refine aI_c (fun hd => s_cS hX (nX5_in l) (wg_S up lmX5_81 loX5_in) rfl rfl rfl (by decide +kernel) ⟨by decide, by decide⟩ ⟨Nat.zero_le _, Nat.zero_le _⟩ hd rfl) ?_
  refine aI_c (fun hd => s_if_ne hX hd (by decide) rfl) ?_
  refine aI_c (fun hd => s_bp hX hd (by decide) rfl) ?_
  refine aI_c (fun hd => s_ri hX hr hlk hE hd) ?_
  refine aI_c (fun hd => s_il_n hX hd rfl rfl) ?_
  refine aI_c (fun hd => s_ii hX hd (by decide) rfl) ?_
  refine aI_c (fun hd => s_bp hX hd (by decide) rfl) ?_
  refine aI_c (fun hd => s_cS hX (nX5_in l) (wg_S up lmX5_81 loX5_in) rfl rfl rfl (by decide +kernel) ⟨by decide, by decide⟩ ⟨Nat.zero_le _, Nat.zero_le _⟩ hd rfl) ?_
  refine aI_c (fun hd => s_if_ne hX hd (by decide) rfl) ?_
  refine aI_c (fun hd => s_bp hX hd (by decide) rfl) ?_
  refine aI_c (fun hd => s_ri hX hr hlk hE hd) ?_
  refine aI_c (fun hd => s_il_n hX hd rfl rfl) ?_
  refine aI_c (fun hd => s_bp hX hd (by decide) rfl) ?_
  refine aI_c (fun hd => s_ic_lt hX hd (by decide) rfl) ?_
  refine aI_c (fun hd => s_il_n hX hd rfl rfl) ?_
  refine aI_c (fun hd => s_bp hX hd (by decide) rfl) ?_
  refine aI_c (fun hd => s_isub hX hd rfl) ?_
  refine aI_c (fun hd => s_is_n hX hd rfl rfl (by decide)) ?_
  refine aI_c (fun hd => s_al_n hX hd rfl rfl) ?_
  refine aI_c (fun hd => s_il_n hX hd rfl rfl) ?_
  refine aI_c (fun hd => s_cV hX (T := TX5) (N := 35) (nX5_isThere l) rfl (wg_V up lmX5_89 loX5_isThere) rfl rfl rfl (by decide +kernel) ⟨by decide, by decide⟩ ⟨Nat.zero_le _, Nat.zero_le _⟩ hd rfl) ?_
  refine aI_c (fun hd => s_if_ne hX hd (by decide) rfl) ?_
  refine aI_c (fun hd => s_bp hX hd (by decide) rfl) ?_
  refine aI_c (fun hd => s_go hX hd (by decide)) ?_
  refine aI_c (fun hd => s_il_n hX hd rfl rfl) ?_
  refine aI_c (fun hd => s_bp hX hd (by decide) rfl) ?_
  refine aI_c (fun hd => s_ic_ne hX hd (by decide) rfl) ?_
  refine aI_c (fun hd => s_al_n hX hd rfl rfl) ?_
  refine aI_c (fun hd => s_gF hX (C := RX5) (T := TX5) (N := 35) (k := 4) rfl (fun w h => up w (inlX5 w h)) (by decide) rfl rfl rfl (up _ lkX5_19) hd rfl) ?_
  refine aI_c (fun hd => s_ii hX hd (by decide) rfl) ?_
  refine aI_c (fun hd => s_il_n hX hd rfl rfl) ?_
  refine aI_c (fun hd => s_imul hX hd rfl) ?_
  refine aI_c (fun hd => s_iald hX hd rfl) ?_
  refine aI_c (fun hd => s_go hX hd (by decide)) ?_
  refine aI_c (fun hd => s_bp hX hd (by decide) rfl) ?_
  refine aI_c (fun hd => s_ri hX hr hlk hE hd) ?_
  refine aI_c (fun hd => s_il_n hX hd rfl rfl) ?_
  refine aI_c (fun hd => s_al_n hX hd rfl rfl) ?_
  refine aI_c (fun hd => s_gI hX (C := RX5) (T := TX5) (N := 35) (k := 0) rfl (fun w h => up w (inlX5 w h)) (by decide) rfl rfl rfl (up _ lkX5_78) hd rfl) ?_
  refine aI_c (fun hd => s_ic_lt hX hd (by decide) rfl) ?_
  refine aI_c (fun hd => s_bp hX hd (by decide) rfl) ?_
  refine aI_c (fun hd => s_go hX hd (by decide)) ?_
  refine aI_c (fun hd => s_il_n hX hd rfl rfl) ?_
  refine aI_c (fun hd => s_bp hX hd (by decide) rfl) ?_
  refine aI_c (fun hd => s_ic_ge hX hd (by decide) rfl) ?_
  refine aI_c (fun hd => s_al_n hX hd rfl rfl) ?_
  refine aI_c (fun hd => s_gF hX (C := RX5) (T := TX5) (N := 35) (k := 1) rfl (fun w h => up w (inlX5 w h)) (by decide) rfl rfl rfl (up _ lkX5_7) hd rfl) ?_
  refine aI_c (fun hd => s_il_n hX hd rfl rfl) ?_
  refine aI_c (fun hd => s_iald hX hd rfl) ?_
  refine aI_c (fun hd => s_il_n hX hd rfl rfl) ?_
  refine aI_c (fun hd => s_cS hX (nX5_isUnder l) (wg_S up lmX5_262 loX5_isUnder) rfl rfl rfl (by decide +kernel) ⟨by decide, by decide⟩ ⟨Nat.zero_le _, Nat.zero_le _⟩ hd rfl) ?_
  refine aI_c (fun hd => s_if_eq hX hd (by decide) rfl) ?_
  refine aI_c (fun hd => s_il_n hX hd rfl rfl) ?_
  refine aI_c (fun hd => s_go hX hd (by decide)) ?_
  refine aI_c (fun hd => s_bp hX hd (by decide) rfl) ?_
  refine aI_c (fun hd => s_ri hX hr hlk hE hd) ?_
  exact trivial
