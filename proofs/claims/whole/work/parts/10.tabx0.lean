-- J6.bitCount(I)I
def tJ6_bitCount_0f7a4 : aT := [
  (0, (.iload_n 0, 1), o_il 0 1),
  (1, (.iload_n 0, 1), o_il 0 2),
  (2, (.iconst 1, 1), o_ii 1 3),
  (3, (.iushr, 1), o_bi (fun x y => (x.toUInt32 >>> (y.toUInt32 &&& Int32.toUInt32 31)).toInt32) 4),
  (4, (.ldc_w 265, 3), o_ii 1431655765 7),
  (7, (.iand, 1), o_bi (fun x y => x &&& y) 8),
  (8, (.isub, 1), o_bi (fun x y => x - y) 9),
  (9, (.istore_n 0, 1), o_is 0 10),
  (10, (.iload_n 0, 1), o_il 0 11),
  (11, (.ldc_w 266, 3), o_ii 858993459 14),
  (14, (.iand, 1), o_bi (fun x y => x &&& y) 15),
  (15, (.iload_n 0, 1), o_il 0 16),
  (16, (.iconst 2, 1), o_ii 2 17),
  (17, (.iushr, 1), o_bi (fun x y => (x.toUInt32 >>> (y.toUInt32 &&& Int32.toUInt32 31)).toInt32) 18),
  (18, (.ldc_w 266, 3), o_ii 858993459 21),
  (21, (.iand, 1), o_bi (fun x y => x &&& y) 22),
  (22, (.iadd, 1), o_bi (fun x y => x + y) 23),
  (23, (.istore_n 0, 1), o_is 0 24),
  (24, (.iload_n 0, 1), o_il 0 25),
  (25, (.iload_n 0, 1), o_il 0 26),
  (26, (.iconst 4, 1), o_ii 4 27),
  (27, (.iushr, 1), o_bi (fun x y => (x.toUInt32 >>> (y.toUInt32 &&& Int32.toUInt32 31)).toInt32) 28),
  (28, (.iadd, 1), o_bi (fun x y => x + y) 29),
  (29, (.ldc_w 267, 3), o_ii 252645135 32),
  (32, (.iand, 1), o_bi (fun x y => x &&& y) 33),
  (33, (.istore_n 0, 1), o_is 0 34),
  (34, (.iload_n 0, 1), o_il 0 35),
  (35, (.iload_n 0, 1), o_il 0 36),
  (36, (.bipush 8, 2), o_ii 8 38),
  (38, (.iushr, 1), o_bi (fun x y => (x.toUInt32 >>> (y.toUInt32 &&& Int32.toUInt32 31)).toInt32) 39),
  (39, (.iadd, 1), o_bi (fun x y => x + y) 40),
  (40, (.istore_n 0, 1), o_is 0 41),
  (41, (.iload_n 0, 1), o_il 0 42),
  (42, (.iload_n 0, 1), o_il 0 43),
  (43, (.bipush 16, 2), o_ii 16 45),
  (45, (.iushr, 1), o_bi (fun x y => (x.toUInt32 >>> (y.toUInt32 &&& Int32.toUInt32 31)).toInt32) 46),
  (46, (.iadd, 1), o_bi (fun x y => x + y) 47),
  (47, (.istore_n 0, 1), o_is 0 48),
  (48, (.iload_n 0, 1), o_il 0 49),
  (49, (.bipush 63, 2), o_ii 63 51),
  (51, (.iand, 1), o_bi (fun x y => x &&& y) 52),
  (52, (.ireturn, 1), o_ri)]
abbrev CJ6_bitCount_0f7a4 : aC := aCl tJ6_bitCount_0f7a4 1
def rmJ6_bitCount_0f7a4 : Room := { frames := 1, cells := 0, slots := 0, locals := 1 }
set_option maxRecDepth 100000 in
theorem dJ6_bitCount_0f7a4 : tJ6_bitCount_0f7a4.all (fun q => decide (decode cJ6_bitCount_0f7a4 q.1 = .ok q.2.1)) = true := by decide +kernel
set_option maxRecDepth 100000 in
set_option maxHeartbeats 4000000 in
theorem nJ6_bitCount_0f7a4 (l : Launch) : aMt l yJ6_bitCount_0f7a4 (Cond.code yJ6_bitCount_0f7a4 cJ6_bitCount_0f7a4 1 (some .int) :: wsL_law) rmJ6_bitCount_0f7a4 CJ6_bitCount_0f7a4 := by
  refine aMt.of (own := RJ6) (cc := cJ6_bitCount_0f7a4) (maxL := 1) (ret := (some .int)) (by decide +kernel) rfl rfl ?_
  intro p e s m args below meth c Qc D Z ad P G A E hX hr hlk hE
  have up : ∀ w ∈ wsL_law, w ∈ (Cond.code yJ6_bitCount_0f7a4 cJ6_bitCount_0f7a4 1 (some .int) :: wsL_law) := fun w h => List.mem_cons_of_mem _ h
  refine aImp_all _ dJ6_bitCount_0f7a4 ?_
  unfold tJ6_bitCount_0f7a4
  refine aI_c (fun hd => s_il_n hX hd rfl rfl) ?_
  refine aI_c (fun hd => s_il_n hX hd rfl rfl) ?_
  refine aI_c (fun hd => s_ii hX hd (by decide) rfl) ?_
  refine aI_c (fun hd => s_iushr hX hd rfl) ?_
  refine aI_c (fun hd => s_ldcw hX hd (up _ lcJ6_265) rfl) ?_
  refine aI_c (fun hd => s_iand hX hd rfl) ?_
  refine aI_c (fun hd => s_isub hX hd rfl) ?_
  refine aI_c (fun hd => s_is_n hX hd rfl rfl (by decide)) ?_
  refine aI_c (fun hd => s_il_n hX hd rfl rfl) ?_
  refine aI_c (fun hd => s_ldcw hX hd (up _ lcJ6_266) rfl) ?_
  refine aI_c (fun hd => s_iand hX hd rfl) ?_
  refine aI_c (fun hd => s_il_n hX hd rfl rfl) ?_
  refine aI_c (fun hd => s_ii hX hd (by decide) rfl) ?_
  refine aI_c (fun hd => s_iushr hX hd rfl) ?_
  refine aI_c (fun hd => s_ldcw hX hd (up _ lcJ6_266) rfl) ?_
  refine aI_c (fun hd => s_iand hX hd rfl) ?_
  refine aI_c (fun hd => s_iadd hX hd rfl) ?_
  refine aI_c (fun hd => s_is_n hX hd rfl rfl (by decide)) ?_
  refine aI_c (fun hd => s_il_n hX hd rfl rfl) ?_
  refine aI_c (fun hd => s_il_n hX hd rfl rfl) ?_
  refine aI_c (fun hd => s_ii hX hd (by decide) rfl) ?_
  refine aI_c (fun hd => s_iushr hX hd rfl) ?_
  refine aI_c (fun hd => s_iadd hX hd rfl) ?_
  refine aI_c (fun hd => s_ldcw hX hd (up _ lcJ6_267) rfl) ?_
  refine aI_c (fun hd => s_iand hX hd rfl) ?_
  refine aI_c (fun hd => s_is_n hX hd rfl rfl (by decide)) ?_
  refine aI_c (fun hd => s_il_n hX hd rfl rfl) ?_
  refine aI_c (fun hd => s_il_n hX hd rfl rfl) ?_
  refine aI_c (fun hd => s_bp hX hd (by decide) rfl) ?_
  refine aI_c (fun hd => s_iushr hX hd rfl) ?_
  refine aI_c (fun hd => s_iadd hX hd rfl) ?_
  refine aI_c (fun hd => s_is_n hX hd rfl rfl (by decide)) ?_
  refine aI_c (fun hd => s_il_n hX hd rfl rfl) ?_
  refine aI_c (fun hd => s_il_n hX hd rfl rfl) ?_
  refine aI_c (fun hd => s_bp hX hd (by decide) rfl) ?_
  refine aI_c (fun hd => s_iushr hX hd rfl) ?_
  refine aI_c (fun hd => s_iadd hX hd rfl) ?_
  refine aI_c (fun hd => s_is_n hX hd rfl rfl (by decide)) ?_
  refine aI_c (fun hd => s_il_n hX hd rfl rfl) ?_
  refine aI_c (fun hd => s_bp hX hd (by decide) rfl) ?_
  refine aI_c (fun hd => s_iand hX hd rfl) ?_
  refine aI_c (fun hd => s_ri hX hr hlk hE hd) ?_
  exact trivial

-- JudgesByLoss$Bench.obey(LJudgesByLoss$Text;I)V
def tX0_obey : aT := [
  (0, (.aload_n 1, 1), o_al 1 1),
  (1, (.ifnull 13, 3), o_nul 14 4),
  (4, (.aload_n 0, 1), o_al 0 5),
  (5, (.aload_n 1, 1), o_al 1 6),
  (6, (.putfield 39, 3), o_pR 0 14 9),
  (9, (.aload_n 0, 1), o_al 0 10),
  (10, (.iload_n 2, 1), o_il 2 11),
  (11, (.putfield 43, 3), o_pI 0 13 14),
  (14, (.return_, 1), o_rv)]
abbrev CX0_obey : aC := aCl tX0_obey 3
def rmX0_obey : Room := { frames := 1, cells := 0, slots := 0, locals := 1 }
set_option maxRecDepth 100000 in
theorem dX0_obey : tX0_obey.all (fun q => decide (decode cX0_obey q.1 = .ok q.2.1)) = true := by decide +kernel
set_option maxRecDepth 100000 in
set_option maxHeartbeats 4000000 in
theorem nX0_obey (l : Launch) : aMt l yX0_obey (Cond.code yX0_obey cX0_obey 3 none :: wsL_law) rmX0_obey CX0_obey := by
  refine aMt.of (own := RX0) (cc := cX0_obey) (maxL := 3) (ret := none) (by decide +kernel) rfl rfl ?_
  intro p e s m args below meth c Qc D Z ad P G A E hX hr hlk hE
  have up : ∀ w ∈ wsL_law, w ∈ (Cond.code yX0_obey cX0_obey 3 none :: wsL_law) := fun w h => List.mem_cons_of_mem _ h
  refine aImp_all _ dX0_obey ?_
  unfold tX0_obey
  refine aI_c (fun hd => s_al_n hX hd rfl rfl) ?_
  refine aI_c (fun hd => s_nul hX hd (by decide) rfl) ?_
  refine aI_c (fun hd => s_al_n hX hd rfl rfl) ?_
  refine aI_c (fun hd => s_al_n hX hd rfl rfl) ?_
  refine aI_c (fun hd => s_pR hX (C := RX0) (T := TX0) (N := 15) (k := 14) rfl (fun w h => up w (inlX0 w h)) (by decide) rfl rfl tyX0 tyX0_ok nmX0 rfl rfl rfl (up _ lkX0_39) hd rfl) ?_
  refine aI_c (fun hd => s_al_n hX hd rfl rfl) ?_
  refine aI_c (fun hd => s_il_n hX hd rfl rfl) ?_
  refine aI_c (fun hd => s_pI hX (C := RX0) (T := TX0) (N := 15) (k := 13) rfl (fun w h => up w (inlX0 w h)) (by decide) rfl rfl tyX0 tyX0_ok nmX0 rfl rfl rfl (up _ lkX0_43) hd rfl) ?_
  refine aI_c (fun hd => s_rv hX hr hlk hE hd) ?_
  exact trivial

-- JudgesByLoss$Bench.hasJudge(I)Z
def tX0_hasJudge : aT := [
  (0, (.iload_n 1, 1), o_il 1 1),
  (1, (.ifCond .lt 15, 3), o_if (fun x => x < 0) 16 4),
  (4, (.iload_n 1, 1), o_il 1 5),
  (5, (.aload_n 0, 1), o_al 0 6),
  (6, (.getfield 53, 3), o_gI 0 9 9),
  (9, (.if_icmp .ge 7, 3), o_ic (fun x y => y ≤ x) 16 12),
  (12, (.iconst 1, 1), o_ii 1 13),
  (13, (.goto 4, 3), o_go 17),
  (16, (.iconst 0, 1), o_ii 0 17),
  (17, (.ireturn, 1), o_rz)]
abbrev CX0_hasJudge : aC := aCl tX0_hasJudge 2
def rmX0_hasJudge : Room := { frames := 1, cells := 0, slots := 0, locals := 1 }
set_option maxRecDepth 100000 in
theorem dX0_hasJudge : tX0_hasJudge.all (fun q => decide (decode cX0_hasJudge q.1 = .ok q.2.1)) = true := by decide +kernel
set_option maxRecDepth 100000 in
set_option maxHeartbeats 4000000 in
theorem nX0_hasJudge (l : Launch) : aMt l yX0_hasJudge (Cond.code yX0_hasJudge cX0_hasJudge 2 (some .boolean) :: wsL_law) rmX0_hasJudge CX0_hasJudge := by
  refine aMt.of (own := RX0) (cc := cX0_hasJudge) (maxL := 2) (ret := (some .boolean)) (by decide +kernel) rfl rfl ?_
  intro p e s m args below meth c Qc D Z ad P G A E hX hr hlk hE
  have up : ∀ w ∈ wsL_law, w ∈ (Cond.code yX0_hasJudge cX0_hasJudge 2 (some .boolean) :: wsL_law) := fun w h => List.mem_cons_of_mem _ h
  refine aImp_all _ dX0_hasJudge ?_
  unfold tX0_hasJudge
  refine aI_c (fun hd => s_il_n hX hd rfl rfl) ?_
  refine aI_c (fun hd => s_if_lt hX hd (by decide) rfl) ?_
  refine aI_c (fun hd => s_il_n hX hd rfl rfl) ?_
  refine aI_c (fun hd => s_al_n hX hd rfl rfl) ?_
  refine aI_c (fun hd => s_gI hX (C := RX0) (T := TX0) (N := 15) (k := 9) rfl (fun w h => up w (inlX0 w h)) (by decide) rfl rfl rfl (up _ lkX0_53) hd rfl) ?_
  refine aI_c (fun hd => s_ic_ge hX hd (by decide) rfl) ?_
  refine aI_c (fun hd => s_ii hX hd (by decide) rfl) ?_
  refine aI_c (fun hd => s_go hX hd (by decide)) ?_
  refine aI_c (fun hd => s_ii hX hd (by decide) rfl) ?_
  refine aI_c (fun hd => s_rz hX hr hlk hE hd) ?_
  exact trivial

-- JudgesByLoss$Bench.hasCase(I)Z
def tX0_hasCase : aT := [
  (0, (.iload_n 1, 1), o_il 1 1),
  (1, (.ifCond .lt 25, 3), o_if (fun x => x < 0) 26 4),
  (4, (.iload_n 1, 1), o_il 1 5),
  (5, (.bipush 8, 2), o_ii 8 7),
  (7, (.if_icmp .ge 19, 3), o_ic (fun x y => y ≤ x) 26 10),
  (10, (.aload_n 0, 1), o_al 0 11),
  (11, (.getfield 56, 3), o_gI 0 10 14),
  (14, (.iload_n 1, 1), o_il 1 15),
  (15, (.ishr, 1), o_bi (fun x y => x >>> (y &&& 31)) 16),
  (16, (.iconst 1, 1), o_ii 1 17),
  (17, (.iand, 1), o_bi (fun x y => x &&& y) 18),
  (18, (.iconst 1, 1), o_ii 1 19),
  (19, (.if_icmp .ne 7, 3), o_ic (fun x y => ¬ x = y) 26 22),
  (22, (.iconst 1, 1), o_ii 1 23),
  (23, (.goto 4, 3), o_go 27),
  (26, (.iconst 0, 1), o_ii 0 27),
  (27, (.ireturn, 1), o_rz)]
abbrev CX0_hasCase : aC := aCl tX0_hasCase 2
def rmX0_hasCase : Room := { frames := 1, cells := 0, slots := 0, locals := 1 }
set_option maxRecDepth 100000 in
theorem dX0_hasCase : tX0_hasCase.all (fun q => decide (decode cX0_hasCase q.1 = .ok q.2.1)) = true := by decide +kernel
set_option maxRecDepth 100000 in
set_option maxHeartbeats 4000000 in
theorem nX0_hasCase (l : Launch) : aMt l yX0_hasCase (Cond.code yX0_hasCase cX0_hasCase 2 (some .boolean) :: wsL_law) rmX0_hasCase CX0_hasCase := by
  refine aMt.of (own := RX0) (cc := cX0_hasCase) (maxL := 2) (ret := (some .boolean)) (by decide +kernel) rfl rfl ?_
  intro p e s m args below meth c Qc D Z ad P G A E hX hr hlk hE
  have up : ∀ w ∈ wsL_law, w ∈ (Cond.code yX0_hasCase cX0_hasCase 2 (some .boolean) :: wsL_law) := fun w h => List.mem_cons_of_mem _ h
  refine aImp_all _ dX0_hasCase ?_
  unfold tX0_hasCase
  refine aI_c (fun hd => s_il_n hX hd rfl rfl) ?_
  refine aI_c (fun hd => s_if_lt hX hd (by decide) rfl) ?_
  refine aI_c (fun hd => s_il_n hX hd rfl rfl) ?_
  refine aI_c (fun hd => s_bp hX hd (by decide) rfl) ?_
  refine aI_c (fun hd => s_ic_ge hX hd (by decide) rfl) ?_
  refine aI_c (fun hd => s_al_n hX hd rfl rfl) ?_
  refine aI_c (fun hd => s_gI hX (C := RX0) (T := TX0) (N := 15) (k := 10) rfl (fun w h => up w (inlX0 w h)) (by decide) rfl rfl rfl (up _ lkX0_56) hd rfl) ?_
  refine aI_c (fun hd => s_il_n hX hd rfl rfl) ?_
  refine aI_c (fun hd => s_ishr hX hd rfl) ?_
  refine aI_c (fun hd => s_ii hX hd (by decide) rfl) ?_
  refine aI_c (fun hd => s_iand hX hd rfl) ?_
  refine aI_c (fun hd => s_ii hX hd (by decide) rfl) ?_
  refine aI_c (fun hd => s_ic_ne hX hd (by decide) rfl) ?_
  refine aI_c (fun hd => s_ii hX hd (by decide) rfl) ?_
  refine aI_c (fun hd => s_go hX hd (by decide)) ?_
  refine aI_c (fun hd => s_ii hX hd (by decide) rfl) ?_
  refine aI_c (fun hd => s_rz hX hr hlk hE hd) ?_
  exact trivial

-- JudgesByLoss$Text.valueOf(I[I)I
def tX3_valueOf : aT := [
  (0, (.aload_n 0, 1), o_al 0 1),
  (1, (.getfield 16, 3), o_gF 3 2 4),
  (4, (.iload_n 1, 1), o_il 1 5),
  (5, (.iaload, 1), o_iald 6),
  (6, (.aload_n 0, 1), o_al 0 7),
  (7, (.getfield 13, 3), o_gF 3 1 10),
  (10, (.arraylength, 1), o_alen 11),
  (11, (.invokestatic 19, 3), o_min 14),
  (14, (.istore_n 3, 1), o_is 3 15),
  (15, (.iconst (-1), 1), o_ii (-1) 16),
  (16, (.istore 4, 2), o_is 4 18),
  (18, (.iload_n 1, 1), o_il 1 19),
  (19, (.ifCond .ne 7, 3), o_if (fun x => ¬ x = 0) 26 22),
  (22, (.iconst 0, 1), o_ii 0 23),
  (23, (.goto 11, 3), o_go 34),
  (26, (.aload_n 0, 1), o_al 0 27),
  (27, (.getfield 16, 3), o_gF 3 2 30),
  (30, (.iload_n 1, 1), o_il 1 31),
  (31, (.iconst 1, 1), o_ii 1 32),
  (32, (.isub, 1), o_bi (fun x y => x - y) 33),
  (33, (.iaload, 1), o_iald 34),
  (34, (.istore 5, 2), o_is 5 36),
  (36, (.iload 5, 2), o_mk [false, true, false, false, false, false, true, true, true] (o_il 5 38)),
  (38, (.iload_n 3, 1), o_il 3 39),
  (39, (.if_icmp .ge 331, 3), o_ic (fun x y => y ≤ x) 370 42),
  (42, (.aload_n 0, 1), o_al 0 43),
  (43, (.getfield 13, 3), o_gF 3 1 46),
  (46, (.iload 5, 2), o_il 5 48),
  (48, (.iaload, 1), o_iald 49),
  (49, (.istore 6, 2), o_is 6 51),
  (51, (.iload 6, 2), o_il 6 53),
  (53, (.bipush (-6), 2), o_ii (-6) 55),
  (55, (.if_icmp .lt 39, 3), o_ic (fun x y => x < y) 94 58),
  (58, (.iload 4, 2), o_il 4 60),
  (60, (.bipush 39, 2), o_ii 39 62),
  (62, (.if_icmp .ge 32, 3), o_ic (fun x y => y ≤ x) 94 65),
  (65, (.iinc 4 1, 3), o_inc 4 1 68),
  (68, (.aload_n 0, 1), o_al 0 69),
  (69, (.getfield 9, 3), o_gF 3 3 72),
  (72, (.iload 4, 2), o_il 4 74),
  (74, (.iload 6, 2), o_il 6 76),
  (76, (.ifCond .lt 8, 3), o_if (fun x => x < 0) 84 79),
  (79, (.iload 6, 2), o_il 6 81),
  (81, (.goto 9, 3), o_go 90),
  (84, (.aload_n 2, 1), o_al 2 85),
  (85, (.iconst (-1), 1), o_ii (-1) 86),
  (86, (.iload 6, 2), o_il 6 88),
  (88, (.isub, 1), o_bi (fun x y => x - y) 89),
  (89, (.iaload, 1), o_iald 90),
  (90, (.iastore, 1), o_iast 91),
  (91, (.goto 273, 3), o_go 364),
  (94, (.iload 4, 2), o_il 4 96),
  (96, (.ifCond .lt 60, 3), o_if (fun x => x < 0) 156 99),
  (99, (.iload 6, 2), o_il 6 101),
  (101, (.bipush (-9), 2), o_ii (-9) 103),
  (103, (.if_icmp .eq 10, 3), o_ic (fun x y => x = y) 113 106),
  (106, (.iload 6, 2), o_il 6 108),
  (108, (.bipush (-15), 2), o_ii (-15) 110),
  (110, (.if_icmp .ne 46, 3), o_ic (fun x y => ¬ x = y) 156 113),
  (113, (.aload_n 0, 1), o_al 0 114),
  (114, (.getfield 9, 3), o_gF 3 3 117),
  (117, (.iload 4, 2), o_il 4 119),
  (119, (.iload 6, 2), o_il 6 121),
  (121, (.bipush (-15), 2), o_ii (-15) 123),
  (123, (.if_icmp .ne 14, 3), o_ic (fun x y => ¬ x = y) 137 126),
  (126, (.aload_n 0, 1), o_al 0 127),
  (127, (.getfield 9, 3), o_gF 3 3 130),
  (130, (.iload 4, 2), o_il 4 132),
  (132, (.iaload, 1), o_iald 133),
  (133, (.ineg, 1), o_ui (fun x => -x) 134),
  (134, (.goto 18, 3), o_go 152),
  (137, (.aload_n 0, 1), o_al 0 138),
  (138, (.getfield 9, 3), o_gF 3 3 141),
  (141, (.iload 4, 2), o_il 4 143),
  (143, (.iaload, 1), o_iald 144),
  (144, (.ifCond .ne 7, 3), o_if (fun x => ¬ x = 0) 151 147),
  (147, (.iconst 1, 1), o_ii 1 148),
  (148, (.goto 4, 3), o_go 152),
  (151, (.iconst 0, 1), o_ii 0 152),
  (152, (.iastore, 1), o_iast 153),
  (153, (.goto 211, 3), o_go 364),
  (156, (.iload 4, 2), o_il 4 158),
  (158, (.iconst 1, 1), o_ii 1 159),
  (159, (.if_icmp .lt 205, 3), o_ic (fun x y => x < y) 364 162),
  (162, (.iinc 4 (-1), 3), o_inc 4 (-1) 165),
  (165, (.aload_n 0, 1), o_al 0 166),
  (166, (.getfield 9, 3), o_gF 3 3 169),
  (169, (.iload 4, 2), o_il 4 171),
  (171, (.iaload, 1), o_iald 172),
  (172, (.istore 7, 2), o_is 7 174),
  (174, (.aload_n 0, 1), o_al 0 175),
  (175, (.getfield 9, 3), o_gF 3 3 178),
  (178, (.iload 4, 2), o_il 4 180),
  (180, (.iconst 1, 1), o_ii 1 181),
  (181, (.iadd, 1), o_bi (fun x y => x + y) 182),
  (182, (.iaload, 1), o_iald 183),
  (183, (.istore 8, 2), o_is 8 185),
  (185, (.iload 6, 2), o_il 6 187),
  (187, (.tableswitch 165 (-13) (-7) #[150, 135, 113, 91, 165, 66, 41], 41), o_sw [((-13), 337), ((-12), 322), ((-11), 300), ((-10), 278), ((-9), 352), ((-8), 253), ((-7), 228)] 352),
  (228, (.aload_n 0, 1), o_al 0 229),
  (229, (.getfield 9, 3), o_gF 3 3 232),
  (232, (.iload 4, 2), o_il 4 234),
  (234, (.iload 7, 2), o_il 7 236),
  (236, (.ifCond .ne 8, 3), o_if (fun x => ¬ x = 0) 244 239),
  (239, (.iload 8, 2), o_il 8 241),
  (241, (.ifCond .eq 7, 3), o_if (fun x => x = 0) 248 244),
  (244, (.iconst 1, 1), o_ii 1 245),
  (245, (.goto 4, 3), o_go 249),
  (248, (.iconst 0, 1), o_ii 0 249),
  (249, (.iastore, 1), o_iast 250),
  (250, (.goto 114, 3), o_go 364),
  (253, (.aload_n 0, 1), o_al 0 254),
  (254, (.getfield 9, 3), o_gF 3 3 257),
  (257, (.iload 4, 2), o_il 4 259),
  (259, (.iload 7, 2), o_il 7 261),
  (261, (.ifCond .eq 12, 3), o_if (fun x => x = 0) 273 264),
  (264, (.iload 8, 2), o_il 8 266),
  (266, (.ifCond .eq 7, 3), o_if (fun x => x = 0) 273 269),
  (269, (.iconst 1, 1), o_ii 1 270),
  (270, (.goto 4, 3), o_go 274),
  (273, (.iconst 0, 1), o_ii 0 274),
  (274, (.iastore, 1), o_iast 275),
  (275, (.goto 89, 3), o_go 364),
  (278, (.aload_n 0, 1), o_al 0 279),
  (279, (.getfield 9, 3), o_gF 3 3 282),
  (282, (.iload 4, 2), o_il 4 284),
  (284, (.iload 7, 2), o_il 7 286),
  (286, (.iload 8, 2), o_il 8 288),
  (288, (.if_icmp .ge 7, 3), o_ic (fun x y => y ≤ x) 295 291),
  (291, (.iconst 1, 1), o_ii 1 292),
  (292, (.goto 4, 3), o_go 296),
  (295, (.iconst 0, 1), o_ii 0 296),
  (296, (.iastore, 1), o_iast 297),
  (297, (.goto 67, 3), o_go 364),
  (300, (.aload_n 0, 1), o_al 0 301),
  (301, (.getfield 9, 3), o_gF 3 3 304),
  (304, (.iload 4, 2), o_il 4 306),
  (306, (.iload 7, 2), o_il 7 308),
  (308, (.iload 8, 2), o_il 8 310),
  (310, (.if_icmp .ne 7, 3), o_ic (fun x y => ¬ x = y) 317 313),
  (313, (.iconst 1, 1), o_ii 1 314),
  (314, (.goto 4, 3), o_go 318),
  (317, (.iconst 0, 1), o_ii 0 318),
  (318, (.iastore, 1), o_iast 319),
  (319, (.goto 45, 3), o_go 364),
  (322, (.aload_n 0, 1), o_al 0 323),
  (323, (.getfield 9, 3), o_gF 3 3 326),
  (326, (.iload 4, 2), o_il 4 328),
  (328, (.iload 7, 2), o_il 7 330),
  (330, (.iload 8, 2), o_il 8 332),
  (332, (.iadd, 1), o_bi (fun x y => x + y) 333),
  (333, (.iastore, 1), o_iast 334),
  (334, (.goto 30, 3), o_go 364),
  (337, (.aload_n 0, 1), o_al 0 338),
  (338, (.getfield 9, 3), o_gF 3 3 341),
  (341, (.iload 4, 2), o_il 4 343),
  (343, (.iload 7, 2), o_il 7 345),
  (345, (.iload 8, 2), o_il 8 347),
  (347, (.isub, 1), o_bi (fun x y => x - y) 348),
  (348, (.iastore, 1), o_iast 349),
  (349, (.goto 15, 3), o_go 364),
  (352, (.aload_n 0, 1), o_al 0 353),
  (353, (.getfield 9, 3), o_gF 3 3 356),
  (356, (.iload 4, 2), o_il 4 358),
  (358, (.iload 7, 2), o_il 7 360),
  (360, (.iload 8, 2), o_il 8 362),
  (362, (.imul, 1), o_bi (fun x y => x * y) 363),
  (363, (.iastore, 1), o_iast 364),
  (364, (.iinc 5 1, 3), o_inc 5 1 367),
  (367, (.goto (-331), 3), o_go 36),
  (370, (.iload 4, 2), o_il 4 372),
  (372, (.ifCond .lt 13, 3), o_if (fun x => x < 0) 385 375),
  (375, (.aload_n 0, 1), o_al 0 376),
  (376, (.getfield 9, 3), o_gF 3 3 379),
  (379, (.iload 4, 2), o_il 4 381),
  (381, (.iaload, 1), o_iald 382),
  (382, (.goto 4, 3), o_go 386),
  (385, (.iconst 0, 1), o_ii 0 386),
  (386, (.ireturn, 1), o_ri)]
abbrev CX3_valueOf : aC := aCl tX3_valueOf 9
def rmX3_valueOf : Room := { frames := 1, cells := 0, slots := 0, locals := 21 }
set_option maxRecDepth 100000 in
theorem dX3_valueOf : tX3_valueOf.all (fun q => decide (decode cX3_valueOf q.1 = .ok q.2.1)) = true := by decide +kernel
set_option maxRecDepth 100000 in
set_option maxHeartbeats 4000000 in
theorem nX3_valueOf (l : Launch) : aMt l yX3_valueOf (Cond.code yX3_valueOf cX3_valueOf 9 (some .int) :: wsL_law) rmX3_valueOf CX3_valueOf := by
  refine aMt.of (own := RX3) (cc := cX3_valueOf) (maxL := 9) (ret := (some .int)) (by decide +kernel) rfl rfl ?_
  intro p e s m args below meth c Qc D Z ad P G A E hX hr hlk hE
  have up : ∀ w ∈ wsL_law, w ∈ (Cond.code yX3_valueOf cX3_valueOf 9 (some .int) :: wsL_law) := fun w h => List.mem_cons_of_mem _ h
  refine aImp_all _ dX3_valueOf ?_
  unfold tX3_valueOf
  refine aI_c (fun hd => s_al_n hX hd rfl rfl) ?_
  refine aI_c (fun hd => s_gF hX (C := RX3) (T := TX3) (N := 3) (k := 1) rfl (fun w h => up w (inlX3 w h)) (by decide) rfl rfl rfl (up _ lkX3_16) hd rfl) ?_
  refine aI_c (fun hd => s_il_n hX hd rfl rfl) ?_
  refine aI_c (fun hd => s_iald hX hd rfl) ?_
  refine aI_c (fun hd => s_al_n hX hd rfl rfl) ?_
  refine aI_c (fun hd => s_gF hX (C := RX3) (T := TX3) (N := 3) (k := 0) rfl (fun w h => up w (inlX3 w h)) (by decide) rfl rfl rfl (up _ lkX3_13) hd rfl) ?_
  refine aI_c (fun hd => s_alen hX hd rfl) ?_
  refine aI_c (fun hd => s_min hX (up _ lmX3_19) (up _ wma_smin) (up _ wma_i) (up _ wma_cmin) ⟨by decide, by decide⟩ ⟨Nat.zero_le _, Nat.zero_le _⟩ hd rfl) ?_
  refine aI_c (fun hd => s_is_n hX hd rfl rfl (by decide)) ?_
  refine aI_c (fun hd => s_ii hX hd (by decide) rfl) ?_
  refine aI_c (fun hd => s_is hX hd rfl (by decide)) ?_
  refine aI_c (fun hd => s_il_n hX hd rfl rfl) ?_
  refine aI_c (fun hd => s_if_ne hX hd (by decide) rfl) ?_
  refine aI_c (fun hd => s_ii hX hd (by decide) rfl) ?_
  refine aI_c (fun hd => s_go hX hd (by decide)) ?_
  refine aI_c (fun hd => s_al_n hX hd rfl rfl) ?_
  refine aI_c (fun hd => s_gF hX (C := RX3) (T := TX3) (N := 3) (k := 1) rfl (fun w h => up w (inlX3 w h)) (by decide) rfl rfl rfl (up _ lkX3_16) hd rfl) ?_
  refine aI_c (fun hd => s_il_n hX hd rfl rfl) ?_
  refine aI_c (fun hd => s_ii hX hd (by decide) rfl) ?_
  refine aI_c (fun hd => s_isub hX hd rfl) ?_
  refine aI_c (fun hd => s_iald hX hd rfl) ?_
  refine aI_c (fun hd => s_is hX hd rfl (by decide)) ?_
  refine aI_c (fun hd => s_mk (s_il hX hd rfl)) ?_
  refine aI_c (fun hd => s_il_n hX hd rfl rfl) ?_
  refine aI_c (fun hd => s_ic_ge hX hd (by decide) rfl) ?_
  refine aI_c (fun hd => s_al_n hX hd rfl rfl) ?_
  refine aI_c (fun hd => s_gF hX (C := RX3) (T := TX3) (N := 3) (k := 0) rfl (fun w h => up w (inlX3 w h)) (by decide) rfl rfl rfl (up _ lkX3_13) hd rfl) ?_
  refine aI_c (fun hd => s_il hX hd rfl) ?_
  refine aI_c (fun hd => s_iald hX hd rfl) ?_
  refine aI_c (fun hd => s_is hX hd rfl (by decide)) ?_
  refine aI_c (fun hd => s_il hX hd rfl) ?_
  refine aI_c (fun hd => s_bp hX hd (by decide) rfl) ?_
  refine aI_c (fun hd => s_ic_lt hX hd (by decide) rfl) ?_
  refine aI_c (fun hd => s_il hX hd rfl) ?_
  refine aI_c (fun hd => s_bp hX hd (by decide) rfl) ?_
  refine aI_c (fun hd => s_ic_ge hX hd (by decide) rfl) ?_
  refine aI_c (fun hd => s_inc hX hd (by decide) rfl (by decide)) ?_
  refine aI_c (fun hd => s_al_n hX hd rfl rfl) ?_
  refine aI_c (fun hd => s_gF hX (C := RX3) (T := TX3) (N := 3) (k := 2) rfl (fun w h => up w (inlX3 w h)) (by decide) rfl rfl rfl (up _ lkX3_9) hd rfl) ?_
  refine aI_c (fun hd => s_il hX hd rfl) ?_
  refine aI_c (fun hd => s_il hX hd rfl) ?_
  refine aI_c (fun hd => s_if_lt hX hd (by decide) rfl) ?_
  refine aI_c (fun hd => s_il hX hd rfl) ?_
  refine aI_c (fun hd => s_go hX hd (by decide)) ?_
  refine aI_c (fun hd => s_al_n hX hd rfl rfl) ?_
  refine aI_c (fun hd => s_ii hX hd (by decide) rfl) ?_
  refine aI_c (fun hd => s_il hX hd rfl) ?_
  refine aI_c (fun hd => s_isub hX hd rfl) ?_
  refine aI_c (fun hd => s_iald hX hd rfl) ?_
  refine aI_c (fun hd => s_iast hX hd rfl) ?_
  refine aI_c (fun hd => s_go hX hd (by decide)) ?_
  refine aI_c (fun hd => s_il hX hd rfl) ?_
  refine aI_c (fun hd => s_if_lt hX hd (by decide) rfl) ?_
  refine aI_c (fun hd => s_il hX hd rfl) ?_
  refine aI_c (fun hd => s_bp hX hd (by decide) rfl) ?_
  refine aI_c (fun hd => s_ic_eq hX hd (by decide) rfl) ?_
  refine aI_c (fun hd => s_il hX hd rfl) ?_
  refine aI_c (fun hd => s_bp hX hd (by decide) rfl) ?_
  refine aI_c (fun hd => s_ic_ne hX hd (by decide) rfl) ?_
  refine aI_c (fun hd => s_al_n hX hd rfl rfl) ?_
  refine aI_c (fun hd => s_gF hX (C := RX3) (T := TX3) (N := 3) (k := 2) rfl (fun w h => up w (inlX3 w h)) (by decide) rfl rfl rfl (up _ lkX3_9) hd rfl) ?_
  refine aI_c (fun hd => s_il hX hd rfl) ?_
  refine aI_c (fun hd => s_il hX hd rfl) ?_
  refine aI_c (fun hd => s_bp hX hd (by decide) rfl) ?_
  refine aI_c (fun hd => s_ic_ne hX hd (by decide) rfl) ?_
  refine aI_c (fun hd => s_al_n hX hd rfl rfl) ?_
  refine aI_c (fun hd => s_gF hX (C := RX3) (T := TX3) (N := 3) (k := 2) rfl (fun w h => up w (inlX3 w h)) (by decide) rfl rfl rfl (up _ lkX3_9) hd rfl) ?_
  refine aI_c (fun hd => s_il hX hd rfl) ?_
  refine aI_c (fun hd => s_iald hX hd rfl) ?_
  refine aI_c (fun hd => s_ineg hX hd rfl) ?_
  refine aI_c (fun hd => s_go hX hd (by decide)) ?_
  refine aI_c (fun hd => s_al_n hX hd rfl rfl) ?_
  refine aI_c (fun hd => s_gF hX (C := RX3) (T := TX3) (N := 3) (k := 2) rfl (fun w h => up w (inlX3 w h)) (by decide) rfl rfl rfl (up _ lkX3_9) hd rfl) ?_
  refine aI_c (fun hd => s_il hX hd rfl) ?_
  refine aI_c (fun hd => s_iald hX hd rfl) ?_
  refine aI_c (fun hd => s_if_ne hX hd (by decide) rfl) ?_
  refine aI_c (fun hd => s_ii hX hd (by decide) rfl) ?_
  refine aI_c (fun hd => s_go hX hd (by decide)) ?_
  refine aI_c (fun hd => s_ii hX hd (by decide) rfl) ?_
  refine aI_c (fun hd => s_iast hX hd rfl) ?_
  refine aI_c (fun hd => s_go hX hd (by decide)) ?_
  refine aI_c (fun hd => s_il hX hd rfl) ?_
  refine aI_c (fun hd => s_ii hX hd (by decide) rfl) ?_
  refine aI_c (fun hd => s_ic_lt hX hd (by decide) rfl) ?_
  refine aI_c (fun hd => s_inc hX hd (by decide) rfl (by decide)) ?_
  refine aI_c (fun hd => s_al_n hX hd rfl rfl) ?_
  refine aI_c (fun hd => s_gF hX (C := RX3) (T := TX3) (N := 3) (k := 2) rfl (fun w h => up w (inlX3 w h)) (by decide) rfl rfl rfl (up _ lkX3_9) hd rfl) ?_
  refine aI_c (fun hd => s_il hX hd rfl) ?_
  refine aI_c (fun hd => s_iald hX hd rfl) ?_
  refine aI_c (fun hd => s_is hX hd rfl (by decide)) ?_
  refine aI_c (fun hd => s_al_n hX hd rfl rfl) ?_
  refine aI_c (fun hd => s_gF hX (C := RX3) (T := TX3) (N := 3) (k := 2) rfl (fun w h => up w (inlX3 w h)) (by decide) rfl rfl rfl (up _ lkX3_9) hd rfl) ?_
  refine aI_c (fun hd => s_il hX hd rfl) ?_
  refine aI_c (fun hd => s_ii hX hd (by decide) rfl) ?_
  refine aI_c (fun hd => s_iadd hX hd rfl) ?_
  refine aI_c (fun hd => s_iald hX hd rfl) ?_
  refine aI_c (fun hd => s_is hX hd rfl (by decide)) ?_
  refine aI_c (fun hd => s_il hX hd rfl) ?_
  refine aI_c (fun hd => s_sw hX hd (by decide) (by decide +kernel)) ?_
  refine aI_c (fun hd => s_al_n hX hd rfl rfl) ?_
  refine aI_c (fun hd => s_gF hX (C := RX3) (T := TX3) (N := 3) (k := 2) rfl (fun w h => up w (inlX3 w h)) (by decide) rfl rfl rfl (up _ lkX3_9) hd rfl) ?_
  refine aI_c (fun hd => s_il hX hd rfl) ?_
  refine aI_c (fun hd => s_il hX hd rfl) ?_
  refine aI_c (fun hd => s_if_ne hX hd (by decide) rfl) ?_
  refine aI_c (fun hd => s_il hX hd rfl) ?_
  refine aI_c (fun hd => s_if_eq hX hd (by decide) rfl) ?_
  refine aI_c (fun hd => s_ii hX hd (by decide) rfl) ?_
  refine aI_c (fun hd => s_go hX hd (by decide)) ?_
  refine aI_c (fun hd => s_ii hX hd (by decide) rfl) ?_
  refine aI_c (fun hd => s_iast hX hd rfl) ?_
  refine aI_c (fun hd => s_go hX hd (by decide)) ?_
  refine aI_c (fun hd => s_al_n hX hd rfl rfl) ?_
  refine aI_c (fun hd => s_gF hX (C := RX3) (T := TX3) (N := 3) (k := 2) rfl (fun w h => up w (inlX3 w h)) (by decide) rfl rfl rfl (up _ lkX3_9) hd rfl) ?_
  refine aI_c (fun hd => s_il hX hd rfl) ?_
  refine aI_c (fun hd => s_il hX hd rfl) ?_
  refine aI_c (fun hd => s_if_eq hX hd (by decide) rfl) ?_
  refine aI_c (fun hd => s_il hX hd rfl) ?_
  refine aI_c (fun hd => s_if_eq hX hd (by decide) rfl) ?_
  refine aI_c (fun hd => s_ii hX hd (by decide) rfl) ?_
  refine aI_c (fun hd => s_go hX hd (by decide)) ?_
  refine aI_c (fun hd => s_ii hX hd (by decide) rfl) ?_
  refine aI_c (fun hd => s_iast hX hd rfl) ?_
  refine aI_c (fun hd => s_go hX hd (by decide)) ?_
  refine aI_c (fun hd => s_al_n hX hd rfl rfl) ?_
  refine aI_c (fun hd => s_gF hX (C := RX3) (T := TX3) (N := 3) (k := 2) rfl (fun w h => up w (inlX3 w h)) (by decide) rfl rfl rfl (up _ lkX3_9) hd rfl) ?_
  refine aI_c (fun hd => s_il hX hd rfl) ?_
  refine aI_c (fun hd => s_il hX hd rfl) ?_
  refine aI_c (fun hd => s_il hX hd rfl) ?_
  refine aI_c (fun hd => s_ic_ge hX hd (by decide) rfl) ?_
  refine aI_c (fun hd => s_ii hX hd (by decide) rfl) ?_
  refine aI_c (fun hd => s_go hX hd (by decide)) ?_
  refine aI_c (fun hd => s_ii hX hd (by decide) rfl) ?_
  refine aI_c (fun hd => s_iast hX hd rfl) ?_
  refine aI_c (fun hd => s_go hX hd (by decide)) ?_
  refine aI_c (fun hd => s_al_n hX hd rfl rfl) ?_
  refine aI_c (fun hd => s_gF hX (C := RX3) (T := TX3) (N := 3) (k := 2) rfl (fun w h => up w (inlX3 w h)) (by decide) rfl rfl rfl (up _ lkX3_9) hd rfl) ?_
  refine aI_c (fun hd => s_il hX hd rfl) ?_
  refine aI_c (fun hd => s_il hX hd rfl) ?_
  refine aI_c (fun hd => s_il hX hd rfl) ?_
  refine aI_c (fun hd => s_ic_ne hX hd (by decide) rfl) ?_
  refine aI_c (fun hd => s_ii hX hd (by decide) rfl) ?_
  refine aI_c (fun hd => s_go hX hd (by decide)) ?_
  refine aI_c (fun hd => s_ii hX hd (by decide) rfl) ?_
  refine aI_c (fun hd => s_iast hX hd rfl) ?_
  refine aI_c (fun hd => s_go hX hd (by decide)) ?_
  refine aI_c (fun hd => s_al_n hX hd rfl rfl) ?_
  refine aI_c (fun hd => s_gF hX (C := RX3) (T := TX3) (N := 3) (k := 2) rfl (fun w h => up w (inlX3 w h)) (by decide) rfl rfl rfl (up _ lkX3_9) hd rfl) ?_
  refine aI_c (fun hd => s_il hX hd rfl) ?_
  refine aI_c (fun hd => s_il hX hd rfl) ?_
  refine aI_c (fun hd => s_il hX hd rfl) ?_
  refine aI_c (fun hd => s_iadd hX hd rfl) ?_
  refine aI_c (fun hd => s_iast hX hd rfl) ?_
  refine aI_c (fun hd => s_go hX hd (by decide)) ?_
  refine aI_c (fun hd => s_al_n hX hd rfl rfl) ?_
  refine aI_c (fun hd => s_gF hX (C := RX3) (T := TX3) (N := 3) (k := 2) rfl (fun w h => up w (inlX3 w h)) (by decide) rfl rfl rfl (up _ lkX3_9) hd rfl) ?_
  refine aI_c (fun hd => s_il hX hd rfl) ?_
  refine aI_c (fun hd => s_il hX hd rfl) ?_
  refine aI_c (fun hd => s_il hX hd rfl) ?_
  refine aI_c (fun hd => s_isub hX hd rfl) ?_
  refine aI_c (fun hd => s_iast hX hd rfl) ?_
  refine aI_c (fun hd => s_go hX hd (by decide)) ?_
  refine aI_c (fun hd => s_al_n hX hd rfl rfl) ?_
  refine aI_c (fun hd => s_gF hX (C := RX3) (T := TX3) (N := 3) (k := 2) rfl (fun w h => up w (inlX3 w h)) (by decide) rfl rfl rfl (up _ lkX3_9) hd rfl) ?_
  refine aI_c (fun hd => s_il hX hd rfl) ?_
  refine aI_c (fun hd => s_il hX hd rfl) ?_
  refine aI_c (fun hd => s_il hX hd rfl) ?_
  refine aI_c (fun hd => s_imul hX hd rfl) ?_
  refine aI_c (fun hd => s_iast hX hd rfl) ?_
  refine aI_c (fun hd => s_inc hX hd (by decide) rfl (by decide)) ?_
  refine aI_c (fun hd => s_go hX hd (by decide)) ?_
  refine aI_c (fun hd => s_il hX hd rfl) ?_
  refine aI_c (fun hd => s_if_lt hX hd (by decide) rfl) ?_
  refine aI_c (fun hd => s_al_n hX hd rfl rfl) ?_
  refine aI_c (fun hd => s_gF hX (C := RX3) (T := TX3) (N := 3) (k := 2) rfl (fun w h => up w (inlX3 w h)) (by decide) rfl rfl rfl (up _ lkX3_9) hd rfl) ?_
  refine aI_c (fun hd => s_il hX hd rfl) ?_
  refine aI_c (fun hd => s_iald hX hd rfl) ?_
  refine aI_c (fun hd => s_go hX hd (by decide)) ?_
  refine aI_c (fun hd => s_ii hX hd (by decide) rfl) ?_
  refine aI_c (fun hd => s_ri hX hr hlk hE hd) ?_
  exact trivial

-- JudgesByLoss$Bench.says(III)I
def tX0_says : aT := [
  (0, (.aload_n 0, 1), o_al 0 1),
  (1, (.getfield 36, 3), o_gF 0 9 4),
  (4, (.iconst 0, 1), o_ii 0 5),
  (5, (.aload_n 0, 1), o_al 0 6),
  (6, (.getfield 30, 3), o_gF 0 7 9),
  (9, (.iload_n 3, 1), o_il 3 10),
  (10, (.iaload, 1), o_iald 11),
  (11, (.iastore, 1), o_iast 12),
  (12, (.aload_n 0, 1), o_al 0 13),
  (13, (.getfield 36, 3), o_gF 0 9 16),
  (16, (.iconst 1, 1), o_ii 1 17),
  (17, (.aload_n 0, 1), o_al 0 18),
  (18, (.getfield 27, 3), o_gF 0 6 21),
  (21, (.iload_n 3, 1), o_il 3 22),
  (22, (.iaload, 1), o_iald 23),
  (23, (.invokestatic 68, 3), o_cS CJ6_bitCount_0f7a4 1 26),
  (26, (.iastore, 1), o_iast 27),
  (27, (.aload_n 0, 1), o_al 0 28),
  (28, (.getfield 36, 3), o_gF 0 9 31),
  (31, (.iconst 2, 1), o_ii 2 32),
  (32, (.aload_n 0, 1), o_al 0 33),
  (33, (.getfield 21, 3), o_gF 0 4 36),
  (36, (.iload_n 2, 1), o_il 2 37),
  (37, (.iaload, 1), o_iald 38),
  (38, (.iastore, 1), o_iast 39),
  (39, (.aload_n 0, 1), o_al 0 40),
  (40, (.getfield 36, 3), o_gF 0 9 43),
  (43, (.iconst 3, 1), o_ii 3 44),
  (44, (.aload_n 0, 1), o_al 0 45),
  (45, (.getfield 18, 3), o_gF 0 3 48),
  (48, (.iload_n 2, 1), o_il 2 49),
  (49, (.iaload, 1), o_iald 50),
  (50, (.invokestatic 68, 3), o_cS CJ6_bitCount_0f7a4 1 53),
  (53, (.iastore, 1), o_iast 54),
  (54, (.aload_n 0, 1), o_al 0 55),
  (55, (.getfield 36, 3), o_gF 0 9 58),
  (58, (.iconst 4, 1), o_ii 4 59),
  (59, (.aload_n 0, 1), o_al 0 60),
  (60, (.getfield 59, 3), o_gI 0 11 63),
  (63, (.iastore, 1), o_iast 64),
  (64, (.aload_n 0, 1), o_al 0 65),
  (65, (.getfield 36, 3), o_gF 0 9 68),
  (68, (.iconst 5, 1), o_ii 5 69),
  (69, (.aload_n 0, 1), o_al 0 70),
  (70, (.getfield 15, 3), o_gF 0 2 73),
  (73, (.iload_n 2, 1), o_il 2 74),
  (74, (.iaload, 1), o_iald 75),
  (75, (.iastore, 1), o_iast 76),
  (76, (.iload_n 1, 1), o_il 1 77),
  (77, (.iconst 2, 1), o_ii 2 78),
  (78, (.if_icmp .ne 8, 3), o_ic (fun x y => ¬ x = y) 86 81),
  (81, (.bipush (-99), 2), o_ii (-99) 83),
  (83, (.goto 4, 3), o_go 87),
  (86, (.iconst 0, 1), o_ii 0 87),
  (87, (.istore 4, 2), o_is 4 89),
  (89, (.iload 4, 2), o_il 4 91),
  (91, (.bipush 99, 2), o_ii 99 93),
  (93, (.aload_n 0, 1), o_al 0 94),
  (94, (.getfield 39, 3), o_gR 0 14 97),
  (97, (.iload_n 1, 1), o_il 1 98),
  (98, (.aload_n 0, 1), o_al 0 99),
  (99, (.getfield 36, 3), o_gF 0 9 102),
  (102, (.invokevirtual 74, 3), o_cV CX3_valueOf 3 2 105),
  (105, (.invokestatic 80, 3), o_min 108),
  (108, (.invokestatic 86, 3), o_max 111),
  (111, (.ireturn, 1), o_ri)]
abbrev CX0_says : aC := aCl tX0_says 5
def rmX0_says : Room := { frames := 2, cells := 0, slots := 0, locals := 49 }
set_option maxRecDepth 100000 in
theorem dX0_says : tX0_says.all (fun q => decide (decode cX0_says q.1 = .ok q.2.1)) = true := by decide +kernel
set_option maxRecDepth 100000 in
set_option maxHeartbeats 4000000 in
theorem nX0_says (l : Launch) : aMt l yX0_says (Cond.code yX0_says cX0_says 5 (some .int) :: wsL_law) rmX0_says CX0_says := by
  refine aMt.of (own := RX0) (cc := cX0_says) (maxL := 5) (ret := (some .int)) (by decide +kernel) rfl rfl ?_
  intro p e s m args below meth c Qc D Z ad P G A E hX hr hlk hE
  have up : ∀ w ∈ wsL_law, w ∈ (Cond.code yX0_says cX0_says 5 (some .int) :: wsL_law) := fun w h => List.mem_cons_of_mem _ h
  refine aImp_all _ dX0_says ?_
  unfold tX0_says
  refine aI_c (fun hd => s_al_n hX hd rfl rfl) ?_
  refine aI_c (fun hd => s_gF hX (C := RX0) (T := TX0) (N := 15) (k := 8) rfl (fun w h => up w (inlX0 w h)) (by decide) rfl rfl rfl (up _ lkX0_36) hd rfl) ?_
  refine aI_c (fun hd => s_ii hX hd (by decide) rfl) ?_
  refine aI_c (fun hd => s_al_n hX hd rfl rfl) ?_
  refine aI_c (fun hd => s_gF hX (C := RX0) (T := TX0) (N := 15) (k := 6) rfl (fun w h => up w (inlX0 w h)) (by decide) rfl rfl rfl (up _ lkX0_30) hd rfl) ?_
  refine aI_c (fun hd => s_il_n hX hd rfl rfl) ?_
  refine aI_c (fun hd => s_iald hX hd rfl) ?_
  refine aI_c (fun hd => s_iast hX hd rfl) ?_
  refine aI_c (fun hd => s_al_n hX hd rfl rfl) ?_
  refine aI_c (fun hd => s_gF hX (C := RX0) (T := TX0) (N := 15) (k := 8) rfl (fun w h => up w (inlX0 w h)) (by decide) rfl rfl rfl (up _ lkX0_36) hd rfl) ?_
  refine aI_c (fun hd => s_ii hX hd (by decide) rfl) ?_
  refine aI_c (fun hd => s_al_n hX hd rfl rfl) ?_
  refine aI_c (fun hd => s_gF hX (C := RX0) (T := TX0) (N := 15) (k := 5) rfl (fun w h => up w (inlX0 w h)) (by decide) rfl rfl rfl (up _ lkX0_27) hd rfl) ?_
  refine aI_c (fun hd => s_il_n hX hd rfl rfl) ?_
  refine aI_c (fun hd => s_iald hX hd rfl) ?_
  refine aI_c (fun hd => s_cS hX (nJ6_bitCount_0f7a4 l) (wg_S up lmX0_68 loJ6_bitCount_0f7a4) rfl rfl rfl (by decide +kernel) ⟨by decide, by decide⟩ ⟨Nat.zero_le _, Nat.zero_le _⟩ hd rfl) ?_
  refine aI_c (fun hd => s_iast hX hd rfl) ?_
  refine aI_c (fun hd => s_al_n hX hd rfl rfl) ?_
  refine aI_c (fun hd => s_gF hX (C := RX0) (T := TX0) (N := 15) (k := 8) rfl (fun w h => up w (inlX0 w h)) (by decide) rfl rfl rfl (up _ lkX0_36) hd rfl) ?_
  refine aI_c (fun hd => s_ii hX hd (by decide) rfl) ?_
  refine aI_c (fun hd => s_al_n hX hd rfl rfl) ?_
  refine aI_c (fun hd => s_gF hX (C := RX0) (T := TX0) (N := 15) (k := 3) rfl (fun w h => up w (inlX0 w h)) (by decide) rfl rfl rfl (up _ lkX0_21) hd rfl) ?_
  refine aI_c (fun hd => s_il_n hX hd rfl rfl) ?_
  refine aI_c (fun hd => s_iald hX hd rfl) ?_
  refine aI_c (fun hd => s_iast hX hd rfl) ?_
  refine aI_c (fun hd => s_al_n hX hd rfl rfl) ?_
  refine aI_c (fun hd => s_gF hX (C := RX0) (T := TX0) (N := 15) (k := 8) rfl (fun w h => up w (inlX0 w h)) (by decide) rfl rfl rfl (up _ lkX0_36) hd rfl) ?_
  refine aI_c (fun hd => s_ii hX hd (by decide) rfl) ?_
  refine aI_c (fun hd => s_al_n hX hd rfl rfl) ?_
  refine aI_c (fun hd => s_gF hX (C := RX0) (T := TX0) (N := 15) (k := 2) rfl (fun w h => up w (inlX0 w h)) (by decide) rfl rfl rfl (up _ lkX0_18) hd rfl) ?_
  refine aI_c (fun hd => s_il_n hX hd rfl rfl) ?_
  refine aI_c (fun hd => s_iald hX hd rfl) ?_
  refine aI_c (fun hd => s_cS hX (nJ6_bitCount_0f7a4 l) (wg_S up lmX0_68 loJ6_bitCount_0f7a4) rfl rfl rfl (by decide +kernel) ⟨by decide, by decide⟩ ⟨Nat.zero_le _, Nat.zero_le _⟩ hd rfl) ?_
  refine aI_c (fun hd => s_iast hX hd rfl) ?_
  refine aI_c (fun hd => s_al_n hX hd rfl rfl) ?_
  refine aI_c (fun hd => s_gF hX (C := RX0) (T := TX0) (N := 15) (k := 8) rfl (fun w h => up w (inlX0 w h)) (by decide) rfl rfl rfl (up _ lkX0_36) hd rfl) ?_
  refine aI_c (fun hd => s_ii hX hd (by decide) rfl) ?_
  refine aI_c (fun hd => s_al_n hX hd rfl rfl) ?_
  refine aI_c (fun hd => s_gI hX (C := RX0) (T := TX0) (N := 15) (k := 11) rfl (fun w h => up w (inlX0 w h)) (by decide) rfl rfl rfl (up _ lkX0_59) hd rfl) ?_
  refine aI_c (fun hd => s_iast hX hd rfl) ?_
  refine aI_c (fun hd => s_al_n hX hd rfl rfl) ?_
  refine aI_c (fun hd => s_gF hX (C := RX0) (T := TX0) (N := 15) (k := 8) rfl (fun w h => up w (inlX0 w h)) (by decide) rfl rfl rfl (up _ lkX0_36) hd rfl) ?_
  refine aI_c (fun hd => s_ii hX hd (by decide) rfl) ?_
  refine aI_c (fun hd => s_al_n hX hd rfl rfl) ?_
  refine aI_c (fun hd => s_gF hX (C := RX0) (T := TX0) (N := 15) (k := 1) rfl (fun w h => up w (inlX0 w h)) (by decide) rfl rfl rfl (up _ lkX0_15) hd rfl) ?_
  refine aI_c (fun hd => s_il_n hX hd rfl rfl) ?_
  refine aI_c (fun hd => s_iald hX hd rfl) ?_
  refine aI_c (fun hd => s_iast hX hd rfl) ?_
  refine aI_c (fun hd => s_il_n hX hd rfl rfl) ?_
  refine aI_c (fun hd => s_ii hX hd (by decide) rfl) ?_
  refine aI_c (fun hd => s_ic_ne hX hd (by decide) rfl) ?_
  refine aI_c (fun hd => s_bp hX hd (by decide) rfl) ?_
  refine aI_c (fun hd => s_go hX hd (by decide)) ?_
  refine aI_c (fun hd => s_ii hX hd (by decide) rfl) ?_
  refine aI_c (fun hd => s_is hX hd rfl (by decide)) ?_
  refine aI_c (fun hd => s_il hX hd rfl) ?_
  refine aI_c (fun hd => s_bp hX hd (by decide) rfl) ?_
  refine aI_c (fun hd => s_al_n hX hd rfl rfl) ?_
  refine aI_c (fun hd => s_gR hX (C := RX0) (T := TX0) (N := 15) (k := 14) rfl (fun w h => up w (inlX0 w h)) (by decide) rfl rfl rfl (up _ lkX0_39) hd rfl) ?_
  refine aI_c (fun hd => s_il_n hX hd rfl rfl) ?_
  refine aI_c (fun hd => s_al_n hX hd rfl rfl) ?_
  refine aI_c (fun hd => s_gF hX (C := RX0) (T := TX0) (N := 15) (k := 8) rfl (fun w h => up w (inlX0 w h)) (by decide) rfl rfl rfl (up _ lkX0_36) hd rfl) ?_
  refine aI_c (fun hd => s_cV hX (T := TX3) (N := 3) (nX3_valueOf l) rfl (wg_V up lmX0_74 loX3_valueOf) rfl rfl rfl (by decide +kernel) ⟨by decide, by decide⟩ ⟨Nat.zero_le _, Nat.zero_le _⟩ hd rfl) ?_
  refine aI_c (fun hd => s_min hX (up _ lmX0_80) (up _ wma_smin) (up _ wma_i) (up _ wma_cmin) ⟨by decide, by decide⟩ ⟨Nat.zero_le _, Nat.zero_le _⟩ hd rfl) ?_
  refine aI_c (fun hd => s_max hX (up _ lmX0_86) (up _ wma_smax) (up _ wma_i) (up _ wma_cmax) ⟨by decide, by decide⟩ ⟨Nat.zero_le _, Nat.zero_le _⟩ hd rfl) ?_
  refine aI_c (fun hd => s_ri hX hr hlk hE hd) ?_
  exact trivial

-- JudgesByLoss$Bench.burden(II)I
def tX0_burden : aT := [
  (0, (.aload_n 0, 1), o_al 0 1),
  (1, (.getfield 27, 3), o_gF 0 6 4),
  (4, (.iload_n 2, 1), o_il 2 5),
  (5, (.iaload, 1), o_iald 6),
  (6, (.aload_n 0, 1), o_al 0 7),
  (7, (.getfield 18, 3), o_gF 0 3 10),
  (10, (.iload_n 1, 1), o_il 1 11),
  (11, (.iaload, 1), o_iald 12),
  (12, (.iconst (-1), 1), o_ii (-1) 13),
  (13, (.ixor, 1), o_bi (fun x y => x ^^^ y) 14),
  (14, (.iand, 1), o_bi (fun x y => x &&& y) 15),
  (15, (.invokestatic 68, 3), o_cS CJ6_bitCount_0f7a4 1 18),
  (18, (.istore_n 3, 1), o_is 3 19),
  (19, (.aload_n 0, 1), o_al 0 20),
  (20, (.getfield 9, 3), o_gF 0 1 23),
  (23, (.iload_n 1, 1), o_il 1 24),
  (24, (.iaload, 1), o_iald 25),
  (25, (.tableswitch 177 0 5 #[39, 49, 60, 86, 129, 155], 39), o_sw [(0, 64), (1, 74), (2, 85), (3, 111), (4, 154), (5, 180)] 202),
  (64, (.iload_n 3, 1), o_il 3 65),
  (65, (.ifCond .ne 7, 3), o_if (fun x => ¬ x = 0) 72 68),
  (68, (.iconst 1, 1), o_ii 1 69),
  (69, (.goto 4, 3), o_go 73),
  (72, (.iconst (-1), 1), o_ii (-1) 73),
  (73, (.ireturn, 1), o_ri),
  (74, (.iload_n 3, 1), o_il 3 75),
  (75, (.iconst 1, 1), o_ii 1 76),
  (76, (.if_icmp .gt 7, 3), o_ic (fun x y => y < x) 83 79),
  (79, (.iconst 1, 1), o_ii 1 80),
  (80, (.goto 4, 3), o_go 84),
  (83, (.iconst (-1), 1), o_ii (-1) 84),
  (84, (.ireturn, 1), o_ri),
  (85, (.iload_n 3, 1), o_il 3 86),
  (86, (.ifCond .ne 23, 3), o_if (fun x => ¬ x = 0) 109 89),
  (89, (.aload_n 0, 1), o_al 0 90),
  (90, (.getfield 59, 3), o_gI 0 11 93),
  (93, (.bipush 10, 2), o_ii 10 95),
  (95, (.irem, 1), o_rm 96),
  (96, (.aload_n 0, 1), o_al 0 97),
  (97, (.getfield 15, 3), o_gF 0 2 100),
  (100, (.iload_n 1, 1), o_il 1 101),
  (101, (.iaload, 1), o_iald 102),
  (102, (.if_icmp .lt 7, 3), o_ic (fun x y => x < y) 109 105),
  (105, (.iconst 1, 1), o_ii 1 106),
  (106, (.goto 4, 3), o_go 110),
  (109, (.iconst (-1), 1), o_ii (-1) 110),
  (110, (.ireturn, 1), o_ri),
  (111, (.aload_n 0, 1), o_al 0 112),
  (112, (.getfield 27, 3), o_gF 0 6 115),
  (115, (.iload_n 2, 1), o_il 2 116),
  (116, (.iaload, 1), o_iald 117),
  (117, (.iconst 1, 1), o_ii 1 118),
  (118, (.aload_n 0, 1), o_al 0 119),
  (119, (.getfield 15, 3), o_gF 0 2 122),
  (122, (.iload_n 1, 1), o_il 1 123),
  (123, (.iaload, 1), o_iald 124),
  (124, (.ishl, 1), o_bi (fun x y => x <<< (y &&& 31)) 125),
  (125, (.if_icmp .ne 5, 3), o_ic (fun x y => ¬ x = y) 130 128),
  (128, (.iconst 0, 1), o_ii 0 129),
  (129, (.ireturn, 1), o_ri),
  (130, (.iload_n 3, 1), o_il 3 131),
  (131, (.iconst 1, 1), o_ii 1 132),
  (132, (.if_icmp .gt 20, 3), o_ic (fun x y => y < x) 152 135),
  (135, (.aload_n 0, 1), o_al 0 136),
  (136, (.getfield 27, 3), o_gF 0 6 139),
  (139, (.iload_n 2, 1), o_il 2 140),
  (140, (.iaload, 1), o_iald 141),
  (141, (.invokestatic 68, 3), o_cS CJ6_bitCount_0f7a4 1 144),
  (144, (.iconst 3, 1), o_ii 3 145),
  (145, (.if_icmp .lt 7, 3), o_ic (fun x y => x < y) 152 148),
  (148, (.iconst 1, 1), o_ii 1 149),
  (149, (.goto 4, 3), o_go 153),
  (152, (.iconst (-1), 1), o_ii (-1) 153),
  (153, (.ireturn, 1), o_ri),
  (154, (.iload_n 3, 1), o_il 3 155),
  (155, (.ifCond .ne 23, 3), o_if (fun x => ¬ x = 0) 178 158),
  (158, (.aload_n 0, 1), o_al 0 159),
  (159, (.getfield 59, 3), o_gI 0 11 162),
  (162, (.bipush 10, 2), o_ii 10 164),
  (164, (.irem, 1), o_rm 165),
  (165, (.aload_n 0, 1), o_al 0 166),
  (166, (.getfield 15, 3), o_gF 0 2 169),
  (169, (.iload_n 1, 1), o_il 1 170),
  (170, (.iaload, 1), o_iald 171),
  (171, (.if_icmp .lt 7, 3), o_ic (fun x y => x < y) 178 174),
  (174, (.iconst 2, 1), o_ii 2 175),
  (175, (.goto 4, 3), o_go 179),
  (178, (.iconst (-1), 1), o_ii (-1) 179),
  (179, (.ireturn, 1), o_ri),
  (180, (.aload_n 0, 1), o_al 0 181),
  (181, (.getfield 59, 3), o_gI 0 11 184),
  (184, (.bipush 7, 2), o_ii 7 186),
  (186, (.irem, 1), o_rm 187),
  (187, (.aload_n 0, 1), o_al 0 188),
  (188, (.getfield 15, 3), o_gF 0 2 191),
  (191, (.iload_n 1, 1), o_il 1 192),
  (192, (.iaload, 1), o_iald 193),
  (193, (.if_icmp .ne 7, 3), o_ic (fun x y => ¬ x = y) 200 196),
  (196, (.iconst 0, 1), o_ii 0 197),
  (197, (.goto 4, 3), o_go 201),
  (200, (.iconst (-1), 1), o_ii (-1) 201),
  (201, (.ireturn, 1), o_ri),
  (202, (.iconst (-1), 1), o_ii (-1) 203),
  (203, (.ireturn, 1), o_ri)]
abbrev CX0_burden : aC := aCl tX0_burden 4
def rmX0_burden : Room := { frames := 2, cells := 0, slots := 0, locals := 21 }
set_option maxRecDepth 100000 in
theorem dX0_burden : tX0_burden.all (fun q => decide (decode cX0_burden q.1 = .ok q.2.1)) = true := by decide +kernel
set_option maxRecDepth 100000 in
set_option maxHeartbeats 4000000 in
theorem nX0_burden (l : Launch) : aMt l yX0_burden (Cond.code yX0_burden cX0_burden 4 (some .int) :: wsL_law) rmX0_burden CX0_burden := by
  refine aMt.of (own := RX0) (cc := cX0_burden) (maxL := 4) (ret := (some .int)) (by decide +kernel) rfl rfl ?_
  intro p e s m args below meth c Qc D Z ad P G A E hX hr hlk hE
  have up : ∀ w ∈ wsL_law, w ∈ (Cond.code yX0_burden cX0_burden 4 (some .int) :: wsL_law) := fun w h => List.mem_cons_of_mem _ h
  refine aImp_all _ dX0_burden ?_
  unfold tX0_burden
  refine aI_c (fun hd => s_al_n hX hd rfl rfl) ?_
  refine aI_c (fun hd => s_gF hX (C := RX0) (T := TX0) (N := 15) (k := 5) rfl (fun w h => up w (inlX0 w h)) (by decide) rfl rfl rfl (up _ lkX0_27) hd rfl) ?_
  refine aI_c (fun hd => s_il_n hX hd rfl rfl) ?_
  refine aI_c (fun hd => s_iald hX hd rfl) ?_
  refine aI_c (fun hd => s_al_n hX hd rfl rfl) ?_
  refine aI_c (fun hd => s_gF hX (C := RX0) (T := TX0) (N := 15) (k := 2) rfl (fun w h => up w (inlX0 w h)) (by decide) rfl rfl rfl (up _ lkX0_18) hd rfl) ?_
  refine aI_c (fun hd => s_il_n hX hd rfl rfl) ?_
  refine aI_c (fun hd => s_iald hX hd rfl) ?_
  refine aI_c (fun hd => s_ii hX hd (by decide) rfl) ?_
  refine aI_c (fun hd => s_ixor hX hd rfl) ?_
  refine aI_c (fun hd => s_iand hX hd rfl) ?_
  refine aI_c (fun hd => s_cS hX (nJ6_bitCount_0f7a4 l) (wg_S up lmX0_68 loJ6_bitCount_0f7a4) rfl rfl rfl (by decide +kernel) ⟨by decide, by decide⟩ ⟨Nat.zero_le _, Nat.zero_le _⟩ hd rfl) ?_
  refine aI_c (fun hd => s_is_n hX hd rfl rfl (by decide)) ?_
  refine aI_c (fun hd => s_al_n hX hd rfl rfl) ?_
  refine aI_c (fun hd => s_gF hX (C := RX0) (T := TX0) (N := 15) (k := 0) rfl (fun w h => up w (inlX0 w h)) (by decide) rfl rfl rfl (up _ lkX0_9) hd rfl) ?_
  refine aI_c (fun hd => s_il_n hX hd rfl rfl) ?_
  refine aI_c (fun hd => s_iald hX hd rfl) ?_
  refine aI_c (fun hd => s_sw hX hd (by decide) (by decide +kernel)) ?_
  refine aI_c (fun hd => s_il_n hX hd rfl rfl) ?_
  refine aI_c (fun hd => s_if_ne hX hd (by decide) rfl) ?_
  refine aI_c (fun hd => s_ii hX hd (by decide) rfl) ?_
  refine aI_c (fun hd => s_go hX hd (by decide)) ?_
  refine aI_c (fun hd => s_ii hX hd (by decide) rfl) ?_
  refine aI_c (fun hd => s_ri hX hr hlk hE hd) ?_
  refine aI_c (fun hd => s_il_n hX hd rfl rfl) ?_
  refine aI_c (fun hd => s_ii hX hd (by decide) rfl) ?_
  refine aI_c (fun hd => s_ic_gt hX hd (by decide) rfl) ?_
  refine aI_c (fun hd => s_ii hX hd (by decide) rfl) ?_
  refine aI_c (fun hd => s_go hX hd (by decide)) ?_
  refine aI_c (fun hd => s_ii hX hd (by decide) rfl) ?_
  refine aI_c (fun hd => s_ri hX hr hlk hE hd) ?_
  refine aI_c (fun hd => s_il_n hX hd rfl rfl) ?_
  refine aI_c (fun hd => s_if_ne hX hd (by decide) rfl) ?_
  refine aI_c (fun hd => s_al_n hX hd rfl rfl) ?_
  refine aI_c (fun hd => s_gI hX (C := RX0) (T := TX0) (N := 15) (k := 11) rfl (fun w h => up w (inlX0 w h)) (by decide) rfl rfl rfl (up _ lkX0_59) hd rfl) ?_
  refine aI_c (fun hd => s_bp hX hd (by decide) rfl) ?_
  refine aI_c (fun hd => s_irem hX hd rfl) ?_
  refine aI_c (fun hd => s_al_n hX hd rfl rfl) ?_
  refine aI_c (fun hd => s_gF hX (C := RX0) (T := TX0) (N := 15) (k := 1) rfl (fun w h => up w (inlX0 w h)) (by decide) rfl rfl rfl (up _ lkX0_15) hd rfl) ?_
  refine aI_c (fun hd => s_il_n hX hd rfl rfl) ?_
  refine aI_c (fun hd => s_iald hX hd rfl) ?_
  refine aI_c (fun hd => s_ic_lt hX hd (by decide) rfl) ?_
  refine aI_c (fun hd => s_ii hX hd (by decide) rfl) ?_
  refine aI_c (fun hd => s_go hX hd (by decide)) ?_
  refine aI_c (fun hd => s_ii hX hd (by decide) rfl) ?_
  refine aI_c (fun hd => s_ri hX hr hlk hE hd) ?_
  refine aI_c (fun hd => s_al_n hX hd rfl rfl) ?_
  refine aI_c (fun hd => s_gF hX (C := RX0) (T := TX0) (N := 15) (k := 5) rfl (fun w h => up w (inlX0 w h)) (by decide) rfl rfl rfl (up _ lkX0_27) hd rfl) ?_
  refine aI_c (fun hd => s_il_n hX hd rfl rfl) ?_
  refine aI_c (fun hd => s_iald hX hd rfl) ?_
  refine aI_c (fun hd => s_ii hX hd (by decide) rfl) ?_
  refine aI_c (fun hd => s_al_n hX hd rfl rfl) ?_
  refine aI_c (fun hd => s_gF hX (C := RX0) (T := TX0) (N := 15) (k := 1) rfl (fun w h => up w (inlX0 w h)) (by decide) rfl rfl rfl (up _ lkX0_15) hd rfl) ?_
  refine aI_c (fun hd => s_il_n hX hd rfl rfl) ?_
  refine aI_c (fun hd => s_iald hX hd rfl) ?_
  refine aI_c (fun hd => s_ishl hX hd rfl) ?_
  refine aI_c (fun hd => s_ic_ne hX hd (by decide) rfl) ?_
  refine aI_c (fun hd => s_ii hX hd (by decide) rfl) ?_
  refine aI_c (fun hd => s_ri hX hr hlk hE hd) ?_
  refine aI_c (fun hd => s_il_n hX hd rfl rfl) ?_
  refine aI_c (fun hd => s_ii hX hd (by decide) rfl) ?_
  refine aI_c (fun hd => s_ic_gt hX hd (by decide) rfl) ?_
  refine aI_c (fun hd => s_al_n hX hd rfl rfl) ?_
  refine aI_c (fun hd => s_gF hX (C := RX0) (T := TX0) (N := 15) (k := 5) rfl (fun w h => up w (inlX0 w h)) (by decide) rfl rfl rfl (up _ lkX0_27) hd rfl) ?_
  refine aI_c (fun hd => s_il_n hX hd rfl rfl) ?_
  refine aI_c (fun hd => s_iald hX hd rfl) ?_
  refine aI_c (fun hd => s_cS hX (nJ6_bitCount_0f7a4 l) (wg_S up lmX0_68 loJ6_bitCount_0f7a4) rfl rfl rfl (by decide +kernel) ⟨by decide, by decide⟩ ⟨Nat.zero_le _, Nat.zero_le _⟩ hd rfl) ?_
  refine aI_c (fun hd => s_ii hX hd (by decide) rfl) ?_
  refine aI_c (fun hd => s_ic_lt hX hd (by decide) rfl) ?_
  refine aI_c (fun hd => s_ii hX hd (by decide) rfl) ?_
  refine aI_c (fun hd => s_go hX hd (by decide)) ?_
  refine aI_c (fun hd => s_ii hX hd (by decide) rfl) ?_
  refine aI_c (fun hd => s_ri hX hr hlk hE hd) ?_
  refine aI_c (fun hd => s_il_n hX hd rfl rfl) ?_
  refine aI_c (fun hd => s_if_ne hX hd (by decide) rfl) ?_
  refine aI_c (fun hd => s_al_n hX hd rfl rfl) ?_
  refine aI_c (fun hd => s_gI hX (C := RX0) (T := TX0) (N := 15) (k := 11) rfl (fun w h => up w (inlX0 w h)) (by decide) rfl rfl rfl (up _ lkX0_59) hd rfl) ?_
  refine aI_c (fun hd => s_bp hX hd (by decide) rfl) ?_
  refine aI_c (fun hd => s_irem hX hd rfl) ?_
  refine aI_c (fun hd => s_al_n hX hd rfl rfl) ?_
  refine aI_c (fun hd => s_gF hX (C := RX0) (T := TX0) (N := 15) (k := 1) rfl (fun w h => up w (inlX0 w h)) (by decide) rfl rfl rfl (up _ lkX0_15) hd rfl) ?_
  refine aI_c (fun hd => s_il_n hX hd rfl rfl) ?_
  refine aI_c (fun hd => s_iald hX hd rfl) ?_
  refine aI_c (fun hd => s_ic_lt hX hd (by decide) rfl) ?_
  refine aI_c (fun hd => s_ii hX hd (by decide) rfl) ?_
  refine aI_c (fun hd => s_go hX hd (by decide)) ?_
  refine aI_c (fun hd => s_ii hX hd (by decide) rfl) ?_
  refine aI_c (fun hd => s_ri hX hr hlk hE hd) ?_
  refine aI_c (fun hd => s_al_n hX hd rfl rfl) ?_
  refine aI_c (fun hd => s_gI hX (C := RX0) (T := TX0) (N := 15) (k := 11) rfl (fun w h => up w (inlX0 w h)) (by decide) rfl rfl rfl (up _ lkX0_59) hd rfl) ?_
  refine aI_c (fun hd => s_bp hX hd (by decide) rfl) ?_
  refine aI_c (fun hd => s_irem hX hd rfl) ?_
  refine aI_c (fun hd => s_al_n hX hd rfl rfl) ?_
  refine aI_c (fun hd => s_gF hX (C := RX0) (T := TX0) (N := 15) (k := 1) rfl (fun w h => up w (inlX0 w h)) (by decide) rfl rfl rfl (up _ lkX0_15) hd rfl) ?_
  refine aI_c (fun hd => s_il_n hX hd rfl rfl) ?_
  refine aI_c (fun hd => s_iald hX hd rfl) ?_
  refine aI_c (fun hd => s_ic_ne hX hd (by decide) rfl) ?_
  refine aI_c (fun hd => s_ii hX hd (by decide) rfl) ?_
  refine aI_c (fun hd => s_go hX hd (by decide)) ?_
  refine aI_c (fun hd => s_ii hX hd (by decide) rfl) ?_
  refine aI_c (fun hd => s_ri hX hr hlk hE hd) ?_
  refine aI_c (fun hd => s_ii hX hd (by decide) rfl) ?_
  refine aI_c (fun hd => s_ri hX hr hlk hE hd) ?_
  exact trivial

-- JudgesByLoss$Bench.may(II)Z
def tX0_may : aT := [
  (0, (.aload_n 0, 1), o_al 0 1),
  (1, (.iload_n 1, 1), o_il 1 2),
  (2, (.iload_n 2, 1), o_il 2 3),
  (3, (.invokevirtual 89, 3), o_cV CX0_burden 0 2 6),
  (6, (.istore_n 3, 1), o_is 3 7),
  (7, (.iload_n 3, 1), o_il 3 8),
  (8, (.iconst (-1), 1), o_ii (-1) 9),
  (9, (.if_icmp .eq 29, 3), o_ic (fun x y => x = y) 38 12),
  (12, (.iload_n 3, 1), o_il 3 13),
  (13, (.ifCond .eq 21, 3), o_if (fun x => x = 0) 34 16),
  (16, (.aload_n 0, 1), o_al 0 17),
  (17, (.getfield 21, 3), o_gF 0 4 20),
  (20, (.iload_n 1, 1), o_il 1 21),
  (21, (.iaload, 1), o_iald 22),
  (22, (.iload_n 3, 1), o_il 3 23),
  (23, (.aload_n 0, 1), o_al 0 24),
  (24, (.iconst 0, 1), o_ii 0 25),
  (25, (.iload_n 1, 1), o_il 1 26),
  (26, (.iload_n 2, 1), o_il 2 27),
  (27, (.invokevirtual 92, 3), o_cV CX0_says 0 3 30),
  (30, (.imul, 1), o_bi (fun x y => x * y) 31),
  (31, (.if_icmp .lt 7, 3), o_ic (fun x y => x < y) 38 34),
  (34, (.iconst 1, 1), o_ii 1 35),
  (35, (.goto 4, 3), o_go 39),
  (38, (.iconst 0, 1), o_ii 0 39),
  (39, (.ireturn, 1), o_rz)]
abbrev CX0_may : aC := aCl tX0_may 4
def rmX0_may : Room := { frames := 3, cells := 0, slots := 0, locals := 73 }
set_option maxRecDepth 100000 in
theorem dX0_may : tX0_may.all (fun q => decide (decode cX0_may q.1 = .ok q.2.1)) = true := by decide +kernel
set_option maxRecDepth 100000 in
set_option maxHeartbeats 4000000 in
theorem nX0_may (l : Launch) : aMt l yX0_may (Cond.code yX0_may cX0_may 4 (some .boolean) :: wsL_law) rmX0_may CX0_may := by
  refine aMt.of (own := RX0) (cc := cX0_may) (maxL := 4) (ret := (some .boolean)) (by decide +kernel) rfl rfl ?_
  intro p e s m args below meth c Qc D Z ad P G A E hX hr hlk hE
  have up : ∀ w ∈ wsL_law, w ∈ (Cond.code yX0_may cX0_may 4 (some .boolean) :: wsL_law) := fun w h => List.mem_cons_of_mem _ h
  refine aImp_all _ dX0_may ?_
  unfold tX0_may
  refine aI_c (fun hd => s_al_n hX hd rfl rfl) ?_
  refine aI_c (fun hd => s_il_n hX hd rfl rfl) ?_
  refine aI_c (fun hd => s_il_n hX hd rfl rfl) ?_
  refine aI_c (fun hd => s_cV hX (T := TX0) (N := 15) (nX0_burden l) rfl (wg_V up lmX0_89 loX0_burden) rfl rfl rfl (by decide +kernel) ⟨by decide, by decide⟩ ⟨Nat.zero_le _, Nat.zero_le _⟩ hd rfl) ?_
  refine aI_c (fun hd => s_is_n hX hd rfl rfl (by decide)) ?_
  refine aI_c (fun hd => s_il_n hX hd rfl rfl) ?_
  refine aI_c (fun hd => s_ii hX hd (by decide) rfl) ?_
  refine aI_c (fun hd => s_ic_eq hX hd (by decide) rfl) ?_
  refine aI_c (fun hd => s_il_n hX hd rfl rfl) ?_
  refine aI_c (fun hd => s_if_eq hX hd (by decide) rfl) ?_
  refine aI_c (fun hd => s_al_n hX hd rfl rfl) ?_
  refine aI_c (fun hd => s_gF hX (C := RX0) (T := TX0) (N := 15) (k := 3) rfl (fun w h => up w (inlX0 w h)) (by decide) rfl rfl rfl (up _ lkX0_21) hd rfl) ?_
  refine aI_c (fun hd => s_il_n hX hd rfl rfl) ?_
  refine aI_c (fun hd => s_iald hX hd rfl) ?_
  refine aI_c (fun hd => s_il_n hX hd rfl rfl) ?_
  refine aI_c (fun hd => s_al_n hX hd rfl rfl) ?_
  refine aI_c (fun hd => s_ii hX hd (by decide) rfl) ?_
  refine aI_c (fun hd => s_il_n hX hd rfl rfl) ?_
  refine aI_c (fun hd => s_il_n hX hd rfl rfl) ?_
  refine aI_c (fun hd => s_cV hX (T := TX0) (N := 15) (nX0_says l) rfl (wg_V up lmX0_92 loX0_says) rfl rfl rfl (by decide +kernel) ⟨by decide, by decide⟩ ⟨Nat.zero_le _, Nat.zero_le _⟩ hd rfl) ?_
  refine aI_c (fun hd => s_imul hX hd rfl) ?_
  refine aI_c (fun hd => s_ic_lt hX hd (by decide) rfl) ?_
  refine aI_c (fun hd => s_ii hX hd (by decide) rfl) ?_
  refine aI_c (fun hd => s_go hX hd (by decide)) ?_
  refine aI_c (fun hd => s_ii hX hd (by decide) rfl) ?_
  refine aI_c (fun hd => s_rz hX hr hlk hE hd) ?_
  exact trivial

-- JudgesByLoss$Bench.casesFor(I)I
def tX0_casesFor : aT := [
  (0, (.iconst 0, 1), o_ii 0 1),
  (1, (.istore_n 2, 1), o_is 2 2),
  (2, (.iconst 0, 1), o_ii 0 3),
  (3, (.istore_n 3, 1), o_is 3 4),
  (4, (.iload_n 3, 1), o_il 3 5),
  (5, (.bipush 8, 2), o_ii 8 7),
  (7, (.if_icmp .ge 32, 3), o_ic (fun x y => y ≤ x) 39 10),
  (10, (.aload_n 0, 1), o_al 0 11),
  (11, (.iload_n 3, 1), o_il 3 12),
  (12, (.invokevirtual 100, 3), o_cV CX0_hasCase 0 1 15),
  (15, (.ifCond .eq 18, 3), o_if (fun x => x = 0) 33 18),
  (18, (.aload_n 0, 1), o_al 0 19),
  (19, (.iload_n 1, 1), o_il 1 20),
  (20, (.iload_n 3, 1), o_il 3 21),
  (21, (.invokevirtual 96, 3), o_cV CX0_may 0 2 24),
  (24, (.ifCond .eq 9, 3), o_if (fun x => x = 0) 33 27),
  (27, (.iload_n 2, 1), o_il 2 28),
  (28, (.iconst 1, 1), o_ii 1 29),
  (29, (.iload_n 3, 1), o_il 3 30),
  (30, (.ishl, 1), o_bi (fun x y => x <<< (y &&& 31)) 31),
  (31, (.ior, 1), o_bi (fun x y => x ||| y) 32),
  (32, (.istore_n 2, 1), o_is 2 33),
  (33, (.iinc 3 1, 3), o_inc 3 1 36),
  (36, (.goto (-32), 3), o_go 4),
  (39, (.iload_n 2, 1), o_il 2 40),
  (40, (.ireturn, 1), o_ri)]
abbrev CX0_casesFor : aC := aCl tX0_casesFor 4
def rmX0_casesFor : Room := { frames := 4, cells := 0, slots := 0, locals := 96 }
set_option maxRecDepth 100000 in
theorem dX0_casesFor : tX0_casesFor.all (fun q => decide (decode cX0_casesFor q.1 = .ok q.2.1)) = true := by decide +kernel
set_option maxRecDepth 100000 in
set_option maxHeartbeats 4000000 in
theorem nX0_casesFor (l : Launch) : aMt l yX0_casesFor (Cond.code yX0_casesFor cX0_casesFor 4 (some .int) :: wsL_law) rmX0_casesFor CX0_casesFor := by
  refine aMt.of (own := RX0) (cc := cX0_casesFor) (maxL := 4) (ret := (some .int)) (by decide +kernel) rfl rfl ?_
  intro p e s m args below meth c Qc D Z ad P G A E hX hr hlk hE
  have up : ∀ w ∈ wsL_law, w ∈ (Cond.code yX0_casesFor cX0_casesFor 4 (some .int) :: wsL_law) := fun w h => List.mem_cons_of_mem _ h
  refine aImp_all _ dX0_casesFor ?_
  unfold tX0_casesFor
  refine aI_c (fun hd => s_ii hX hd (by decide) rfl) ?_
  refine aI_c (fun hd => s_is_n hX hd rfl rfl (by decide)) ?_
  refine aI_c (fun hd => s_ii hX hd (by decide) rfl) ?_
  refine aI_c (fun hd => s_is_n hX hd rfl rfl (by decide)) ?_
  refine aI_c (fun hd => s_il_n hX hd rfl rfl) ?_
  refine aI_c (fun hd => s_bp hX hd (by decide) rfl) ?_
  refine aI_c (fun hd => s_ic_ge hX hd (by decide) rfl) ?_
  refine aI_c (fun hd => s_al_n hX hd rfl rfl) ?_
  refine aI_c (fun hd => s_il_n hX hd rfl rfl) ?_
  refine aI_c (fun hd => s_cV hX (T := TX0) (N := 15) (nX0_hasCase l) rfl (wg_V up lmX0_100 loX0_hasCase) rfl rfl rfl (by decide +kernel) ⟨by decide, by decide⟩ ⟨Nat.zero_le _, Nat.zero_le _⟩ hd rfl) ?_
  refine aI_c (fun hd => s_if_eq hX hd (by decide) rfl) ?_
  refine aI_c (fun hd => s_al_n hX hd rfl rfl) ?_
  refine aI_c (fun hd => s_il_n hX hd rfl rfl) ?_
  refine aI_c (fun hd => s_il_n hX hd rfl rfl) ?_
  refine aI_c (fun hd => s_cV hX (T := TX0) (N := 15) (nX0_may l) rfl (wg_V up lmX0_96 loX0_may) rfl rfl rfl (by decide +kernel) ⟨by decide, by decide⟩ ⟨Nat.zero_le _, Nat.zero_le _⟩ hd rfl) ?_
  refine aI_c (fun hd => s_if_eq hX hd (by decide) rfl) ?_
  refine aI_c (fun hd => s_il_n hX hd rfl rfl) ?_
  refine aI_c (fun hd => s_ii hX hd (by decide) rfl) ?_
  refine aI_c (fun hd => s_il_n hX hd rfl rfl) ?_
  refine aI_c (fun hd => s_ishl hX hd rfl) ?_
  refine aI_c (fun hd => s_ior hX hd rfl) ?_
  refine aI_c (fun hd => s_is_n hX hd rfl rfl (by decide)) ?_
  refine aI_c (fun hd => s_inc hX hd (by decide) rfl (by decide)) ?_
  refine aI_c (fun hd => s_go hX hd (by decide)) ?_
  refine aI_c (fun hd => s_il_n hX hd rfl rfl) ?_
  refine aI_c (fun hd => s_ri hX hr hlk hE hd) ?_
  exact trivial

-- JudgesByLoss$Bench.judgesFor(I)I
def tX0_judgesFor : aT := [
  (0, (.iconst 0, 1), o_ii 0 1),
  (1, (.istore_n 2, 1), o_is 2 2),
  (2, (.iconst 0, 1), o_ii 0 3),
  (3, (.istore_n 3, 1), o_is 3 4),
  (4, (.iload_n 3, 1), o_il 3 5),
  (5, (.aload_n 0, 1), o_al 0 6),
  (6, (.getfield 53, 3), o_gI 0 9 9),
  (9, (.if_icmp .ge 24, 3), o_ic (fun x y => y ≤ x) 33 12),
  (12, (.aload_n 0, 1), o_al 0 13),
  (13, (.iload_n 3, 1), o_il 3 14),
  (14, (.iload_n 1, 1), o_il 1 15),
  (15, (.invokevirtual 96, 3), o_cV CX0_may 0 2 18),
  (18, (.ifCond .eq 9, 3), o_if (fun x => x = 0) 27 21),
  (21, (.iload_n 2, 1), o_il 2 22),
  (22, (.iconst 1, 1), o_ii 1 23),
  (23, (.iload_n 3, 1), o_il 3 24),
  (24, (.ishl, 1), o_bi (fun x y => x <<< (y &&& 31)) 25),
  (25, (.ior, 1), o_bi (fun x y => x ||| y) 26),
  (26, (.istore_n 2, 1), o_is 2 27),
  (27, (.iinc 3 1, 3), o_inc 3 1 30),
  (30, (.goto (-26), 3), o_go 4),
  (33, (.iload_n 2, 1), o_il 2 34),
  (34, (.ireturn, 1), o_ri)]
abbrev CX0_judgesFor : aC := aCl tX0_judgesFor 4
def rmX0_judgesFor : Room := { frames := 4, cells := 0, slots := 0, locals := 96 }
set_option maxRecDepth 100000 in
theorem dX0_judgesFor : tX0_judgesFor.all (fun q => decide (decode cX0_judgesFor q.1 = .ok q.2.1)) = true := by decide +kernel
set_option maxRecDepth 100000 in
set_option maxHeartbeats 4000000 in
theorem nX0_judgesFor (l : Launch) : aMt l yX0_judgesFor (Cond.code yX0_judgesFor cX0_judgesFor 4 (some .int) :: wsL_law) rmX0_judgesFor CX0_judgesFor := by
  refine aMt.of (own := RX0) (cc := cX0_judgesFor) (maxL := 4) (ret := (some .int)) (by decide +kernel) rfl rfl ?_
  intro p e s m args below meth c Qc D Z ad P G A E hX hr hlk hE
  have up : ∀ w ∈ wsL_law, w ∈ (Cond.code yX0_judgesFor cX0_judgesFor 4 (some .int) :: wsL_law) := fun w h => List.mem_cons_of_mem _ h
  refine aImp_all _ dX0_judgesFor ?_
  unfold tX0_judgesFor
  refine aI_c (fun hd => s_ii hX hd (by decide) rfl) ?_
  refine aI_c (fun hd => s_is_n hX hd rfl rfl (by decide)) ?_
  refine aI_c (fun hd => s_ii hX hd (by decide) rfl) ?_
  refine aI_c (fun hd => s_is_n hX hd rfl rfl (by decide)) ?_
  refine aI_c (fun hd => s_il_n hX hd rfl rfl) ?_
  refine aI_c (fun hd => s_al_n hX hd rfl rfl) ?_
  refine aI_c (fun hd => s_gI hX (C := RX0) (T := TX0) (N := 15) (k := 9) rfl (fun w h => up w (inlX0 w h)) (by decide) rfl rfl rfl (up _ lkX0_53) hd rfl) ?_
  refine aI_c (fun hd => s_ic_ge hX hd (by decide) rfl) ?_
  refine aI_c (fun hd => s_al_n hX hd rfl rfl) ?_
  refine aI_c (fun hd => s_il_n hX hd rfl rfl) ?_
  refine aI_c (fun hd => s_il_n hX hd rfl rfl) ?_
  refine aI_c (fun hd => s_cV hX (T := TX0) (N := 15) (nX0_may l) rfl (wg_V up lmX0_96 loX0_may) rfl rfl rfl (by decide +kernel) ⟨by decide, by decide⟩ ⟨Nat.zero_le _, Nat.zero_le _⟩ hd rfl) ?_
  refine aI_c (fun hd => s_if_eq hX hd (by decide) rfl) ?_
  refine aI_c (fun hd => s_il_n hX hd rfl rfl) ?_
  refine aI_c (fun hd => s_ii hX hd (by decide) rfl) ?_
  refine aI_c (fun hd => s_il_n hX hd rfl rfl) ?_
  refine aI_c (fun hd => s_ishl hX hd rfl) ?_
  refine aI_c (fun hd => s_ior hX hd rfl) ?_
  refine aI_c (fun hd => s_is_n hX hd rfl rfl (by decide)) ?_
  refine aI_c (fun hd => s_inc hX hd (by decide) rfl (by decide)) ?_
  refine aI_c (fun hd => s_go hX hd (by decide)) ?_
  refine aI_c (fun hd => s_il_n hX hd rfl rfl) ?_
  refine aI_c (fun hd => s_ri hX hr hlk hE hd) ?_
  exact trivial

-- JudgesByLoss$Bench.daysFor(II)I
def tX0_daysFor : aT := [
  (0, (.aload_n 0, 1), o_al 0 1),
  (1, (.iconst 1, 1), o_ii 1 2),
  (2, (.iload_n 1, 1), o_il 1 3),
  (3, (.iload_n 2, 1), o_il 2 4),
  (4, (.invokevirtual 92, 3), o_cV CX0_says 0 3 7),
  (7, (.istore_n 3, 1), o_is 3 8),
  (8, (.aload_n 0, 1), o_al 0 9),
  (9, (.getfield 9, 3), o_gF 0 1 12),
  (12, (.iload_n 1, 1), o_il 1 13),
  (13, (.iaload, 1), o_iald 14),
  (14, (.tableswitch 51 1 4 #[30, 51, 30, 43], 30), o_sw [(1, 44), (2, 65), (3, 44), (4, 57)] 65),
  (44, (.iconst 1, 1), o_ii 1 45),
  (45, (.iload_n 3, 1), o_il 3 46),
  (46, (.aload_n 0, 1), o_al 0 47),
  (47, (.getfield 15, 3), o_gF 0 2 50),
  (50, (.iload_n 1, 1), o_il 1 51),
  (51, (.iaload, 1), o_iald 52),
  (52, (.iadd, 1), o_bi (fun x y => x + y) 53),
  (53, (.invokestatic 86, 3), o_max 56),
  (56, (.ireturn, 1), o_ri),
  (57, (.iconst 1, 1), o_ii 1 58),
  (58, (.iconst 2, 1), o_ii 2 59),
  (59, (.iload_n 3, 1), o_il 3 60),
  (60, (.imul, 1), o_bi (fun x y => x * y) 61),
  (61, (.invokestatic 86, 3), o_max 64),
  (64, (.ireturn, 1), o_ri),
  (65, (.iconst 1, 1), o_ii 1 66),
  (66, (.iload_n 3, 1), o_il 3 67),
  (67, (.invokestatic 86, 3), o_max 70),
  (70, (.ireturn, 1), o_ri)]
abbrev CX0_daysFor : aC := aCl tX0_daysFor 4
def rmX0_daysFor : Room := { frames := 3, cells := 0, slots := 0, locals := 73 }
set_option maxRecDepth 100000 in
theorem dX0_daysFor : tX0_daysFor.all (fun q => decide (decode cX0_daysFor q.1 = .ok q.2.1)) = true := by decide +kernel
set_option maxRecDepth 100000 in
set_option maxHeartbeats 4000000 in
theorem nX0_daysFor (l : Launch) : aMt l yX0_daysFor (Cond.code yX0_daysFor cX0_daysFor 4 (some .int) :: wsL_law) rmX0_daysFor CX0_daysFor := by
  refine aMt.of (own := RX0) (cc := cX0_daysFor) (maxL := 4) (ret := (some .int)) (by decide +kernel) rfl rfl ?_
  intro p e s m args below meth c Qc D Z ad P G A E hX hr hlk hE
  have up : ∀ w ∈ wsL_law, w ∈ (Cond.code yX0_daysFor cX0_daysFor 4 (some .int) :: wsL_law) := fun w h => List.mem_cons_of_mem _ h
  refine aImp_all _ dX0_daysFor ?_
  unfold tX0_daysFor
  refine aI_c (fun hd => s_al_n hX hd rfl rfl) ?_
  refine aI_c (fun hd => s_ii hX hd (by decide) rfl) ?_
  refine aI_c (fun hd => s_il_n hX hd rfl rfl) ?_
  refine aI_c (fun hd => s_il_n hX hd rfl rfl) ?_
  refine aI_c (fun hd => s_cV hX (T := TX0) (N := 15) (nX0_says l) rfl (wg_V up lmX0_92 loX0_says) rfl rfl rfl (by decide +kernel) ⟨by decide, by decide⟩ ⟨Nat.zero_le _, Nat.zero_le _⟩ hd rfl) ?_
  refine aI_c (fun hd => s_is_n hX hd rfl rfl (by decide)) ?_
  refine aI_c (fun hd => s_al_n hX hd rfl rfl) ?_
  refine aI_c (fun hd => s_gF hX (C := RX0) (T := TX0) (N := 15) (k := 0) rfl (fun w h => up w (inlX0 w h)) (by decide) rfl rfl rfl (up _ lkX0_9) hd rfl) ?_
  refine aI_c (fun hd => s_il_n hX hd rfl rfl) ?_
  refine aI_c (fun hd => s_iald hX hd rfl) ?_
  refine aI_c (fun hd => s_sw hX hd (by decide) (by decide +kernel)) ?_
  refine aI_c (fun hd => s_ii hX hd (by decide) rfl) ?_
  refine aI_c (fun hd => s_il_n hX hd rfl rfl) ?_
  refine aI_c (fun hd => s_al_n hX hd rfl rfl) ?_
  refine aI_c (fun hd => s_gF hX (C := RX0) (T := TX0) (N := 15) (k := 1) rfl (fun w h => up w (inlX0 w h)) (by decide) rfl rfl rfl (up _ lkX0_15) hd rfl) ?_
  refine aI_c (fun hd => s_il_n hX hd rfl rfl) ?_
  refine aI_c (fun hd => s_iald hX hd rfl) ?_
  refine aI_c (fun hd => s_iadd hX hd rfl) ?_
  refine aI_c (fun hd => s_max hX (up _ lmX0_86) (up _ wma_smax) (up _ wma_i) (up _ wma_cmax) ⟨by decide, by decide⟩ ⟨Nat.zero_le _, Nat.zero_le _⟩ hd rfl) ?_
  refine aI_c (fun hd => s_ri hX hr hlk hE hd) ?_
  refine aI_c (fun hd => s_ii hX hd (by decide) rfl) ?_
  refine aI_c (fun hd => s_ii hX hd (by decide) rfl) ?_
  refine aI_c (fun hd => s_il_n hX hd rfl rfl) ?_
  refine aI_c (fun hd => s_imul hX hd rfl) ?_
  refine aI_c (fun hd => s_max hX (up _ lmX0_86) (up _ wma_smax) (up _ wma_i) (up _ wma_cmax) ⟨by decide, by decide⟩ ⟨Nat.zero_le _, Nat.zero_le _⟩ hd rfl) ?_
  refine aI_c (fun hd => s_ri hX hr hlk hE hd) ?_
  refine aI_c (fun hd => s_ii hX hd (by decide) rfl) ?_
  refine aI_c (fun hd => s_il_n hX hd rfl rfl) ?_
  refine aI_c (fun hd => s_max hX (up _ lmX0_86) (up _ wma_smax) (up _ wma_i) (up _ wma_cmax) ⟨by decide, by decide⟩ ⟨Nat.zero_le _, Nat.zero_le _⟩ hd rfl) ?_
  refine aI_c (fun hd => s_ri hX hr hlk hE hd) ?_
  exact trivial

-- JudgesByLoss$Bench.hardnessOf(II)I
def tX0_hardnessOf : aT := [
  (0, (.aload_n 0, 1), o_al 0 1),
  (1, (.iconst 2, 1), o_ii 2 2),
  (2, (.iload_n 1, 1), o_il 1 3),
  (3, (.iload_n 2, 1), o_il 2 4),
  (4, (.invokevirtual 92, 3), o_cV CX0_says 0 3 7),
  (7, (.istore_n 3, 1), o_is 3 8),
  (8, (.aload_n 0, 1), o_al 0 9),
  (9, (.getfield 9, 3), o_gF 0 1 12),
  (12, (.iload_n 1, 1), o_il 1 13),
  (13, (.iaload, 1), o_iald 14),
  (14, (.tableswitch 46 2 5 #[30, 39, 30, 43], 30), o_sw [(2, 44), (3, 53), (4, 44), (5, 57)] 60),
  (44, (.iload_n 3, 1), o_il 3 45),
  (45, (.aload_n 0, 1), o_al 0 46),
  (46, (.getfield 15, 3), o_gF 0 2 49),
  (49, (.iload_n 1, 1), o_il 1 50),
  (50, (.iaload, 1), o_iald 51),
  (51, (.iadd, 1), o_bi (fun x y => x + y) 52),
  (52, (.ireturn, 1), o_ri),
  (53, (.iload_n 3, 1), o_il 3 54),
  (54, (.iconst 2, 1), o_ii 2 55),
  (55, (.idiv, 1), o_dv 56),
  (56, (.ireturn, 1), o_ri),
  (57, (.iload_n 3, 1), o_il 3 58),
  (58, (.ineg, 1), o_ui (fun x => -x) 59),
  (59, (.ireturn, 1), o_ri),
  (60, (.iload_n 3, 1), o_il 3 61),
  (61, (.ireturn, 1), o_ri)]
abbrev CX0_hardnessOf : aC := aCl tX0_hardnessOf 4
def rmX0_hardnessOf : Room := { frames := 3, cells := 0, slots := 0, locals := 73 }
set_option maxRecDepth 100000 in
theorem dX0_hardnessOf : tX0_hardnessOf.all (fun q => decide (decode cX0_hardnessOf q.1 = .ok q.2.1)) = true := by decide +kernel
set_option maxRecDepth 100000 in
set_option maxHeartbeats 4000000 in
theorem nX0_hardnessOf (l : Launch) : aMt l yX0_hardnessOf (Cond.code yX0_hardnessOf cX0_hardnessOf 4 (some .int) :: wsL_law) rmX0_hardnessOf CX0_hardnessOf := by
  refine aMt.of (own := RX0) (cc := cX0_hardnessOf) (maxL := 4) (ret := (some .int)) (by decide +kernel) rfl rfl ?_
  intro p e s m args below meth c Qc D Z ad P G A E hX hr hlk hE
  have up : ∀ w ∈ wsL_law, w ∈ (Cond.code yX0_hardnessOf cX0_hardnessOf 4 (some .int) :: wsL_law) := fun w h => List.mem_cons_of_mem _ h
  refine aImp_all _ dX0_hardnessOf ?_
  unfold tX0_hardnessOf
  refine aI_c (fun hd => s_al_n hX hd rfl rfl) ?_
  refine aI_c (fun hd => s_ii hX hd (by decide) rfl) ?_
  refine aI_c (fun hd => s_il_n hX hd rfl rfl) ?_
  refine aI_c (fun hd => s_il_n hX hd rfl rfl) ?_
  refine aI_c (fun hd => s_cV hX (T := TX0) (N := 15) (nX0_says l) rfl (wg_V up lmX0_92 loX0_says) rfl rfl rfl (by decide +kernel) ⟨by decide, by decide⟩ ⟨Nat.zero_le _, Nat.zero_le _⟩ hd rfl) ?_
  refine aI_c (fun hd => s_is_n hX hd rfl rfl (by decide)) ?_
  refine aI_c (fun hd => s_al_n hX hd rfl rfl) ?_
  refine aI_c (fun hd => s_gF hX (C := RX0) (T := TX0) (N := 15) (k := 0) rfl (fun w h => up w (inlX0 w h)) (by decide) rfl rfl rfl (up _ lkX0_9) hd rfl) ?_
  refine aI_c (fun hd => s_il_n hX hd rfl rfl) ?_
  refine aI_c (fun hd => s_iald hX hd rfl) ?_
  refine aI_c (fun hd => s_sw hX hd (by decide) (by decide +kernel)) ?_
  refine aI_c (fun hd => s_il_n hX hd rfl rfl) ?_
  refine aI_c (fun hd => s_al_n hX hd rfl rfl) ?_
  refine aI_c (fun hd => s_gF hX (C := RX0) (T := TX0) (N := 15) (k := 1) rfl (fun w h => up w (inlX0 w h)) (by decide) rfl rfl rfl (up _ lkX0_15) hd rfl) ?_
  refine aI_c (fun hd => s_il_n hX hd rfl rfl) ?_
  refine aI_c (fun hd => s_iald hX hd rfl) ?_
  refine aI_c (fun hd => s_iadd hX hd rfl) ?_
  refine aI_c (fun hd => s_ri hX hr hlk hE hd) ?_
  refine aI_c (fun hd => s_il_n hX hd rfl rfl) ?_
  refine aI_c (fun hd => s_ii hX hd (by decide) rfl) ?_
  refine aI_c (fun hd => s_idiv hX hd rfl) ?_
  refine aI_c (fun hd => s_ri hX hr hlk hE hd) ?_
  refine aI_c (fun hd => s_il_n hX hd rfl rfl) ?_
  refine aI_c (fun hd => s_ineg hX hd rfl) ?_
  refine aI_c (fun hd => s_ri hX hr hlk hE hd) ?_
  refine aI_c (fun hd => s_il_n hX hd rfl rfl) ?_
  refine aI_c (fun hd => s_ri hX hr hlk hE hd) ?_
  exact trivial

-- JudgesByLoss$Bench.can(II)Z
def tX0_can : aT := [
  (0, (.aload_n 0, 1), o_al 0 1),
  (1, (.getfield 24, 3), o_gF 0 5 4),
  (4, (.iload_n 1, 1), o_il 1 5),
  (5, (.iaload, 1), o_iald 6),
  (6, (.ifCond .ne 16, 3), o_if (fun x => ¬ x = 0) 22 9),
  (9, (.aload_n 0, 1), o_al 0 10),
  (10, (.iload_n 1, 1), o_il 1 11),
  (11, (.iload_n 2, 1), o_il 2 12),
  (12, (.invokevirtual 96, 3), o_cV CX0_may 0 2 15),
  (15, (.ifCond .eq 7, 3), o_if (fun x => x = 0) 22 18),
  (18, (.iconst 1, 1), o_ii 1 19),
  (19, (.goto 4, 3), o_go 23),
  (22, (.iconst 0, 1), o_ii 0 23),
  (23, (.ireturn, 1), o_rz)]
abbrev CX0_can : aC := aCl tX0_can 3
def rmX0_can : Room := { frames := 4, cells := 0, slots := 0, locals := 96 }
set_option maxRecDepth 100000 in
theorem dX0_can : tX0_can.all (fun q => decide (decode cX0_can q.1 = .ok q.2.1)) = true := by decide +kernel
set_option maxRecDepth 100000 in
set_option maxHeartbeats 4000000 in
theorem nX0_can (l : Launch) : aMt l yX0_can (Cond.code yX0_can cX0_can 3 (some .boolean) :: wsL_law) rmX0_can CX0_can := by
  refine aMt.of (own := RX0) (cc := cX0_can) (maxL := 3) (ret := (some .boolean)) (by decide +kernel) rfl rfl ?_
  intro p e s m args below meth c Qc D Z ad P G A E hX hr hlk hE
  have up : ∀ w ∈ wsL_law, w ∈ (Cond.code yX0_can cX0_can 3 (some .boolean) :: wsL_law) := fun w h => List.mem_cons_of_mem _ h
  refine aImp_all _ dX0_can ?_
  unfold tX0_can
  refine aI_c (fun hd => s_al_n hX hd rfl rfl) ?_
  refine aI_c (fun hd => s_gF hX (C := RX0) (T := TX0) (N := 15) (k := 4) rfl (fun w h => up w (inlX0 w h)) (by decide) rfl rfl rfl (up _ lkX0_24) hd rfl) ?_
  refine aI_c (fun hd => s_il_n hX hd rfl rfl) ?_
  refine aI_c (fun hd => s_iald hX hd rfl) ?_
  refine aI_c (fun hd => s_if_ne hX hd (by decide) rfl) ?_
  refine aI_c (fun hd => s_al_n hX hd rfl rfl) ?_
  refine aI_c (fun hd => s_il_n hX hd rfl rfl) ?_
  refine aI_c (fun hd => s_il_n hX hd rfl rfl) ?_
  refine aI_c (fun hd => s_cV hX (T := TX0) (N := 15) (nX0_may l) rfl (wg_V up lmX0_96 loX0_may) rfl rfl rfl (by decide +kernel) ⟨by decide, by decide⟩ ⟨Nat.zero_le _, Nat.zero_le _⟩ hd rfl) ?_
  refine aI_c (fun hd => s_if_eq hX hd (by decide) rfl) ?_
  refine aI_c (fun hd => s_ii hX hd (by decide) rfl) ?_
  refine aI_c (fun hd => s_go hX hd (by decide)) ?_
  refine aI_c (fun hd => s_ii hX hd (by decide) rfl) ?_
  refine aI_c (fun hd => s_rz hX hr hlk hE hd) ?_
  exact trivial

-- JudgesByLoss$Bench.hold(II)I
def tX0_hold : aT := [
  (0, (.aload_n 0, 1), o_al 0 1),
  (1, (.iload_n 1, 1), o_il 1 2),
  (2, (.iload_n 2, 1), o_il 2 3),
  (3, (.invokevirtual 107, 3), o_cV CX0_hardnessOf 0 2 6),
  (6, (.istore_n 3, 1), o_is 3 7),
  (7, (.aload_n 0, 1), o_al 0 8),
  (8, (.getfield 24, 3), o_gF 0 5 11),
  (11, (.iload_n 1, 1), o_il 1 12),
  (12, (.aload_n 0, 1), o_al 0 13),
  (13, (.iload_n 1, 1), o_il 1 14),
  (14, (.iload_n 2, 1), o_il 2 15),
  (15, (.invokevirtual 110, 3), o_cV CX0_daysFor 0 2 18),
  (18, (.iastore, 1), o_iast 19),
  (19, (.aload_n 0, 1), o_al 0 20),
  (20, (.getfield 18, 3), o_gF 0 3 23),
  (23, (.iload_n 1, 1), o_il 1 24),
  (24, (.iaload, 1), o_iald 25),
  (25, (.aload_n 0, 1), o_al 0 26),
  (26, (.getfield 27, 3), o_gF 0 6 29),
  (29, (.iload_n 2, 1), o_il 2 30),
  (30, (.iaload, 1), o_iald 31),
  (31, (.iand, 1), o_bi (fun x y => x &&& y) 32),
  (32, (.istore 4, 2), o_is 4 34),
  (34, (.aload_n 0, 1), o_al 0 35),
  (35, (.getfield 18, 3), o_gF 0 3 38),
  (38, (.iload_n 1, 1), o_il 1 39),
  (39, (.dup2, 1), o_dup2 40),
  (40, (.iaload, 1), o_iald 41),
  (41, (.iload 4, 2), o_il 4 43),
  (43, (.iload 4, 2), o_il 4 45),
  (45, (.ineg, 1), o_ui (fun x => -x) 46),
  (46, (.iand, 1), o_bi (fun x y => x &&& y) 47),
  (47, (.iconst (-1), 1), o_ii (-1) 48),
  (48, (.ixor, 1), o_bi (fun x y => x ^^^ y) 49),
  (49, (.iand, 1), o_bi (fun x y => x &&& y) 50),
  (50, (.iastore, 1), o_iast 51),
  (51, (.aload_n 0, 1), o_al 0 52),
  (52, (.getfield 21, 3), o_gF 0 4 55),
  (55, (.iload_n 1, 1), o_il 1 56),
  (56, (.iconst 0, 1), o_ii 0 57),
  (57, (.bipush 99, 2), o_ii 99 59),
  (59, (.aload_n 0, 1), o_al 0 60),
  (60, (.getfield 21, 3), o_gF 0 4 63),
  (63, (.iload_n 1, 1), o_il 1 64),
  (64, (.iaload, 1), o_iald 65),
  (65, (.iload_n 3, 1), o_il 3 66),
  (66, (.iadd, 1), o_bi (fun x y => x + y) 67),
  (67, (.invokestatic 80, 3), o_min 70),
  (70, (.invokestatic 86, 3), o_max 73),
  (73, (.iastore, 1), o_iast 74),
  (74, (.aload_n 0, 1), o_al 0 75),
  (75, (.dup, 1), o_dup 76),
  (76, (.getfield 56, 3), o_gI 0 10 79),
  (79, (.iconst 1, 1), o_ii 1 80),
  (80, (.iload_n 2, 1), o_il 2 81),
  (81, (.ishl, 1), o_bi (fun x y => x <<< (y &&& 31)) 82),
  (82, (.iconst (-1), 1), o_ii (-1) 83),
  (83, (.ixor, 1), o_bi (fun x y => x ^^^ y) 84),
  (84, (.iand, 1), o_bi (fun x y => x &&& y) 85),
  (85, (.putfield 56, 3), o_pI 0 10 88),
  (88, (.aload_n 0, 1), o_al 0 89),
  (89, (.sipush 999, 3), o_ii 999 92),
  (92, (.aload_n 0, 1), o_al 0 93),
  (93, (.getfield 62, 3), o_gI 0 12 96),
  (96, (.iconst 1, 1), o_ii 1 97),
  (97, (.iadd, 1), o_bi (fun x y => x + y) 98),
  (98, (.invokestatic 80, 3), o_min 101),
  (101, (.putfield 62, 3), o_pI 0 12 104),
  (104, (.iload_n 3, 1), o_il 3 105),
  (105, (.ireturn, 1), o_ri)]
abbrev CX0_hold : aC := aCl tX0_hold 5
def rmX0_hold : Room := { frames := 4, cells := 0, slots := 0, locals := 96 }
set_option maxRecDepth 100000 in
theorem dX0_hold : tX0_hold.all (fun q => decide (decode cX0_hold q.1 = .ok q.2.1)) = true := by decide +kernel
set_option maxRecDepth 100000 in
set_option maxHeartbeats 4000000 in
theorem nX0_hold (l : Launch) : aMt l yX0_hold (Cond.code yX0_hold cX0_hold 5 (some .int) :: wsL_law) rmX0_hold CX0_hold := by
  refine aMt.of (own := RX0) (cc := cX0_hold) (maxL := 5) (ret := (some .int)) (by decide +kernel) rfl rfl ?_
  intro p e s m args below meth c Qc D Z ad P G A E hX hr hlk hE
  have up : ∀ w ∈ wsL_law, w ∈ (Cond.code yX0_hold cX0_hold 5 (some .int) :: wsL_law) := fun w h => List.mem_cons_of_mem _ h
  refine aImp_all _ dX0_hold ?_
  unfold tX0_hold
  refine aI_c (fun hd => s_al_n hX hd rfl rfl) ?_
  refine aI_c (fun hd => s_il_n hX hd rfl rfl) ?_
  refine aI_c (fun hd => s_il_n hX hd rfl rfl) ?_
  refine aI_c (fun hd => s_cV hX (T := TX0) (N := 15) (nX0_hardnessOf l) rfl (wg_V up lmX0_107 loX0_hardnessOf) rfl rfl rfl (by decide +kernel) ⟨by decide, by decide⟩ ⟨Nat.zero_le _, Nat.zero_le _⟩ hd rfl) ?_
  refine aI_c (fun hd => s_is_n hX hd rfl rfl (by decide)) ?_
  refine aI_c (fun hd => s_al_n hX hd rfl rfl) ?_
  refine aI_c (fun hd => s_gF hX (C := RX0) (T := TX0) (N := 15) (k := 4) rfl (fun w h => up w (inlX0 w h)) (by decide) rfl rfl rfl (up _ lkX0_24) hd rfl) ?_
  refine aI_c (fun hd => s_il_n hX hd rfl rfl) ?_
  refine aI_c (fun hd => s_al_n hX hd rfl rfl) ?_
  refine aI_c (fun hd => s_il_n hX hd rfl rfl) ?_
  refine aI_c (fun hd => s_il_n hX hd rfl rfl) ?_
  refine aI_c (fun hd => s_cV hX (T := TX0) (N := 15) (nX0_daysFor l) rfl (wg_V up lmX0_110 loX0_daysFor) rfl rfl rfl (by decide +kernel) ⟨by decide, by decide⟩ ⟨Nat.zero_le _, Nat.zero_le _⟩ hd rfl) ?_
  refine aI_c (fun hd => s_iast hX hd rfl) ?_
  refine aI_c (fun hd => s_al_n hX hd rfl rfl) ?_
  refine aI_c (fun hd => s_gF hX (C := RX0) (T := TX0) (N := 15) (k := 2) rfl (fun w h => up w (inlX0 w h)) (by decide) rfl rfl rfl (up _ lkX0_18) hd rfl) ?_
  refine aI_c (fun hd => s_il_n hX hd rfl rfl) ?_
  refine aI_c (fun hd => s_iald hX hd rfl) ?_
  refine aI_c (fun hd => s_al_n hX hd rfl rfl) ?_
  refine aI_c (fun hd => s_gF hX (C := RX0) (T := TX0) (N := 15) (k := 5) rfl (fun w h => up w (inlX0 w h)) (by decide) rfl rfl rfl (up _ lkX0_27) hd rfl) ?_
  refine aI_c (fun hd => s_il_n hX hd rfl rfl) ?_
  refine aI_c (fun hd => s_iald hX hd rfl) ?_
  refine aI_c (fun hd => s_iand hX hd rfl) ?_
  refine aI_c (fun hd => s_is hX hd rfl (by decide)) ?_
  refine aI_c (fun hd => s_al_n hX hd rfl rfl) ?_
  refine aI_c (fun hd => s_gF hX (C := RX0) (T := TX0) (N := 15) (k := 2) rfl (fun w h => up w (inlX0 w h)) (by decide) rfl rfl rfl (up _ lkX0_18) hd rfl) ?_
  refine aI_c (fun hd => s_il_n hX hd rfl rfl) ?_
  refine aI_c (fun hd => s_dup2 hX hd rfl) ?_
  refine aI_c (fun hd => s_iald hX hd rfl) ?_
  refine aI_c (fun hd => s_il hX hd rfl) ?_
  refine aI_c (fun hd => s_il hX hd rfl) ?_
  refine aI_c (fun hd => s_ineg hX hd rfl) ?_
  refine aI_c (fun hd => s_iand hX hd rfl) ?_
  refine aI_c (fun hd => s_ii hX hd (by decide) rfl) ?_
  refine aI_c (fun hd => s_ixor hX hd rfl) ?_
  refine aI_c (fun hd => s_iand hX hd rfl) ?_
  refine aI_c (fun hd => s_iast hX hd rfl) ?_
  refine aI_c (fun hd => s_al_n hX hd rfl rfl) ?_
  refine aI_c (fun hd => s_gF hX (C := RX0) (T := TX0) (N := 15) (k := 3) rfl (fun w h => up w (inlX0 w h)) (by decide) rfl rfl rfl (up _ lkX0_21) hd rfl) ?_
  refine aI_c (fun hd => s_il_n hX hd rfl rfl) ?_
  refine aI_c (fun hd => s_ii hX hd (by decide) rfl) ?_
  refine aI_c (fun hd => s_bp hX hd (by decide) rfl) ?_
  refine aI_c (fun hd => s_al_n hX hd rfl rfl) ?_
  refine aI_c (fun hd => s_gF hX (C := RX0) (T := TX0) (N := 15) (k := 3) rfl (fun w h => up w (inlX0 w h)) (by decide) rfl rfl rfl (up _ lkX0_21) hd rfl) ?_
  refine aI_c (fun hd => s_il_n hX hd rfl rfl) ?_
  refine aI_c (fun hd => s_iald hX hd rfl) ?_
  refine aI_c (fun hd => s_il_n hX hd rfl rfl) ?_
  refine aI_c (fun hd => s_iadd hX hd rfl) ?_
  refine aI_c (fun hd => s_min hX (up _ lmX0_80) (up _ wma_smin) (up _ wma_i) (up _ wma_cmin) ⟨by decide, by decide⟩ ⟨Nat.zero_le _, Nat.zero_le _⟩ hd rfl) ?_
  refine aI_c (fun hd => s_max hX (up _ lmX0_86) (up _ wma_smax) (up _ wma_i) (up _ wma_cmax) ⟨by decide, by decide⟩ ⟨Nat.zero_le _, Nat.zero_le _⟩ hd rfl) ?_
  refine aI_c (fun hd => s_iast hX hd rfl) ?_
  refine aI_c (fun hd => s_al_n hX hd rfl rfl) ?_
  refine aI_c (fun hd => s_dup hX hd rfl) ?_
  refine aI_c (fun hd => s_gI hX (C := RX0) (T := TX0) (N := 15) (k := 10) rfl (fun w h => up w (inlX0 w h)) (by decide) rfl rfl rfl (up _ lkX0_56) hd rfl) ?_
  refine aI_c (fun hd => s_ii hX hd (by decide) rfl) ?_
  refine aI_c (fun hd => s_il_n hX hd rfl rfl) ?_
  refine aI_c (fun hd => s_ishl hX hd rfl) ?_
  refine aI_c (fun hd => s_ii hX hd (by decide) rfl) ?_
  refine aI_c (fun hd => s_ixor hX hd rfl) ?_
  refine aI_c (fun hd => s_iand hX hd rfl) ?_
  refine aI_c (fun hd => s_pI hX (C := RX0) (T := TX0) (N := 15) (k := 10) rfl (fun w h => up w (inlX0 w h)) (by decide) rfl rfl tyX0 tyX0_ok nmX0 rfl rfl rfl (up _ lkX0_56) hd rfl) ?_
  refine aI_c (fun hd => s_al_n hX hd rfl rfl) ?_
  refine aI_c (fun hd => s_sp hX hd (by decide) rfl) ?_
  refine aI_c (fun hd => s_al_n hX hd rfl rfl) ?_
  refine aI_c (fun hd => s_gI hX (C := RX0) (T := TX0) (N := 15) (k := 12) rfl (fun w h => up w (inlX0 w h)) (by decide) rfl rfl rfl (up _ lkX0_62) hd rfl) ?_
  refine aI_c (fun hd => s_ii hX hd (by decide) rfl) ?_
  refine aI_c (fun hd => s_iadd hX hd rfl) ?_
  refine aI_c (fun hd => s_min hX (up _ lmX0_80) (up _ wma_smin) (up _ wma_i) (up _ wma_cmin) ⟨by decide, by decide⟩ ⟨Nat.zero_le _, Nat.zero_le _⟩ hd rfl) ?_
  refine aI_c (fun hd => s_pI hX (C := RX0) (T := TX0) (N := 15) (k := 12) rfl (fun w h => up w (inlX0 w h)) (by decide) rfl rfl tyX0 tyX0_ok nmX0 rfl rfl rfl (up _ lkX0_62) hd rfl) ?_
  refine aI_c (fun hd => s_il_n hX hd rfl rfl) ?_
  refine aI_c (fun hd => s_ri hX hr hlk hE hd) ?_
  exact trivial

-- JudgesByLoss$Bench.firstWhoCan(I)I
def tX0_firstWhoCan : aT := [
  (0, (.iconst 0, 1), o_ii 0 1),
  (1, (.istore_n 2, 1), o_is 2 2),
  (2, (.iload_n 2, 1), o_il 2 3),
  (3, (.aload_n 0, 1), o_al 0 4),
  (4, (.getfield 53, 3), o_gI 0 9 7),
  (7, (.if_icmp .ge 29, 3), o_ic (fun x y => y ≤ x) 36 10),
  (10, (.aload_n 0, 1), o_al 0 11),
  (11, (.getfield 24, 3), o_gF 0 5 14),
  (14, (.iload_n 2, 1), o_il 2 15),
  (15, (.iaload, 1), o_iald 16),
  (16, (.ifCond .ne 14, 3), o_if (fun x => ¬ x = 0) 30 19),
  (19, (.aload_n 0, 1), o_al 0 20),
  (20, (.iload_n 2, 1), o_il 2 21),
  (21, (.iload_n 1, 1), o_il 1 22),
  (22, (.invokevirtual 96, 3), o_cV CX0_may 0 2 25),
  (25, (.ifCond .eq 5, 3), o_if (fun x => x = 0) 30 28),
  (28, (.iload_n 2, 1), o_il 2 29),
  (29, (.ireturn, 1), o_ri),
  (30, (.iinc 2 1, 3), o_inc 2 1 33),
  (33, (.goto (-31), 3), o_go 2),
  (36, (.iconst (-1), 1), o_ii (-1) 37),
  (37, (.ireturn, 1), o_ri)]
abbrev CX0_firstWhoCan : aC := aCl tX0_firstWhoCan 3
def rmX0_firstWhoCan : Room := { frames := 4, cells := 0, slots := 0, locals := 96 }
set_option maxRecDepth 100000 in
theorem dX0_firstWhoCan : tX0_firstWhoCan.all (fun q => decide (decode cX0_firstWhoCan q.1 = .ok q.2.1)) = true := by decide +kernel
set_option maxRecDepth 100000 in
set_option maxHeartbeats 4000000 in
theorem nX0_firstWhoCan (l : Launch) : aMt l yX0_firstWhoCan (Cond.code yX0_firstWhoCan cX0_firstWhoCan 3 (some .int) :: wsL_law) rmX0_firstWhoCan CX0_firstWhoCan := by
  refine aMt.of (own := RX0) (cc := cX0_firstWhoCan) (maxL := 3) (ret := (some .int)) (by decide +kernel) rfl rfl ?_
  intro p e s m args below meth c Qc D Z ad P G A E hX hr hlk hE
  have up : ∀ w ∈ wsL_law, w ∈ (Cond.code yX0_firstWhoCan cX0_firstWhoCan 3 (some .int) :: wsL_law) := fun w h => List.mem_cons_of_mem _ h
  refine aImp_all _ dX0_firstWhoCan ?_
  unfold tX0_firstWhoCan
  refine aI_c (fun hd => s_ii hX hd (by decide) rfl) ?_
  refine aI_c (fun hd => s_is_n hX hd rfl rfl (by decide)) ?_
  refine aI_c (fun hd => s_il_n hX hd rfl rfl) ?_
  refine aI_c (fun hd => s_al_n hX hd rfl rfl) ?_
  refine aI_c (fun hd => s_gI hX (C := RX0) (T := TX0) (N := 15) (k := 9) rfl (fun w h => up w (inlX0 w h)) (by decide) rfl rfl rfl (up _ lkX0_53) hd rfl) ?_
  refine aI_c (fun hd => s_ic_ge hX hd (by decide) rfl) ?_
  refine aI_c (fun hd => s_al_n hX hd rfl rfl) ?_
  refine aI_c (fun hd => s_gF hX (C := RX0) (T := TX0) (N := 15) (k := 4) rfl (fun w h => up w (inlX0 w h)) (by decide) rfl rfl rfl (up _ lkX0_24) hd rfl) ?_
  refine aI_c (fun hd => s_il_n hX hd rfl rfl) ?_
  refine aI_c (fun hd => s_iald hX hd rfl) ?_
  refine aI_c (fun hd => s_if_ne hX hd (by decide) rfl) ?_
  refine aI_c (fun hd => s_al_n hX hd rfl rfl) ?_
  refine aI_c (fun hd => s_il_n hX hd rfl rfl) ?_
  refine aI_c (fun hd => s_il_n hX hd rfl rfl) ?_
  refine aI_c (fun hd => s_cV hX (T := TX0) (N := 15) (nX0_may l) rfl (wg_V up lmX0_96 loX0_may) rfl rfl rfl (by decide +kernel) ⟨by decide, by decide⟩ ⟨Nat.zero_le _, Nat.zero_le _⟩ hd rfl) ?_
  refine aI_c (fun hd => s_if_eq hX hd (by decide) rfl) ?_
  refine aI_c (fun hd => s_il_n hX hd rfl rfl) ?_
  refine aI_c (fun hd => s_ri hX hr hlk hE hd) ?_
  refine aI_c (fun hd => s_inc hX hd (by decide) rfl (by decide)) ?_
  refine aI_c (fun hd => s_go hX hd (by decide)) ?_
  refine aI_c (fun hd => s_ii hX hd (by decide) rfl) ?_
  refine aI_c (fun hd => s_ri hX hr hlk hE hd) ?_
  exact trivial

-- JudgesByLoss$Bench.passDay()I
def tX0_passDay : aT := [
  (0, (.iconst 0, 1), o_ii 0 1),
  (1, (.istore_n 1, 1), o_is 1 2),
  (2, (.iload_n 1, 1), o_mk [false, false, true, true] (o_il 1 3)),
  (3, (.aload_n 0, 1), o_al 0 4),
  (4, (.getfield 53, 3), o_gI 0 9 7),
  (7, (.if_icmp .ge 27, 3), o_ic (fun x y => y ≤ x) 34 10),
  (10, (.aload_n 0, 1), o_al 0 11),
  (11, (.getfield 24, 3), o_gF 0 5 14),
  (14, (.iload_n 1, 1), o_il 1 15),
  (15, (.iconst 0, 1), o_ii 0 16),
  (16, (.aload_n 0, 1), o_al 0 17),
  (17, (.getfield 24, 3), o_gF 0 5 20),
  (20, (.iload_n 1, 1), o_il 1 21),
  (21, (.iaload, 1), o_iald 22),
  (22, (.iconst 1, 1), o_ii 1 23),
  (23, (.isub, 1), o_bi (fun x y => x - y) 24),
  (24, (.invokestatic 86, 3), o_max 27),
  (27, (.iastore, 1), o_iast 28),
  (28, (.iinc 1 1, 3), o_inc 1 1 31),
  (31, (.goto (-29), 3), o_go 2),
  (34, (.iconst 0, 1), o_ii 0 35),
  (35, (.istore_n 1, 1), o_is 1 36),
  (36, (.iconst 0, 1), o_ii 0 37),
  (37, (.istore_n 2, 1), o_is 2 38),
  (38, (.iload_n 2, 1), o_mk [false, false, false, true] (o_il 2 39)),
  (39, (.bipush 8, 2), o_ii 8 41),
  (41, (.if_icmp .ge 63, 3), o_ic (fun x y => y ≤ x) 104 44),
  (44, (.aload_n 0, 1), o_al 0 45),
  (45, (.iload_n 2, 1), o_il 2 46),
  (46, (.invokevirtual 100, 3), o_cV CX0_hasCase 0 1 49),
  (49, (.ifCond .eq 49, 3), o_if (fun x => x = 0) 98 52),
  (52, (.aload_n 0, 1), o_al 0 53),
  (53, (.iload_n 2, 1), o_il 2 54),
  (54, (.invokevirtual 113, 3), o_cV CX0_firstWhoCan 0 1 57),
  (57, (.istore_n 3, 1), o_is 3 58),
  (58, (.iload_n 3, 1), o_il 3 59),
  (59, (.iconst (-1), 1), o_ii (-1) 60),
  (60, (.if_icmp .ne 25, 3), o_ic (fun x y => ¬ x = y) 85 63),
  (63, (.aload_n 0, 1), o_al 0 64),
  (64, (.getfield 33, 3), o_gF 0 8 67),
  (67, (.iload_n 2, 1), o_il 2 68),
  (68, (.bipush 99, 2), o_ii 99 70),
  (70, (.aload_n 0, 1), o_al 0 71),
  (71, (.getfield 33, 3), o_gF 0 8 74),
  (74, (.iload_n 2, 1), o_il 2 75),
  (75, (.iaload, 1), o_iald 76),
  (76, (.iconst 1, 1), o_ii 1 77),
  (77, (.iadd, 1), o_bi (fun x y => x + y) 78),
  (78, (.invokestatic 80, 3), o_min 81),
  (81, (.iastore, 1), o_iast 82),
  (82, (.goto 16, 3), o_go 98),
  (85, (.aload_n 0, 1), o_al 0 86),
  (86, (.iload_n 3, 1), o_il 3 87),
  (87, (.iload_n 2, 1), o_il 2 88),
  (88, (.invokevirtual 116, 3), o_cV CX0_hold 0 2 91),
  (91, (.pop, 1), o_pop 92),
  (92, (.iload_n 1, 1), o_il 1 93),
  (93, (.iconst 1, 1), o_ii 1 94),
  (94, (.iload_n 2, 1), o_il 2 95),
  (95, (.ishl, 1), o_bi (fun x y => x <<< (y &&& 31)) 96),
  (96, (.ior, 1), o_bi (fun x y => x ||| y) 97),
  (97, (.istore_n 1, 1), o_is 1 98),
  (98, (.iinc 2 1, 3), o_inc 2 1 101),
  (101, (.goto (-63), 3), o_go 38),
  (104, (.aload_n 0, 1), o_al 0 105),
  (105, (.dup, 1), o_dup 106),
  (106, (.getfield 59, 3), o_gI 0 11 109),
  (109, (.iconst 1, 1), o_ii 1 110),
  (110, (.iadd, 1), o_bi (fun x y => x + y) 111),
  (111, (.putfield 59, 3), o_pI 0 11 114),
  (114, (.iload_n 1, 1), o_il 1 115),
  (115, (.ireturn, 1), o_ri)]
abbrev CX0_passDay : aC := aCl tX0_passDay 4
def rmX0_passDay : Room := { frames := 5, cells := 0, slots := 0, locals := 120 }
set_option maxRecDepth 100000 in
theorem dX0_passDay : tX0_passDay.all (fun q => decide (decode cX0_passDay q.1 = .ok q.2.1)) = true := by decide +kernel
set_option maxRecDepth 100000 in
set_option maxHeartbeats 4000000 in
theorem nX0_passDay (l : Launch) : aMt l yX0_passDay (Cond.code yX0_passDay cX0_passDay 4 (some .int) :: wsL_law) rmX0_passDay CX0_passDay := by
  refine aMt.of (own := RX0) (cc := cX0_passDay) (maxL := 4) (ret := (some .int)) (by decide +kernel) rfl rfl ?_
  intro p e s m args below meth c Qc D Z ad P G A E hX hr hlk hE
  have up : ∀ w ∈ wsL_law, w ∈ (Cond.code yX0_passDay cX0_passDay 4 (some .int) :: wsL_law) := fun w h => List.mem_cons_of_mem _ h
  refine aImp_all _ dX0_passDay ?_
  unfold tX0_passDay
  refine aI_c (fun hd => s_ii hX hd (by decide) rfl) ?_
  refine aI_c (fun hd => s_is_n hX hd rfl rfl (by decide)) ?_
  refine aI_c (fun hd => s_mk (s_il_n hX hd rfl rfl)) ?_
  refine aI_c (fun hd => s_al_n hX hd rfl rfl) ?_
  refine aI_c (fun hd => s_gI hX (C := RX0) (T := TX0) (N := 15) (k := 9) rfl (fun w h => up w (inlX0 w h)) (by decide) rfl rfl rfl (up _ lkX0_53) hd rfl) ?_
  refine aI_c (fun hd => s_ic_ge hX hd (by decide) rfl) ?_
  refine aI_c (fun hd => s_al_n hX hd rfl rfl) ?_
  refine aI_c (fun hd => s_gF hX (C := RX0) (T := TX0) (N := 15) (k := 4) rfl (fun w h => up w (inlX0 w h)) (by decide) rfl rfl rfl (up _ lkX0_24) hd rfl) ?_
  refine aI_c (fun hd => s_il_n hX hd rfl rfl) ?_
  refine aI_c (fun hd => s_ii hX hd (by decide) rfl) ?_
  refine aI_c (fun hd => s_al_n hX hd rfl rfl) ?_
  refine aI_c (fun hd => s_gF hX (C := RX0) (T := TX0) (N := 15) (k := 4) rfl (fun w h => up w (inlX0 w h)) (by decide) rfl rfl rfl (up _ lkX0_24) hd rfl) ?_
  refine aI_c (fun hd => s_il_n hX hd rfl rfl) ?_
  refine aI_c (fun hd => s_iald hX hd rfl) ?_
  refine aI_c (fun hd => s_ii hX hd (by decide) rfl) ?_
  refine aI_c (fun hd => s_isub hX hd rfl) ?_
  refine aI_c (fun hd => s_max hX (up _ lmX0_86) (up _ wma_smax) (up _ wma_i) (up _ wma_cmax) ⟨by decide, by decide⟩ ⟨Nat.zero_le _, Nat.zero_le _⟩ hd rfl) ?_
  refine aI_c (fun hd => s_iast hX hd rfl) ?_
  refine aI_c (fun hd => s_inc hX hd (by decide) rfl (by decide)) ?_
  refine aI_c (fun hd => s_go hX hd (by decide)) ?_
  refine aI_c (fun hd => s_ii hX hd (by decide) rfl) ?_
  refine aI_c (fun hd => s_is_n hX hd rfl rfl (by decide)) ?_
  refine aI_c (fun hd => s_ii hX hd (by decide) rfl) ?_
  refine aI_c (fun hd => s_is_n hX hd rfl rfl (by decide)) ?_
  refine aI_c (fun hd => s_mk (s_il_n hX hd rfl rfl)) ?_
  refine aI_c (fun hd => s_bp hX hd (by decide) rfl) ?_
  refine aI_c (fun hd => s_ic_ge hX hd (by decide) rfl) ?_
  refine aI_c (fun hd => s_al_n hX hd rfl rfl) ?_
  refine aI_c (fun hd => s_il_n hX hd rfl rfl) ?_
  refine aI_c (fun hd => s_cV hX (T := TX0) (N := 15) (nX0_hasCase l) rfl (wg_V up lmX0_100 loX0_hasCase) rfl rfl rfl (by decide +kernel) ⟨by decide, by decide⟩ ⟨Nat.zero_le _, Nat.zero_le _⟩ hd rfl) ?_
  refine aI_c (fun hd => s_if_eq hX hd (by decide) rfl) ?_
  refine aI_c (fun hd => s_al_n hX hd rfl rfl) ?_
  refine aI_c (fun hd => s_il_n hX hd rfl rfl) ?_
  refine aI_c (fun hd => s_cV hX (T := TX0) (N := 15) (nX0_firstWhoCan l) rfl (wg_V up lmX0_113 loX0_firstWhoCan) rfl rfl rfl (by decide +kernel) ⟨by decide, by decide⟩ ⟨Nat.zero_le _, Nat.zero_le _⟩ hd rfl) ?_
  refine aI_c (fun hd => s_is_n hX hd rfl rfl (by decide)) ?_
  refine aI_c (fun hd => s_il_n hX hd rfl rfl) ?_
  refine aI_c (fun hd => s_ii hX hd (by decide) rfl) ?_
  refine aI_c (fun hd => s_ic_ne hX hd (by decide) rfl) ?_
  refine aI_c (fun hd => s_al_n hX hd rfl rfl) ?_
  refine aI_c (fun hd => s_gF hX (C := RX0) (T := TX0) (N := 15) (k := 7) rfl (fun w h => up w (inlX0 w h)) (by decide) rfl rfl rfl (up _ lkX0_33) hd rfl) ?_
  refine aI_c (fun hd => s_il_n hX hd rfl rfl) ?_
  refine aI_c (fun hd => s_bp hX hd (by decide) rfl) ?_
  refine aI_c (fun hd => s_al_n hX hd rfl rfl) ?_
  refine aI_c (fun hd => s_gF hX (C := RX0) (T := TX0) (N := 15) (k := 7) rfl (fun w h => up w (inlX0 w h)) (by decide) rfl rfl rfl (up _ lkX0_33) hd rfl) ?_
  refine aI_c (fun hd => s_il_n hX hd rfl rfl) ?_
  refine aI_c (fun hd => s_iald hX hd rfl) ?_
  refine aI_c (fun hd => s_ii hX hd (by decide) rfl) ?_
  refine aI_c (fun hd => s_iadd hX hd rfl) ?_
  refine aI_c (fun hd => s_min hX (up _ lmX0_80) (up _ wma_smin) (up _ wma_i) (up _ wma_cmin) ⟨by decide, by decide⟩ ⟨Nat.zero_le _, Nat.zero_le _⟩ hd rfl) ?_
  refine aI_c (fun hd => s_iast hX hd rfl) ?_
  refine aI_c (fun hd => s_go hX hd (by decide)) ?_
  refine aI_c (fun hd => s_al_n hX hd rfl rfl) ?_
  refine aI_c (fun hd => s_il_n hX hd rfl rfl) ?_
  refine aI_c (fun hd => s_il_n hX hd rfl rfl) ?_
  refine aI_c (fun hd => s_cV hX (T := TX0) (N := 15) (nX0_hold l) rfl (wg_V up lmX0_116 loX0_hold) rfl rfl rfl (by decide +kernel) ⟨by decide, by decide⟩ ⟨Nat.zero_le _, Nat.zero_le _⟩ hd rfl) ?_
  refine aI_c (fun hd => s_pop hX hd rfl) ?_
  refine aI_c (fun hd => s_il_n hX hd rfl rfl) ?_
  refine aI_c (fun hd => s_ii hX hd (by decide) rfl) ?_
  refine aI_c (fun hd => s_il_n hX hd rfl rfl) ?_
  refine aI_c (fun hd => s_ishl hX hd rfl) ?_
  refine aI_c (fun hd => s_ior hX hd rfl) ?_
  refine aI_c (fun hd => s_is_n hX hd rfl rfl (by decide)) ?_
  refine aI_c (fun hd => s_inc hX hd (by decide) rfl (by decide)) ?_
  refine aI_c (fun hd => s_go hX hd (by decide)) ?_
  refine aI_c (fun hd => s_al_n hX hd rfl rfl) ?_
  refine aI_c (fun hd => s_dup hX hd rfl) ?_
  refine aI_c (fun hd => s_gI hX (C := RX0) (T := TX0) (N := 15) (k := 11) rfl (fun w h => up w (inlX0 w h)) (by decide) rfl rfl rfl (up _ lkX0_59) hd rfl) ?_
  refine aI_c (fun hd => s_ii hX hd (by decide) rfl) ?_
  refine aI_c (fun hd => s_iadd hX hd rfl) ?_
  refine aI_c (fun hd => s_pI hX (C := RX0) (T := TX0) (N := 15) (k := 11) rfl (fun w h => up w (inlX0 w h)) (by decide) rfl rfl tyX0 tyX0_ok nmX0 rfl rfl rfl (up _ lkX0_59) hd rfl) ?_
  refine aI_c (fun hd => s_il_n hX hd rfl rfl) ?_
  refine aI_c (fun hd => s_ri hX hr hlk hE hd) ?_
  exact trivial

-- JudgesByLoss$Bench.become(LJudgesByLoss$Bench;)V
def tX0_become : aT := [
  (0, (.aload_n 1, 1), o_al 1 1),
  (1, (.getfield 9, 3), o_gF 0 1 4),
  (4, (.iconst 0, 1), o_ii 0 5),
  (5, (.aload_n 0, 1), o_al 0 6),
  (6, (.getfield 9, 3), o_gF 0 1 9),
  (9, (.iconst 0, 1), o_ii 0 10),
  (10, (.bipush 6, 2), o_ii 6 12),
  (12, (.invokestatic 47, 3), o_cpy 15),
  (15, (.aload_n 1, 1), o_al 1 16),
  (16, (.getfield 15, 3), o_gF 0 2 19),
  (19, (.iconst 0, 1), o_ii 0 20),
  (20, (.aload_n 0, 1), o_al 0 21),
  (21, (.getfield 15, 3), o_gF 0 2 24),
  (24, (.iconst 0, 1), o_ii 0 25),
  (25, (.bipush 6, 2), o_ii 6 27),
  (27, (.invokestatic 47, 3), o_cpy 30),
  (30, (.aload_n 1, 1), o_al 1 31),
  (31, (.getfield 18, 3), o_gF 0 3 34),
  (34, (.iconst 0, 1), o_ii 0 35),
  (35, (.aload_n 0, 1), o_al 0 36),
  (36, (.getfield 18, 3), o_gF 0 3 39),
  (39, (.iconst 0, 1), o_ii 0 40),
  (40, (.bipush 6, 2), o_ii 6 42),
  (42, (.invokestatic 47, 3), o_cpy 45),
  (45, (.aload_n 1, 1), o_al 1 46),
  (46, (.getfield 21, 3), o_gF 0 4 49),
  (49, (.iconst 0, 1), o_ii 0 50),
  (50, (.aload_n 0, 1), o_al 0 51),
  (51, (.getfield 21, 3), o_gF 0 4 54),
  (54, (.iconst 0, 1), o_ii 0 55),
  (55, (.bipush 6, 2), o_ii 6 57),
  (57, (.invokestatic 47, 3), o_cpy 60),
  (60, (.aload_n 1, 1), o_al 1 61),
  (61, (.getfield 24, 3), o_gF 0 5 64),
  (64, (.iconst 0, 1), o_ii 0 65),
  (65, (.aload_n 0, 1), o_al 0 66),
  (66, (.getfield 24, 3), o_gF 0 5 69),
  (69, (.iconst 0, 1), o_ii 0 70),
  (70, (.bipush 6, 2), o_ii 6 72),
  (72, (.invokestatic 47, 3), o_cpy 75),
  (75, (.aload_n 1, 1), o_al 1 76),
  (76, (.getfield 27, 3), o_gF 0 6 79),
  (79, (.iconst 0, 1), o_ii 0 80),
  (80, (.aload_n 0, 1), o_al 0 81),
  (81, (.getfield 27, 3), o_gF 0 6 84),
  (84, (.iconst 0, 1), o_ii 0 85),
  (85, (.bipush 8, 2), o_ii 8 87),
  (87, (.invokestatic 47, 3), o_cpy 90),
  (90, (.aload_n 1, 1), o_al 1 91),
  (91, (.getfield 30, 3), o_gF 0 7 94),
  (94, (.iconst 0, 1), o_ii 0 95),
  (95, (.aload_n 0, 1), o_al 0 96),
  (96, (.getfield 30, 3), o_gF 0 7 99),
  (99, (.iconst 0, 1), o_ii 0 100),
  (100, (.bipush 8, 2), o_ii 8 102),
  (102, (.invokestatic 47, 3), o_cpy 105),
  (105, (.aload_n 1, 1), o_al 1 106),
  (106, (.getfield 33, 3), o_gF 0 8 109),
  (109, (.iconst 0, 1), o_ii 0 110),
  (110, (.aload_n 0, 1), o_al 0 111),
  (111, (.getfield 33, 3), o_gF 0 8 114),
  (114, (.iconst 0, 1), o_ii 0 115),
  (115, (.bipush 8, 2), o_ii 8 117),
  (117, (.invokestatic 47, 3), o_cpy 120),
  (120, (.aload_n 0, 1), o_al 0 121),
  (121, (.aload_n 1, 1), o_al 1 122),
  (122, (.getfield 53, 3), o_gI 0 9 125),
  (125, (.putfield 53, 3), o_pI 0 9 128),
  (128, (.aload_n 0, 1), o_al 0 129),
  (129, (.aload_n 1, 1), o_al 1 130),
  (130, (.getfield 56, 3), o_gI 0 10 133),
  (133, (.putfield 56, 3), o_pI 0 10 136),
  (136, (.aload_n 0, 1), o_al 0 137),
  (137, (.aload_n 1, 1), o_al 1 138),
  (138, (.getfield 59, 3), o_gI 0 11 141),
  (141, (.putfield 59, 3), o_pI 0 11 144),
  (144, (.aload_n 0, 1), o_al 0 145),
  (145, (.aload_n 1, 1), o_al 1 146),
  (146, (.getfield 62, 3), o_gI 0 12 149),
  (149, (.putfield 62, 3), o_pI 0 12 152),
  (152, (.aload_n 0, 1), o_al 0 153),
  (153, (.aload_n 1, 1), o_al 1 154),
  (154, (.getfield 43, 3), o_gI 0 13 157),
  (157, (.putfield 43, 3), o_pI 0 13 160),
  (160, (.aload_n 0, 1), o_al 0 161),
  (161, (.aload_n 1, 1), o_al 1 162),
  (162, (.getfield 39, 3), o_gR 0 14 165),
  (165, (.putfield 39, 3), o_pR 0 14 168),
  (168, (.return_, 1), o_rv)]
abbrev CX0_become : aC := aCl tX0_become 2
def rmX0_become : Room := { frames := 1, cells := 0, slots := 0, locals := 60 }
set_option maxRecDepth 100000 in
theorem dX0_become : tX0_become.all (fun q => decide (decode cX0_become q.1 = .ok q.2.1)) = true := by decide +kernel
set_option maxRecDepth 100000 in
set_option maxHeartbeats 4000000 in
theorem nX0_become (l : Launch) : aMt l yX0_become (Cond.code yX0_become cX0_become 2 none :: wsL_law) rmX0_become CX0_become := by
  refine aMt.of (own := RX0) (cc := cX0_become) (maxL := 2) (ret := none) (by decide +kernel) rfl rfl ?_
  intro p e s m args below meth c Qc D Z ad P G A E hX hr hlk hE
  have up : ∀ w ∈ wsL_law, w ∈ (Cond.code yX0_become cX0_become 2 none :: wsL_law) := fun w h => List.mem_cons_of_mem _ h
  refine aImp_all _ dX0_become ?_
  unfold tX0_become
  refine aI_c (fun hd => s_al_n hX hd rfl rfl) ?_
  refine aI_c (fun hd => s_gF hX (C := RX0) (T := TX0) (N := 15) (k := 0) rfl (fun w h => up w (inlX0 w h)) (by decide) rfl rfl rfl (up _ lkX0_9) hd rfl) ?_
  refine aI_c (fun hd => s_ii hX hd (by decide) rfl) ?_
  refine aI_c (fun hd => s_al_n hX hd rfl rfl) ?_
  refine aI_c (fun hd => s_gF hX (C := RX0) (T := TX0) (N := 15) (k := 0) rfl (fun w h => up w (inlX0 w h)) (by decide) rfl rfl rfl (up _ lkX0_9) hd rfl) ?_
  refine aI_c (fun hd => s_ii hX hd (by decide) rfl) ?_
  refine aI_c (fun hd => s_bp hX hd (by decide) rfl) ?_
  refine aI_c (fun hd => s_cpy hX (up _ lmX0_47) (up _ wac_n) (up _ wac_s) (up _ wac_i) ⟨by decide, by decide⟩ hd rfl) ?_
  refine aI_c (fun hd => s_al_n hX hd rfl rfl) ?_
  refine aI_c (fun hd => s_gF hX (C := RX0) (T := TX0) (N := 15) (k := 1) rfl (fun w h => up w (inlX0 w h)) (by decide) rfl rfl rfl (up _ lkX0_15) hd rfl) ?_
  refine aI_c (fun hd => s_ii hX hd (by decide) rfl) ?_
  refine aI_c (fun hd => s_al_n hX hd rfl rfl) ?_
  refine aI_c (fun hd => s_gF hX (C := RX0) (T := TX0) (N := 15) (k := 1) rfl (fun w h => up w (inlX0 w h)) (by decide) rfl rfl rfl (up _ lkX0_15) hd rfl) ?_
  refine aI_c (fun hd => s_ii hX hd (by decide) rfl) ?_
  refine aI_c (fun hd => s_bp hX hd (by decide) rfl) ?_
  refine aI_c (fun hd => s_cpy hX (up _ lmX0_47) (up _ wac_n) (up _ wac_s) (up _ wac_i) ⟨by decide, by decide⟩ hd rfl) ?_
  refine aI_c (fun hd => s_al_n hX hd rfl rfl) ?_
  refine aI_c (fun hd => s_gF hX (C := RX0) (T := TX0) (N := 15) (k := 2) rfl (fun w h => up w (inlX0 w h)) (by decide) rfl rfl rfl (up _ lkX0_18) hd rfl) ?_
  refine aI_c (fun hd => s_ii hX hd (by decide) rfl) ?_
  refine aI_c (fun hd => s_al_n hX hd rfl rfl) ?_
  refine aI_c (fun hd => s_gF hX (C := RX0) (T := TX0) (N := 15) (k := 2) rfl (fun w h => up w (inlX0 w h)) (by decide) rfl rfl rfl (up _ lkX0_18) hd rfl) ?_
  refine aI_c (fun hd => s_ii hX hd (by decide) rfl) ?_
  refine aI_c (fun hd => s_bp hX hd (by decide) rfl) ?_
  refine aI_c (fun hd => s_cpy hX (up _ lmX0_47) (up _ wac_n) (up _ wac_s) (up _ wac_i) ⟨by decide, by decide⟩ hd rfl) ?_
  refine aI_c (fun hd => s_al_n hX hd rfl rfl) ?_
  refine aI_c (fun hd => s_gF hX (C := RX0) (T := TX0) (N := 15) (k := 3) rfl (fun w h => up w (inlX0 w h)) (by decide) rfl rfl rfl (up _ lkX0_21) hd rfl) ?_
  refine aI_c (fun hd => s_ii hX hd (by decide) rfl) ?_
  refine aI_c (fun hd => s_al_n hX hd rfl rfl) ?_
  refine aI_c (fun hd => s_gF hX (C := RX0) (T := TX0) (N := 15) (k := 3) rfl (fun w h => up w (inlX0 w h)) (by decide) rfl rfl rfl (up _ lkX0_21) hd rfl) ?_
  refine aI_c (fun hd => s_ii hX hd (by decide) rfl) ?_
  refine aI_c (fun hd => s_bp hX hd (by decide) rfl) ?_
  refine aI_c (fun hd => s_cpy hX (up _ lmX0_47) (up _ wac_n) (up _ wac_s) (up _ wac_i) ⟨by decide, by decide⟩ hd rfl) ?_
  refine aI_c (fun hd => s_al_n hX hd rfl rfl) ?_
  refine aI_c (fun hd => s_gF hX (C := RX0) (T := TX0) (N := 15) (k := 4) rfl (fun w h => up w (inlX0 w h)) (by decide) rfl rfl rfl (up _ lkX0_24) hd rfl) ?_
  refine aI_c (fun hd => s_ii hX hd (by decide) rfl) ?_
  refine aI_c (fun hd => s_al_n hX hd rfl rfl) ?_
  refine aI_c (fun hd => s_gF hX (C := RX0) (T := TX0) (N := 15) (k := 4) rfl (fun w h => up w (inlX0 w h)) (by decide) rfl rfl rfl (up _ lkX0_24) hd rfl) ?_
  refine aI_c (fun hd => s_ii hX hd (by decide) rfl) ?_
  refine aI_c (fun hd => s_bp hX hd (by decide) rfl) ?_
  refine aI_c (fun hd => s_cpy hX (up _ lmX0_47) (up _ wac_n) (up _ wac_s) (up _ wac_i) ⟨by decide, by decide⟩ hd rfl) ?_
  refine aI_c (fun hd => s_al_n hX hd rfl rfl) ?_
  refine aI_c (fun hd => s_gF hX (C := RX0) (T := TX0) (N := 15) (k := 5) rfl (fun w h => up w (inlX0 w h)) (by decide) rfl rfl rfl (up _ lkX0_27) hd rfl) ?_
  refine aI_c (fun hd => s_ii hX hd (by decide) rfl) ?_
  refine aI_c (fun hd => s_al_n hX hd rfl rfl) ?_
  refine aI_c (fun hd => s_gF hX (C := RX0) (T := TX0) (N := 15) (k := 5) rfl (fun w h => up w (inlX0 w h)) (by decide) rfl rfl rfl (up _ lkX0_27) hd rfl) ?_
  refine aI_c (fun hd => s_ii hX hd (by decide) rfl) ?_
  refine aI_c (fun hd => s_bp hX hd (by decide) rfl) ?_
  refine aI_c (fun hd => s_cpy hX (up _ lmX0_47) (up _ wac_n) (up _ wac_s) (up _ wac_i) ⟨by decide, by decide⟩ hd rfl) ?_
  refine aI_c (fun hd => s_al_n hX hd rfl rfl) ?_
  refine aI_c (fun hd => s_gF hX (C := RX0) (T := TX0) (N := 15) (k := 6) rfl (fun w h => up w (inlX0 w h)) (by decide) rfl rfl rfl (up _ lkX0_30) hd rfl) ?_
  refine aI_c (fun hd => s_ii hX hd (by decide) rfl) ?_
  refine aI_c (fun hd => s_al_n hX hd rfl rfl) ?_
  refine aI_c (fun hd => s_gF hX (C := RX0) (T := TX0) (N := 15) (k := 6) rfl (fun w h => up w (inlX0 w h)) (by decide) rfl rfl rfl (up _ lkX0_30) hd rfl) ?_
  refine aI_c (fun hd => s_ii hX hd (by decide) rfl) ?_
  refine aI_c (fun hd => s_bp hX hd (by decide) rfl) ?_
  refine aI_c (fun hd => s_cpy hX (up _ lmX0_47) (up _ wac_n) (up _ wac_s) (up _ wac_i) ⟨by decide, by decide⟩ hd rfl) ?_
  refine aI_c (fun hd => s_al_n hX hd rfl rfl) ?_
  refine aI_c (fun hd => s_gF hX (C := RX0) (T := TX0) (N := 15) (k := 7) rfl (fun w h => up w (inlX0 w h)) (by decide) rfl rfl rfl (up _ lkX0_33) hd rfl) ?_
  refine aI_c (fun hd => s_ii hX hd (by decide) rfl) ?_
  refine aI_c (fun hd => s_al_n hX hd rfl rfl) ?_
  refine aI_c (fun hd => s_gF hX (C := RX0) (T := TX0) (N := 15) (k := 7) rfl (fun w h => up w (inlX0 w h)) (by decide) rfl rfl rfl (up _ lkX0_33) hd rfl) ?_
  refine aI_c (fun hd => s_ii hX hd (by decide) rfl) ?_
  refine aI_c (fun hd => s_bp hX hd (by decide) rfl) ?_
  refine aI_c (fun hd => s_cpy hX (up _ lmX0_47) (up _ wac_n) (up _ wac_s) (up _ wac_i) ⟨by decide, by decide⟩ hd rfl) ?_
  refine aI_c (fun hd => s_al_n hX hd rfl rfl) ?_
  refine aI_c (fun hd => s_al_n hX hd rfl rfl) ?_
  refine aI_c (fun hd => s_gI hX (C := RX0) (T := TX0) (N := 15) (k := 9) rfl (fun w h => up w (inlX0 w h)) (by decide) rfl rfl rfl (up _ lkX0_53) hd rfl) ?_
  refine aI_c (fun hd => s_pI hX (C := RX0) (T := TX0) (N := 15) (k := 9) rfl (fun w h => up w (inlX0 w h)) (by decide) rfl rfl tyX0 tyX0_ok nmX0 rfl rfl rfl (up _ lkX0_53) hd rfl) ?_
  refine aI_c (fun hd => s_al_n hX hd rfl rfl) ?_
  refine aI_c (fun hd => s_al_n hX hd rfl rfl) ?_
  refine aI_c (fun hd => s_gI hX (C := RX0) (T := TX0) (N := 15) (k := 10) rfl (fun w h => up w (inlX0 w h)) (by decide) rfl rfl rfl (up _ lkX0_56) hd rfl) ?_
  refine aI_c (fun hd => s_pI hX (C := RX0) (T := TX0) (N := 15) (k := 10) rfl (fun w h => up w (inlX0 w h)) (by decide) rfl rfl tyX0 tyX0_ok nmX0 rfl rfl rfl (up _ lkX0_56) hd rfl) ?_
  refine aI_c (fun hd => s_al_n hX hd rfl rfl) ?_
  refine aI_c (fun hd => s_al_n hX hd rfl rfl) ?_
  refine aI_c (fun hd => s_gI hX (C := RX0) (T := TX0) (N := 15) (k := 11) rfl (fun w h => up w (inlX0 w h)) (by decide) rfl rfl rfl (up _ lkX0_59) hd rfl) ?_
  refine aI_c (fun hd => s_pI hX (C := RX0) (T := TX0) (N := 15) (k := 11) rfl (fun w h => up w (inlX0 w h)) (by decide) rfl rfl tyX0 tyX0_ok nmX0 rfl rfl rfl (up _ lkX0_59) hd rfl) ?_
  refine aI_c (fun hd => s_al_n hX hd rfl rfl) ?_
  refine aI_c (fun hd => s_al_n hX hd rfl rfl) ?_
  refine aI_c (fun hd => s_gI hX (C := RX0) (T := TX0) (N := 15) (k := 12) rfl (fun w h => up w (inlX0 w h)) (by decide) rfl rfl rfl (up _ lkX0_62) hd rfl) ?_
  refine aI_c (fun hd => s_pI hX (C := RX0) (T := TX0) (N := 15) (k := 12) rfl (fun w h => up w (inlX0 w h)) (by decide) rfl rfl tyX0 tyX0_ok nmX0 rfl rfl rfl (up _ lkX0_62) hd rfl) ?_
  refine aI_c (fun hd => s_al_n hX hd rfl rfl) ?_
  refine aI_c (fun hd => s_al_n hX hd rfl rfl) ?_
  refine aI_c (fun hd => s_gI hX (C := RX0) (T := TX0) (N := 15) (k := 13) rfl (fun w h => up w (inlX0 w h)) (by decide) rfl rfl rfl (up _ lkX0_43) hd rfl) ?_
  refine aI_c (fun hd => s_pI hX (C := RX0) (T := TX0) (N := 15) (k := 13) rfl (fun w h => up w (inlX0 w h)) (by decide) rfl rfl tyX0 tyX0_ok nmX0 rfl rfl rfl (up _ lkX0_43) hd rfl) ?_
  refine aI_c (fun hd => s_al_n hX hd rfl rfl) ?_
  refine aI_c (fun hd => s_al_n hX hd rfl rfl) ?_
  refine aI_c (fun hd => s_gR hX (C := RX0) (T := TX0) (N := 15) (k := 14) rfl (fun w h => up w (inlX0 w h)) (by decide) rfl rfl rfl (up _ lkX0_39) hd rfl) ?_
  refine aI_c (fun hd => s_pR hX (C := RX0) (T := TX0) (N := 15) (k := 14) rfl (fun w h => up w (inlX0 w h)) (by decide) rfl rfl tyX0 tyX0_ok nmX0 rfl rfl rfl (up _ lkX0_39) hd rfl) ?_
  refine aI_c (fun hd => s_rv hX hr hlk hE hd) ?_
  exact trivial

-- JudgesByLoss$Bench.allWaited()I
def tX0_allWaited : aT := [
  (0, (.iconst 0, 1), o_ii 0 1),
  (1, (.istore_n 1, 1), o_is 1 2),
  (2, (.iconst 0, 1), o_ii 0 3),
  (3, (.istore_n 2, 1), o_is 2 4),
  (4, (.iload_n 2, 1), o_il 2 5),
  (5, (.bipush 8, 2), o_ii 8 7),
  (7, (.if_icmp .ge 30, 3), o_ic (fun x y => y ≤ x) 37 10),
  (10, (.iload_n 1, 1), o_il 1 11),
  (11, (.aload_n 0, 1), o_al 0 12),
  (12, (.iload_n 2, 1), o_il 2 13),
  (13, (.invokevirtual 100, 3), o_cV CX0_hasCase 0 1 16),
  (16, (.ifCond .eq 12, 3), o_if (fun x => x = 0) 28 19),
  (19, (.aload_n 0, 1), o_al 0 20),
  (20, (.getfield 33, 3), o_gF 0 8 23),
  (23, (.iload_n 2, 1), o_il 2 24),
  (24, (.iaload, 1), o_iald 25),
  (25, (.goto 4, 3), o_go 29),
  (28, (.iconst 0, 1), o_ii 0 29),
  (29, (.iadd, 1), o_bi (fun x y => x + y) 30),
  (30, (.istore_n 1, 1), o_is 1 31),
  (31, (.iinc 2 1, 3), o_inc 2 1 34),
  (34, (.goto (-30), 3), o_go 4),
  (37, (.iload_n 1, 1), o_il 1 38),
  (38, (.ireturn, 1), o_ri)]
abbrev CX0_allWaited : aC := aCl tX0_allWaited 3
def rmX0_allWaited : Room := { frames := 2, cells := 0, slots := 0, locals := 22 }
set_option maxRecDepth 100000 in
theorem dX0_allWaited : tX0_allWaited.all (fun q => decide (decode cX0_allWaited q.1 = .ok q.2.1)) = true := by decide +kernel
set_option maxRecDepth 100000 in
set_option maxHeartbeats 4000000 in
theorem nX0_allWaited (l : Launch) : aMt l yX0_allWaited (Cond.code yX0_allWaited cX0_allWaited 3 (some .int) :: wsL_law) rmX0_allWaited CX0_allWaited := by
  refine aMt.of (own := RX0) (cc := cX0_allWaited) (maxL := 3) (ret := (some .int)) (by decide +kernel) rfl rfl ?_
  intro p e s m args below meth c Qc D Z ad P G A E hX hr hlk hE
  have up : ∀ w ∈ wsL_law, w ∈ (Cond.code yX0_allWaited cX0_allWaited 3 (some .int) :: wsL_law) := fun w h => List.mem_cons_of_mem _ h
  refine aImp_all _ dX0_allWaited ?_
  unfold tX0_allWaited
  refine aI_c (fun hd => s_ii hX hd (by decide) rfl) ?_
  refine aI_c (fun hd => s_is_n hX hd rfl rfl (by decide)) ?_
  refine aI_c (fun hd => s_ii hX hd (by decide) rfl) ?_
  refine aI_c (fun hd => s_is_n hX hd rfl rfl (by decide)) ?_
  refine aI_c (fun hd => s_il_n hX hd rfl rfl) ?_
  refine aI_c (fun hd => s_bp hX hd (by decide) rfl) ?_
  refine aI_c (fun hd => s_ic_ge hX hd (by decide) rfl) ?_
  refine aI_c (fun hd => s_il_n hX hd rfl rfl) ?_
  refine aI_c (fun hd => s_al_n hX hd rfl rfl) ?_
  refine aI_c (fun hd => s_il_n hX hd rfl rfl) ?_
  refine aI_c (fun hd => s_cV hX (T := TX0) (N := 15) (nX0_hasCase l) rfl (wg_V up lmX0_100 loX0_hasCase) rfl rfl rfl (by decide +kernel) ⟨by decide, by decide⟩ ⟨Nat.zero_le _, Nat.zero_le _⟩ hd rfl) ?_
  refine aI_c (fun hd => s_if_eq hX hd (by decide) rfl) ?_
  refine aI_c (fun hd => s_al_n hX hd rfl rfl) ?_
  refine aI_c (fun hd => s_gF hX (C := RX0) (T := TX0) (N := 15) (k := 7) rfl (fun w h => up w (inlX0 w h)) (by decide) rfl rfl rfl (up _ lkX0_33) hd rfl) ?_
  refine aI_c (fun hd => s_il_n hX hd rfl rfl) ?_
  refine aI_c (fun hd => s_iald hX hd rfl) ?_
  refine aI_c (fun hd => s_go hX hd (by decide)) ?_
  refine aI_c (fun hd => s_ii hX hd (by decide) rfl) ?_
  refine aI_c (fun hd => s_iadd hX hd rfl) ?_
  refine aI_c (fun hd => s_is_n hX hd rfl rfl (by decide)) ?_
  refine aI_c (fun hd => s_inc hX hd (by decide) rfl (by decide)) ?_
  refine aI_c (fun hd => s_go hX hd (by decide)) ?_
  refine aI_c (fun hd => s_il_n hX hd rfl rfl) ?_
  refine aI_c (fun hd => s_ri hX hr hlk hE hd) ?_
  exact trivial

-- JudgesByLoss$Bench.whoCan(I)I
def tX0_whoCan : aT := [
  (0, (.iconst 0, 1), o_ii 0 1),
  (1, (.istore_n 2, 1), o_is 2 2),
  (2, (.iconst 0, 1), o_ii 0 3),
  (3, (.istore_n 3, 1), o_is 3 4),
  (4, (.iload_n 3, 1), o_il 3 5),
  (5, (.aload_n 0, 1), o_al 0 6),
  (6, (.getfield 53, 3), o_gI 0 9 9),
  (9, (.if_icmp .ge 24, 3), o_ic (fun x y => y ≤ x) 33 12),
  (12, (.aload_n 0, 1), o_al 0 13),
  (13, (.iload_n 3, 1), o_il 3 14),
  (14, (.iload_n 1, 1), o_il 1 15),
  (15, (.invokevirtual 104, 3), o_cV CX0_can 0 2 18),
  (18, (.ifCond .eq 9, 3), o_if (fun x => x = 0) 27 21),
  (21, (.iload_n 2, 1), o_il 2 22),
  (22, (.iconst 1, 1), o_ii 1 23),
  (23, (.iload_n 3, 1), o_il 3 24),
  (24, (.ishl, 1), o_bi (fun x y => x <<< (y &&& 31)) 25),
  (25, (.ior, 1), o_bi (fun x y => x ||| y) 26),
  (26, (.istore_n 2, 1), o_is 2 27),
  (27, (.iinc 3 1, 3), o_inc 3 1 30),
  (30, (.goto (-26), 3), o_go 4),
  (33, (.iload_n 2, 1), o_il 2 34),
  (34, (.ireturn, 1), o_ri)]
abbrev CX0_whoCan : aC := aCl tX0_whoCan 4
def rmX0_whoCan : Room := { frames := 5, cells := 0, slots := 0, locals := 118 }
set_option maxRecDepth 100000 in
theorem dX0_whoCan : tX0_whoCan.all (fun q => decide (decode cX0_whoCan q.1 = .ok q.2.1)) = true := by decide +kernel
set_option maxRecDepth 100000 in
set_option maxHeartbeats 4000000 in
theorem nX0_whoCan (l : Launch) : aMt l yX0_whoCan (Cond.code yX0_whoCan cX0_whoCan 4 (some .int) :: wsL_law) rmX0_whoCan CX0_whoCan := by
  refine aMt.of (own := RX0) (cc := cX0_whoCan) (maxL := 4) (ret := (some .int)) (by decide +kernel) rfl rfl ?_
  intro p e s m args below meth c Qc D Z ad P G A E hX hr hlk hE
  have up : ∀ w ∈ wsL_law, w ∈ (Cond.code yX0_whoCan cX0_whoCan 4 (some .int) :: wsL_law) := fun w h => List.mem_cons_of_mem _ h
  refine aImp_all _ dX0_whoCan ?_
  unfold tX0_whoCan
  refine aI_c (fun hd => s_ii hX hd (by decide) rfl) ?_
  refine aI_c (fun hd => s_is_n hX hd rfl rfl (by decide)) ?_
  refine aI_c (fun hd => s_ii hX hd (by decide) rfl) ?_
  refine aI_c (fun hd => s_is_n hX hd rfl rfl (by decide)) ?_
  refine aI_c (fun hd => s_il_n hX hd rfl rfl) ?_
  refine aI_c (fun hd => s_al_n hX hd rfl rfl) ?_
  refine aI_c (fun hd => s_gI hX (C := RX0) (T := TX0) (N := 15) (k := 9) rfl (fun w h => up w (inlX0 w h)) (by decide) rfl rfl rfl (up _ lkX0_53) hd rfl) ?_
  refine aI_c (fun hd => s_ic_ge hX hd (by decide) rfl) ?_
  refine aI_c (fun hd => s_al_n hX hd rfl rfl) ?_
  refine aI_c (fun hd => s_il_n hX hd rfl rfl) ?_
  refine aI_c (fun hd => s_il_n hX hd rfl rfl) ?_
  refine aI_c (fun hd => s_cV hX (T := TX0) (N := 15) (nX0_can l) rfl (wg_V up lmX0_104 loX0_can) rfl rfl rfl (by decide +kernel) ⟨by decide, by decide⟩ ⟨Nat.zero_le _, Nat.zero_le _⟩ hd rfl) ?_
  refine aI_c (fun hd => s_if_eq hX hd (by decide) rfl) ?_
  refine aI_c (fun hd => s_il_n hX hd rfl rfl) ?_
  refine aI_c (fun hd => s_ii hX hd (by decide) rfl) ?_
  refine aI_c (fun hd => s_il_n hX hd rfl rfl) ?_
  refine aI_c (fun hd => s_ishl hX hd rfl) ?_
  refine aI_c (fun hd => s_ior hX hd rfl) ?_
  refine aI_c (fun hd => s_is_n hX hd rfl rfl (by decide)) ?_
  refine aI_c (fun hd => s_inc hX hd (by decide) rfl (by decide)) ?_
  refine aI_c (fun hd => s_go hX hd (by decide)) ?_
  refine aI_c (fun hd => s_il_n hX hd rfl rfl) ?_
  refine aI_c (fun hd => s_ri hX hr hlk hE hd) ?_
  exact trivial

-- JudgesByLoss$Bench.isOf(II)Z
def tX0_isOf : aT := [
  (0, (.getstatic 65, 3), o_gst 3),
  (3, (.aload_n 0, 1), o_al 0 4),
  (4, (.getfield 9, 3), o_gF 0 1 7),
  (7, (.iload_n 1, 1), o_il 1 8),
  (8, (.iaload, 1), o_iald 9),
  (9, (.iaload, 1), o_tld 10),
  (10, (.iload_n 2, 1), o_il 2 11),
  (11, (.ishr, 1), o_bi (fun x y => x >>> (y &&& 31)) 12),
  (12, (.iconst 1, 1), o_ii 1 13),
  (13, (.iand, 1), o_bi (fun x y => x &&& y) 14),
  (14, (.iconst 1, 1), o_ii 1 15),
  (15, (.if_icmp .ne 7, 3), o_ic (fun x y => ¬ x = y) 22 18),
  (18, (.iconst 1, 1), o_ii 1 19),
  (19, (.goto 4, 3), o_go 23),
  (22, (.iconst 0, 1), o_ii 0 23),
  (23, (.ireturn, 1), o_rz)]
abbrev CX0_isOf : aC := aCl tX0_isOf 3
def rmX0_isOf : Room := { frames := 1, cells := 0, slots := 0, locals := 1 }
set_option maxRecDepth 100000 in
theorem dX0_isOf : tX0_isOf.all (fun q => decide (decode cX0_isOf q.1 = .ok q.2.1)) = true := by decide +kernel
set_option maxRecDepth 100000 in
set_option maxHeartbeats 4000000 in
theorem nX0_isOf (l : Launch) : aMt l yX0_isOf (Cond.code yX0_isOf cX0_isOf 3 (some .boolean) :: wsL_law) rmX0_isOf CX0_isOf := by
  refine aMt.of (own := RX0) (cc := cX0_isOf) (maxL := 3) (ret := (some .boolean)) (by decide +kernel) rfl rfl ?_
  intro p e s m args below meth c Qc D Z ad P G A E hX hr hlk hE
  have up : ∀ w ∈ wsL_law, w ∈ (Cond.code yX0_isOf cX0_isOf 3 (some .boolean) :: wsL_law) := fun w h => List.mem_cons_of_mem _ h
  refine aImp_all _ dX0_isOf ?_
  unfold tX0_isOf
  refine aI_c (fun hd => s_gst hX (up _ lkX0_65) hd rfl) ?_
  refine aI_c (fun hd => s_al_n hX hd rfl rfl) ?_
  refine aI_c (fun hd => s_gF hX (C := RX0) (T := TX0) (N := 15) (k := 0) rfl (fun w h => up w (inlX0 w h)) (by decide) rfl rfl rfl (up _ lkX0_9) hd rfl) ?_
  refine aI_c (fun hd => s_il_n hX hd rfl rfl) ?_
  refine aI_c (fun hd => s_iald hX hd rfl) ?_
  refine aI_c (fun hd => s_tld hX hd rfl) ?_
  refine aI_c (fun hd => s_il_n hX hd rfl rfl) ?_
  refine aI_c (fun hd => s_ishr hX hd rfl) ?_
  refine aI_c (fun hd => s_ii hX hd (by decide) rfl) ?_
  refine aI_c (fun hd => s_iand hX hd rfl) ?_
  refine aI_c (fun hd => s_ii hX hd (by decide) rfl) ?_
  refine aI_c (fun hd => s_ic_ne hX hd (by decide) rfl) ?_
  refine aI_c (fun hd => s_ii hX hd (by decide) rfl) ?_
  refine aI_c (fun hd => s_go hX hd (by decide)) ?_
  refine aI_c (fun hd => s_ii hX hd (by decide) rfl) ?_
  refine aI_c (fun hd => s_rz hX hr hlk hE hd) ?_
  exact trivial
