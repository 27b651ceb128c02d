-- JudgesByLoss.count(I)I
def tX4_count : aT := [
  (0, (.iload_n 1, 1), o_il 1 1),
  (1, (.tableswitch 99 0 6 #[43, 51, 62, 70, 75, 83, 91], 43), o_sw [(0, 44), (1, 52), (2, 63), (3, 71), (4, 76), (5, 84), (6, 92)] 100),
  (44, (.aload_n 0, 1), o_al 0 45),
  (45, (.getfield 44, 3), o_gF 4 1 48),
  (48, (.getfield 55, 3), o_gI 0 9 51),
  (51, (.ireturn, 1), o_ri),
  (52, (.aload_n 0, 1), o_al 0 53),
  (53, (.getfield 44, 3), o_gF 4 1 56),
  (56, (.getfield 58, 3), o_gI 0 10 59),
  (59, (.invokestatic 61, 3), o_cS CJ6_bitCount_0f7a4 1 62),
  (62, (.ireturn, 1), o_ri),
  (63, (.aload_n 0, 1), o_al 0 64),
  (64, (.getfield 44, 3), o_gF 4 1 67),
  (67, (.getfield 67, 3), o_gI 0 12 70),
  (70, (.ireturn, 1), o_ri),
  (71, (.aload_n 0, 1), o_al 0 72),
  (72, (.getfield 15, 3), o_gI 4 5 75),
  (75, (.ireturn, 1), o_ri),
  (76, (.aload_n 0, 1), o_al 0 77),
  (77, (.getfield 44, 3), o_gF 4 1 80),
  (80, (.getfield 70, 3), o_gI 0 13 83),
  (83, (.ireturn, 1), o_ri),
  (84, (.aload_n 0, 1), o_al 0 85),
  (85, (.getfield 22, 3), o_gF 4 31 88),
  (88, (.getfield 73, 3), o_gI 1 5 91),
  (91, (.ireturn, 1), o_ri),
  (92, (.aload_n 0, 1), o_al 0 93),
  (93, (.getfield 44, 3), o_gF 4 1 96),
  (96, (.getfield 76, 3), o_gI 0 11 99),
  (99, (.ireturn, 1), o_ri),
  (100, (.bipush (-2), 2), o_ii (-2) 102),
  (102, (.ireturn, 1), o_ri)]
abbrev CX4_count : aC := aCl tX4_count 2
def rmX4_count : Room := { frames := 2, cells := 0, slots := 0, locals := 21 }
set_option maxRecDepth 100000 in
theorem dX4_count : tX4_count.all (fun q => decide (decode cX4_count q.1 = .ok q.2.1)) = true := by decide +kernel
set_option maxRecDepth 100000 in
set_option maxHeartbeats 4000000 in
theorem nX4_count (l : Launch) : aMt l yX4_count (Cond.code yX4_count cX4_count 2 (some .int) :: wsL_law) rmX4_count CX4_count := by
  refine aMt.of (own := RX4) (cc := cX4_count) (maxL := 2) (ret := (some .int)) (by decide +kernel) rfl rfl ?_
  intro p e s m args below meth c Qc D Z ad P G A E hX hr hlk hE
  have up : ∀ w ∈ wsL_law, w ∈ (Cond.code yX4_count cX4_count 2 (some .int) :: wsL_law) := fun w h => List.mem_cons_of_mem _ h
  refine aImp_all _ dX4_count ?_
  unfold tX4_count
  refine aI_c (fun hd => s_il_n hX hd rfl rfl) ?_
  refine aI_c (fun hd => s_sw hX hd (by decide) (by decide +kernel)) ?_
  refine aI_c (fun hd => s_al_n hX hd rfl rfl) ?_
  refine aI_c (fun hd => s_gF hX (C := RX4) (T := TX4) (N := 9) (k := 0) rfl (fun w h => up w (inlX4 w h)) (by decide) rfl rfl rfl (up _ lkX4_44) hd rfl) ?_
  refine aI_c (fun hd => s_gI hX (C := RX0) (T := TX0) (N := 15) (k := 9) rfl (fun w h => up w (inlX0 w h)) (by decide) rfl rfl rfl (up _ lkX4_55) hd rfl) ?_
  refine aI_c (fun hd => s_ri hX hr hlk hE hd) ?_
  refine aI_c (fun hd => s_al_n hX hd rfl rfl) ?_
  refine aI_c (fun hd => s_gF hX (C := RX4) (T := TX4) (N := 9) (k := 0) rfl (fun w h => up w (inlX4 w h)) (by decide) rfl rfl rfl (up _ lkX4_44) hd rfl) ?_
  refine aI_c (fun hd => s_gI hX (C := RX0) (T := TX0) (N := 15) (k := 10) rfl (fun w h => up w (inlX0 w h)) (by decide) rfl rfl rfl (up _ lkX4_58) hd rfl) ?_
  refine aI_c (fun hd => s_cS hX (nJ6_bitCount_0f7a4 l) (wg_S up lmX4_61 loJ6_bitCount_0f7a4) rfl rfl rfl (by decide +kernel) ⟨by decide, by decide⟩ ⟨Nat.zero_le _, Nat.zero_le _⟩ hd rfl) ?_
  refine aI_c (fun hd => s_ri hX hr hlk hE hd) ?_
  refine aI_c (fun hd => s_al_n hX hd rfl rfl) ?_
  refine aI_c (fun hd => s_gF hX (C := RX4) (T := TX4) (N := 9) (k := 0) rfl (fun w h => up w (inlX4 w h)) (by decide) rfl rfl rfl (up _ lkX4_44) hd rfl) ?_
  refine aI_c (fun hd => s_gI hX (C := RX0) (T := TX0) (N := 15) (k := 12) rfl (fun w h => up w (inlX0 w h)) (by decide) rfl rfl rfl (up _ lkX4_67) hd rfl) ?_
  refine aI_c (fun hd => s_ri hX hr hlk hE hd) ?_
  refine aI_c (fun hd => s_al_n hX hd rfl rfl) ?_
  refine aI_c (fun hd => s_gI hX (C := RX4) (T := TX4) (N := 9) (k := 5) rfl (fun w h => up w (inlX4 w h)) (by decide) rfl rfl rfl (up _ lkX4_15) hd rfl) ?_
  refine aI_c (fun hd => s_ri hX hr hlk hE hd) ?_
  refine aI_c (fun hd => s_al_n hX hd rfl rfl) ?_
  refine aI_c (fun hd => s_gF hX (C := RX4) (T := TX4) (N := 9) (k := 0) rfl (fun w h => up w (inlX4 w h)) (by decide) rfl rfl rfl (up _ lkX4_44) hd rfl) ?_
  refine aI_c (fun hd => s_gI hX (C := RX0) (T := TX0) (N := 15) (k := 13) rfl (fun w h => up w (inlX0 w h)) (by decide) rfl rfl rfl (up _ lkX4_70) hd rfl) ?_
  refine aI_c (fun hd => s_ri hX hr hlk hE hd) ?_
  refine aI_c (fun hd => s_al_n hX hd rfl rfl) ?_
  refine aI_c (fun hd => s_gF hX (C := RX4) (T := TX4) (N := 9) (k := 6) rfl (fun w h => up w (inlX4 w h)) (by decide) rfl rfl rfl (up _ lkX4_22) hd rfl) ?_
  refine aI_c (fun hd => s_gI hX (C := RX1) (T := TX1) (N := 8) (k := 5) rfl (fun w h => up w (inlX1 w h)) (by decide) rfl rfl rfl (up _ lkX4_73) hd rfl) ?_
  refine aI_c (fun hd => s_ri hX hr hlk hE hd) ?_
  refine aI_c (fun hd => s_al_n hX hd rfl rfl) ?_
  refine aI_c (fun hd => s_gF hX (C := RX4) (T := TX4) (N := 9) (k := 0) rfl (fun w h => up w (inlX4 w h)) (by decide) rfl rfl rfl (up _ lkX4_44) hd rfl) ?_
  refine aI_c (fun hd => s_gI hX (C := RX0) (T := TX0) (N := 15) (k := 11) rfl (fun w h => up w (inlX0 w h)) (by decide) rfl rfl rfl (up _ lkX4_76) hd rfl) ?_
  refine aI_c (fun hd => s_ri hX hr hlk hE hd) ?_
  refine aI_c (fun hd => s_bp hX hd (by decide) rfl) ?_
  refine aI_c (fun hd => s_ri hX hr hlk hE hd) ?_
  exact trivial

-- JudgesByLoss.within(III)Z
def tX4_within : aT := [
  (0, (.iload_n 0, 1), o_il 0 1),
  (1, (.iload_n 1, 1), o_il 1 2),
  (2, (.if_icmp .lt 12, 3), o_ic (fun x y => x < y) 14 5),
  (5, (.iload_n 0, 1), o_il 0 6),
  (6, (.iload_n 2, 1), o_il 2 7),
  (7, (.if_icmp .gt 7, 3), o_ic (fun x y => y < x) 14 10),
  (10, (.iconst 1, 1), o_ii 1 11),
  (11, (.goto 4, 3), o_go 15),
  (14, (.iconst 0, 1), o_ii 0 15),
  (15, (.ireturn, 1), o_rz)]
abbrev CX4_within : aC := aCl tX4_within 3
def rmX4_within : Room := { frames := 1, cells := 0, slots := 0, locals := 1 }
set_option maxRecDepth 100000 in
theorem dX4_within : tX4_within.all (fun q => decide (decode cX4_within q.1 = .ok q.2.1)) = true := by decide +kernel
set_option maxRecDepth 100000 in
set_option maxHeartbeats 4000000 in
theorem nX4_within (l : Launch) : aMt l yX4_within (Cond.code yX4_within cX4_within 3 (some .boolean) :: wsL_law) rmX4_within CX4_within := by
  refine aMt.of (own := RX4) (cc := cX4_within) (maxL := 3) (ret := (some .boolean)) (by decide +kernel) rfl rfl ?_
  intro p e s m args below meth c Qc D Z ad P G A E hX hr hlk hE
  have up : ∀ w ∈ wsL_law, w ∈ (Cond.code yX4_within cX4_within 3 (some .boolean) :: wsL_law) := fun w h => List.mem_cons_of_mem _ h
  refine aImp_all _ dX4_within ?_
  unfold tX4_within
  refine aI_c (fun hd => s_il_n hX hd rfl rfl) ?_
  refine aI_c (fun hd => s_il_n hX hd rfl rfl) ?_
  refine aI_c (fun hd => s_ic_lt hX hd (by decide) rfl) ?_
  refine aI_c (fun hd => s_il_n hX hd rfl rfl) ?_
  refine aI_c (fun hd => s_il_n hX hd rfl rfl) ?_
  refine aI_c (fun hd => s_ic_gt hX hd (by decide) rfl) ?_
  refine aI_c (fun hd => s_ii hX hd (by decide) rfl) ?_
  refine aI_c (fun hd => s_go hX hd (by decide)) ?_
  refine aI_c (fun hd => s_ii hX hd (by decide) rfl) ?_
  refine aI_c (fun hd => s_rz hX hr hlk hE hd) ?_
  exact trivial

-- JudgesByLoss.dawn(I)I
def tX4_dawn : aT := [
  (0, (.iload_n 1, 1), o_il 1 1),
  (1, (.iconst 0, 1), o_ii 0 2),
  (2, (.sipush 999, 3), o_ii 999 5),
  (5, (.invokestatic 79, 3), o_cS CX4_within 3 8),
  (8, (.ifCond .ne 6, 3), o_if (fun x => ¬ x = 0) 14 11),
  (11, (.bipush (-2), 2), o_ii (-2) 13),
  (13, (.ireturn, 1), o_ri),
  (14, (.aload_n 0, 1), o_al 0 15),
  (15, (.getfield 44, 3), o_gF 4 1 18),
  (18, (.getfield 76, 3), o_gI 0 11 21),
  (21, (.istore_n 2, 1), o_is 2 22),
  (22, (.aload_n 0, 1), o_al 0 23),
  (23, (.getfield 44, 3), o_gF 4 1 26),
  (26, (.iload_n 1, 1), o_il 1 27),
  (27, (.putfield 76, 3), o_pI 0 11 30),
  (30, (.iload_n 2, 1), o_il 2 31),
  (31, (.ireturn, 1), o_ri)]
abbrev CX4_dawn : aC := aCl tX4_dawn 3
def rmX4_dawn : Room := { frames := 2, cells := 0, slots := 0, locals := 23 }
set_option maxRecDepth 100000 in
theorem dX4_dawn : tX4_dawn.all (fun q => decide (decode cX4_dawn q.1 = .ok q.2.1)) = true := by decide +kernel
set_option maxRecDepth 100000 in
set_option maxHeartbeats 4000000 in
theorem nX4_dawn (l : Launch) : aMt l yX4_dawn (Cond.code yX4_dawn cX4_dawn 3 (some .int) :: wsL_law) rmX4_dawn CX4_dawn := by
  refine aMt.of (own := RX4) (cc := cX4_dawn) (maxL := 3) (ret := (some .int)) (by decide +kernel) rfl rfl ?_
  intro p e s m args below meth c Qc D Z ad P G A E hX hr hlk hE
  have up : ∀ w ∈ wsL_law, w ∈ (Cond.code yX4_dawn cX4_dawn 3 (some .int) :: wsL_law) := fun w h => List.mem_cons_of_mem _ h
  refine aImp_all _ dX4_dawn ?_
  unfold tX4_dawn
  refine aI_c (fun hd => s_il_n hX hd rfl rfl) ?_
  refine aI_c (fun hd => s_ii hX hd (by decide) rfl) ?_
  refine aI_c (fun hd => s_sp hX hd (by decide) rfl) ?_
  refine aI_c (fun hd => s_cS hX (nX4_within l) (wg_S up lmX4_79 loX4_within) rfl rfl rfl (by decide +kernel) ⟨by decide, by decide⟩ ⟨Nat.zero_le _, Nat.zero_le _⟩ hd rfl) ?_
  refine aI_c (fun hd => s_if_ne hX hd (by decide) rfl) ?_
  refine aI_c (fun hd => s_bp hX hd (by decide) rfl) ?_
  refine aI_c (fun hd => s_ri hX hr hlk hE hd) ?_
  refine aI_c (fun hd => s_al_n hX hd rfl rfl) ?_
  refine aI_c (fun hd => s_gF hX (C := RX4) (T := TX4) (N := 9) (k := 0) rfl (fun w h => up w (inlX4 w h)) (by decide) rfl rfl rfl (up _ lkX4_44) hd rfl) ?_
  refine aI_c (fun hd => s_gI hX (C := RX0) (T := TX0) (N := 15) (k := 11) rfl (fun w h => up w (inlX0 w h)) (by decide) rfl rfl rfl (up _ lkX4_76) hd rfl) ?_
  refine aI_c (fun hd => s_is_n hX hd rfl rfl (by decide)) ?_
  refine aI_c (fun hd => s_al_n hX hd rfl rfl) ?_
  refine aI_c (fun hd => s_gF hX (C := RX4) (T := TX4) (N := 9) (k := 0) rfl (fun w h => up w (inlX4 w h)) (by decide) rfl rfl rfl (up _ lkX4_44) hd rfl) ?_
  refine aI_c (fun hd => s_il_n hX hd rfl rfl) ?_
  refine aI_c (fun hd => s_pI hX (C := RX0) (T := TX0) (N := 15) (k := 11) rfl (fun w h => up w (inlX0 w h)) (by decide) rfl rfl tyX0 tyX0_ok nmX0 rfl rfl rfl (up _ lkX4_76) hd rfl) ?_
  refine aI_c (fun hd => s_il_n hX hd rfl rfl) ?_
  refine aI_c (fun hd => s_ri hX hr hlk hE hd) ?_
  exact trivial

-- JudgesByLoss.isByte(I)Z
def tX4_isByte : aT := [
  (0, (.iload_n 0, 1), o_il 0 1),
  (1, (.iconst 0, 1), o_ii 0 2),
  (2, (.sipush 255, 3), o_ii 255 5),
  (5, (.invokestatic 79, 3), o_cS CX4_within 3 8),
  (8, (.ireturn, 1), o_rz)]
abbrev CX4_isByte : aC := aCl tX4_isByte 1
def rmX4_isByte : Room := { frames := 2, cells := 0, slots := 0, locals := 23 }
set_option maxRecDepth 100000 in
theorem dX4_isByte : tX4_isByte.all (fun q => decide (decode cX4_isByte q.1 = .ok q.2.1)) = true := by decide +kernel
set_option maxRecDepth 100000 in
set_option maxHeartbeats 4000000 in
theorem nX4_isByte (l : Launch) : aMt l yX4_isByte (Cond.code yX4_isByte cX4_isByte 1 (some .boolean) :: wsL_law) rmX4_isByte CX4_isByte := by
  refine aMt.of (own := RX4) (cc := cX4_isByte) (maxL := 1) (ret := (some .boolean)) (by decide +kernel) rfl rfl ?_
  intro p e s m args below meth c Qc D Z ad P G A E hX hr hlk hE
  have up : ∀ w ∈ wsL_law, w ∈ (Cond.code yX4_isByte cX4_isByte 1 (some .boolean) :: wsL_law) := fun w h => List.mem_cons_of_mem _ h
  refine aImp_all _ dX4_isByte ?_
  unfold tX4_isByte
  refine aI_c (fun hd => s_il_n hX hd rfl rfl) ?_
  refine aI_c (fun hd => s_ii hX hd (by decide) rfl) ?_
  refine aI_c (fun hd => s_sp hX hd (by decide) rfl) ?_
  refine aI_c (fun hd => s_cS hX (nX4_within l) (wg_S up lmX4_79 loX4_within) rfl rfl rfl (by decide +kernel) ⟨by decide, by decide⟩ ⟨Nat.zero_le _, Nat.zero_le _⟩ hd rfl) ?_
  refine aI_c (fun hd => s_rz hX hr hlk hE hd) ?_
  exact trivial

-- JudgesByLoss.feed(IIIIII)I
def tX4_feed : aT := [
  (0, (.iload_n 1, 1), o_il 1 1),
  (1, (.iconst 1, 1), o_ii 1 2),
  (2, (.iconst 5, 1), o_ii 5 3),
  (3, (.invokestatic 79, 3), o_cS CX4_within 3 6),
  (6, (.ifCond .eq 41, 3), o_if (fun x => x = 0) 47 9),
  (9, (.iload_n 2, 1), o_il 2 10),
  (10, (.invokestatic 83, 3), o_cS CX4_isByte 1 13),
  (13, (.ifCond .eq 34, 3), o_if (fun x => x = 0) 47 16),
  (16, (.iload_n 3, 1), o_il 3 17),
  (17, (.invokestatic 83, 3), o_cS CX4_isByte 1 20),
  (20, (.ifCond .eq 27, 3), o_if (fun x => x = 0) 47 23),
  (23, (.iload 4, 2), o_il 4 25),
  (25, (.invokestatic 83, 3), o_cS CX4_isByte 1 28),
  (28, (.ifCond .eq 19, 3), o_if (fun x => x = 0) 47 31),
  (31, (.iload 5, 2), o_il 5 33),
  (33, (.invokestatic 83, 3), o_cS CX4_isByte 1 36),
  (36, (.ifCond .eq 11, 3), o_if (fun x => x = 0) 47 39),
  (39, (.iload 6, 2), o_il 6 41),
  (41, (.invokestatic 83, 3), o_cS CX4_isByte 1 44),
  (44, (.ifCond .ne 6, 3), o_if (fun x => ¬ x = 0) 50 47),
  (47, (.bipush (-2), 2), o_ii (-2) 49),
  (49, (.ireturn, 1), o_ri),
  (50, (.aload_n 0, 1), o_al 0 51),
  (51, (.getfield 22, 3), o_gF 4 31 54),
  (54, (.getfield 73, 3), o_gI 1 5 57),
  (57, (.iload_n 1, 1), o_il 1 58),
  (58, (.iadd, 1), o_bi (fun x y => x + y) 59),
  (59, (.sipush 160, 3), o_ii 160 62),
  (62, (.if_icmp .le 6, 3), o_ic (fun x y => x ≤ y) 68 65),
  (65, (.bipush (-4), 2), o_ii (-4) 67),
  (67, (.ireturn, 1), o_ri),
  (68, (.aload_n 0, 1), o_al 0 69),
  (69, (.getfield 22, 3), o_gF 4 31 72),
  (72, (.iload_n 2, 1), o_il 2 73),
  (73, (.invokevirtual 87, 3), o_cV CX1_addByte 1 1 76),
  (76, (.iload_n 1, 1), o_il 1 77),
  (77, (.iconst 1, 1), o_ii 1 78),
  (78, (.if_icmp .le 11, 3), o_ic (fun x y => x ≤ y) 89 81),
  (81, (.aload_n 0, 1), o_al 0 82),
  (82, (.getfield 22, 3), o_gF 4 31 85),
  (85, (.iload_n 3, 1), o_il 3 86),
  (86, (.invokevirtual 87, 3), o_cV CX1_addByte 1 1 89),
  (89, (.iload_n 1, 1), o_il 1 90),
  (90, (.iconst 2, 1), o_ii 2 91),
  (91, (.if_icmp .le 12, 3), o_ic (fun x y => x ≤ y) 103 94),
  (94, (.aload_n 0, 1), o_al 0 95),
  (95, (.getfield 22, 3), o_gF 4 31 98),
  (98, (.iload 4, 2), o_il 4 100),
  (100, (.invokevirtual 87, 3), o_cV CX1_addByte 1 1 103),
  (103, (.iload_n 1, 1), o_il 1 104),
  (104, (.iconst 3, 1), o_ii 3 105),
  (105, (.if_icmp .le 12, 3), o_ic (fun x y => x ≤ y) 117 108),
  (108, (.aload_n 0, 1), o_al 0 109),
  (109, (.getfield 22, 3), o_gF 4 31 112),
  (112, (.iload 5, 2), o_il 5 114),
  (114, (.invokevirtual 87, 3), o_cV CX1_addByte 1 1 117),
  (117, (.iload_n 1, 1), o_il 1 118),
  (118, (.iconst 4, 1), o_ii 4 119),
  (119, (.if_icmp .le 12, 3), o_ic (fun x y => x ≤ y) 131 122),
  (122, (.aload_n 0, 1), o_al 0 123),
  (123, (.getfield 22, 3), o_gF 4 31 126),
  (126, (.iload 6, 2), o_il 6 128),
  (128, (.invokevirtual 87, 3), o_cV CX1_addByte 1 1 131),
  (131, (.aload_n 0, 1), o_al 0 132),
  (132, (.getfield 22, 3), o_gF 4 31 135),
  (135, (.getfield 73, 3), o_gI 1 5 138),
  (138, (.ireturn, 1), o_ri)]
abbrev CX4_feed : aC := aCl tX4_feed 7
def rmX4_feed : Room := { frames := 3, cells := 0, slots := 0, locals := 43 }
set_option maxRecDepth 100000 in
theorem dX4_feed : tX4_feed.all (fun q => decide (decode cX4_feed q.1 = .ok q.2.1)) = true := by decide +kernel
set_option maxRecDepth 100000 in
set_option maxHeartbeats 4000000 in
theorem nX4_feed (l : Launch) : aMt l yX4_feed (Cond.code yX4_feed cX4_feed 7 (some .int) :: wsL_law) rmX4_feed CX4_feed := by
  refine aMt.of (own := RX4) (cc := cX4_feed) (maxL := 7) (ret := (some .int)) (by decide +kernel) rfl rfl ?_
  intro p e s m args below meth c Qc D Z ad P G A E hX hr hlk hE
  have up : ∀ w ∈ wsL_law, w ∈ (Cond.code yX4_feed cX4_feed 7 (some .int) :: wsL_law) := fun w h => List.mem_cons_of_mem _ h
  refine aImp_all _ dX4_feed ?_
  unfold tX4_feed
  refine aI_c (fun hd => s_il_n hX hd rfl rfl) ?_
  refine aI_c (fun hd => s_ii hX hd (by decide) rfl) ?_
  refine aI_c (fun hd => s_ii hX hd (by decide) rfl) ?_
  refine aI_c (fun hd => s_cS hX (nX4_within l) (wg_S up lmX4_79 loX4_within) rfl rfl rfl (by decide +kernel) ⟨by decide, by decide⟩ ⟨Nat.zero_le _, Nat.zero_le _⟩ hd rfl) ?_
  refine aI_c (fun hd => s_if_eq hX hd (by decide) rfl) ?_
  refine aI_c (fun hd => s_il_n hX hd rfl rfl) ?_
  refine aI_c (fun hd => s_cS hX (nX4_isByte l) (wg_S up lmX4_83 loX4_isByte) rfl rfl rfl (by decide +kernel) ⟨by decide, by decide⟩ ⟨Nat.zero_le _, Nat.zero_le _⟩ hd rfl) ?_
  refine aI_c (fun hd => s_if_eq hX hd (by decide) rfl) ?_
  refine aI_c (fun hd => s_il_n hX hd rfl rfl) ?_
  refine aI_c (fun hd => s_cS hX (nX4_isByte l) (wg_S up lmX4_83 loX4_isByte) rfl rfl rfl (by decide +kernel) ⟨by decide, by decide⟩ ⟨Nat.zero_le _, Nat.zero_le _⟩ hd rfl) ?_
  refine aI_c (fun hd => s_if_eq hX hd (by decide) rfl) ?_
  refine aI_c (fun hd => s_il hX hd rfl) ?_
  refine aI_c (fun hd => s_cS hX (nX4_isByte l) (wg_S up lmX4_83 loX4_isByte) rfl rfl rfl (by decide +kernel) ⟨by decide, by decide⟩ ⟨Nat.zero_le _, Nat.zero_le _⟩ hd rfl) ?_
  refine aI_c (fun hd => s_if_eq hX hd (by decide) rfl) ?_
  refine aI_c (fun hd => s_il hX hd rfl) ?_
  refine aI_c (fun hd => s_cS hX (nX4_isByte l) (wg_S up lmX4_83 loX4_isByte) rfl rfl rfl (by decide +kernel) ⟨by decide, by decide⟩ ⟨Nat.zero_le _, Nat.zero_le _⟩ hd rfl) ?_
  refine aI_c (fun hd => s_if_eq hX hd (by decide) rfl) ?_
  refine aI_c (fun hd => s_il hX hd rfl) ?_
  refine aI_c (fun hd => s_cS hX (nX4_isByte l) (wg_S up lmX4_83 loX4_isByte) rfl rfl rfl (by decide +kernel) ⟨by decide, by decide⟩ ⟨Nat.zero_le _, Nat.zero_le _⟩ hd rfl) ?_
  refine aI_c (fun hd => s_if_ne hX hd (by decide) rfl) ?_
  refine aI_c (fun hd => s_bp hX hd (by decide) rfl) ?_
  refine aI_c (fun hd => s_ri hX hr hlk hE hd) ?_
  refine aI_c (fun hd => s_al_n hX hd rfl rfl) ?_
  refine aI_c (fun hd => s_gF hX (C := RX4) (T := TX4) (N := 9) (k := 6) rfl (fun w h => up w (inlX4 w h)) (by decide) rfl rfl rfl (up _ lkX4_22) hd rfl) ?_
  refine aI_c (fun hd => s_gI hX (C := RX1) (T := TX1) (N := 8) (k := 5) rfl (fun w h => up w (inlX1 w h)) (by decide) rfl rfl rfl (up _ lkX4_73) hd rfl) ?_
  refine aI_c (fun hd => s_il_n hX hd rfl rfl) ?_
  refine aI_c (fun hd => s_iadd hX hd rfl) ?_
  refine aI_c (fun hd => s_sp hX hd (by decide) rfl) ?_
  refine aI_c (fun hd => s_ic_le hX hd (by decide) rfl) ?_
  refine aI_c (fun hd => s_bp hX hd (by decide) rfl) ?_
  refine aI_c (fun hd => s_ri hX hr hlk hE hd) ?_
  refine aI_c (fun hd => s_al_n hX hd rfl rfl) ?_
  refine aI_c (fun hd => s_gF hX (C := RX4) (T := TX4) (N := 9) (k := 6) rfl (fun w h => up w (inlX4 w h)) (by decide) rfl rfl rfl (up _ lkX4_22) hd rfl) ?_
  refine aI_c (fun hd => s_il_n hX hd rfl rfl) ?_
  refine aI_c (fun hd => s_cV hX (T := TX1) (N := 8) (nX1_addByte l) rfl (wg_V up lmX4_87 loX1_addByte) rfl rfl rfl (by decide +kernel) ⟨by decide, by decide⟩ ⟨Nat.zero_le _, Nat.zero_le _⟩ hd rfl) ?_
  refine aI_c (fun hd => s_il_n hX hd rfl rfl) ?_
  refine aI_c (fun hd => s_ii hX hd (by decide) rfl) ?_
  refine aI_c (fun hd => s_ic_le hX hd (by decide) rfl) ?_
  refine aI_c (fun hd => s_al_n hX hd rfl rfl) ?_
  refine aI_c (fun hd => s_gF hX (C := RX4) (T := TX4) (N := 9) (k := 6) rfl (fun w h => up w (inlX4 w h)) (by decide) rfl rfl rfl (up _ lkX4_22) hd rfl) ?_
  refine aI_c (fun hd => s_il_n hX hd rfl rfl) ?_
  refine aI_c (fun hd => s_cV hX (T := TX1) (N := 8) (nX1_addByte l) rfl (wg_V up lmX4_87 loX1_addByte) rfl rfl rfl (by decide +kernel) ⟨by decide, by decide⟩ ⟨Nat.zero_le _, Nat.zero_le _⟩ hd rfl) ?_
  refine aI_c (fun hd => s_il_n hX hd rfl rfl) ?_
  refine aI_c (fun hd => s_ii hX hd (by decide) rfl) ?_
  refine aI_c (fun hd => s_ic_le hX hd (by decide) rfl) ?_
  refine aI_c (fun hd => s_al_n hX hd rfl rfl) ?_
  refine aI_c (fun hd => s_gF hX (C := RX4) (T := TX4) (N := 9) (k := 6) rfl (fun w h => up w (inlX4 w h)) (by decide) rfl rfl rfl (up _ lkX4_22) hd rfl) ?_
  refine aI_c (fun hd => s_il hX hd rfl) ?_
  refine aI_c (fun hd => s_cV hX (T := TX1) (N := 8) (nX1_addByte l) rfl (wg_V up lmX4_87 loX1_addByte) rfl rfl rfl (by decide +kernel) ⟨by decide, by decide⟩ ⟨Nat.zero_le _, Nat.zero_le _⟩ hd rfl) ?_
  refine aI_c (fun hd => s_il_n hX hd rfl rfl) ?_
  refine aI_c (fun hd => s_ii hX hd (by decide) rfl) ?_
  refine aI_c (fun hd => s_ic_le hX hd (by decide) rfl) ?_
  refine aI_c (fun hd => s_al_n hX hd rfl rfl) ?_
  refine aI_c (fun hd => s_gF hX (C := RX4) (T := TX4) (N := 9) (k := 6) rfl (fun w h => up w (inlX4 w h)) (by decide) rfl rfl rfl (up _ lkX4_22) hd rfl) ?_
  refine aI_c (fun hd => s_il hX hd rfl) ?_
  refine aI_c (fun hd => s_cV hX (T := TX1) (N := 8) (nX1_addByte l) rfl (wg_V up lmX4_87 loX1_addByte) rfl rfl rfl (by decide +kernel) ⟨by decide, by decide⟩ ⟨Nat.zero_le _, Nat.zero_le _⟩ hd rfl) ?_
  refine aI_c (fun hd => s_il_n hX hd rfl rfl) ?_
  refine aI_c (fun hd => s_ii hX hd (by decide) rfl) ?_
  refine aI_c (fun hd => s_ic_le hX hd (by decide) rfl) ?_
  refine aI_c (fun hd => s_al_n hX hd rfl rfl) ?_
  refine aI_c (fun hd => s_gF hX (C := RX4) (T := TX4) (N := 9) (k := 6) rfl (fun w h => up w (inlX4 w h)) (by decide) rfl rfl rfl (up _ lkX4_22) hd rfl) ?_
  refine aI_c (fun hd => s_il hX hd rfl) ?_
  refine aI_c (fun hd => s_cV hX (T := TX1) (N := 8) (nX1_addByte l) rfl (wg_V up lmX4_87 loX1_addByte) rfl rfl rfl (by decide +kernel) ⟨by decide, by decide⟩ ⟨Nat.zero_le _, Nat.zero_le _⟩ hd rfl) ?_
  refine aI_c (fun hd => s_al_n hX hd rfl rfl) ?_
  refine aI_c (fun hd => s_gF hX (C := RX4) (T := TX4) (N := 9) (k := 6) rfl (fun w h => up w (inlX4 w h)) (by decide) rfl rfl rfl (up _ lkX4_22) hd rfl) ?_
  refine aI_c (fun hd => s_gI hX (C := RX1) (T := TX1) (N := 8) (k := 5) rfl (fun w h => up w (inlX1 w h)) (by decide) rfl rfl rfl (up _ lkX4_73) hd rfl) ?_
  refine aI_c (fun hd => s_ri hX hr hlk hE hd) ?_
  exact trivial

-- JudgesByLoss.force(I)I
def tX4_force : aT := [
  (0, (.iload_n 1, 1), o_il 1 1),
  (1, (.iconst 0, 1), o_ii 0 2),
  (2, (.aload_n 0, 1), o_al 0 3),
  (3, (.getfield 15, 3), o_gI 4 5 6),
  (6, (.iconst 1, 1), o_ii 1 7),
  (7, (.isub, 1), o_bi (fun x y => x - y) 8),
  (8, (.invokestatic 79, 3), o_cS CX4_within 3 11),
  (11, (.ifCond .ne 6, 3), o_if (fun x => ¬ x = 0) 17 14),
  (14, (.bipush (-2), 2), o_ii (-2) 16),
  (16, (.ireturn, 1), o_ri),
  (17, (.aload_n 0, 1), o_al 0 18),
  (18, (.getfield 44, 3), o_gF 4 1 21),
  (21, (.getfield 70, 3), o_gI 0 13 24),
  (24, (.istore_n 2, 1), o_is 2 25),
  (25, (.aload_n 0, 1), o_al 0 26),
  (26, (.getfield 44, 3), o_gF 4 1 29),
  (29, (.aload_n 0, 1), o_al 0 30),
  (30, (.getfield 11, 3), o_gF 4 37 33),
  (33, (.iload_n 1, 1), o_il 1 34),
  (34, (.aaload, 1), o_aald 2 35),
  (35, (.iload_n 1, 1), o_il 1 36),
  (36, (.invokevirtual 99, 3), o_cV CX0_obey 0 2 39),
  (39, (.iload_n 2, 1), o_il 2 40),
  (40, (.ireturn, 1), o_ri)]
abbrev CX4_force : aC := aCl tX4_force 3
def rmX4_force : Room := { frames := 2, cells := 0, slots := 0, locals := 23 }
set_option maxRecDepth 100000 in
theorem dX4_force : tX4_force.all (fun q => decide (decode cX4_force q.1 = .ok q.2.1)) = true := by decide +kernel
set_option maxRecDepth 100000 in
set_option maxHeartbeats 4000000 in
theorem nX4_force (l : Launch) : aMt l yX4_force (Cond.code yX4_force cX4_force 3 (some .int) :: wsL_law) rmX4_force CX4_force := by
  refine aMt.of (own := RX4) (cc := cX4_force) (maxL := 3) (ret := (some .int)) (by decide +kernel) rfl rfl ?_
  intro p e s m args below meth c Qc D Z ad P G A E hX hr hlk hE
  have up : ∀ w ∈ wsL_law, w ∈ (Cond.code yX4_force cX4_force 3 (some .int) :: wsL_law) := fun w h => List.mem_cons_of_mem _ h
  refine aImp_all _ dX4_force ?_
  unfold tX4_force
  refine aI_c (fun hd => s_il_n hX hd rfl rfl) ?_
  refine aI_c (fun hd => s_ii hX hd (by decide) rfl) ?_
  refine aI_c (fun hd => s_al_n hX hd rfl rfl) ?_
  refine aI_c (fun hd => s_gI hX (C := RX4) (T := TX4) (N := 9) (k := 5) rfl (fun w h => up w (inlX4 w h)) (by decide) rfl rfl rfl (up _ lkX4_15) hd rfl) ?_
  refine aI_c (fun hd => s_ii hX hd (by decide) rfl) ?_
  refine aI_c (fun hd => s_isub hX hd rfl) ?_
  refine aI_c (fun hd => s_cS hX (nX4_within l) (wg_S up lmX4_79 loX4_within) rfl rfl rfl (by decide +kernel) ⟨by decide, by decide⟩ ⟨Nat.zero_le _, Nat.zero_le _⟩ hd rfl) ?_
  refine aI_c (fun hd => s_if_ne hX hd (by decide) rfl) ?_
  refine aI_c (fun hd => s_bp hX hd (by decide) rfl) ?_
  refine aI_c (fun hd => s_ri hX hr hlk hE hd) ?_
  refine aI_c (fun hd => s_al_n hX hd rfl rfl) ?_
  refine aI_c (fun hd => s_gF hX (C := RX4) (T := TX4) (N := 9) (k := 0) rfl (fun w h => up w (inlX4 w h)) (by decide) rfl rfl rfl (up _ lkX4_44) hd rfl) ?_
  refine aI_c (fun hd => s_gI hX (C := RX0) (T := TX0) (N := 15) (k := 13) rfl (fun w h => up w (inlX0 w h)) (by decide) rfl rfl rfl (up _ lkX4_70) hd rfl) ?_
  refine aI_c (fun hd => s_is_n hX hd rfl rfl (by decide)) ?_
  refine aI_c (fun hd => s_al_n hX hd rfl rfl) ?_
  refine aI_c (fun hd => s_gF hX (C := RX4) (T := TX4) (N := 9) (k := 0) rfl (fun w h => up w (inlX4 w h)) (by decide) rfl rfl rfl (up _ lkX4_44) hd rfl) ?_
  refine aI_c (fun hd => s_al_n hX hd rfl rfl) ?_
  refine aI_c (fun hd => s_gF hX (C := RX4) (T := TX4) (N := 9) (k := 4) rfl (fun w h => up w (inlX4 w h)) (by decide) rfl rfl rfl (up _ lkX4_11) hd rfl) ?_
  refine aI_c (fun hd => s_il_n hX hd rfl rfl) ?_
  refine aI_c (fun hd => s_aald2 hX hd rfl) ?_
  refine aI_c (fun hd => s_il_n hX hd rfl rfl) ?_
  refine aI_c (fun hd => s_cV hX (T := TX0) (N := 15) (nX0_obey l) rfl (wg_V up lmX4_99 loX0_obey) rfl rfl rfl (by decide +kernel) ⟨by decide, by decide⟩ ⟨Nat.zero_le _, Nat.zero_le _⟩ hd rfl) ?_
  refine aI_c (fun hd => s_il_n hX hd rfl rfl) ?_
  refine aI_c (fun hd => s_ri hX hr hlk hE hd) ?_
  exact trivial

-- JudgesByLoss.asks(III)I
def tX4_asks : aT := [
  (0, (.iload_n 1, 1), o_il 1 1),
  (1, (.iconst 0, 1), o_ii 0 2),
  (2, (.iconst 2, 1), o_ii 2 3),
  (3, (.invokestatic 79, 3), o_cS CX4_within 3 6),
  (6, (.ifCond .eq 25, 3), o_if (fun x => x = 0) 31 9),
  (9, (.aload_n 0, 1), o_al 0 10),
  (10, (.getfield 44, 3), o_gF 4 1 13),
  (13, (.iload_n 2, 1), o_il 2 14),
  (14, (.invokevirtual 103, 3), o_cV CX0_hasJudge 0 1 17),
  (17, (.ifCond .eq 14, 3), o_if (fun x => x = 0) 31 20),
  (20, (.aload_n 0, 1), o_al 0 21),
  (21, (.getfield 44, 3), o_gF 4 1 24),
  (24, (.iload_n 3, 1), o_il 3 25),
  (25, (.invokevirtual 106, 3), o_cV CX0_hasCase 0 1 28),
  (28, (.ifCond .ne 7, 3), o_if (fun x => ¬ x = 0) 35 31),
  (31, (.sipush (-1000), 3), o_ii (-1000) 34),
  (34, (.ireturn, 1), o_ri),
  (35, (.aload_n 0, 1), o_al 0 36),
  (36, (.getfield 44, 3), o_gF 4 1 39),
  (39, (.iload_n 1, 1), o_il 1 40),
  (40, (.iload_n 2, 1), o_il 2 41),
  (41, (.iload_n 3, 1), o_il 3 42),
  (42, (.invokevirtual 109, 3), o_cV CX0_says 0 3 45),
  (45, (.ireturn, 1), o_ri)]
abbrev CX4_asks : aC := aCl tX4_asks 4
def rmX4_asks : Room := { frames := 3, cells := 0, slots := 0, locals := 73 }
set_option maxRecDepth 100000 in
theorem dX4_asks : tX4_asks.all (fun q => decide (decode cX4_asks q.1 = .ok q.2.1)) = true := by decide +kernel
set_option maxRecDepth 100000 in
set_option maxHeartbeats 4000000 in
theorem nX4_asks (l : Launch) : aMt l yX4_asks (Cond.code yX4_asks cX4_asks 4 (some .int) :: wsL_law) rmX4_asks CX4_asks := by
  refine aMt.of (own := RX4) (cc := cX4_asks) (maxL := 4) (ret := (some .int)) (by decide +kernel) rfl rfl ?_
  intro p e s m args below meth c Qc D Z ad P G A E hX hr hlk hE
  have up : ∀ w ∈ wsL_law, w ∈ (Cond.code yX4_asks cX4_asks 4 (some .int) :: wsL_law) := fun w h => List.mem_cons_of_mem _ h
  refine aImp_all _ dX4_asks ?_
  unfold tX4_asks
  refine aI_c (fun hd => s_il_n hX hd rfl rfl) ?_
  refine aI_c (fun hd => s_ii hX hd (by decide) rfl) ?_
  refine aI_c (fun hd => s_ii hX hd (by decide) rfl) ?_
  refine aI_c (fun hd => s_cS hX (nX4_within l) (wg_S up lmX4_79 loX4_within) rfl rfl rfl (by decide +kernel) ⟨by decide, by decide⟩ ⟨Nat.zero_le _, Nat.zero_le _⟩ hd rfl) ?_
  refine aI_c (fun hd => s_if_eq hX hd (by decide) rfl) ?_
  refine aI_c (fun hd => s_al_n hX hd rfl rfl) ?_
  refine aI_c (fun hd => s_gF hX (C := RX4) (T := TX4) (N := 9) (k := 0) rfl (fun w h => up w (inlX4 w h)) (by decide) rfl rfl rfl (up _ lkX4_44) hd rfl) ?_
  refine aI_c (fun hd => s_il_n hX hd rfl rfl) ?_
  refine aI_c (fun hd => s_cV hX (T := TX0) (N := 15) (nX0_hasJudge l) rfl (wg_V up lmX4_103 loX0_hasJudge) rfl rfl rfl (by decide +kernel) ⟨by decide, by decide⟩ ⟨Nat.zero_le _, Nat.zero_le _⟩ hd rfl) ?_
  refine aI_c (fun hd => s_if_eq hX hd (by decide) rfl) ?_
  refine aI_c (fun hd => s_al_n hX hd rfl rfl) ?_
  refine aI_c (fun hd => s_gF hX (C := RX4) (T := TX4) (N := 9) (k := 0) rfl (fun w h => up w (inlX4 w h)) (by decide) rfl rfl rfl (up _ lkX4_44) hd rfl) ?_
  refine aI_c (fun hd => s_il_n hX hd rfl rfl) ?_
  refine aI_c (fun hd => s_cV hX (T := TX0) (N := 15) (nX0_hasCase l) rfl (wg_V up lmX4_106 loX0_hasCase) rfl rfl rfl (by decide +kernel) ⟨by decide, by decide⟩ ⟨Nat.zero_le _, Nat.zero_le _⟩ hd rfl) ?_
  refine aI_c (fun hd => s_if_ne hX hd (by decide) rfl) ?_
  refine aI_c (fun hd => s_sp hX hd (by decide) rfl) ?_
  refine aI_c (fun hd => s_ri hX hr hlk hE hd) ?_
  refine aI_c (fun hd => s_al_n hX hd rfl rfl) ?_
  refine aI_c (fun hd => s_gF hX (C := RX4) (T := TX4) (N := 9) (k := 0) rfl (fun w h => up w (inlX4 w h)) (by decide) rfl rfl rfl (up _ lkX4_44) hd rfl) ?_
  refine aI_c (fun hd => s_il_n hX hd rfl rfl) ?_
  refine aI_c (fun hd => s_il_n hX hd rfl rfl) ?_
  refine aI_c (fun hd => s_il_n hX hd rfl rfl) ?_
  refine aI_c (fun hd => s_cV hX (T := TX0) (N := 15) (nX0_says l) rfl (wg_V up lmX4_109 loX0_says) rfl rfl rfl (by decide +kernel) ⟨by decide, by decide⟩ ⟨Nat.zero_le _, Nat.zero_le _⟩ hd rfl) ?_
  refine aI_c (fun hd => s_ri hX hr hlk hE hd) ?_
  exact trivial

-- JudgesByLoss.isSet(I)Z
def tX4_isSet : aT := [
  (0, (.iload_n 0, 1), o_il 0 1),
  (1, (.iconst 0, 1), o_ii 0 2),
  (2, (.sipush 1023, 3), o_ii 1023 5),
  (5, (.invokestatic 79, 3), o_cS CX4_within 3 8),
  (8, (.ireturn, 1), o_rz)]
abbrev CX4_isSet : aC := aCl tX4_isSet 1
def rmX4_isSet : Room := { frames := 2, cells := 0, slots := 0, locals := 23 }
set_option maxRecDepth 100000 in
theorem dX4_isSet : tX4_isSet.all (fun q => decide (decode cX4_isSet q.1 = .ok q.2.1)) = true := by decide +kernel
set_option maxRecDepth 100000 in
set_option maxHeartbeats 4000000 in
theorem nX4_isSet (l : Launch) : aMt l yX4_isSet (Cond.code yX4_isSet cX4_isSet 1 (some .boolean) :: wsL_law) rmX4_isSet CX4_isSet := by
  refine aMt.of (own := RX4) (cc := cX4_isSet) (maxL := 1) (ret := (some .boolean)) (by decide +kernel) rfl rfl ?_
  intro p e s m args below meth c Qc D Z ad P G A E hX hr hlk hE
  have up : ∀ w ∈ wsL_law, w ∈ (Cond.code yX4_isSet cX4_isSet 1 (some .boolean) :: wsL_law) := fun w h => List.mem_cons_of_mem _ h
  refine aImp_all _ dX4_isSet ?_
  unfold tX4_isSet
  refine aI_c (fun hd => s_il_n hX hd rfl rfl) ?_
  refine aI_c (fun hd => s_ii hX hd (by decide) rfl) ?_
  refine aI_c (fun hd => s_sp hX hd (by decide) rfl) ?_
  refine aI_c (fun hd => s_cS hX (nX4_within l) (wg_S up lmX4_79 loX4_within) rfl rfl rfl (by decide +kernel) ⟨by decide, by decide⟩ ⟨Nat.zero_le _, Nat.zero_le _⟩ hd rfl) ?_
  refine aI_c (fun hd => s_rz hX hr hlk hE hd) ?_
  exact trivial

-- JudgesByLoss.judge(III)I
def tX4_judge : aT := [
  (0, (.iload_n 1, 1), o_il 1 1),
  (1, (.iconst 0, 1), o_ii 0 2),
  (2, (.bipush 59, 2), o_ii 59 4),
  (4, (.invokestatic 79, 3), o_cS CX4_within 3 7),
  (7, (.ifCond .eq 20, 3), o_if (fun x => x = 0) 27 10),
  (10, (.iload_n 2, 1), o_il 2 11),
  (11, (.invokestatic 113, 3), o_cS CX4_isSet 1 14),
  (14, (.ifCond .eq 13, 3), o_if (fun x => x = 0) 27 17),
  (17, (.iload_n 3, 1), o_il 3 18),
  (18, (.iconst 0, 1), o_ii 0 19),
  (19, (.bipush 99, 2), o_ii 99 21),
  (21, (.invokestatic 79, 3), o_cS CX4_within 3 24),
  (24, (.ifCond .ne 6, 3), o_if (fun x => ¬ x = 0) 30 27),
  (27, (.bipush (-2), 2), o_ii (-2) 29),
  (29, (.ireturn, 1), o_ri),
  (30, (.aload_n 0, 1), o_al 0 31),
  (31, (.getfield 44, 3), o_gF 4 1 34),
  (34, (.getfield 55, 3), o_gI 0 9 37),
  (37, (.bipush 6, 2), o_ii 6 39),
  (39, (.if_icmp .lt 6, 3), o_ic (fun x y => x < y) 45 42),
  (42, (.bipush (-4), 2), o_ii (-4) 44),
  (44, (.ireturn, 1), o_ri),
  (45, (.aload_n 0, 1), o_al 0 46),
  (46, (.getfield 44, 3), o_gF 4 1 49),
  (49, (.getfield 55, 3), o_gI 0 9 52),
  (52, (.istore 4, 2), o_is 4 54),
  (54, (.aload_n 0, 1), o_al 0 55),
  (55, (.getfield 44, 3), o_gF 4 1 58),
  (58, (.getfield 116, 3), o_gF 0 1 61),
  (61, (.iload 4, 2), o_il 4 63),
  (63, (.iload_n 1, 1), o_il 1 64),
  (64, (.bipush 10, 2), o_ii 10 66),
  (66, (.idiv, 1), o_dv 67),
  (67, (.iastore, 1), o_iast 68),
  (68, (.aload_n 0, 1), o_al 0 69),
  (69, (.getfield 44, 3), o_gF 4 1 72),
  (72, (.getfield 119, 3), o_gF 0 2 75),
  (75, (.iload 4, 2), o_il 4 77),
  (77, (.iload_n 1, 1), o_il 1 78),
  (78, (.bipush 10, 2), o_ii 10 80),
  (80, (.irem, 1), o_rm 81),
  (81, (.iastore, 1), o_iast 82),
  (82, (.aload_n 0, 1), o_al 0 83),
  (83, (.getfield 44, 3), o_gF 4 1 86),
  (86, (.getfield 122, 3), o_gF 0 3 89),
  (89, (.iload 4, 2), o_il 4 91),
  (91, (.iload_n 2, 1), o_il 2 92),
  (92, (.iastore, 1), o_iast 93),
  (93, (.aload_n 0, 1), o_al 0 94),
  (94, (.getfield 44, 3), o_gF 4 1 97),
  (97, (.getfield 125, 3), o_gF 0 4 100),
  (100, (.iload 4, 2), o_il 4 102),
  (102, (.iload_n 3, 1), o_il 3 103),
  (103, (.iastore, 1), o_iast 104),
  (104, (.aload_n 0, 1), o_al 0 105),
  (105, (.getfield 44, 3), o_gF 4 1 108),
  (108, (.getfield 128, 3), o_gF 0 5 111),
  (111, (.iload 4, 2), o_il 4 113),
  (113, (.iconst 0, 1), o_ii 0 114),
  (114, (.iastore, 1), o_iast 115),
  (115, (.aload_n 0, 1), o_al 0 116),
  (116, (.getfield 44, 3), o_gF 4 1 119),
  (119, (.dup, 1), o_dup 120),
  (120, (.getfield 55, 3), o_gI 0 9 123),
  (123, (.iconst 1, 1), o_ii 1 124),
  (124, (.iadd, 1), o_bi (fun x y => x + y) 125),
  (125, (.putfield 55, 3), o_pI 0 9 128),
  (128, (.iload 4, 2), o_il 4 130),
  (130, (.ireturn, 1), o_ri)]
abbrev CX4_judge : aC := aCl tX4_judge 5
def rmX4_judge : Room := { frames := 3, cells := 0, slots := 0, locals := 43 }
set_option maxRecDepth 100000 in
theorem dX4_judge : tX4_judge.all (fun q => decide (decode cX4_judge q.1 = .ok q.2.1)) = true := by decide +kernel
set_option maxRecDepth 100000 in
set_option maxHeartbeats 4000000 in
theorem nX4_judge (l : Launch) : aMt l yX4_judge (Cond.code yX4_judge cX4_judge 5 (some .int) :: wsL_law) rmX4_judge CX4_judge := by
  refine aMt.of (own := RX4) (cc := cX4_judge) (maxL := 5) (ret := (some .int)) (by decide +kernel) rfl rfl ?_
  intro p e s m args below meth c Qc D Z ad P G A E hX hr hlk hE
  have up : ∀ w ∈ wsL_law, w ∈ (Cond.code yX4_judge cX4_judge 5 (some .int) :: wsL_law) := fun w h => List.mem_cons_of_mem _ h
  refine aImp_all _ dX4_judge ?_
  unfold tX4_judge
  refine aI_c (fun hd => s_il_n hX hd rfl rfl) ?_
  refine aI_c (fun hd => s_ii hX hd (by decide) rfl) ?_
  refine aI_c (fun hd => s_bp hX hd (by decide) rfl) ?_
  refine aI_c (fun hd => s_cS hX (nX4_within l) (wg_S up lmX4_79 loX4_within) rfl rfl rfl (by decide +kernel) ⟨by decide, by decide⟩ ⟨Nat.zero_le _, Nat.zero_le _⟩ hd rfl) ?_
  refine aI_c (fun hd => s_if_eq hX hd (by decide) rfl) ?_
  refine aI_c (fun hd => s_il_n hX hd rfl rfl) ?_
  refine aI_c (fun hd => s_cS hX (nX4_isSet l) (wg_S up lmX4_113 loX4_isSet) rfl rfl rfl (by decide +kernel) ⟨by decide, by decide⟩ ⟨Nat.zero_le _, Nat.zero_le _⟩ hd rfl) ?_
  refine aI_c (fun hd => s_if_eq hX hd (by decide) rfl) ?_
  refine aI_c (fun hd => s_il_n hX hd rfl rfl) ?_
  refine aI_c (fun hd => s_ii hX hd (by decide) rfl) ?_
  refine aI_c (fun hd => s_bp hX hd (by decide) rfl) ?_
  refine aI_c (fun hd => s_cS hX (nX4_within l) (wg_S up lmX4_79 loX4_within) rfl rfl rfl (by decide +kernel) ⟨by decide, by decide⟩ ⟨Nat.zero_le _, Nat.zero_le _⟩ hd rfl) ?_
  refine aI_c (fun hd => s_if_ne hX hd (by decide) rfl) ?_
  refine aI_c (fun hd => s_bp hX hd (by decide) rfl) ?_
  refine aI_c (fun hd => s_ri hX hr hlk hE hd) ?_
  refine aI_c (fun hd => s_al_n hX hd rfl rfl) ?_
  refine aI_c (fun hd => s_gF hX (C := RX4) (T := TX4) (N := 9) (k := 0) rfl (fun w h => up w (inlX4 w h)) (by decide) rfl rfl rfl (up _ lkX4_44) hd rfl) ?_
  refine aI_c (fun hd => s_gI hX (C := RX0) (T := TX0) (N := 15) (k := 9) rfl (fun w h => up w (inlX0 w h)) (by decide) rfl rfl rfl (up _ lkX4_55) hd rfl) ?_
  refine aI_c (fun hd => s_bp hX hd (by decide) rfl) ?_
  refine aI_c (fun hd => s_ic_lt hX hd (by decide) rfl) ?_
  refine aI_c (fun hd => s_bp hX hd (by decide) rfl) ?_
  refine aI_c (fun hd => s_ri hX hr hlk hE hd) ?_
  refine aI_c (fun hd => s_al_n hX hd rfl rfl) ?_
  refine aI_c (fun hd => s_gF hX (C := RX4) (T := TX4) (N := 9) (k := 0) rfl (fun w h => up w (inlX4 w h)) (by decide) rfl rfl rfl (up _ lkX4_44) hd rfl) ?_
  refine aI_c (fun hd => s_gI hX (C := RX0) (T := TX0) (N := 15) (k := 9) rfl (fun w h => up w (inlX0 w h)) (by decide) rfl rfl rfl (up _ lkX4_55) hd rfl) ?_
  refine aI_c (fun hd => s_is hX hd rfl (by decide)) ?_
  refine aI_c (fun hd => s_al_n hX hd rfl rfl) ?_
  refine aI_c (fun hd => s_gF hX (C := RX4) (T := TX4) (N := 9) (k := 0) rfl (fun w h => up w (inlX4 w h)) (by decide) rfl rfl rfl (up _ lkX4_44) hd rfl) ?_
  refine aI_c (fun hd => s_gF hX (C := RX0) (T := TX0) (N := 15) (k := 0) rfl (fun w h => up w (inlX0 w h)) (by decide) rfl rfl rfl (up _ lkX4_116) hd rfl) ?_
  refine aI_c (fun hd => s_il hX hd rfl) ?_
  refine aI_c (fun hd => s_il_n hX hd rfl rfl) ?_
  refine aI_c (fun hd => s_bp hX hd (by decide) rfl) ?_
  refine aI_c (fun hd => s_idiv hX hd rfl) ?_
  refine aI_c (fun hd => s_iast hX hd rfl) ?_
  refine aI_c (fun hd => s_al_n hX hd rfl rfl) ?_
  refine aI_c (fun hd => s_gF hX (C := RX4) (T := TX4) (N := 9) (k := 0) rfl (fun w h => up w (inlX4 w h)) (by decide) rfl rfl rfl (up _ lkX4_44) hd rfl) ?_
  refine aI_c (fun hd => s_gF hX (C := RX0) (T := TX0) (N := 15) (k := 1) rfl (fun w h => up w (inlX0 w h)) (by decide) rfl rfl rfl (up _ lkX4_119) hd rfl) ?_
  refine aI_c (fun hd => s_il hX hd rfl) ?_
  refine aI_c (fun hd => s_il_n hX hd rfl rfl) ?_
  refine aI_c (fun hd => s_bp hX hd (by decide) rfl) ?_
  refine aI_c (fun hd => s_irem hX hd rfl) ?_
  refine aI_c (fun hd => s_iast hX hd rfl) ?_
  refine aI_c (fun hd => s_al_n hX hd rfl rfl) ?_
  refine aI_c (fun hd => s_gF hX (C := RX4) (T := TX4) (N := 9) (k := 0) rfl (fun w h => up w (inlX4 w h)) (by decide) rfl rfl rfl (up _ lkX4_44) hd rfl) ?_
  refine aI_c (fun hd => s_gF hX (C := RX0) (T := TX0) (N := 15) (k := 2) rfl (fun w h => up w (inlX0 w h)) (by decide) rfl rfl rfl (up _ lkX4_122) hd rfl) ?_
  refine aI_c (fun hd => s_il hX hd rfl) ?_
  refine aI_c (fun hd => s_il_n hX hd rfl rfl) ?_
  refine aI_c (fun hd => s_iast hX hd rfl) ?_
  refine aI_c (fun hd => s_al_n hX hd rfl rfl) ?_
  refine aI_c (fun hd => s_gF hX (C := RX4) (T := TX4) (N := 9) (k := 0) rfl (fun w h => up w (inlX4 w h)) (by decide) rfl rfl rfl (up _ lkX4_44) hd rfl) ?_
  refine aI_c (fun hd => s_gF hX (C := RX0) (T := TX0) (N := 15) (k := 3) rfl (fun w h => up w (inlX0 w h)) (by decide) rfl rfl rfl (up _ lkX4_125) hd rfl) ?_
  refine aI_c (fun hd => s_il hX hd rfl) ?_
  refine aI_c (fun hd => s_il_n hX hd rfl rfl) ?_
  refine aI_c (fun hd => s_iast hX hd rfl) ?_
  refine aI_c (fun hd => s_al_n hX hd rfl rfl) ?_
  refine aI_c (fun hd => s_gF hX (C := RX4) (T := TX4) (N := 9) (k := 0) rfl (fun w h => up w (inlX4 w h)) (by decide) rfl rfl rfl (up _ lkX4_44) hd rfl) ?_
  refine aI_c (fun hd => s_gF hX (C := RX0) (T := TX0) (N := 15) (k := 4) rfl (fun w h => up w (inlX0 w h)) (by decide) rfl rfl rfl (up _ lkX4_128) hd rfl) ?_
  refine aI_c (fun hd => s_il hX hd rfl) ?_
  refine aI_c (fun hd => s_ii hX hd (by decide) rfl) ?_
  refine aI_c (fun hd => s_iast hX hd rfl) ?_
  refine aI_c (fun hd => s_al_n hX hd rfl rfl) ?_
  refine aI_c (fun hd => s_gF hX (C := RX4) (T := TX4) (N := 9) (k := 0) rfl (fun w h => up w (inlX4 w h)) (by decide) rfl rfl rfl (up _ lkX4_44) hd rfl) ?_
  refine aI_c (fun hd => s_dup hX hd rfl) ?_
  refine aI_c (fun hd => s_gI hX (C := RX0) (T := TX0) (N := 15) (k := 9) rfl (fun w h => up w (inlX0 w h)) (by decide) rfl rfl rfl (up _ lkX4_55) hd rfl) ?_
  refine aI_c (fun hd => s_ii hX hd (by decide) rfl) ?_
  refine aI_c (fun hd => s_iadd hX hd rfl) ?_
  refine aI_c (fun hd => s_pI hX (C := RX0) (T := TX0) (N := 15) (k := 9) rfl (fun w h => up w (inlX0 w h)) (by decide) rfl rfl tyX0 tyX0_ok nmX0 rfl rfl rfl (up _ lkX4_55) hd rfl) ?_
  refine aI_c (fun hd => s_il hX hd rfl) ?_
  refine aI_c (fun hd => s_ri hX hr hlk hE hd) ?_
  exact trivial

-- JudgesByLoss.file(II)I
def tX4_file : aT := [
  (0, (.iload_n 1, 1), o_il 1 1),
  (1, (.iconst 1, 1), o_ii 1 2),
  (2, (.sipush 1023, 3), o_ii 1023 5),
  (5, (.invokestatic 79, 3), o_cS CX4_within 3 8),
  (8, (.ifCond .eq 13, 3), o_if (fun x => x = 0) 21 11),
  (11, (.iload_n 2, 1), o_il 2 12),
  (12, (.iconst 0, 1), o_ii 0 13),
  (13, (.bipush 99, 2), o_ii 99 15),
  (15, (.invokestatic 79, 3), o_cS CX4_within 3 18),
  (18, (.ifCond .ne 6, 3), o_if (fun x => ¬ x = 0) 24 21),
  (21, (.bipush (-2), 2), o_ii (-2) 23),
  (23, (.ireturn, 1), o_ri),
  (24, (.iconst 0, 1), o_ii 0 25),
  (25, (.istore_n 3, 1), o_is 3 26),
  (26, (.iload_n 3, 1), o_il 3 27),
  (27, (.bipush 8, 2), o_ii 8 29),
  (29, (.if_icmp .ge 67, 3), o_ic (fun x y => y ≤ x) 96 32),
  (32, (.aload_n 0, 1), o_al 0 33),
  (33, (.getfield 44, 3), o_gF 4 1 36),
  (36, (.iload_n 3, 1), o_il 3 37),
  (37, (.invokevirtual 106, 3), o_cV CX0_hasCase 0 1 40),
  (40, (.ifCond .ne 50, 3), o_if (fun x => ¬ x = 0) 90 43),
  (43, (.aload_n 0, 1), o_al 0 44),
  (44, (.getfield 44, 3), o_gF 4 1 47),
  (47, (.getfield 131, 3), o_gF 0 6 50),
  (50, (.iload_n 3, 1), o_il 3 51),
  (51, (.iload_n 1, 1), o_il 1 52),
  (52, (.iastore, 1), o_iast 53),
  (53, (.aload_n 0, 1), o_al 0 54),
  (54, (.getfield 44, 3), o_gF 4 1 57),
  (57, (.getfield 134, 3), o_gF 0 7 60),
  (60, (.iload_n 3, 1), o_il 3 61),
  (61, (.iload_n 2, 1), o_il 2 62),
  (62, (.iastore, 1), o_iast 63),
  (63, (.aload_n 0, 1), o_al 0 64),
  (64, (.getfield 44, 3), o_gF 4 1 67),
  (67, (.getfield 137, 3), o_gF 0 8 70),
  (70, (.iload_n 3, 1), o_il 3 71),
  (71, (.iconst 0, 1), o_ii 0 72),
  (72, (.iastore, 1), o_iast 73),
  (73, (.aload_n 0, 1), o_al 0 74),
  (74, (.getfield 44, 3), o_gF 4 1 77),
  (77, (.dup, 1), o_dup 78),
  (78, (.getfield 58, 3), o_gI 0 10 81),
  (81, (.iconst 1, 1), o_ii 1 82),
  (82, (.iload_n 3, 1), o_il 3 83),
  (83, (.ishl, 1), o_bi (fun x y => x <<< (y &&& 31)) 84),
  (84, (.ior, 1), o_bi (fun x y => x ||| y) 85),
  (85, (.putfield 58, 3), o_pI 0 10 88),
  (88, (.iload_n 3, 1), o_il 3 89),
  (89, (.ireturn, 1), o_ri),
  (90, (.iinc 3 1, 3), o_inc 3 1 93),
  (93, (.goto (-67), 3), o_go 26),
  (96, (.bipush (-4), 2), o_ii (-4) 98),
  (98, (.ireturn, 1), o_ri)]
abbrev CX4_file : aC := aCl tX4_file 4
def rmX4_file : Room := { frames := 2, cells := 0, slots := 0, locals := 23 }
set_option maxRecDepth 100000 in
theorem dX4_file : tX4_file.all (fun q => decide (decode cX4_file q.1 = .ok q.2.1)) = true := by decide +kernel
set_option maxRecDepth 100000 in
set_option maxHeartbeats 4000000 in
theorem nX4_file (l : Launch) : aMt l yX4_file (Cond.code yX4_file cX4_file 4 (some .int) :: wsL_law) rmX4_file CX4_file := by
  refine aMt.of (own := RX4) (cc := cX4_file) (maxL := 4) (ret := (some .int)) (by decide +kernel) rfl rfl ?_
  intro p e s m args below meth c Qc D Z ad P G A E hX hr hlk hE
  have up : ∀ w ∈ wsL_law, w ∈ (Cond.code yX4_file cX4_file 4 (some .int) :: wsL_law) := fun w h => List.mem_cons_of_mem _ h
  refine aImp_all _ dX4_file ?_
  unfold tX4_file
  refine aI_c (fun hd => s_il_n hX hd rfl rfl) ?_
  refine aI_c (fun hd => s_ii hX hd (by decide) rfl) ?_
  refine aI_c (fun hd => s_sp hX hd (by decide) rfl) ?_
  refine aI_c (fun hd => s_cS hX (nX4_within l) (wg_S up lmX4_79 loX4_within) rfl rfl rfl (by decide +kernel) ⟨by decide, by decide⟩ ⟨Nat.zero_le _, Nat.zero_le _⟩ hd rfl) ?_
  refine aI_c (fun hd => s_if_eq hX hd (by decide) rfl) ?_
  refine aI_c (fun hd => s_il_n hX hd rfl rfl) ?_
  refine aI_c (fun hd => s_ii hX hd (by decide) rfl) ?_
  refine aI_c (fun hd => s_bp hX hd (by decide) rfl) ?_
  refine aI_c (fun hd => s_cS hX (nX4_within l) (wg_S up lmX4_79 loX4_within) rfl rfl rfl (by decide +kernel) ⟨by decide, by decide⟩ ⟨Nat.zero_le _, Nat.zero_le _⟩ hd rfl) ?_
  refine aI_c (fun hd => s_if_ne hX hd (by decide) rfl) ?_
  refine aI_c (fun hd => s_bp hX hd (by decide) rfl) ?_
  refine aI_c (fun hd => s_ri hX hr hlk hE hd) ?_
  refine aI_c (fun hd => s_ii hX hd (by decide) rfl) ?_
  refine aI_c (fun hd => s_is_n hX hd rfl rfl (by decide)) ?_
  refine aI_c (fun hd => s_il_n hX hd rfl rfl) ?_
  refine aI_c (fun hd => s_bp hX hd (by decide) rfl) ?_
  refine aI_c (fun hd => s_ic_ge hX hd (by decide) rfl) ?_
  refine aI_c (fun hd => s_al_n hX hd rfl rfl) ?_
  refine aI_c (fun hd => s_gF hX (C := RX4) (T := TX4) (N := 9) (k := 0) rfl (fun w h => up w (inlX4 w h)) (by decide) rfl rfl rfl (up _ lkX4_44) hd rfl) ?_
  refine aI_c (fun hd => s_il_n hX hd rfl rfl) ?_
  refine aI_c (fun hd => s_cV hX (T := TX0) (N := 15) (nX0_hasCase l) rfl (wg_V up lmX4_106 loX0_hasCase) rfl rfl rfl (by decide +kernel) ⟨by decide, by decide⟩ ⟨Nat.zero_le _, Nat.zero_le _⟩ hd rfl) ?_
  refine aI_c (fun hd => s_if_ne hX hd (by decide) rfl) ?_
  refine aI_c (fun hd => s_al_n hX hd rfl rfl) ?_
  refine aI_c (fun hd => s_gF hX (C := RX4) (T := TX4) (N := 9) (k := 0) rfl (fun w h => up w (inlX4 w h)) (by decide) rfl rfl rfl (up _ lkX4_44) hd rfl) ?_
  refine aI_c (fun hd => s_gF hX (C := RX0) (T := TX0) (N := 15) (k := 5) rfl (fun w h => up w (inlX0 w h)) (by decide) rfl rfl rfl (up _ lkX4_131) hd rfl) ?_
  refine aI_c (fun hd => s_il_n hX hd rfl rfl) ?_
  refine aI_c (fun hd => s_il_n hX hd rfl rfl) ?_
  refine aI_c (fun hd => s_iast hX hd rfl) ?_
  refine aI_c (fun hd => s_al_n hX hd rfl rfl) ?_
  refine aI_c (fun hd => s_gF hX (C := RX4) (T := TX4) (N := 9) (k := 0) rfl (fun w h => up w (inlX4 w h)) (by decide) rfl rfl rfl (up _ lkX4_44) hd rfl) ?_
  refine aI_c (fun hd => s_gF hX (C := RX0) (T := TX0) (N := 15) (k := 6) rfl (fun w h => up w (inlX0 w h)) (by decide) rfl rfl rfl (up _ lkX4_134) hd rfl) ?_
  refine aI_c (fun hd => s_il_n hX hd rfl rfl) ?_
  refine aI_c (fun hd => s_il_n hX hd rfl rfl) ?_
  refine aI_c (fun hd => s_iast hX hd rfl) ?_
  refine aI_c (fun hd => s_al_n hX hd rfl rfl) ?_
  refine aI_c (fun hd => s_gF hX (C := RX4) (T := TX4) (N := 9) (k := 0) rfl (fun w h => up w (inlX4 w h)) (by decide) rfl rfl rfl (up _ lkX4_44) hd rfl) ?_
  refine aI_c (fun hd => s_gF hX (C := RX0) (T := TX0) (N := 15) (k := 7) rfl (fun w h => up w (inlX0 w h)) (by decide) rfl rfl rfl (up _ lkX4_137) hd rfl) ?_
  refine aI_c (fun hd => s_il_n hX hd rfl rfl) ?_
  refine aI_c (fun hd => s_ii hX hd (by decide) rfl) ?_
  refine aI_c (fun hd => s_iast hX hd rfl) ?_
  refine aI_c (fun hd => s_al_n hX hd rfl rfl) ?_
  refine aI_c (fun hd => s_gF hX (C := RX4) (T := TX4) (N := 9) (k := 0) rfl (fun w h => up w (inlX4 w h)) (by decide) rfl rfl rfl (up _ lkX4_44) hd rfl) ?_
  refine aI_c (fun hd => s_dup hX hd rfl) ?_
  refine aI_c (fun hd => s_gI hX (C := RX0) (T := TX0) (N := 15) (k := 10) rfl (fun w h => up w (inlX0 w h)) (by decide) rfl rfl rfl (up _ lkX4_58) hd rfl) ?_
  refine aI_c (fun hd => s_ii hX hd (by decide) rfl) ?_
  refine aI_c (fun hd => s_il_n hX hd rfl rfl) ?_
  refine aI_c (fun hd => s_ishl hX hd rfl) ?_
  refine aI_c (fun hd => s_ior hX hd rfl) ?_
  refine aI_c (fun hd => s_pI hX (C := RX0) (T := TX0) (N := 15) (k := 10) rfl (fun w h => up w (inlX0 w h)) (by decide) rfl rfl tyX0 tyX0_ok nmX0 rfl rfl rfl (up _ lkX4_58) hd rfl) ?_
  refine aI_c (fun hd => s_il_n hX hd rfl rfl) ?_
  refine aI_c (fun hd => s_ri hX hr hlk hE hd) ?_
  refine aI_c (fun hd => s_inc hX hd (by decide) rfl (by decide)) ?_
  refine aI_c (fun hd => s_go hX hd (by decide)) ?_
  refine aI_c (fun hd => s_bp hX hd (by decide) rfl) ?_
  refine aI_c (fun hd => s_ri hX hr hlk hE hd) ?_
  exact trivial

-- JudgesByLoss.put(III)I
def tX4_put : aT := [
  (0, (.aload_n 0, 1), o_al 0 1),
  (1, (.getfield 44, 3), o_gF 4 1 4),
  (4, (.iload_n 1, 1), o_il 1 5),
  (5, (.invokevirtual 103, 3), o_cV CX0_hasJudge 0 1 8),
  (8, (.ifCond .ne 6, 3), o_if (fun x => ¬ x = 0) 14 11),
  (11, (.bipush (-5), 2), o_ii (-5) 13),
  (13, (.ireturn, 1), o_ri),
  (14, (.iload_n 2, 1), o_il 2 15),
  (15, (.iconst 0, 1), o_ii 0 16),
  (16, (.iconst 2, 1), o_ii 2 17),
  (17, (.invokestatic 79, 3), o_cS CX4_within 3 20),
  (20, (.ifCond .eq 23, 3), o_if (fun x => x = 0) 43 23),
  (23, (.iload_n 3, 1), o_il 3 24),
  (24, (.iconst 0, 1), o_ii 0 25),
  (25, (.iload_n 2, 1), o_il 2 26),
  (26, (.ifCond .ne 9, 3), o_if (fun x => ¬ x = 0) 35 29),
  (29, (.sipush 1023, 3), o_ii 1023 32),
  (32, (.goto 5, 3), o_go 37),
  (35, (.bipush 99, 2), o_ii 99 37),
  (37, (.invokestatic 79, 3), o_cS CX4_within 3 40),
  (40, (.ifCond .ne 6, 3), o_if (fun x => ¬ x = 0) 46 43),
  (43, (.bipush (-7), 2), o_ii (-7) 45),
  (45, (.ireturn, 1), o_ri),
  (46, (.iload_n 2, 1), o_il 2 47),
  (47, (.ifCond .ne 13, 3), o_if (fun x => ¬ x = 0) 60 50),
  (50, (.aload_n 0, 1), o_al 0 51),
  (51, (.getfield 44, 3), o_gF 4 1 54),
  (54, (.getfield 122, 3), o_gF 0 3 57),
  (57, (.goto 25, 3), o_go 82),
  (60, (.iload_n 2, 1), o_il 2 61),
  (61, (.iconst 1, 1), o_ii 1 62),
  (62, (.if_icmp .ne 13, 3), o_ic (fun x y => ¬ x = y) 75 65),
  (65, (.aload_n 0, 1), o_al 0 66),
  (66, (.getfield 44, 3), o_gF 4 1 69),
  (69, (.getfield 125, 3), o_gF 0 4 72),
  (72, (.goto 10, 3), o_go 82),
  (75, (.aload_n 0, 1), o_al 0 76),
  (76, (.getfield 44, 3), o_gF 4 1 79),
  (79, (.getfield 128, 3), o_gF 0 5 82),
  (82, (.astore 4, 2), o_as 4 84),
  (84, (.aload 4, 2), o_al 4 86),
  (86, (.iload_n 1, 1), o_il 1 87),
  (87, (.iaload, 1), o_iald 88),
  (88, (.istore 5, 2), o_is 5 90),
  (90, (.aload 4, 2), o_al 4 92),
  (92, (.iload_n 1, 1), o_il 1 93),
  (93, (.iload_n 3, 1), o_il 3 94),
  (94, (.iastore, 1), o_iast 95),
  (95, (.iload 5, 2), o_il 5 97),
  (97, (.ireturn, 1), o_ri)]
abbrev CX4_put : aC := aCl tX4_put 6
def rmX4_put : Room := { frames := 2, cells := 0, slots := 0, locals := 23 }
set_option maxRecDepth 100000 in
theorem dX4_put : tX4_put.all (fun q => decide (decode cX4_put q.1 = .ok q.2.1)) = true := by decide +kernel
set_option maxRecDepth 100000 in
set_option maxHeartbeats 4000000 in
theorem nX4_put (l : Launch) : aMt l yX4_put (Cond.code yX4_put cX4_put 6 (some .int) :: wsL_law) rmX4_put CX4_put := by
  refine aMt.of (own := RX4) (cc := cX4_put) (maxL := 6) (ret := (some .int)) (by decide +kernel) rfl rfl ?_
  intro p e s m args below meth c Qc D Z ad P G A E hX hr hlk hE
  have up : ∀ w ∈ wsL_law, w ∈ (Cond.code yX4_put cX4_put 6 (some .int) :: wsL_law) := fun w h => List.mem_cons_of_mem _ h
  refine aImp_all _ dX4_put ?_
  unfold tX4_put
  refine aI_c (fun hd => s_al_n hX hd rfl rfl) ?_
  refine aI_c (fun hd => s_gF hX (C := RX4) (T := TX4) (N := 9) (k := 0) rfl (fun w h => up w (inlX4 w h)) (by decide) rfl rfl rfl (up _ lkX4_44) hd rfl) ?_
  refine aI_c (fun hd => s_il_n hX hd rfl rfl) ?_
  refine aI_c (fun hd => s_cV hX (T := TX0) (N := 15) (nX0_hasJudge l) rfl (wg_V up lmX4_103 loX0_hasJudge) rfl rfl rfl (by decide +kernel) ⟨by decide, by decide⟩ ⟨Nat.zero_le _, Nat.zero_le _⟩ hd rfl) ?_
  refine aI_c (fun hd => s_if_ne hX hd (by decide) rfl) ?_
  refine aI_c (fun hd => s_bp hX hd (by decide) rfl) ?_
  refine aI_c (fun hd => s_ri hX hr hlk hE hd) ?_
  refine aI_c (fun hd => s_il_n hX hd rfl rfl) ?_
  refine aI_c (fun hd => s_ii hX hd (by decide) rfl) ?_
  refine aI_c (fun hd => s_ii hX hd (by decide) rfl) ?_
  refine aI_c (fun hd => s_cS hX (nX4_within l) (wg_S up lmX4_79 loX4_within) rfl rfl rfl (by decide +kernel) ⟨by decide, by decide⟩ ⟨Nat.zero_le _, Nat.zero_le _⟩ hd rfl) ?_
  refine aI_c (fun hd => s_if_eq hX hd (by decide) rfl) ?_
  refine aI_c (fun hd => s_il_n hX hd rfl rfl) ?_
  refine aI_c (fun hd => s_ii hX hd (by decide) rfl) ?_
  refine aI_c (fun hd => s_il_n hX hd rfl rfl) ?_
  refine aI_c (fun hd => s_if_ne hX hd (by decide) rfl) ?_
  refine aI_c (fun hd => s_sp hX hd (by decide) rfl) ?_
  refine aI_c (fun hd => s_go hX hd (by decide)) ?_
  refine aI_c (fun hd => s_bp hX hd (by decide) rfl) ?_
  refine aI_c (fun hd => s_cS hX (nX4_within l) (wg_S up lmX4_79 loX4_within) rfl rfl rfl (by decide +kernel) ⟨by decide, by decide⟩ ⟨Nat.zero_le _, Nat.zero_le _⟩ hd rfl) ?_
  refine aI_c (fun hd => s_if_ne hX hd (by decide) rfl) ?_
  refine aI_c (fun hd => s_bp hX hd (by decide) rfl) ?_
  refine aI_c (fun hd => s_ri hX hr hlk hE hd) ?_
  refine aI_c (fun hd => s_il_n hX hd rfl rfl) ?_
  refine aI_c (fun hd => s_if_ne hX hd (by decide) rfl) ?_
  refine aI_c (fun hd => s_al_n hX hd rfl rfl) ?_
  refine aI_c (fun hd => s_gF hX (C := RX4) (T := TX4) (N := 9) (k := 0) rfl (fun w h => up w (inlX4 w h)) (by decide) rfl rfl rfl (up _ lkX4_44) hd rfl) ?_
  refine aI_c (fun hd => s_gF hX (C := RX0) (T := TX0) (N := 15) (k := 2) rfl (fun w h => up w (inlX0 w h)) (by decide) rfl rfl rfl (up _ lkX4_122) hd rfl) ?_
  refine aI_c (fun hd => s_go hX hd (by decide)) ?_
  refine aI_c (fun hd => s_il_n hX hd rfl rfl) ?_
  refine aI_c (fun hd => s_ii hX hd (by decide) rfl) ?_
  refine aI_c (fun hd => s_ic_ne hX hd (by decide) rfl) ?_
  refine aI_c (fun hd => s_al_n hX hd rfl rfl) ?_
  refine aI_c (fun hd => s_gF hX (C := RX4) (T := TX4) (N := 9) (k := 0) rfl (fun w h => up w (inlX4 w h)) (by decide) rfl rfl rfl (up _ lkX4_44) hd rfl) ?_
  refine aI_c (fun hd => s_gF hX (C := RX0) (T := TX0) (N := 15) (k := 3) rfl (fun w h => up w (inlX0 w h)) (by decide) rfl rfl rfl (up _ lkX4_125) hd rfl) ?_
  refine aI_c (fun hd => s_go hX hd (by decide)) ?_
  refine aI_c (fun hd => s_al_n hX hd rfl rfl) ?_
  refine aI_c (fun hd => s_gF hX (C := RX4) (T := TX4) (N := 9) (k := 0) rfl (fun w h => up w (inlX4 w h)) (by decide) rfl rfl rfl (up _ lkX4_44) hd rfl) ?_
  refine aI_c (fun hd => s_gF hX (C := RX0) (T := TX0) (N := 15) (k := 4) rfl (fun w h => up w (inlX0 w h)) (by decide) rfl rfl rfl (up _ lkX4_128) hd rfl) ?_
  refine aI_c (fun hd => s_as hX hd rfl (by decide)) ?_
  refine aI_c (fun hd => s_al hX hd rfl) ?_
  refine aI_c (fun hd => s_il_n hX hd rfl rfl) ?_
  refine aI_c (fun hd => s_iald hX hd rfl) ?_
  refine aI_c (fun hd => s_is hX hd rfl (by decide)) ?_
  refine aI_c (fun hd => s_al hX hd rfl) ?_
  refine aI_c (fun hd => s_il_n hX hd rfl rfl) ?_
  refine aI_c (fun hd => s_il_n hX hd rfl rfl) ?_
  refine aI_c (fun hd => s_iast hX hd rfl) ?_
  refine aI_c (fun hd => s_il hX hd rfl) ?_
  refine aI_c (fun hd => s_ri hX hr hlk hE hd) ?_
  exact trivial

-- JudgesByLoss.told(II)I
def tX4_told : aT := [
  (0, (.aload_n 0, 1), o_al 0 1),
  (1, (.getfield 44, 3), o_gF 4 1 4),
  (4, (.iload_n 1, 1), o_il 1 5),
  (5, (.invokevirtual 103, 3), o_cV CX0_hasJudge 0 1 8),
  (8, (.ifCond .ne 6, 3), o_if (fun x => ¬ x = 0) 14 11),
  (11, (.bipush (-5), 2), o_ii (-5) 13),
  (13, (.ireturn, 1), o_ri),
  (14, (.iload_n 2, 1), o_il 2 15),
  (15, (.tableswitch 96 0 5 #[37, 47, 57, 67, 77, 87], 37), o_sw [(0, 52), (1, 62), (2, 72), (3, 82), (4, 92), (5, 102)] 111),
  (52, (.aload_n 0, 1), o_al 0 53),
  (53, (.getfield 44, 3), o_gF 4 1 56),
  (56, (.getfield 122, 3), o_gF 0 3 59),
  (59, (.iload_n 1, 1), o_il 1 60),
  (60, (.iaload, 1), o_iald 61),
  (61, (.ireturn, 1), o_ri),
  (62, (.aload_n 0, 1), o_al 0 63),
  (63, (.getfield 44, 3), o_gF 4 1 66),
  (66, (.getfield 125, 3), o_gF 0 4 69),
  (69, (.iload_n 1, 1), o_il 1 70),
  (70, (.iaload, 1), o_iald 71),
  (71, (.ireturn, 1), o_ri),
  (72, (.aload_n 0, 1), o_al 0 73),
  (73, (.getfield 44, 3), o_gF 4 1 76),
  (76, (.getfield 128, 3), o_gF 0 5 79),
  (79, (.iload_n 1, 1), o_il 1 80),
  (80, (.iaload, 1), o_iald 81),
  (81, (.ireturn, 1), o_ri),
  (82, (.aload_n 0, 1), o_al 0 83),
  (83, (.getfield 44, 3), o_gF 4 1 86),
  (86, (.getfield 116, 3), o_gF 0 1 89),
  (89, (.iload_n 1, 1), o_il 1 90),
  (90, (.iaload, 1), o_iald 91),
  (91, (.ireturn, 1), o_ri),
  (92, (.aload_n 0, 1), o_al 0 93),
  (93, (.getfield 44, 3), o_gF 4 1 96),
  (96, (.getfield 119, 3), o_gF 0 2 99),
  (99, (.iload_n 1, 1), o_il 1 100),
  (100, (.iaload, 1), o_iald 101),
  (101, (.ireturn, 1), o_ri),
  (102, (.aload_n 0, 1), o_al 0 103),
  (103, (.getfield 44, 3), o_gF 4 1 106),
  (106, (.iload_n 1, 1), o_il 1 107),
  (107, (.invokevirtual 140, 3), o_cV CX0_casesFor 0 1 110),
  (110, (.ireturn, 1), o_ri),
  (111, (.bipush (-7), 2), o_ii (-7) 113),
  (113, (.ireturn, 1), o_ri)]
abbrev CX4_told : aC := aCl tX4_told 3
def rmX4_told : Room := { frames := 5, cells := 0, slots := 0, locals := 119 }
set_option maxRecDepth 100000 in
theorem dX4_told : tX4_told.all (fun q => decide (decode cX4_told q.1 = .ok q.2.1)) = true := by decide +kernel
set_option maxRecDepth 100000 in
set_option maxHeartbeats 4000000 in
theorem nX4_told (l : Launch) : aMt l yX4_told (Cond.code yX4_told cX4_told 3 (some .int) :: wsL_law) rmX4_told CX4_told := by
  refine aMt.of (own := RX4) (cc := cX4_told) (maxL := 3) (ret := (some .int)) (by decide +kernel) rfl rfl ?_
  intro p e s m args below meth c Qc D Z ad P G A E hX hr hlk hE
  have up : ∀ w ∈ wsL_law, w ∈ (Cond.code yX4_told cX4_told 3 (some .int) :: wsL_law) := fun w h => List.mem_cons_of_mem _ h
  refine aImp_all _ dX4_told ?_
  unfold tX4_told
  refine aI_c (fun hd => s_al_n hX hd rfl rfl) ?_
  refine aI_c (fun hd => s_gF hX (C := RX4) (T := TX4) (N := 9) (k := 0) rfl (fun w h => up w (inlX4 w h)) (by decide) rfl rfl rfl (up _ lkX4_44) hd rfl) ?_
  refine aI_c (fun hd => s_il_n hX hd rfl rfl) ?_
  refine aI_c (fun hd => s_cV hX (T := TX0) (N := 15) (nX0_hasJudge l) rfl (wg_V up lmX4_103 loX0_hasJudge) rfl rfl rfl (by decide +kernel) ⟨by decide, by decide⟩ ⟨Nat.zero_le _, Nat.zero_le _⟩ hd rfl) ?_
  refine aI_c (fun hd => s_if_ne hX hd (by decide) rfl) ?_
  refine aI_c (fun hd => s_bp hX hd (by decide) rfl) ?_
  refine aI_c (fun hd => s_ri hX hr hlk hE hd) ?_
  refine aI_c (fun hd => s_il_n hX hd rfl rfl) ?_
  refine aI_c (fun hd => s_sw hX hd (by decide) (by decide +kernel)) ?_
  refine aI_c (fun hd => s_al_n hX hd rfl rfl) ?_
  refine aI_c (fun hd => s_gF hX (C := RX4) (T := TX4) (N := 9) (k := 0) rfl (fun w h => up w (inlX4 w h)) (by decide) rfl rfl rfl (up _ lkX4_44) hd rfl) ?_
  refine aI_c (fun hd => s_gF hX (C := RX0) (T := TX0) (N := 15) (k := 2) rfl (fun w h => up w (inlX0 w h)) (by decide) rfl rfl rfl (up _ lkX4_122) hd rfl) ?_
  refine aI_c (fun hd => s_il_n hX hd rfl rfl) ?_
  refine aI_c (fun hd => s_iald hX hd rfl) ?_
  refine aI_c (fun hd => s_ri hX hr hlk hE hd) ?_
  refine aI_c (fun hd => s_al_n hX hd rfl rfl) ?_
  refine aI_c (fun hd => s_gF hX (C := RX4) (T := TX4) (N := 9) (k := 0) rfl (fun w h => up w (inlX4 w h)) (by decide) rfl rfl rfl (up _ lkX4_44) hd rfl) ?_
  refine aI_c (fun hd => s_gF hX (C := RX0) (T := TX0) (N := 15) (k := 3) rfl (fun w h => up w (inlX0 w h)) (by decide) rfl rfl rfl (up _ lkX4_125) hd rfl) ?_
  refine aI_c (fun hd => s_il_n hX hd rfl rfl) ?_
  refine aI_c (fun hd => s_iald hX hd rfl) ?_
  refine aI_c (fun hd => s_ri hX hr hlk hE hd) ?_
  refine aI_c (fun hd => s_al_n hX hd rfl rfl) ?_
  refine aI_c (fun hd => s_gF hX (C := RX4) (T := TX4) (N := 9) (k := 0) rfl (fun w h => up w (inlX4 w h)) (by decide) rfl rfl rfl (up _ lkX4_44) hd rfl) ?_
  refine aI_c (fun hd => s_gF hX (C := RX0) (T := TX0) (N := 15) (k := 4) rfl (fun w h => up w (inlX0 w h)) (by decide) rfl rfl rfl (up _ lkX4_128) hd rfl) ?_
  refine aI_c (fun hd => s_il_n hX hd rfl rfl) ?_
  refine aI_c (fun hd => s_iald hX hd rfl) ?_
  refine aI_c (fun hd => s_ri hX hr hlk hE hd) ?_
  refine aI_c (fun hd => s_al_n hX hd rfl rfl) ?_
  refine aI_c (fun hd => s_gF hX (C := RX4) (T := TX4) (N := 9) (k := 0) rfl (fun w h => up w (inlX4 w h)) (by decide) rfl rfl rfl (up _ lkX4_44) hd rfl) ?_
  refine aI_c (fun hd => s_gF hX (C := RX0) (T := TX0) (N := 15) (k := 0) rfl (fun w h => up w (inlX0 w h)) (by decide) rfl rfl rfl (up _ lkX4_116) hd rfl) ?_
  refine aI_c (fun hd => s_il_n hX hd rfl rfl) ?_
  refine aI_c (fun hd => s_iald hX hd rfl) ?_
  refine aI_c (fun hd => s_ri hX hr hlk hE hd) ?_
  refine aI_c (fun hd => s_al_n hX hd rfl rfl) ?_
  refine aI_c (fun hd => s_gF hX (C := RX4) (T := TX4) (N := 9) (k := 0) rfl (fun w h => up w (inlX4 w h)) (by decide) rfl rfl rfl (up _ lkX4_44) hd rfl) ?_
  refine aI_c (fun hd => s_gF hX (C := RX0) (T := TX0) (N := 15) (k := 1) rfl (fun w h => up w (inlX0 w h)) (by decide) rfl rfl rfl (up _ lkX4_119) hd rfl) ?_
  refine aI_c (fun hd => s_il_n hX hd rfl rfl) ?_
  refine aI_c (fun hd => s_iald hX hd rfl) ?_
  refine aI_c (fun hd => s_ri hX hr hlk hE hd) ?_
  refine aI_c (fun hd => s_al_n hX hd rfl rfl) ?_
  refine aI_c (fun hd => s_gF hX (C := RX4) (T := TX4) (N := 9) (k := 0) rfl (fun w h => up w (inlX4 w h)) (by decide) rfl rfl rfl (up _ lkX4_44) hd rfl) ?_
  refine aI_c (fun hd => s_il_n hX hd rfl rfl) ?_
  refine aI_c (fun hd => s_cV hX (T := TX0) (N := 15) (nX0_casesFor l) rfl (wg_V up lmX4_140 loX0_casesFor) rfl rfl rfl (by decide +kernel) ⟨by decide, by decide⟩ ⟨Nat.zero_le _, Nat.zero_le _⟩ hd rfl) ?_
  refine aI_c (fun hd => s_ri hX hr hlk hE hd) ?_
  refine aI_c (fun hd => s_bp hX hd (by decide) rfl) ?_
  refine aI_c (fun hd => s_ri hX hr hlk hE hd) ?_
  exact trivial

-- JudgesByLoss.paper(II)I
def tX4_paper : aT := [
  (0, (.aload_n 0, 1), o_al 0 1),
  (1, (.getfield 44, 3), o_gF 4 1 4),
  (4, (.iload_n 1, 1), o_il 1 5),
  (5, (.invokevirtual 106, 3), o_cV CX0_hasCase 0 1 8),
  (8, (.ifCond .ne 6, 3), o_if (fun x => ¬ x = 0) 14 11),
  (11, (.bipush (-6), 2), o_ii (-6) 13),
  (13, (.ireturn, 1), o_ri),
  (14, (.iload_n 2, 1), o_il 2 15),
  (15, (.tableswitch 68 0 3 #[29, 39, 49, 59], 29), o_sw [(0, 44), (1, 54), (2, 64), (3, 74)] 83),
  (44, (.aload_n 0, 1), o_al 0 45),
  (45, (.getfield 44, 3), o_gF 4 1 48),
  (48, (.getfield 131, 3), o_gF 0 6 51),
  (51, (.iload_n 1, 1), o_il 1 52),
  (52, (.iaload, 1), o_iald 53),
  (53, (.ireturn, 1), o_ri),
  (54, (.aload_n 0, 1), o_al 0 55),
  (55, (.getfield 44, 3), o_gF 4 1 58),
  (58, (.getfield 134, 3), o_gF 0 7 61),
  (61, (.iload_n 1, 1), o_il 1 62),
  (62, (.iaload, 1), o_iald 63),
  (63, (.ireturn, 1), o_ri),
  (64, (.aload_n 0, 1), o_al 0 65),
  (65, (.getfield 44, 3), o_gF 4 1 68),
  (68, (.getfield 137, 3), o_gF 0 8 71),
  (71, (.iload_n 1, 1), o_il 1 72),
  (72, (.iaload, 1), o_iald 73),
  (73, (.ireturn, 1), o_ri),
  (74, (.aload_n 0, 1), o_al 0 75),
  (75, (.getfield 44, 3), o_gF 4 1 78),
  (78, (.iload_n 1, 1), o_il 1 79),
  (79, (.invokevirtual 143, 3), o_cV CX0_judgesFor 0 1 82),
  (82, (.ireturn, 1), o_ri),
  (83, (.bipush (-7), 2), o_ii (-7) 85),
  (85, (.ireturn, 1), o_ri)]
abbrev CX4_paper : aC := aCl tX4_paper 3
def rmX4_paper : Room := { frames := 5, cells := 0, slots := 0, locals := 119 }
set_option maxRecDepth 100000 in
theorem dX4_paper : tX4_paper.all (fun q => decide (decode cX4_paper q.1 = .ok q.2.1)) = true := by decide +kernel
set_option maxRecDepth 100000 in
set_option maxHeartbeats 4000000 in
theorem nX4_paper (l : Launch) : aMt l yX4_paper (Cond.code yX4_paper cX4_paper 3 (some .int) :: wsL_law) rmX4_paper CX4_paper := by
  refine aMt.of (own := RX4) (cc := cX4_paper) (maxL := 3) (ret := (some .int)) (by decide +kernel) rfl rfl ?_
  intro p e s m args below meth c Qc D Z ad P G A E hX hr hlk hE
  have up : ∀ w ∈ wsL_law, w ∈ (Cond.code yX4_paper cX4_paper 3 (some .int) :: wsL_law) := fun w h => List.mem_cons_of_mem _ h
  refine aImp_all _ dX4_paper ?_
  unfold tX4_paper
  refine aI_c (fun hd => s_al_n hX hd rfl rfl) ?_
  refine aI_c (fun hd => s_gF hX (C := RX4) (T := TX4) (N := 9) (k := 0) rfl (fun w h => up w (inlX4 w h)) (by decide) rfl rfl rfl (up _ lkX4_44) hd rfl) ?_
  refine aI_c (fun hd => s_il_n hX hd rfl rfl) ?_
  refine aI_c (fun hd => s_cV hX (T := TX0) (N := 15) (nX0_hasCase l) rfl (wg_V up lmX4_106 loX0_hasCase) rfl rfl rfl (by decide +kernel) ⟨by decide, by decide⟩ ⟨Nat.zero_le _, Nat.zero_le _⟩ hd rfl) ?_
  refine aI_c (fun hd => s_if_ne hX hd (by decide) rfl) ?_
  refine aI_c (fun hd => s_bp hX hd (by decide) rfl) ?_
  refine aI_c (fun hd => s_ri hX hr hlk hE hd) ?_
  refine aI_c (fun hd => s_il_n hX hd rfl rfl) ?_
  refine aI_c (fun hd => s_sw hX hd (by decide) (by decide +kernel)) ?_
  refine aI_c (fun hd => s_al_n hX hd rfl rfl) ?_
  refine aI_c (fun hd => s_gF hX (C := RX4) (T := TX4) (N := 9) (k := 0) rfl (fun w h => up w (inlX4 w h)) (by decide) rfl rfl rfl (up _ lkX4_44) hd rfl) ?_
  refine aI_c (fun hd => s_gF hX (C := RX0) (T := TX0) (N := 15) (k := 5) rfl (fun w h => up w (inlX0 w h)) (by decide) rfl rfl rfl (up _ lkX4_131) hd rfl) ?_
  refine aI_c (fun hd => s_il_n hX hd rfl rfl) ?_
  refine aI_c (fun hd => s_iald hX hd rfl) ?_
  refine aI_c (fun hd => s_ri hX hr hlk hE hd) ?_
  refine aI_c (fun hd => s_al_n hX hd rfl rfl) ?_
  refine aI_c (fun hd => s_gF hX (C := RX4) (T := TX4) (N := 9) (k := 0) rfl (fun w h => up w (inlX4 w h)) (by decide) rfl rfl rfl (up _ lkX4_44) hd rfl) ?_
  refine aI_c (fun hd => s_gF hX (C := RX0) (T := TX0) (N := 15) (k := 6) rfl (fun w h => up w (inlX0 w h)) (by decide) rfl rfl rfl (up _ lkX4_134) hd rfl) ?_
  refine aI_c (fun hd => s_il_n hX hd rfl rfl) ?_
  refine aI_c (fun hd => s_iald hX hd rfl) ?_
  refine aI_c (fun hd => s_ri hX hr hlk hE hd) ?_
  refine aI_c (fun hd => s_al_n hX hd rfl rfl) ?_
  refine aI_c (fun hd => s_gF hX (C := RX4) (T := TX4) (N := 9) (k := 0) rfl (fun w h => up w (inlX4 w h)) (by decide) rfl rfl rfl (up _ lkX4_44) hd rfl) ?_
  refine aI_c (fun hd => s_gF hX (C := RX0) (T := TX0) (N := 15) (k := 7) rfl (fun w h => up w (inlX0 w h)) (by decide) rfl rfl rfl (up _ lkX4_137) hd rfl) ?_
  refine aI_c (fun hd => s_il_n hX hd rfl rfl) ?_
  refine aI_c (fun hd => s_iald hX hd rfl) ?_
  refine aI_c (fun hd => s_ri hX hr hlk hE hd) ?_
  refine aI_c (fun hd => s_al_n hX hd rfl rfl) ?_
  refine aI_c (fun hd => s_gF hX (C := RX4) (T := TX4) (N := 9) (k := 0) rfl (fun w h => up w (inlX4 w h)) (by decide) rfl rfl rfl (up _ lkX4_44) hd rfl) ?_
  refine aI_c (fun hd => s_il_n hX hd rfl rfl) ?_
  refine aI_c (fun hd => s_cV hX (T := TX0) (N := 15) (nX0_judgesFor l) rfl (wg_V up lmX4_143 loX0_judgesFor) rfl rfl rfl (by decide +kernel) ⟨by decide, by decide⟩ ⟨Nat.zero_le _, Nat.zero_le _⟩ hd rfl) ?_
  refine aI_c (fun hd => s_ri hX hr hlk hE hd) ?_
  refine aI_c (fun hd => s_bp hX hd (by decide) rfl) ?_
  refine aI_c (fun hd => s_ri hX hr hlk hE hd) ?_
  exact trivial

-- JudgesByLoss.hearing(III)I
def tX4_hearing : aT := [
  (0, (.aload_n 0, 1), o_al 0 1),
  (1, (.getfield 44, 3), o_gF 4 1 4),
  (4, (.iload_n 1, 1), o_il 1 5),
  (5, (.invokevirtual 103, 3), o_cV CX0_hasJudge 0 1 8),
  (8, (.ifCond .ne 6, 3), o_if (fun x => ¬ x = 0) 14 11),
  (11, (.bipush (-5), 2), o_ii (-5) 13),
  (13, (.ireturn, 1), o_ri),
  (14, (.aload_n 0, 1), o_al 0 15),
  (15, (.getfield 44, 3), o_gF 4 1 18),
  (18, (.iload_n 2, 1), o_il 2 19),
  (19, (.invokevirtual 106, 3), o_cV CX0_hasCase 0 1 22),
  (22, (.ifCond .ne 6, 3), o_if (fun x => ¬ x = 0) 28 25),
  (25, (.bipush (-6), 2), o_ii (-6) 27),
  (27, (.ireturn, 1), o_ri),
  (28, (.iload_n 3, 1), o_il 3 29),
  (29, (.tableswitch 69 0 2 #[27, 45, 55], 27), o_sw [(0, 56), (1, 74), (2, 84)] 98),
  (56, (.aload_n 0, 1), o_al 0 57),
  (57, (.getfield 44, 3), o_gF 4 1 60),
  (60, (.iload_n 1, 1), o_il 1 61),
  (61, (.iload_n 2, 1), o_il 2 62),
  (62, (.invokevirtual 146, 3), o_cV CX0_may 0 2 65),
  (65, (.ifCond .eq 7, 3), o_if (fun x => x = 0) 72 68),
  (68, (.iconst 1, 1), o_ii 1 69),
  (69, (.goto 4, 3), o_go 73),
  (72, (.iconst 0, 1), o_ii 0 73),
  (73, (.ireturn, 1), o_ri),
  (74, (.aload_n 0, 1), o_al 0 75),
  (75, (.getfield 44, 3), o_gF 4 1 78),
  (78, (.iload_n 1, 1), o_il 1 79),
  (79, (.iload_n 2, 1), o_il 2 80),
  (80, (.invokevirtual 150, 3), o_cV CX0_daysFor 0 2 83),
  (83, (.ireturn, 1), o_ri),
  (84, (.sipush 1000, 3), o_ii 1000 87),
  (87, (.aload_n 0, 1), o_al 0 88),
  (88, (.getfield 44, 3), o_gF 4 1 91),
  (91, (.iload_n 1, 1), o_il 1 92),
  (92, (.iload_n 2, 1), o_il 2 93),
  (93, (.invokevirtual 154, 3), o_cV CX0_hardnessOf 0 2 96),
  (96, (.iadd, 1), o_bi (fun x y => x + y) 97),
  (97, (.ireturn, 1), o_ri),
  (98, (.bipush (-7), 2), o_ii (-7) 100),
  (100, (.ireturn, 1), o_ri)]
abbrev CX4_hearing : aC := aCl tX4_hearing 4
def rmX4_hearing : Room := { frames := 4, cells := 0, slots := 0, locals := 96 }
set_option maxRecDepth 100000 in
theorem dX4_hearing : tX4_hearing.all (fun q => decide (decode cX4_hearing q.1 = .ok q.2.1)) = true := by decide +kernel
set_option maxRecDepth 100000 in
set_option maxHeartbeats 4000000 in
theorem nX4_hearing (l : Launch) : aMt l yX4_hearing (Cond.code yX4_hearing cX4_hearing 4 (some .int) :: wsL_law) rmX4_hearing CX4_hearing := by
  refine aMt.of (own := RX4) (cc := cX4_hearing) (maxL := 4) (ret := (some .int)) (by decide +kernel) rfl rfl ?_
  intro p e s m args below meth c Qc D Z ad P G A E hX hr hlk hE
  have up : ∀ w ∈ wsL_law, w ∈ (Cond.code yX4_hearing cX4_hearing 4 (some .int) :: wsL_law) := fun w h => List.mem_cons_of_mem _ h
  refine aImp_all _ dX4_hearing ?_
  unfold tX4_hearing
  refine aI_c (fun hd => s_al_n hX hd rfl rfl) ?_
  refine aI_c (fun hd => s_gF hX (C := RX4) (T := TX4) (N := 9) (k := 0) rfl (fun w h => up w (inlX4 w h)) (by decide) rfl rfl rfl (up _ lkX4_44) hd rfl) ?_
  refine aI_c (fun hd => s_il_n hX hd rfl rfl) ?_
  refine aI_c (fun hd => s_cV hX (T := TX0) (N := 15) (nX0_hasJudge l) rfl (wg_V up lmX4_103 loX0_hasJudge) rfl rfl rfl (by decide +kernel) ⟨by decide, by decide⟩ ⟨Nat.zero_le _, Nat.zero_le _⟩ hd rfl) ?_
  refine aI_c (fun hd => s_if_ne hX hd (by decide) rfl) ?_
  refine aI_c (fun hd => s_bp hX hd (by decide) rfl) ?_
  refine aI_c (fun hd => s_ri hX hr hlk hE hd) ?_
  refine aI_c (fun hd => s_al_n hX hd rfl rfl) ?_
  refine aI_c (fun hd => s_gF hX (C := RX4) (T := TX4) (N := 9) (k := 0) rfl (fun w h => up w (inlX4 w h)) (by decide) rfl rfl rfl (up _ lkX4_44) hd rfl) ?_
  refine aI_c (fun hd => s_il_n hX hd rfl rfl) ?_
  refine aI_c (fun hd => s_cV hX (T := TX0) (N := 15) (nX0_hasCase l) rfl (wg_V up lmX4_106 loX0_hasCase) rfl rfl rfl (by decide +kernel) ⟨by decide, by decide⟩ ⟨Nat.zero_le _, Nat.zero_le _⟩ hd rfl) ?_
  refine aI_c (fun hd => s_if_ne hX hd (by decide) rfl) ?_
  refine aI_c (fun hd => s_bp hX hd (by decide) rfl) ?_
  refine aI_c (fun hd => s_ri hX hr hlk hE hd) ?_
  refine aI_c (fun hd => s_il_n hX hd rfl rfl) ?_
  refine aI_c (fun hd => s_sw hX hd (by decide) (by decide +kernel)) ?_
  refine aI_c (fun hd => s_al_n hX hd rfl rfl) ?_
  refine aI_c (fun hd => s_gF hX (C := RX4) (T := TX4) (N := 9) (k := 0) rfl (fun w h => up w (inlX4 w h)) (by decide) rfl rfl rfl (up _ lkX4_44) hd rfl) ?_
  refine aI_c (fun hd => s_il_n hX hd rfl rfl) ?_
  refine aI_c (fun hd => s_il_n hX hd rfl rfl) ?_
  refine aI_c (fun hd => s_cV hX (T := TX0) (N := 15) (nX0_may l) rfl (wg_V up lmX4_146 loX0_may) rfl rfl rfl (by decide +kernel) ⟨by decide, by decide⟩ ⟨Nat.zero_le _, Nat.zero_le _⟩ hd rfl) ?_
  refine aI_c (fun hd => s_if_eq hX hd (by decide) rfl) ?_
  refine aI_c (fun hd => s_ii hX hd (by decide) rfl) ?_
  refine aI_c (fun hd => s_go hX hd (by decide)) ?_
  refine aI_c (fun hd => s_ii hX hd (by decide) rfl) ?_
  refine aI_c (fun hd => s_ri hX hr hlk hE hd) ?_
  refine aI_c (fun hd => s_al_n hX hd rfl rfl) ?_
  refine aI_c (fun hd => s_gF hX (C := RX4) (T := TX4) (N := 9) (k := 0) rfl (fun w h => up w (inlX4 w h)) (by decide) rfl rfl rfl (up _ lkX4_44) hd rfl) ?_
  refine aI_c (fun hd => s_il_n hX hd rfl rfl) ?_
  refine aI_c (fun hd => s_il_n hX hd rfl rfl) ?_
  refine aI_c (fun hd => s_cV hX (T := TX0) (N := 15) (nX0_daysFor l) rfl (wg_V up lmX4_150 loX0_daysFor) rfl rfl rfl (by decide +kernel) ⟨by decide, by decide⟩ ⟨Nat.zero_le _, Nat.zero_le _⟩ hd rfl) ?_
  refine aI_c (fun hd => s_ri hX hr hlk hE hd) ?_
  refine aI_c (fun hd => s_sp hX hd (by decide) rfl) ?_
  refine aI_c (fun hd => s_al_n hX hd rfl rfl) ?_
  refine aI_c (fun hd => s_gF hX (C := RX4) (T := TX4) (N := 9) (k := 0) rfl (fun w h => up w (inlX4 w h)) (by decide) rfl rfl rfl (up _ lkX4_44) hd rfl) ?_
  refine aI_c (fun hd => s_il_n hX hd rfl rfl) ?_
  refine aI_c (fun hd => s_il_n hX hd rfl rfl) ?_
  refine aI_c (fun hd => s_cV hX (T := TX0) (N := 15) (nX0_hardnessOf l) rfl (wg_V up lmX4_154 loX0_hardnessOf) rfl rfl rfl (by decide +kernel) ⟨by decide, by decide⟩ ⟨Nat.zero_le _, Nat.zero_le _⟩ hd rfl) ?_
  refine aI_c (fun hd => s_iadd hX hd rfl) ?_
  refine aI_c (fun hd => s_ri hX hr hlk hE hd) ?_
  refine aI_c (fun hd => s_bp hX hd (by decide) rfl) ?_
  refine aI_c (fun hd => s_ri hX hr hlk hE hd) ?_
  exact trivial

-- JudgesByLoss.hear(II)I
def tX4_hear : aT := [
  (0, (.aload_n 0, 1), o_al 0 1),
  (1, (.getfield 44, 3), o_gF 4 1 4),
  (4, (.iload_n 1, 1), o_il 1 5),
  (5, (.invokevirtual 103, 3), o_cV CX0_hasJudge 0 1 8),
  (8, (.ifCond .ne 6, 3), o_if (fun x => ¬ x = 0) 14 11),
  (11, (.bipush (-5), 2), o_ii (-5) 13),
  (13, (.ireturn, 1), o_ri),
  (14, (.aload_n 0, 1), o_al 0 15),
  (15, (.getfield 44, 3), o_gF 4 1 18),
  (18, (.iload_n 2, 1), o_il 2 19),
  (19, (.invokevirtual 106, 3), o_cV CX0_hasCase 0 1 22),
  (22, (.ifCond .ne 6, 3), o_if (fun x => ¬ x = 0) 28 25),
  (25, (.bipush (-6), 2), o_ii (-6) 27),
  (27, (.ireturn, 1), o_ri),
  (28, (.aload_n 0, 1), o_al 0 29),
  (29, (.getfield 44, 3), o_gF 4 1 32),
  (32, (.iload_n 1, 1), o_il 1 33),
  (33, (.iload_n 2, 1), o_il 2 34),
  (34, (.invokevirtual 157, 3), o_cV CX0_can 0 2 37),
  (37, (.ifCond .ne 6, 3), o_if (fun x => ¬ x = 0) 43 40),
  (40, (.bipush (-3), 2), o_ii (-3) 42),
  (42, (.ireturn, 1), o_ri),
  (43, (.sipush 1000, 3), o_ii 1000 46),
  (46, (.aload_n 0, 1), o_al 0 47),
  (47, (.getfield 44, 3), o_gF 4 1 50),
  (50, (.iload_n 1, 1), o_il 1 51),
  (51, (.iload_n 2, 1), o_il 2 52),
  (52, (.invokevirtual 160, 3), o_cV CX0_hold 0 2 55),
  (55, (.iadd, 1), o_bi (fun x y => x + y) 56),
  (56, (.ireturn, 1), o_ri)]
abbrev CX4_hear : aC := aCl tX4_hear 3
def rmX4_hear : Room := { frames := 5, cells := 0, slots := 0, locals := 120 }
set_option maxRecDepth 100000 in
theorem dX4_hear : tX4_hear.all (fun q => decide (decode cX4_hear q.1 = .ok q.2.1)) = true := by decide +kernel
set_option maxRecDepth 100000 in
set_option maxHeartbeats 4000000 in
theorem nX4_hear (l : Launch) : aMt l yX4_hear (Cond.code yX4_hear cX4_hear 3 (some .int) :: wsL_law) rmX4_hear CX4_hear := by
  refine aMt.of (own := RX4) (cc := cX4_hear) (maxL := 3) (ret := (some .int)) (by decide +kernel) rfl rfl ?_
  intro p e s m args below meth c Qc D Z ad P G A E hX hr hlk hE
  have up : ∀ w ∈ wsL_law, w ∈ (Cond.code yX4_hear cX4_hear 3 (some .int) :: wsL_law) := fun w h => List.mem_cons_of_mem _ h
  refine aImp_all _ dX4_hear ?_
  unfold tX4_hear
  refine aI_c (fun hd => s_al_n hX hd rfl rfl) ?_
  refine aI_c (fun hd => s_gF hX (C := RX4) (T := TX4) (N := 9) (k := 0) rfl (fun w h => up w (inlX4 w h)) (by decide) rfl rfl rfl (up _ lkX4_44) hd rfl) ?_
  refine aI_c (fun hd => s_il_n hX hd rfl rfl) ?_
  refine aI_c (fun hd => s_cV hX (T := TX0) (N := 15) (nX0_hasJudge l) rfl (wg_V up lmX4_103 loX0_hasJudge) rfl rfl rfl (by decide +kernel) ⟨by decide, by decide⟩ ⟨Nat.zero_le _, Nat.zero_le _⟩ hd rfl) ?_
  refine aI_c (fun hd => s_if_ne hX hd (by decide) rfl) ?_
  refine aI_c (fun hd => s_bp hX hd (by decide) rfl) ?_
  refine aI_c (fun hd => s_ri hX hr hlk hE hd) ?_
  refine aI_c (fun hd => s_al_n hX hd rfl rfl) ?_
  refine aI_c (fun hd => s_gF hX (C := RX4) (T := TX4) (N := 9) (k := 0) rfl (fun w h => up w (inlX4 w h)) (by decide) rfl rfl rfl (up _ lkX4_44) hd rfl) ?_
  refine aI_c (fun hd => s_il_n hX hd rfl rfl) ?_
  refine aI_c (fun hd => s_cV hX (T := TX0) (N := 15) (nX0_hasCase l) rfl (wg_V up lmX4_106 loX0_hasCase) rfl rfl rfl (by decide +kernel) ⟨by decide, by decide⟩ ⟨Nat.zero_le _, Nat.zero_le _⟩ hd rfl) ?_
  refine aI_c (fun hd => s_if_ne hX hd (by decide) rfl) ?_
  refine aI_c (fun hd => s_bp hX hd (by decide) rfl) ?_
  refine aI_c (fun hd => s_ri hX hr hlk hE hd) ?_
  refine aI_c (fun hd => s_al_n hX hd rfl rfl) ?_
  refine aI_c (fun hd => s_gF hX (C := RX4) (T := TX4) (N := 9) (k := 0) rfl (fun w h => up w (inlX4 w h)) (by decide) rfl rfl rfl (up _ lkX4_44) hd rfl) ?_
  refine aI_c (fun hd => s_il_n hX hd rfl rfl) ?_
  refine aI_c (fun hd => s_il_n hX hd rfl rfl) ?_
  refine aI_c (fun hd => s_cV hX (T := TX0) (N := 15) (nX0_can l) rfl (wg_V up lmX4_157 loX0_can) rfl rfl rfl (by decide +kernel) ⟨by decide, by decide⟩ ⟨Nat.zero_le _, Nat.zero_le _⟩ hd rfl) ?_
  refine aI_c (fun hd => s_if_ne hX hd (by decide) rfl) ?_
  refine aI_c (fun hd => s_bp hX hd (by decide) rfl) ?_
  refine aI_c (fun hd => s_ri hX hr hlk hE hd) ?_
  refine aI_c (fun hd => s_sp hX hd (by decide) rfl) ?_
  refine aI_c (fun hd => s_al_n hX hd rfl rfl) ?_
  refine aI_c (fun hd => s_gF hX (C := RX4) (T := TX4) (N := 9) (k := 0) rfl (fun w h => up w (inlX4 w h)) (by decide) rfl rfl rfl (up _ lkX4_44) hd rfl) ?_
  refine aI_c (fun hd => s_il_n hX hd rfl rfl) ?_
  refine aI_c (fun hd => s_il_n hX hd rfl rfl) ?_
  refine aI_c (fun hd => s_cV hX (T := TX0) (N := 15) (nX0_hold l) rfl (wg_V up lmX4_160 loX0_hold) rfl rfl rfl (by decide +kernel) ⟨by decide, by decide⟩ ⟨Nat.zero_le _, Nat.zero_le _⟩ hd rfl) ?_
  refine aI_c (fun hd => s_iadd hX hd rfl) ?_
  refine aI_c (fun hd => s_ri hX hr hlk hE hd) ?_
  exact trivial

-- JudgesByLoss.rob(II)I
def tX4_rob : aT := [
  (0, (.aload_n 0, 1), o_al 0 1),
  (1, (.getfield 44, 3), o_gF 4 1 4),
  (4, (.iload_n 1, 1), o_il 1 5),
  (5, (.invokevirtual 103, 3), o_cV CX0_hasJudge 0 1 8),
  (8, (.ifCond .ne 6, 3), o_if (fun x => ¬ x = 0) 14 11),
  (11, (.bipush (-5), 2), o_ii (-5) 13),
  (13, (.ireturn, 1), o_ri),
  (14, (.iload_n 2, 1), o_il 2 15),
  (15, (.invokestatic 113, 3), o_cS CX4_isSet 1 18),
  (18, (.ifCond .ne 6, 3), o_if (fun x => ¬ x = 0) 24 21),
  (21, (.bipush (-7), 2), o_ii (-7) 23),
  (23, (.ireturn, 1), o_ri),
  (24, (.aload_n 0, 1), o_al 0 25),
  (25, (.getfield 44, 3), o_gF 4 1 28),
  (28, (.getfield 122, 3), o_gF 0 3 31),
  (31, (.iload_n 1, 1), o_il 1 32),
  (32, (.dup2, 1), o_dup2 33),
  (33, (.iaload, 1), o_iald 34),
  (34, (.iload_n 2, 1), o_il 2 35),
  (35, (.ixor, 1), o_bi (fun x y => x ^^^ y) 36),
  (36, (.iastore, 1), o_iast 37),
  (37, (.aload_n 0, 1), o_al 0 38),
  (38, (.getfield 44, 3), o_gF 4 1 41),
  (41, (.getfield 122, 3), o_gF 0 3 44),
  (44, (.iload_n 1, 1), o_il 1 45),
  (45, (.iaload, 1), o_iald 46),
  (46, (.ireturn, 1), o_ri)]
abbrev CX4_rob : aC := aCl tX4_rob 3
def rmX4_rob : Room := { frames := 3, cells := 0, slots := 0, locals := 43 }
set_option maxRecDepth 100000 in
theorem dX4_rob : tX4_rob.all (fun q => decide (decode cX4_rob q.1 = .ok q.2.1)) = true := by decide +kernel
set_option maxRecDepth 100000 in
set_option maxHeartbeats 4000000 in
theorem nX4_rob (l : Launch) : aMt l yX4_rob (Cond.code yX4_rob cX4_rob 3 (some .int) :: wsL_law) rmX4_rob CX4_rob := by
  refine aMt.of (own := RX4) (cc := cX4_rob) (maxL := 3) (ret := (some .int)) (by decide +kernel) rfl rfl ?_
  intro p e s m args below meth c Qc D Z ad P G A E hX hr hlk hE
  have up : ∀ w ∈ wsL_law, w ∈ (Cond.code yX4_rob cX4_rob 3 (some .int) :: wsL_law) := fun w h => List.mem_cons_of_mem _ h
  refine aImp_all _ dX4_rob ?_
  unfold tX4_rob
  refine aI_c (fun hd => s_al_n hX hd rfl rfl) ?_
  refine aI_c (fun hd => s_gF hX (C := RX4) (T := TX4) (N := 9) (k := 0) rfl (fun w h => up w (inlX4 w h)) (by decide) rfl rfl rfl (up _ lkX4_44) hd rfl) ?_
  refine aI_c (fun hd => s_il_n hX hd rfl rfl) ?_
  refine aI_c (fun hd => s_cV hX (T := TX0) (N := 15) (nX0_hasJudge l) rfl (wg_V up lmX4_103 loX0_hasJudge) rfl rfl rfl (by decide +kernel) ⟨by decide, by decide⟩ ⟨Nat.zero_le _, Nat.zero_le _⟩ hd rfl) ?_
  refine aI_c (fun hd => s_if_ne hX hd (by decide) rfl) ?_
  refine aI_c (fun hd => s_bp hX hd (by decide) rfl) ?_
  refine aI_c (fun hd => s_ri hX hr hlk hE hd) ?_
  refine aI_c (fun hd => s_il_n hX hd rfl rfl) ?_
  refine aI_c (fun hd => s_cS hX (nX4_isSet l) (wg_S up lmX4_113 loX4_isSet) rfl rfl rfl (by decide +kernel) ⟨by decide, by decide⟩ ⟨Nat.zero_le _, Nat.zero_le _⟩ hd rfl) ?_
  refine aI_c (fun hd => s_if_ne hX hd (by decide) rfl) ?_
  refine aI_c (fun hd => s_bp hX hd (by decide) rfl) ?_
  refine aI_c (fun hd => s_ri hX hr hlk hE hd) ?_
  refine aI_c (fun hd => s_al_n hX hd rfl rfl) ?_
  refine aI_c (fun hd => s_gF hX (C := RX4) (T := TX4) (N := 9) (k := 0) rfl (fun w h => up w (inlX4 w h)) (by decide) rfl rfl rfl (up _ lkX4_44) hd rfl) ?_
  refine aI_c (fun hd => s_gF hX (C := RX0) (T := TX0) (N := 15) (k := 2) rfl (fun w h => up w (inlX0 w h)) (by decide) rfl rfl rfl (up _ lkX4_122) hd rfl) ?_
  refine aI_c (fun hd => s_il_n hX hd rfl rfl) ?_
  refine aI_c (fun hd => s_dup2 hX hd rfl) ?_
  refine aI_c (fun hd => s_iald hX hd rfl) ?_
  refine aI_c (fun hd => s_il_n hX hd rfl rfl) ?_
  refine aI_c (fun hd => s_ixor hX hd rfl) ?_
  refine aI_c (fun hd => s_iast hX hd rfl) ?_
  refine aI_c (fun hd => s_al_n hX hd rfl rfl) ?_
  refine aI_c (fun hd => s_gF hX (C := RX4) (T := TX4) (N := 9) (k := 0) rfl (fun w h => up w (inlX4 w h)) (by decide) rfl rfl rfl (up _ lkX4_44) hd rfl) ?_
  refine aI_c (fun hd => s_gF hX (C := RX0) (T := TX0) (N := 15) (k := 2) rfl (fun w h => up w (inlX0 w h)) (by decide) rfl rfl rfl (up _ lkX4_122) hd rfl) ?_
  refine aI_c (fun hd => s_il_n hX hd rfl rfl) ?_
  refine aI_c (fun hd => s_iald hX hd rfl) ?_
  refine aI_c (fun hd => s_ri hX hr hlk hE hd) ?_
  exact trivial

-- JudgesByLoss.day()I
def tX4_day : aT := [
  (0, (.aload_n 0, 1), o_al 0 1),
  (1, (.getfield 44, 3), o_gF 4 1 4),
  (4, (.getfield 76, 3), o_gI 0 11 7),
  (7, (.sipush 999, 3), o_ii 999 10),
  (10, (.if_icmp .lt 6, 3), o_ic (fun x y => x < y) 16 13),
  (13, (.bipush (-3), 2), o_ii (-3) 15),
  (15, (.ireturn, 1), o_ri),
  (16, (.aload_n 0, 1), o_al 0 17),
  (17, (.getfield 44, 3), o_gF 4 1 20),
  (20, (.invokevirtual 163, 3), o_cV CX0_passDay 0 0 23),
  (23, (.ireturn, 1), o_ri)]
abbrev CX4_day : aC := aCl tX4_day 1
def rmX4_day : Room := { frames := 6, cells := 0, slots := 0, locals := 143 }
set_option maxRecDepth 100000 in
theorem dX4_day : tX4_day.all (fun q => decide (decode cX4_day q.1 = .ok q.2.1)) = true := by decide +kernel
set_option maxRecDepth 100000 in
set_option maxHeartbeats 4000000 in
theorem nX4_day (l : Launch) : aMt l yX4_day (Cond.code yX4_day cX4_day 1 (some .int) :: wsL_law) rmX4_day CX4_day := by
  refine aMt.of (own := RX4) (cc := cX4_day) (maxL := 1) (ret := (some .int)) (by decide +kernel) rfl rfl ?_
  intro p e s m args below meth c Qc D Z ad P G A E hX hr hlk hE
  have up : ∀ w ∈ wsL_law, w ∈ (Cond.code yX4_day cX4_day 1 (some .int) :: wsL_law) := fun w h => List.mem_cons_of_mem _ h
  refine aImp_all _ dX4_day ?_
  unfold tX4_day
  refine aI_c (fun hd => s_al_n hX hd rfl rfl) ?_
  refine aI_c (fun hd => s_gF hX (C := RX4) (T := TX4) (N := 9) (k := 0) rfl (fun w h => up w (inlX4 w h)) (by decide) rfl rfl rfl (up _ lkX4_44) hd rfl) ?_
  refine aI_c (fun hd => s_gI hX (C := RX0) (T := TX0) (N := 15) (k := 11) rfl (fun w h => up w (inlX0 w h)) (by decide) rfl rfl rfl (up _ lkX4_76) hd rfl) ?_
  refine aI_c (fun hd => s_sp hX hd (by decide) rfl) ?_
  refine aI_c (fun hd => s_ic_lt hX hd (by decide) rfl) ?_
  refine aI_c (fun hd => s_bp hX hd (by decide) rfl) ?_
  refine aI_c (fun hd => s_ri hX hr hlk hE hd) ?_
  refine aI_c (fun hd => s_al_n hX hd rfl rfl) ?_
  refine aI_c (fun hd => s_gF hX (C := RX4) (T := TX4) (N := 9) (k := 0) rfl (fun w h => up w (inlX4 w h)) (by decide) rfl rfl rfl (up _ lkX4_44) hd rfl) ?_
  refine aI_c (fun hd => s_cV hX (T := TX0) (N := 15) (nX0_passDay l) rfl (wg_V up lmX4_163 loX0_passDay) rfl rfl rfl (by decide +kernel) ⟨by decide, by decide⟩ ⟨Nat.zero_le _, Nat.zero_le _⟩ hd rfl) ?_
  refine aI_c (fun hd => s_ri hX hr hlk hE hd) ?_
  exact trivial

-- JudgesByLoss.canRunTell(I)Z
def tX4_canRunTell : aT := [
  (0, (.iload_n 1, 1), o_il 1 1),
  (1, (.iconst 0, 1), o_ii 0 2),
  (2, (.iconst 2, 1), o_ii 2 3),
  (3, (.invokestatic 79, 3), o_cS CX4_within 3 6),
  (6, (.ifCond .ne 45, 3), o_if (fun x => ¬ x = 0) 51 9),
  (9, (.iload_n 1, 1), o_il 1 10),
  (10, (.bipush 10, 2), o_ii 10 12),
  (12, (.bipush 10, 2), o_ii 10 14),
  (14, (.aload_n 0, 1), o_al 0 15),
  (15, (.getfield 44, 3), o_gF 4 1 18),
  (18, (.getfield 55, 3), o_gI 0 9 21),
  (21, (.iadd, 1), o_bi (fun x y => x + y) 22),
  (22, (.iconst 1, 1), o_ii 1 23),
  (23, (.isub, 1), o_bi (fun x y => x - y) 24),
  (24, (.invokestatic 79, 3), o_cS CX4_within 3 27),
  (27, (.ifCond .ne 24, 3), o_if (fun x => ¬ x = 0) 51 30),
  (30, (.iload_n 1, 1), o_il 1 31),
  (31, (.bipush 20, 2), o_ii 20 33),
  (33, (.bipush 20, 2), o_ii 20 35),
  (35, (.aload_n 0, 1), o_al 0 36),
  (36, (.getfield 44, 3), o_gF 4 1 39),
  (39, (.getfield 55, 3), o_gI 0 9 42),
  (42, (.iadd, 1), o_bi (fun x y => x + y) 43),
  (43, (.iconst 1, 1), o_ii 1 44),
  (44, (.isub, 1), o_bi (fun x y => x - y) 45),
  (45, (.invokestatic 79, 3), o_cS CX4_within 3 48),
  (48, (.ifCond .eq 7, 3), o_if (fun x => x = 0) 55 51),
  (51, (.iconst 1, 1), o_ii 1 52),
  (52, (.goto 4, 3), o_go 56),
  (55, (.iconst 0, 1), o_ii 0 56),
  (56, (.ireturn, 1), o_rz)]
abbrev CX4_canRunTell : aC := aCl tX4_canRunTell 2
def rmX4_canRunTell : Room := { frames := 2, cells := 0, slots := 0, locals := 23 }
set_option maxRecDepth 100000 in
theorem dX4_canRunTell : tX4_canRunTell.all (fun q => decide (decode cX4_canRunTell q.1 = .ok q.2.1)) = true := by decide +kernel
set_option maxRecDepth 100000 in
set_option maxHeartbeats 4000000 in
theorem nX4_canRunTell (l : Launch) : aMt l yX4_canRunTell (Cond.code yX4_canRunTell cX4_canRunTell 2 (some .boolean) :: wsL_law) rmX4_canRunTell CX4_canRunTell := by
  refine aMt.of (own := RX4) (cc := cX4_canRunTell) (maxL := 2) (ret := (some .boolean)) (by decide +kernel) rfl rfl ?_
  intro p e s m args below meth c Qc D Z ad P G A E hX hr hlk hE
  have up : ∀ w ∈ wsL_law, w ∈ (Cond.code yX4_canRunTell cX4_canRunTell 2 (some .boolean) :: wsL_law) := fun w h => List.mem_cons_of_mem _ h
  refine aImp_all _ dX4_canRunTell ?_
  unfold tX4_canRunTell
  refine aI_c (fun hd => s_il_n hX hd rfl rfl) ?_
  refine aI_c (fun hd => s_ii hX hd (by decide) rfl) ?_
  refine aI_c (fun hd => s_ii hX hd (by decide) rfl) ?_
  refine aI_c (fun hd => s_cS hX (nX4_within l) (wg_S up lmX4_79 loX4_within) rfl rfl rfl (by decide +kernel) ⟨by decide, by decide⟩ ⟨Nat.zero_le _, Nat.zero_le _⟩ hd rfl) ?_
  refine aI_c (fun hd => s_if_ne hX hd (by decide) rfl) ?_
  refine aI_c (fun hd => s_il_n hX hd rfl rfl) ?_
  refine aI_c (fun hd => s_bp hX hd (by decide) rfl) ?_
  refine aI_c (fun hd => s_bp hX hd (by decide) rfl) ?_
  refine aI_c (fun hd => s_al_n hX hd rfl rfl) ?_
  refine aI_c (fun hd => s_gF hX (C := RX4) (T := TX4) (N := 9) (k := 0) rfl (fun w h => up w (inlX4 w h)) (by decide) rfl rfl rfl (up _ lkX4_44) hd rfl) ?_
  refine aI_c (fun hd => s_gI hX (C := RX0) (T := TX0) (N := 15) (k := 9) rfl (fun w h => up w (inlX0 w h)) (by decide) rfl rfl rfl (up _ lkX4_55) hd rfl) ?_
  refine aI_c (fun hd => s_iadd hX hd rfl) ?_
  refine aI_c (fun hd => s_ii hX hd (by decide) rfl) ?_
  refine aI_c (fun hd => s_isub hX hd rfl) ?_
  refine aI_c (fun hd => s_cS hX (nX4_within l) (wg_S up lmX4_79 loX4_within) rfl rfl rfl (by decide +kernel) ⟨by decide, by decide⟩ ⟨Nat.zero_le _, Nat.zero_le _⟩ hd rfl) ?_
  refine aI_c (fun hd => s_if_ne hX hd (by decide) rfl) ?_
  refine aI_c (fun hd => s_il_n hX hd rfl rfl) ?_
  refine aI_c (fun hd => s_bp hX hd (by decide) rfl) ?_
  refine aI_c (fun hd => s_bp hX hd (by decide) rfl) ?_
  refine aI_c (fun hd => s_al_n hX hd rfl rfl) ?_
  refine aI_c (fun hd => s_gF hX (C := RX4) (T := TX4) (N := 9) (k := 0) rfl (fun w h => up w (inlX4 w h)) (by decide) rfl rfl rfl (up _ lkX4_44) hd rfl) ?_
  refine aI_c (fun hd => s_gI hX (C := RX0) (T := TX0) (N := 15) (k := 9) rfl (fun w h => up w (inlX0 w h)) (by decide) rfl rfl rfl (up _ lkX4_55) hd rfl) ?_
  refine aI_c (fun hd => s_iadd hX hd rfl) ?_
  refine aI_c (fun hd => s_ii hX hd (by decide) rfl) ?_
  refine aI_c (fun hd => s_isub hX hd rfl) ?_
  refine aI_c (fun hd => s_cS hX (nX4_within l) (wg_S up lmX4_79 loX4_within) rfl rfl rfl (by decide +kernel) ⟨by decide, by decide⟩ ⟨Nat.zero_le _, Nat.zero_le _⟩ hd rfl) ?_
  refine aI_c (fun hd => s_if_eq hX hd (by decide) rfl) ?_
  refine aI_c (fun hd => s_ii hX hd (by decide) rfl) ?_
  refine aI_c (fun hd => s_go hX hd (by decide)) ?_
  refine aI_c (fun hd => s_ii hX hd (by decide) rfl) ?_
  refine aI_c (fun hd => s_rz hX hr hlk hE hd) ?_
  exact trivial

-- JudgesByLoss.think()V
def tX4_think : aT := [
  (0, (.aload_n 0, 1), o_al 0 1),
  (1, (.getfield 48, 3), o_gF 4 11 4),
  (4, (.aload_n 0, 1), o_al 0 5),
  (5, (.getfield 44, 3), o_gF 4 1 8),
  (8, (.invokevirtual 212, 3), o_cV CX0_become 0 1 11),
  (11, (.return_, 1), o_rv)]
abbrev CX4_think : aC := aCl tX4_think 1
def rmX4_think : Room := { frames := 2, cells := 0, slots := 0, locals := 81 }
set_option maxRecDepth 100000 in
theorem dX4_think : tX4_think.all (fun q => decide (decode cX4_think q.1 = .ok q.2.1)) = true := by decide +kernel
set_option maxRecDepth 100000 in
set_option maxHeartbeats 4000000 in
theorem nX4_think (l : Launch) : aMt l yX4_think (Cond.code yX4_think cX4_think 1 none :: wsL_law) rmX4_think CX4_think := by
  refine aMt.of (own := RX4) (cc := cX4_think) (maxL := 1) (ret := none) (by decide +kernel) rfl rfl ?_
  intro p e s m args below meth c Qc D Z ad P G A E hX hr hlk hE
  have up : ∀ w ∈ wsL_law, w ∈ (Cond.code yX4_think cX4_think 1 none :: wsL_law) := fun w h => List.mem_cons_of_mem _ h
  refine aImp_all _ dX4_think ?_
  unfold tX4_think
  refine aI_c (fun hd => s_al_n hX hd rfl rfl) ?_
  refine aI_c (fun hd => s_gF hX (C := RX4) (T := TX4) (N := 9) (k := 1) rfl (fun w h => up w (inlX4 w h)) (by decide) rfl rfl rfl (up _ lkX4_48) hd rfl) ?_
  refine aI_c (fun hd => s_al_n hX hd rfl rfl) ?_
  refine aI_c (fun hd => s_gF hX (C := RX4) (T := TX4) (N := 9) (k := 0) rfl (fun w h => up w (inlX4 w h)) (by decide) rfl rfl rfl (up _ lkX4_44) hd rfl) ?_
  refine aI_c (fun hd => s_cV hX (T := TX0) (N := 15) (nX0_become l) rfl (wg_V up lmX4_212 loX0_become) rfl rfl rfl (by decide +kernel) ⟨by decide, by decide⟩ ⟨Nat.zero_le _, Nat.zero_le _⟩ hd rfl) ?_
  refine aI_c (fun hd => s_rv hX hr hlk hE hd) ?_
  exact trivial

-- JudgesByLoss.heardInThought(I)I
def tX4_heardInThought : aT := [
  (0, (.iconst 0, 1), o_ii 0 1),
  (1, (.istore_n 2, 1), o_is 2 2),
  (2, (.iconst 0, 1), o_ii 0 3),
  (3, (.istore_n 3, 1), o_is 3 4),
  (4, (.iload_n 3, 1), o_il 3 5),
  (5, (.iload_n 1, 1), o_il 1 6),
  (6, (.if_icmp .ge 32, 3), o_ic (fun x y => y ≤ x) 38 9),
  (9, (.aload_n 0, 1), o_al 0 10),
  (10, (.getfield 48, 3), o_gF 4 11 13),
  (13, (.getfield 58, 3), o_gI 0 10 16),
  (16, (.ifCond .eq 22, 3), o_if (fun x => x = 0) 38 19),
  (19, (.iload_n 2, 1), o_il 2 20),
  (20, (.aload_n 0, 1), o_al 0 21),
  (21, (.getfield 48, 3), o_gF 4 11 24),
  (24, (.invokevirtual 163, 3), o_cV CX0_passDay 0 0 27),
  (27, (.invokestatic 61, 3), o_cS CJ6_bitCount_0f7a4 1 30),
  (30, (.iadd, 1), o_bi (fun x y => x + y) 31),
  (31, (.istore_n 2, 1), o_is 2 32),
  (32, (.iinc 3 1, 3), o_inc 3 1 35),
  (35, (.goto (-31), 3), o_go 4),
  (38, (.iload_n 2, 1), o_il 2 39),
  (39, (.ireturn, 1), o_ri)]
abbrev CX4_heardInThought : aC := aCl tX4_heardInThought 4
def rmX4_heardInThought : Room := { frames := 6, cells := 0, slots := 0, locals := 143 }
set_option maxRecDepth 100000 in
theorem dX4_heardInThought : tX4_heardInThought.all (fun q => decide (decode cX4_heardInThought q.1 = .ok q.2.1)) = true := by decide +kernel
set_option maxRecDepth 100000 in
set_option maxHeartbeats 4000000 in
theorem nX4_heardInThought (l : Launch) : aMt l yX4_heardInThought (Cond.code yX4_heardInThought cX4_heardInThought 4 (some .int) :: wsL_law) rmX4_heardInThought CX4_heardInThought := by
  refine aMt.of (own := RX4) (cc := cX4_heardInThought) (maxL := 4) (ret := (some .int)) (by decide +kernel) rfl rfl ?_
  intro p e s m args below meth c Qc D Z ad P G A E hX hr hlk hE
  have up : ∀ w ∈ wsL_law, w ∈ (Cond.code yX4_heardInThought cX4_heardInThought 4 (some .int) :: wsL_law) := fun w h => List.mem_cons_of_mem _ h
  refine aImp_all _ dX4_heardInThought ?_
  unfold tX4_heardInThought
  refine aI_c (fun hd => s_ii hX hd (by decide) rfl) ?_
  refine aI_c (fun hd => s_is_n hX hd rfl rfl (by decide)) ?_
  refine aI_c (fun hd => s_ii hX hd (by decide) rfl) ?_
  refine aI_c (fun hd => s_is_n hX hd rfl rfl (by decide)) ?_
  refine aI_c (fun hd => s_il_n hX hd rfl rfl) ?_
  refine aI_c (fun hd => s_il_n hX hd rfl rfl) ?_
  refine aI_c (fun hd => s_ic_ge hX hd (by decide) rfl) ?_
  refine aI_c (fun hd => s_al_n hX hd rfl rfl) ?_
  refine aI_c (fun hd => s_gF hX (C := RX4) (T := TX4) (N := 9) (k := 1) rfl (fun w h => up w (inlX4 w h)) (by decide) rfl rfl rfl (up _ lkX4_48) hd rfl) ?_
  refine aI_c (fun hd => s_gI hX (C := RX0) (T := TX0) (N := 15) (k := 10) rfl (fun w h => up w (inlX0 w h)) (by decide) rfl rfl rfl (up _ lkX4_58) hd rfl) ?_
  refine aI_c (fun hd => s_if_eq hX hd (by decide) rfl) ?_
  refine aI_c (fun hd => s_il_n hX hd rfl rfl) ?_
  refine aI_c (fun hd => s_al_n hX hd rfl rfl) ?_
  refine aI_c (fun hd => s_gF hX (C := RX4) (T := TX4) (N := 9) (k := 1) rfl (fun w h => up w (inlX4 w h)) (by decide) rfl rfl rfl (up _ lkX4_48) hd rfl) ?_
  refine aI_c (fun hd => s_cV hX (T := TX0) (N := 15) (nX0_passDay l) rfl (wg_V up lmX4_163 loX0_passDay) rfl rfl rfl (by decide +kernel) ⟨by decide, by decide⟩ ⟨Nat.zero_le _, Nat.zero_le _⟩ hd rfl) ?_
  refine aI_c (fun hd => s_cS hX (nJ6_bitCount_0f7a4 l) (wg_S up lmX4_61 loJ6_bitCount_0f7a4) rfl rfl rfl (by decide +kernel) ⟨by decide, by decide⟩ ⟨Nat.zero_le _, Nat.zero_le _⟩ hd rfl) ?_
  refine aI_c (fun hd => s_iadd hX hd rfl) ?_
  refine aI_c (fun hd => s_is_n hX hd rfl rfl (by decide)) ?_
  refine aI_c (fun hd => s_inc hX hd (by decide) rfl (by decide)) ?_
  refine aI_c (fun hd => s_go hX hd (by decide)) ?_
  refine aI_c (fun hd => s_il_n hX hd rfl rfl) ?_
  refine aI_c (fun hd => s_ri hX hr hlk hE hd) ?_
  exact trivial

-- JudgesByLoss.run(II)I
def tX4_run : aT := [
  (0, (.iload_n 1, 1), o_il 1 1),
  (1, (.iconst 0, 1), o_ii 0 2),
  (2, (.bipush 40, 2), o_ii 40 4),
  (4, (.invokestatic 79, 3), o_cS CX4_within 3 7),
  (7, (.ifCond .eq 11, 3), o_if (fun x => x = 0) 18 10),
  (10, (.aload_n 0, 1), o_al 0 11),
  (11, (.iload_n 2, 1), o_il 2 12),
  (12, (.invokevirtual 166, 3), o_cV CX4_canRunTell 4 1 15),
  (15, (.ifCond .ne 6, 3), o_if (fun x => ¬ x = 0) 21 18),
  (18, (.bipush (-2), 2), o_ii (-2) 20),
  (20, (.ireturn, 1), o_ri),
  (21, (.aload_n 0, 1), o_al 0 22),
  (22, (.invokevirtual 169, 3), o_cV CX4_think 4 0 25),
  (25, (.aload_n 0, 1), o_al 0 26),
  (26, (.iload_n 1, 1), o_il 1 27),
  (27, (.invokevirtual 172, 3), o_cV CX4_heardInThought 4 1 30),
  (30, (.istore_n 3, 1), o_is 3 31),
  (31, (.iload_n 2, 1), o_il 2 32),
  (32, (.bipush 20, 2), o_ii 20 34),
  (34, (.if_icmp .lt 16, 3), o_ic (fun x y => x < y) 50 37),
  (37, (.aload_n 0, 1), o_al 0 38),
  (38, (.getfield 48, 3), o_gF 4 11 41),
  (41, (.getfield 122, 3), o_gF 0 3 44),
  (44, (.iload_n 2, 1), o_il 2 45),
  (45, (.bipush 20, 2), o_ii 20 47),
  (47, (.isub, 1), o_bi (fun x y => x - y) 48),
  (48, (.iaload, 1), o_iald 49),
  (49, (.ireturn, 1), o_ri),
  (50, (.iload_n 2, 1), o_il 2 51),
  (51, (.bipush 10, 2), o_ii 10 53),
  (53, (.if_icmp .lt 16, 3), o_ic (fun x y => x < y) 69 56),
  (56, (.aload_n 0, 1), o_al 0 57),
  (57, (.getfield 48, 3), o_gF 4 11 60),
  (60, (.getfield 125, 3), o_gF 0 4 63),
  (63, (.iload_n 2, 1), o_il 2 64),
  (64, (.bipush 10, 2), o_ii 10 66),
  (66, (.isub, 1), o_bi (fun x y => x - y) 67),
  (67, (.iaload, 1), o_iald 68),
  (68, (.ireturn, 1), o_ri),
  (69, (.iload_n 2, 1), o_il 2 70),
  (70, (.ifCond .ne 13, 3), o_if (fun x => ¬ x = 0) 83 73),
  (73, (.aload_n 0, 1), o_al 0 74),
  (74, (.getfield 48, 3), o_gF 4 11 77),
  (77, (.getfield 58, 3), o_gI 0 10 80),
  (80, (.goto 19, 3), o_go 99),
  (83, (.iload_n 2, 1), o_il 2 84),
  (84, (.iconst 1, 1), o_ii 1 85),
  (85, (.if_icmp .ne 7, 3), o_ic (fun x y => ¬ x = y) 92 88),
  (88, (.iload_n 3, 1), o_il 3 89),
  (89, (.goto 10, 3), o_go 99),
  (92, (.aload_n 0, 1), o_al 0 93),
  (93, (.getfield 48, 3), o_gF 4 11 96),
  (96, (.invokevirtual 175, 3), o_cV CX0_allWaited 0 0 99),
  (99, (.ireturn, 1), o_ri)]
abbrev CX4_run : aC := aCl tX4_run 4
def rmX4_run : Room := { frames := 7, cells := 0, slots := 0, locals := 166 }
set_option maxRecDepth 100000 in
theorem dX4_run : tX4_run.all (fun q => decide (decode cX4_run q.1 = .ok q.2.1)) = true := by decide +kernel
set_option maxRecDepth 100000 in
set_option maxHeartbeats 4000000 in
theorem nX4_run (l : Launch) : aMt l yX4_run (Cond.code yX4_run cX4_run 4 (some .int) :: wsL_law) rmX4_run CX4_run := by
  refine aMt.of (own := RX4) (cc := cX4_run) (maxL := 4) (ret := (some .int)) (by decide +kernel) rfl rfl ?_
  intro p e s m args below meth c Qc D Z ad P G A E hX hr hlk hE
  have up : ∀ w ∈ wsL_law, w ∈ (Cond.code yX4_run cX4_run 4 (some .int) :: wsL_law) := fun w h => List.mem_cons_of_mem _ h
  refine aImp_all _ dX4_run ?_
  unfold tX4_run
  refine aI_c (fun hd => s_il_n hX hd rfl rfl) ?_
  refine aI_c (fun hd => s_ii hX hd (by decide) rfl) ?_
  refine aI_c (fun hd => s_bp hX hd (by decide) rfl) ?_
  refine aI_c (fun hd => s_cS hX (nX4_within l) (wg_S up lmX4_79 loX4_within) rfl rfl rfl (by decide +kernel) ⟨by decide, by decide⟩ ⟨Nat.zero_le _, Nat.zero_le _⟩ hd rfl) ?_
  refine aI_c (fun hd => s_if_eq hX hd (by decide) rfl) ?_
  refine aI_c (fun hd => s_al_n hX hd rfl rfl) ?_
  refine aI_c (fun hd => s_il_n hX hd rfl rfl) ?_
  refine aI_c (fun hd => s_cV hX (T := TX4) (N := 9) (nX4_canRunTell l) rfl (wg_V up lmX4_166 loX4_canRunTell) rfl rfl rfl (by decide +kernel) ⟨by decide, by decide⟩ ⟨Nat.zero_le _, Nat.zero_le _⟩ hd rfl) ?_
  refine aI_c (fun hd => s_if_ne hX hd (by decide) rfl) ?_
  refine aI_c (fun hd => s_bp hX hd (by decide) rfl) ?_
  refine aI_c (fun hd => s_ri hX hr hlk hE hd) ?_
  refine aI_c (fun hd => s_al_n hX hd rfl rfl) ?_
  refine aI_c (fun hd => s_cV hX (T := TX4) (N := 9) (nX4_think l) rfl (wg_V up lmX4_169 loX4_think) rfl rfl rfl (by decide +kernel) ⟨by decide, by decide⟩ ⟨Nat.zero_le _, Nat.zero_le _⟩ hd rfl) ?_
  refine aI_c (fun hd => s_al_n hX hd rfl rfl) ?_
  refine aI_c (fun hd => s_il_n hX hd rfl rfl) ?_
  refine aI_c (fun hd => s_cV hX (T := TX4) (N := 9) (nX4_heardInThought l) rfl (wg_V up lmX4_172 loX4_heardInThought) rfl rfl rfl (by decide +kernel) ⟨by decide, by decide⟩ ⟨Nat.zero_le _, Nat.zero_le _⟩ hd rfl) ?_
  refine aI_c (fun hd => s_is_n hX hd rfl rfl (by decide)) ?_
  refine aI_c (fun hd => s_il_n hX hd rfl rfl) ?_
  refine aI_c (fun hd => s_bp hX hd (by decide) rfl) ?_
  refine aI_c (fun hd => s_ic_lt hX hd (by decide) rfl) ?_
  refine aI_c (fun hd => s_al_n hX hd rfl rfl) ?_
  refine aI_c (fun hd => s_gF hX (C := RX4) (T := TX4) (N := 9) (k := 1) rfl (fun w h => up w (inlX4 w h)) (by decide) rfl rfl rfl (up _ lkX4_48) hd rfl) ?_
  refine aI_c (fun hd => s_gF hX (C := RX0) (T := TX0) (N := 15) (k := 2) rfl (fun w h => up w (inlX0 w h)) (by decide) rfl rfl rfl (up _ lkX4_122) hd rfl) ?_
  refine aI_c (fun hd => s_il_n hX hd rfl rfl) ?_
  refine aI_c (fun hd => s_bp hX hd (by decide) rfl) ?_
  refine aI_c (fun hd => s_isub hX hd rfl) ?_
  refine aI_c (fun hd => s_iald hX hd rfl) ?_
  refine aI_c (fun hd => s_ri hX hr hlk hE hd) ?_
  refine aI_c (fun hd => s_il_n hX hd rfl rfl) ?_
  refine aI_c (fun hd => s_bp hX hd (by decide) rfl) ?_
  refine aI_c (fun hd => s_ic_lt hX hd (by decide) rfl) ?_
  refine aI_c (fun hd => s_al_n hX hd rfl rfl) ?_
  refine aI_c (fun hd => s_gF hX (C := RX4) (T := TX4) (N := 9) (k := 1) rfl (fun w h => up w (inlX4 w h)) (by decide) rfl rfl rfl (up _ lkX4_48) hd rfl) ?_
  refine aI_c (fun hd => s_gF hX (C := RX0) (T := TX0) (N := 15) (k := 3) rfl (fun w h => up w (inlX0 w h)) (by decide) rfl rfl rfl (up _ lkX4_125) hd rfl) ?_
  refine aI_c (fun hd => s_il_n hX hd rfl rfl) ?_
  refine aI_c (fun hd => s_bp hX hd (by decide) rfl) ?_
  refine aI_c (fun hd => s_isub hX hd rfl) ?_
  refine aI_c (fun hd => s_iald hX hd rfl) ?_
  refine aI_c (fun hd => s_ri hX hr hlk hE hd) ?_
  refine aI_c (fun hd => s_il_n hX hd rfl rfl) ?_
  refine aI_c (fun hd => s_if_ne hX hd (by decide) rfl) ?_
  refine aI_c (fun hd => s_al_n hX hd rfl rfl) ?_
  refine aI_c (fun hd => s_gF hX (C := RX4) (T := TX4) (N := 9) (k := 1) rfl (fun w h => up w (inlX4 w h)) (by decide) rfl rfl rfl (up _ lkX4_48) hd rfl) ?_
  refine aI_c (fun hd => s_gI hX (C := RX0) (T := TX0) (N := 15) (k := 10) rfl (fun w h => up w (inlX0 w h)) (by decide) rfl rfl rfl (up _ lkX4_58) hd rfl) ?_
  refine aI_c (fun hd => s_go hX hd (by decide)) ?_
  refine aI_c (fun hd => s_il_n hX hd rfl rfl) ?_
  refine aI_c (fun hd => s_ii hX hd (by decide) rfl) ?_
  refine aI_c (fun hd => s_ic_ne hX hd (by decide) rfl) ?_
  refine aI_c (fun hd => s_il_n hX hd rfl rfl) ?_
  refine aI_c (fun hd => s_go hX hd (by decide)) ?_
  refine aI_c (fun hd => s_al_n hX hd rfl rfl) ?_
  refine aI_c (fun hd => s_gF hX (C := RX4) (T := TX4) (N := 9) (k := 1) rfl (fun w h => up w (inlX4 w h)) (by decide) rfl rfl rfl (up _ lkX4_48) hd rfl) ?_
  refine aI_c (fun hd => s_cV hX (T := TX0) (N := 15) (nX0_allWaited l) rfl (wg_V up lmX4_175 loX0_allWaited) rfl rfl rfl (by decide +kernel) ⟨by decide, by decide⟩ ⟨Nat.zero_le _, Nat.zero_le _⟩ hd rfl) ?_
  refine aI_c (fun hd => s_ri hX hr hlk hE hd) ?_
  exact trivial

-- JudgesByLoss.when(I)I
def tX4_when : aT := [
  (0, (.iload_n 1, 1), o_il 1 1),
  (1, (.iconst 0, 1), o_ii 0 2),
  (2, (.bipush 8, 2), o_ii 8 4),
  (4, (.invokestatic 79, 3), o_cS CX4_within 3 7),
  (7, (.ifCond .ne 6, 3), o_if (fun x => ¬ x = 0) 13 10),
  (10, (.bipush (-7), 2), o_ii (-7) 12),
  (12, (.ireturn, 1), o_ri),
  (13, (.iload_n 1, 1), o_il 1 14),
  (14, (.bipush 8, 2), o_ii 8 16),
  (16, (.if_icmp .ge 17, 3), o_ic (fun x y => y ≤ x) 33 19),
  (19, (.aload_n 0, 1), o_al 0 20),
  (20, (.getfield 44, 3), o_gF 4 1 23),
  (23, (.iload_n 1, 1), o_il 1 24),
  (24, (.invokevirtual 106, 3), o_cV CX0_hasCase 0 1 27),
  (27, (.ifCond .ne 6, 3), o_if (fun x => ¬ x = 0) 33 30),
  (30, (.bipush (-6), 2), o_ii (-6) 32),
  (32, (.ireturn, 1), o_ri),
  (33, (.iload_n 1, 1), o_il 1 34),
  (34, (.bipush 8, 2), o_ii 8 36),
  (36, (.if_icmp .ge 9, 3), o_ic (fun x y => y ≤ x) 45 39),
  (39, (.iconst 1, 1), o_ii 1 40),
  (40, (.iload_n 1, 1), o_il 1 41),
  (41, (.ishl, 1), o_bi (fun x y => x <<< (y &&& 31)) 42),
  (42, (.goto 6, 3), o_go 48),
  (45, (.sipush 255, 3), o_ii 255 48),
  (48, (.istore_n 2, 1), o_is 2 49),
  (49, (.aload_n 0, 1), o_al 0 50),
  (50, (.invokevirtual 169, 3), o_cV CX4_think 4 0 53),
  (53, (.iconst 0, 1), o_ii 0 54),
  (54, (.istore_n 3, 1), o_is 3 55),
  (55, (.iload_n 3, 1), o_mk [false, true, false, false] (o_il 3 56)),
  (56, (.bipush 60, 2), o_ii 60 58),
  (58, (.if_icmp .gt 31, 3), o_ic (fun x y => y < x) 89 61),
  (61, (.aload_n 0, 1), o_al 0 62),
  (62, (.getfield 48, 3), o_gF 4 11 65),
  (65, (.getfield 58, 3), o_gI 0 10 68),
  (68, (.iload_n 2, 1), o_il 2 69),
  (69, (.iand, 1), o_bi (fun x y => x &&& y) 70),
  (70, (.ifCond .ne 5, 3), o_if (fun x => ¬ x = 0) 75 73),
  (73, (.iload_n 3, 1), o_il 3 74),
  (74, (.ireturn, 1), o_ri),
  (75, (.aload_n 0, 1), o_al 0 76),
  (76, (.getfield 48, 3), o_gF 4 11 79),
  (79, (.invokevirtual 163, 3), o_cV CX0_passDay 0 0 82),
  (82, (.pop, 1), o_pop 83),
  (83, (.iinc 3 1, 3), o_inc 3 1 86),
  (86, (.goto (-31), 3), o_go 55),
  (89, (.iconst (-1), 1), o_ii (-1) 90),
  (90, (.ireturn, 1), o_ri)]
abbrev CX4_when : aC := aCl tX4_when 4
def rmX4_when : Room := { frames := 6, cells := 0, slots := 0, locals := 143 }
set_option maxRecDepth 100000 in
theorem dX4_when : tX4_when.all (fun q => decide (decode cX4_when q.1 = .ok q.2.1)) = true := by decide +kernel
set_option maxRecDepth 100000 in
set_option maxHeartbeats 4000000 in
theorem nX4_when (l : Launch) : aMt l yX4_when (Cond.code yX4_when cX4_when 4 (some .int) :: wsL_law) rmX4_when CX4_when := by
  refine aMt.of (own := RX4) (cc := cX4_when) (maxL := 4) (ret := (some .int)) (by decide +kernel) rfl rfl ?_
  intro p e s m args below meth c Qc D Z ad P G A E hX hr hlk hE
  have up : ∀ w ∈ wsL_law, w ∈ (Cond.code yX4_when cX4_when 4 (some .int) :: wsL_law) := fun w h => List.mem_cons_of_mem _ h
  refine aImp_all _ dX4_when ?_
  unfold tX4_when
  refine aI_c (fun hd => s_il_n hX hd rfl rfl) ?_
  refine aI_c (fun hd => s_ii hX hd (by decide) rfl) ?_
  refine aI_c (fun hd => s_bp hX hd (by decide) rfl) ?_
  refine aI_c (fun hd => s_cS hX (nX4_within l) (wg_S up lmX4_79 loX4_within) rfl rfl rfl (by decide +kernel) ⟨by decide, by decide⟩ ⟨Nat.zero_le _, Nat.zero_le _⟩ hd rfl) ?_
  refine aI_c (fun hd => s_if_ne hX hd (by decide) rfl) ?_
  refine aI_c (fun hd => s_bp hX hd (by decide) rfl) ?_
  refine aI_c (fun hd => s_ri hX hr hlk hE hd) ?_
  refine aI_c (fun hd => s_il_n hX hd rfl rfl) ?_
  refine aI_c (fun hd => s_bp hX hd (by decide) rfl) ?_
  refine aI_c (fun hd => s_ic_ge hX hd (by decide) rfl) ?_
  refine aI_c (fun hd => s_al_n hX hd rfl rfl) ?_
  refine aI_c (fun hd => s_gF hX (C := RX4) (T := TX4) (N := 9) (k := 0) rfl (fun w h => up w (inlX4 w h)) (by decide) rfl rfl rfl (up _ lkX4_44) hd rfl) ?_
  refine aI_c (fun hd => s_il_n hX hd rfl rfl) ?_
  refine aI_c (fun hd => s_cV hX (T := TX0) (N := 15) (nX0_hasCase l) rfl (wg_V up lmX4_106 loX0_hasCase) rfl rfl rfl (by decide +kernel) ⟨by decide, by decide⟩ ⟨Nat.zero_le _, Nat.zero_le _⟩ hd rfl) ?_
  refine aI_c (fun hd => s_if_ne hX hd (by decide) rfl) ?_
  refine aI_c (fun hd => s_bp hX hd (by decide) rfl) ?_
  refine aI_c (fun hd => s_ri hX hr hlk hE hd) ?_
  refine aI_c (fun hd => s_il_n hX hd rfl rfl) ?_
  refine aI_c (fun hd => s_bp hX hd (by decide) rfl) ?_
  refine aI_c (fun hd => s_ic_ge hX hd (by decide) rfl) ?_
  refine aI_c (fun hd => s_ii hX hd (by decide) rfl) ?_
  refine aI_c (fun hd => s_il_n hX hd rfl rfl) ?_
  refine aI_c (fun hd => s_ishl hX hd rfl) ?_
  refine aI_c (fun hd => s_go hX hd (by decide)) ?_
  refine aI_c (fun hd => s_sp hX hd (by decide) rfl) ?_
  refine aI_c (fun hd => s_is_n hX hd rfl rfl (by decide)) ?_
  refine aI_c (fun hd => s_al_n hX hd rfl rfl) ?_
  refine aI_c (fun hd => s_cV hX (T := TX4) (N := 9) (nX4_think l) rfl (wg_V up lmX4_169 loX4_think) rfl rfl rfl (by decide +kernel) ⟨by decide, by decide⟩ ⟨Nat.zero_le _, Nat.zero_le _⟩ hd rfl) ?_
  refine aI_c (fun hd => s_ii hX hd (by decide) rfl) ?_
  refine aI_c (fun hd => s_is_n hX hd rfl rfl (by decide)) ?_
  refine aI_c (fun hd => s_mk (s_il_n hX hd rfl rfl)) ?_
  refine aI_c (fun hd => s_bp hX hd (by decide) rfl) ?_
  refine aI_c (fun hd => s_ic_gt hX hd (by decide) rfl) ?_
  refine aI_c (fun hd => s_al_n hX hd rfl rfl) ?_
  refine aI_c (fun hd => s_gF hX (C := RX4) (T := TX4) (N := 9) (k := 1) rfl (fun w h => up w (inlX4 w h)) (by decide) rfl rfl rfl (up _ lkX4_48) hd rfl) ?_
  refine aI_c (fun hd => s_gI hX (C := RX0) (T := TX0) (N := 15) (k := 10) rfl (fun w h => up w (inlX0 w h)) (by decide) rfl rfl rfl (up _ lkX4_58) hd rfl) ?_
  refine aI_c (fun hd => s_il_n hX hd rfl rfl) ?_
  refine aI_c (fun hd => s_iand hX hd rfl) ?_
  refine aI_c (fun hd => s_if_ne hX hd (by decide) rfl) ?_
  refine aI_c (fun hd => s_il_n hX hd rfl rfl) ?_
  refine aI_c (fun hd => s_ri hX hr hlk hE hd) ?_
  refine aI_c (fun hd => s_al_n hX hd rfl rfl) ?_
  refine aI_c (fun hd => s_gF hX (C := RX4) (T := TX4) (N := 9) (k := 1) rfl (fun w h => up w (inlX4 w h)) (by decide) rfl rfl rfl (up _ lkX4_48) hd rfl) ?_
  refine aI_c (fun hd => s_cV hX (T := TX0) (N := 15) (nX0_passDay l) rfl (wg_V up lmX4_163 loX0_passDay) rfl rfl rfl (by decide +kernel) ⟨by decide, by decide⟩ ⟨Nat.zero_le _, Nat.zero_le _⟩ hd rfl) ?_
  refine aI_c (fun hd => s_pop hX hd rfl) ?_
  refine aI_c (fun hd => s_inc hX hd (by decide) rfl (by decide)) ?_
  refine aI_c (fun hd => s_go hX hd (by decide)) ?_
  refine aI_c (fun hd => s_ii hX hd (by decide) rfl) ?_
  refine aI_c (fun hd => s_ri hX hr hlk hE hd) ?_
  exact trivial

-- JudgesByLoss.mostBehind(II)I
def tX4_mostBehind : aT := [
  (0, (.aload_n 0, 1), o_al 0 1),
  (1, (.getfield 32, 3), o_gF 4 39 4),
  (4, (.iload_n 1, 1), o_il 1 5),
  (5, (.iconst 1, 1), o_ii 1 6),
  (6, (.iadd, 1), o_bi (fun x y => x + y) 7),
  (7, (.bipush 6, 2), o_ii 6 9),
  (9, (.ishl, 1), o_bi (fun x y => x <<< (y &&& 31)) 10),
  (10, (.iload_n 2, 1), o_il 2 11),
  (11, (.iadd, 1), o_bi (fun x y => x + y) 12),
  (12, (.iaload, 1), o_iald 13),
  (13, (.ireturn, 1), o_ri)]
abbrev CX4_mostBehind : aC := aCl tX4_mostBehind 3
def rmX4_mostBehind : Room := { frames := 1, cells := 0, slots := 0, locals := 1 }
set_option maxRecDepth 100000 in
theorem dX4_mostBehind : tX4_mostBehind.all (fun q => decide (decode cX4_mostBehind q.1 = .ok q.2.1)) = true := by decide +kernel
set_option maxRecDepth 100000 in
set_option maxHeartbeats 4000000 in
theorem nX4_mostBehind (l : Launch) : aMt l yX4_mostBehind (Cond.code yX4_mostBehind cX4_mostBehind 3 (some .int) :: wsL_law) rmX4_mostBehind CX4_mostBehind := by
  refine aMt.of (own := RX4) (cc := cX4_mostBehind) (maxL := 3) (ret := (some .int)) (by decide +kernel) rfl rfl ?_
  intro p e s m args below meth c Qc D Z ad P G A E hX hr hlk hE
  have up : ∀ w ∈ wsL_law, w ∈ (Cond.code yX4_mostBehind cX4_mostBehind 3 (some .int) :: wsL_law) := fun w h => List.mem_cons_of_mem _ h
  refine aImp_all _ dX4_mostBehind ?_
  unfold tX4_mostBehind
  refine aI_c (fun hd => s_al_n hX hd rfl rfl) ?_
  refine aI_c (fun hd => s_gF hX (C := RX4) (T := TX4) (N := 9) (k := 8) rfl (fun w h => up w (inlX4 w h)) (by decide) rfl rfl rfl (up _ lkX4_32) hd rfl) ?_
  refine aI_c (fun hd => s_il_n hX hd rfl rfl) ?_
  refine aI_c (fun hd => s_ii hX hd (by decide) rfl) ?_
  refine aI_c (fun hd => s_iadd hX hd rfl) ?_
  refine aI_c (fun hd => s_bp hX hd (by decide) rfl) ?_
  refine aI_c (fun hd => s_ishl hX hd rfl) ?_
  refine aI_c (fun hd => s_il_n hX hd rfl rfl) ?_
  refine aI_c (fun hd => s_iadd hX hd rfl) ?_
  refine aI_c (fun hd => s_iald hX hd rfl) ?_
  refine aI_c (fun hd => s_ri hX hr hlk hE hd) ?_
  exact trivial

-- JudgesByLoss.fillMost()V
def tX4_fillMost : aT := [
  (0, (.bipush 64, 2), o_ii 64 2),
  (2, (.istore_n 1, 1), o_is 1 3),
  (3, (.iconst 0, 1), o_ii 0 4),
  (4, (.istore_n 2, 1), o_is 2 5),
  (5, (.iload_n 2, 1), o_mk [false, false, false, true, true, true, true] (o_il 2 6)),
  (6, (.iload_n 1, 1), o_il 1 7),
  (7, (.if_icmp .ge 20, 3), o_ic (fun x y => y ≤ x) 27 10),
  (10, (.aload_n 0, 1), o_al 0 11),
  (11, (.getfield 32, 3), o_gF 4 39 14),
  (14, (.sipush 512, 3), o_ii 512 17),
  (17, (.iload_n 2, 1), o_il 2 18),
  (18, (.iadd, 1), o_bi (fun x y => x + y) 19),
  (19, (.iconst 0, 1), o_ii 0 20),
  (20, (.iastore, 1), o_iast 21),
  (21, (.iinc 2 1, 3), o_inc 2 1 24),
  (24, (.goto (-19), 3), o_go 5),
  (27, (.bipush 7, 2), o_ii 7 29),
  (29, (.istore_n 2, 1), o_is 2 30),
  (30, (.iload_n 2, 1), o_mk [false, false, false, true, true, true, true] (o_il 2 31)),
  (31, (.ifCond .lt 122, 3), o_if (fun x => x < 0) 153 34),
  (34, (.aload_n 0, 1), o_al 0 35),
  (35, (.getfield 44, 3), o_gF 4 1 38),
  (38, (.iload_n 2, 1), o_il 2 39),
  (39, (.invokevirtual 106, 3), o_cV CX0_hasCase 0 1 42),
  (42, (.ifCond .eq 14, 3), o_if (fun x => x = 0) 56 45),
  (45, (.aload_n 0, 1), o_al 0 46),
  (46, (.getfield 44, 3), o_gF 4 1 49),
  (49, (.iload_n 2, 1), o_il 2 50),
  (50, (.invokevirtual 263, 3), o_cV CX0_whoCan 0 1 53),
  (53, (.goto 4, 3), o_go 57),
  (56, (.iconst 0, 1), o_ii 0 57),
  (57, (.istore_n 3, 1), o_is 3 58),
  (58, (.iconst 0, 1), o_ii 0 59),
  (59, (.istore 4, 2), o_is 4 61),
  (61, (.iload 4, 2), o_mk [false, false, false, false, false, true, true] (o_il 4 63)),
  (63, (.iload_n 1, 1), o_il 1 64),
  (64, (.if_icmp .ge 83, 3), o_ic (fun x y => y ≤ x) 147 67),
  (67, (.aload_n 0, 1), o_al 0 68),
  (68, (.iload_n 2, 1), o_il 2 69),
  (69, (.iload 4, 2), o_il 4 71),
  (71, (.invokevirtual 266, 3), o_cV CX4_mostBehind 4 2 74),
  (74, (.istore 5, 2), o_is 5 76),
  (76, (.iconst 0, 1), o_ii 0 77),
  (77, (.istore 6, 2), o_is 6 79),
  (79, (.iload 6, 2), o_il 6 81),
  (81, (.bipush 6, 2), o_ii 6 83),
  (83, (.if_icmp .ge 44, 3), o_ic (fun x y => y ≤ x) 127 86),
  (86, (.iload_n 3, 1), o_il 3 87),
  (87, (.iload 4, 2), o_il 4 89),
  (89, (.iconst (-1), 1), o_ii (-1) 90),
  (90, (.ixor, 1), o_bi (fun x y => x ^^^ y) 91),
  (91, (.iand, 1), o_bi (fun x y => x &&& y) 92),
  (92, (.iconst 1, 1), o_ii 1 93),
  (93, (.iload 6, 2), o_il 6 95),
  (95, (.ishl, 1), o_bi (fun x y => x <<< (y &&& 31)) 96),
  (96, (.iand, 1), o_bi (fun x y => x &&& y) 97),
  (97, (.ifCond .eq 24, 3), o_if (fun x => x = 0) 121 100),
  (100, (.iload 5, 2), o_il 5 102),
  (102, (.iconst 1, 1), o_ii 1 103),
  (103, (.aload_n 0, 1), o_al 0 104),
  (104, (.iload_n 2, 1), o_il 2 105),
  (105, (.iload 4, 2), o_il 4 107),
  (107, (.iconst 1, 1), o_ii 1 108),
  (108, (.iload 6, 2), o_il 6 110),
  (110, (.ishl, 1), o_bi (fun x y => x <<< (y &&& 31)) 111),
  (111, (.ior, 1), o_bi (fun x y => x ||| y) 112),
  (112, (.invokevirtual 266, 3), o_cV CX4_mostBehind 4 2 115),
  (115, (.iadd, 1), o_bi (fun x y => x + y) 116),
  (116, (.invokestatic 269, 3), o_max 119),
  (119, (.istore 5, 2), o_is 5 121),
  (121, (.iinc 6 1, 3), o_inc 6 1 124),
  (124, (.goto (-45), 3), o_go 79),
  (127, (.aload_n 0, 1), o_al 0 128),
  (128, (.getfield 32, 3), o_gF 4 39 131),
  (131, (.iload_n 2, 1), o_il 2 132),
  (132, (.bipush 6, 2), o_ii 6 134),
  (134, (.ishl, 1), o_bi (fun x y => x <<< (y &&& 31)) 135),
  (135, (.iload 4, 2), o_il 4 137),
  (137, (.iadd, 1), o_bi (fun x y => x + y) 138),
  (138, (.iload 5, 2), o_il 5 140),
  (140, (.iastore, 1), o_iast 141),
  (141, (.iinc 4 1, 3), o_inc 4 1 144),
  (144, (.goto (-83), 3), o_go 61),
  (147, (.iinc 2 (-1), 3), o_inc 2 (-1) 150),
  (150, (.goto (-120), 3), o_go 30),
  (153, (.return_, 1), o_rv)]
abbrev CX4_fillMost : aC := aCl tX4_fillMost 7
def rmX4_fillMost : Room := { frames := 6, cells := 0, slots := 0, locals := 141 }
set_option maxRecDepth 100000 in
theorem dX4_fillMost : tX4_fillMost.all (fun q => decide (decode cX4_fillMost q.1 = .ok q.2.1)) = true := by decide +kernel
set_option maxRecDepth 100000 in
set_option maxHeartbeats 4000000 in
theorem nX4_fillMost (l : Launch) : aMt l yX4_fillMost (Cond.code yX4_fillMost cX4_fillMost 7 none :: wsL_law) rmX4_fillMost CX4_fillMost := by
  refine aMt.of (own := RX4) (cc := cX4_fillMost) (maxL := 7) (ret := none) (by decide +kernel) rfl rfl ?_
  intro p e s m args below meth c Qc D Z ad P G A E hX hr hlk hE
  have up : ∀ w ∈ wsL_law, w ∈ (Cond.code yX4_fillMost cX4_fillMost 7 none :: wsL_law) := fun w h => List.mem_cons_of_mem _ h
  refine aImp_all _ dX4_fillMost ?_
  unfold tX4_fillMost
  refine aI_c (fun hd => s_bp hX hd (by decide) rfl) ?_
  refine aI_c (fun hd => s_is_n hX hd rfl rfl (by decide)) ?_
  refine aI_c (fun hd => s_ii hX hd (by decide) rfl) ?_
  refine aI_c (fun hd => s_is_n hX hd rfl rfl (by decide)) ?_
  refine aI_c (fun hd => s_mk (s_il_n hX hd rfl rfl)) ?_
  refine aI_c (fun hd => s_il_n hX hd rfl rfl) ?_
  refine aI_c (fun hd => s_ic_ge hX hd (by decide) rfl) ?_
  refine aI_c (fun hd => s_al_n hX hd rfl rfl) ?_
  refine aI_c (fun hd => s_gF hX (C := RX4) (T := TX4) (N := 9) (k := 8) rfl (fun w h => up w (inlX4 w h)) (by decide) rfl rfl rfl (up _ lkX4_32) hd rfl) ?_
  refine aI_c (fun hd => s_sp hX hd (by decide) rfl) ?_
  refine aI_c (fun hd => s_il_n hX hd rfl rfl) ?_
  refine aI_c (fun hd => s_iadd hX hd rfl) ?_
  refine aI_c (fun hd => s_ii hX hd (by decide) rfl) ?_
  refine aI_c (fun hd => s_iast hX hd rfl) ?_
  refine aI_c (fun hd => s_inc hX hd (by decide) rfl (by decide)) ?_
  refine aI_c (fun hd => s_go hX hd (by decide)) ?_
  refine aI_c (fun hd => s_bp hX hd (by decide) rfl) ?_
  refine aI_c (fun hd => s_is_n hX hd rfl rfl (by decide)) ?_
  refine aI_c (fun hd => s_mk (s_il_n hX hd rfl rfl)) ?_
  refine aI_c (fun hd => s_if_lt hX hd (by decide) rfl) ?_
  refine aI_c (fun hd => s_al_n hX hd rfl rfl) ?_
  refine aI_c (fun hd => s_gF hX (C := RX4) (T := TX4) (N := 9) (k := 0) rfl (fun w h => up w (inlX4 w h)) (by decide) rfl rfl rfl (up _ lkX4_44) hd rfl) ?_
  refine aI_c (fun hd => s_il_n hX hd rfl rfl) ?_
  refine aI_c (fun hd => s_cV hX (T := TX0) (N := 15) (nX0_hasCase l) rfl (wg_V up lmX4_106 loX0_hasCase) rfl rfl rfl (by decide +kernel) ⟨by decide, by decide⟩ ⟨Nat.zero_le _, Nat.zero_le _⟩ hd rfl) ?_
  refine aI_c (fun hd => s_if_eq hX hd (by decide) rfl) ?_
  refine aI_c (fun hd => s_al_n hX hd rfl rfl) ?_
  refine aI_c (fun hd => s_gF hX (C := RX4) (T := TX4) (N := 9) (k := 0) rfl (fun w h => up w (inlX4 w h)) (by decide) rfl rfl rfl (up _ lkX4_44) hd rfl) ?_
  refine aI_c (fun hd => s_il_n hX hd rfl rfl) ?_
  refine aI_c (fun hd => s_cV hX (T := TX0) (N := 15) (nX0_whoCan l) rfl (wg_V up lmX4_263 loX0_whoCan) rfl rfl rfl (by decide +kernel) ⟨by decide, by decide⟩ ⟨Nat.zero_le _, Nat.zero_le _⟩ hd rfl) ?_
  refine aI_c (fun hd => s_go hX hd (by decide)) ?_
  refine aI_c (fun hd => s_ii hX hd (by decide) rfl) ?_
  refine aI_c (fun hd => s_is_n hX hd rfl rfl (by decide)) ?_
  refine aI_c (fun hd => s_ii hX hd (by decide) rfl) ?_
  refine aI_c (fun hd => s_is hX hd rfl (by decide)) ?_
  refine aI_c (fun hd => s_mk (s_il hX hd rfl)) ?_
  refine aI_c (fun hd => s_il_n hX hd rfl rfl) ?_
  refine aI_c (fun hd => s_ic_ge hX hd (by decide) rfl) ?_
  refine aI_c (fun hd => s_al_n hX hd rfl rfl) ?_
  refine aI_c (fun hd => s_il_n hX hd rfl rfl) ?_
  refine aI_c (fun hd => s_il hX hd rfl) ?_
  refine aI_c (fun hd => s_cV hX (T := TX4) (N := 9) (nX4_mostBehind l) rfl (wg_V up lmX4_266 loX4_mostBehind) rfl rfl rfl (by decide +kernel) ⟨by decide, by decide⟩ ⟨Nat.zero_le _, Nat.zero_le _⟩ hd rfl) ?_
  refine aI_c (fun hd => s_is hX hd rfl (by decide)) ?_
  refine aI_c (fun hd => s_ii hX hd (by decide) rfl) ?_
  refine aI_c (fun hd => s_is hX hd rfl (by decide)) ?_
  refine aI_c (fun hd => s_il hX hd rfl) ?_
  refine aI_c (fun hd => s_bp hX hd (by decide) rfl) ?_
  refine aI_c (fun hd => s_ic_ge hX hd (by decide) rfl) ?_
  refine aI_c (fun hd => s_il_n hX hd rfl rfl) ?_
  refine aI_c (fun hd => s_il hX hd rfl) ?_
  refine aI_c (fun hd => s_ii hX hd (by decide) rfl) ?_
  refine aI_c (fun hd => s_ixor hX hd rfl) ?_
  refine aI_c (fun hd => s_iand hX hd rfl) ?_
  refine aI_c (fun hd => s_ii hX hd (by decide) rfl) ?_
  refine aI_c (fun hd => s_il hX hd rfl) ?_
  refine aI_c (fun hd => s_ishl hX hd rfl) ?_
  refine aI_c (fun hd => s_iand hX hd rfl) ?_
  refine aI_c (fun hd => s_if_eq hX hd (by decide) rfl) ?_
  refine aI_c (fun hd => s_il hX hd rfl) ?_
  refine aI_c (fun hd => s_ii hX hd (by decide) rfl) ?_
  refine aI_c (fun hd => s_al_n hX hd rfl rfl) ?_
  refine aI_c (fun hd => s_il_n hX hd rfl rfl) ?_
  refine aI_c (fun hd => s_il hX hd rfl) ?_
  refine aI_c (fun hd => s_ii hX hd (by decide) rfl) ?_
  refine aI_c (fun hd => s_il hX hd rfl) ?_
  refine aI_c (fun hd => s_ishl hX hd rfl) ?_
  refine aI_c (fun hd => s_ior hX hd rfl) ?_
  refine aI_c (fun hd => s_cV hX (T := TX4) (N := 9) (nX4_mostBehind l) rfl (wg_V up lmX4_266 loX4_mostBehind) rfl rfl rfl (by decide +kernel) ⟨by decide, by decide⟩ ⟨Nat.zero_le _, Nat.zero_le _⟩ hd rfl) ?_
  refine aI_c (fun hd => s_iadd hX hd rfl) ?_
  refine aI_c (fun hd => s_max hX (up _ lmX4_269) (up _ wma_smax) (up _ wma_i) (up _ wma_cmax) ⟨by decide, by decide⟩ ⟨Nat.zero_le _, Nat.zero_le _⟩ hd rfl) ?_
  refine aI_c (fun hd => s_is hX hd rfl (by decide)) ?_
  refine aI_c (fun hd => s_inc hX hd (by decide) rfl (by decide)) ?_
  refine aI_c (fun hd => s_go hX hd (by decide)) ?_
  refine aI_c (fun hd => s_al_n hX hd rfl rfl) ?_
  refine aI_c (fun hd => s_gF hX (C := RX4) (T := TX4) (N := 9) (k := 8) rfl (fun w h => up w (inlX4 w h)) (by decide) rfl rfl rfl (up _ lkX4_32) hd rfl) ?_
  refine aI_c (fun hd => s_il_n hX hd rfl rfl) ?_
  refine aI_c (fun hd => s_bp hX hd (by decide) rfl) ?_
  refine aI_c (fun hd => s_ishl hX hd rfl) ?_
  refine aI_c (fun hd => s_il hX hd rfl) ?_
  refine aI_c (fun hd => s_iadd hX hd rfl) ?_
  refine aI_c (fun hd => s_il hX hd rfl) ?_
  refine aI_c (fun hd => s_iast hX hd rfl) ?_
  refine aI_c (fun hd => s_inc hX hd (by decide) rfl (by decide)) ?_
  refine aI_c (fun hd => s_go hX hd (by decide)) ?_
  refine aI_c (fun hd => s_inc hX hd (by decide) rfl (by decide)) ?_
  refine aI_c (fun hd => s_go hX hd (by decide)) ?_
  refine aI_c (fun hd => s_rv hX hr hlk hE hd) ?_
  exact trivial

-- JudgesByLoss.leastDigit(II)I
def tX4_leastDigit : aT := [
  (0, (.aload_n 0, 1), o_al 0 1),
  (1, (.getfield 32, 3), o_gF 4 39 4),
  (4, (.iload_n 1, 1), o_il 1 5),
  (5, (.bipush 6, 2), o_ii 6 7),
  (7, (.ishl, 1), o_bi (fun x y => x <<< (y &&& 31)) 8),
  (8, (.iload_n 2, 1), o_il 2 9),
  (9, (.iadd, 1), o_bi (fun x y => x + y) 10),
  (10, (.iaload, 1), o_iald 11),
  (11, (.istore_n 3, 1), o_is 3 12),
  (12, (.aload_n 0, 1), o_al 0 13),
  (13, (.iload_n 1, 1), o_il 1 14),
  (14, (.iload_n 2, 1), o_il 2 15),
  (15, (.invokevirtual 266, 3), o_cV CX4_mostBehind 4 2 18),
  (18, (.iload_n 3, 1), o_il 3 19),
  (19, (.if_icmp .ne 5, 3), o_ic (fun x y => ¬ x = y) 24 22),
  (22, (.iconst 0, 1), o_ii 0 23),
  (23, (.ireturn, 1), o_ri),
  (24, (.aload_n 0, 1), o_al 0 25),
  (25, (.getfield 44, 3), o_gF 4 1 28),
  (28, (.iload_n 1, 1), o_il 1 29),
  (29, (.invokevirtual 106, 3), o_cV CX0_hasCase 0 1 32),
  (32, (.ifCond .eq 18, 3), o_if (fun x => x = 0) 50 35),
  (35, (.aload_n 0, 1), o_al 0 36),
  (36, (.getfield 44, 3), o_gF 4 1 39),
  (39, (.iload_n 1, 1), o_il 1 40),
  (40, (.invokevirtual 263, 3), o_cV CX0_whoCan 0 1 43),
  (43, (.iload_n 2, 1), o_il 2 44),
  (44, (.iconst (-1), 1), o_ii (-1) 45),
  (45, (.ixor, 1), o_bi (fun x y => x ^^^ y) 46),
  (46, (.iand, 1), o_bi (fun x y => x &&& y) 47),
  (47, (.goto 4, 3), o_go 51),
  (50, (.iconst 0, 1), o_ii 0 51),
  (51, (.istore 4, 2), o_is 4 53),
  (53, (.iconst 0, 1), o_ii 0 54),
  (54, (.istore 5, 2), o_is 5 56),
  (56, (.iload 5, 2), o_il 5 58),
  (58, (.bipush 6, 2), o_ii 6 60),
  (60, (.if_icmp .ge 41, 3), o_ic (fun x y => y ≤ x) 101 63),
  (63, (.iload 4, 2), o_il 4 65),
  (65, (.iconst 1, 1), o_ii 1 66),
  (66, (.iload 5, 2), o_il 5 68),
  (68, (.ishl, 1), o_bi (fun x y => x <<< (y &&& 31)) 69),
  (69, (.iand, 1), o_bi (fun x y => x &&& y) 70),
  (70, (.ifCond .eq 25, 3), o_if (fun x => x = 0) 95 73),
  (73, (.iconst 1, 1), o_ii 1 74),
  (74, (.aload_n 0, 1), o_al 0 75),
  (75, (.iload_n 1, 1), o_il 1 76),
  (76, (.iload_n 2, 1), o_il 2 77),
  (77, (.iconst 1, 1), o_ii 1 78),
  (78, (.iload 5, 2), o_il 5 80),
  (80, (.ishl, 1), o_bi (fun x y => x <<< (y &&& 31)) 81),
  (81, (.ior, 1), o_bi (fun x y => x ||| y) 82),
  (82, (.invokevirtual 266, 3), o_cV CX4_mostBehind 4 2 85),
  (85, (.iadd, 1), o_bi (fun x y => x + y) 86),
  (86, (.iload_n 3, 1), o_il 3 87),
  (87, (.if_icmp .ne 8, 3), o_ic (fun x y => ¬ x = y) 95 90),
  (90, (.iload 5, 2), o_il 5 92),
  (92, (.iconst 1, 1), o_ii 1 93),
  (93, (.iadd, 1), o_bi (fun x y => x + y) 94),
  (94, (.ireturn, 1), o_ri),
  (95, (.iinc 5 1, 3), o_inc 5 1 98),
  (98, (.goto (-42), 3), o_go 56),
  (101, (.iconst 0, 1), o_ii 0 102),
  (102, (.ireturn, 1), o_ri)]
abbrev CX4_leastDigit : aC := aCl tX4_leastDigit 6
def rmX4_leastDigit : Room := { frames := 6, cells := 0, slots := 0, locals := 141 }
set_option maxRecDepth 100000 in
theorem dX4_leastDigit : tX4_leastDigit.all (fun q => decide (decode cX4_leastDigit q.1 = .ok q.2.1)) = true := by decide +kernel
set_option maxRecDepth 100000 in
set_option maxHeartbeats 4000000 in
theorem nX4_leastDigit (l : Launch) : aMt l yX4_leastDigit (Cond.code yX4_leastDigit cX4_leastDigit 6 (some .int) :: wsL_law) rmX4_leastDigit CX4_leastDigit := by
  refine aMt.of (own := RX4) (cc := cX4_leastDigit) (maxL := 6) (ret := (some .int)) (by decide +kernel) rfl rfl ?_
  intro p e s m args below meth c Qc D Z ad P G A E hX hr hlk hE
  have up : ∀ w ∈ wsL_law, w ∈ (Cond.code yX4_leastDigit cX4_leastDigit 6 (some .int) :: wsL_law) := fun w h => List.mem_cons_of_mem _ h
  refine aImp_all _ dX4_leastDigit ?_
  unfold tX4_leastDigit
  refine aI_c (fun hd => s_al_n hX hd rfl rfl) ?_
  refine aI_c (fun hd => s_gF hX (C := RX4) (T := TX4) (N := 9) (k := 8) rfl (fun w h => up w (inlX4 w h)) (by decide) rfl rfl rfl (up _ lkX4_32) hd rfl) ?_
  refine aI_c (fun hd => s_il_n hX hd rfl rfl) ?_
  refine aI_c (fun hd => s_bp hX hd (by decide) rfl) ?_
  refine aI_c (fun hd => s_ishl hX hd rfl) ?_
  refine aI_c (fun hd => s_il_n hX hd rfl rfl) ?_
  refine aI_c (fun hd => s_iadd hX hd rfl) ?_
  refine aI_c (fun hd => s_iald hX hd rfl) ?_
  refine aI_c (fun hd => s_is_n hX hd rfl rfl (by decide)) ?_
  refine aI_c (fun hd => s_al_n hX hd rfl rfl) ?_
  refine aI_c (fun hd => s_il_n hX hd rfl rfl) ?_
  refine aI_c (fun hd => s_il_n hX hd rfl rfl) ?_
  refine aI_c (fun hd => s_cV hX (T := TX4) (N := 9) (nX4_mostBehind l) rfl (wg_V up lmX4_266 loX4_mostBehind) rfl rfl rfl (by decide +kernel) ⟨by decide, by decide⟩ ⟨Nat.zero_le _, Nat.zero_le _⟩ hd rfl) ?_
  refine aI_c (fun hd => s_il_n hX hd rfl rfl) ?_
  refine aI_c (fun hd => s_ic_ne hX hd (by decide) rfl) ?_
  refine aI_c (fun hd => s_ii hX hd (by decide) rfl) ?_
  refine aI_c (fun hd => s_ri hX hr hlk hE hd) ?_
  refine aI_c (fun hd => s_al_n hX hd rfl rfl) ?_
  refine aI_c (fun hd => s_gF hX (C := RX4) (T := TX4) (N := 9) (k := 0) rfl (fun w h => up w (inlX4 w h)) (by decide) rfl rfl rfl (up _ lkX4_44) hd rfl) ?_
  refine aI_c (fun hd => s_il_n hX hd rfl rfl) ?_
  refine aI_c (fun hd => s_cV hX (T := TX0) (N := 15) (nX0_hasCase l) rfl (wg_V up lmX4_106 loX0_hasCase) rfl rfl rfl (by decide +kernel) ⟨by decide, by decide⟩ ⟨Nat.zero_le _, Nat.zero_le _⟩ hd rfl) ?_
  refine aI_c (fun hd => s_if_eq hX hd (by decide) rfl) ?_
  refine aI_c (fun hd => s_al_n hX hd rfl rfl) ?_
  refine aI_c (fun hd => s_gF hX (C := RX4) (T := TX4) (N := 9) (k := 0) rfl (fun w h => up w (inlX4 w h)) (by decide) rfl rfl rfl (up _ lkX4_44) hd rfl) ?_
  refine aI_c (fun hd => s_il_n hX hd rfl rfl) ?_
  refine aI_c (fun hd => s_cV hX (T := TX0) (N := 15) (nX0_whoCan l) rfl (wg_V up lmX4_263 loX0_whoCan) rfl rfl rfl (by decide +kernel) ⟨by decide, by decide⟩ ⟨Nat.zero_le _, Nat.zero_le _⟩ hd rfl) ?_
  refine aI_c (fun hd => s_il_n hX hd rfl rfl) ?_
  refine aI_c (fun hd => s_ii hX hd (by decide) rfl) ?_
  refine aI_c (fun hd => s_ixor hX hd rfl) ?_
  refine aI_c (fun hd => s_iand hX hd rfl) ?_
  refine aI_c (fun hd => s_go hX hd (by decide)) ?_
  refine aI_c (fun hd => s_ii hX hd (by decide) rfl) ?_
  refine aI_c (fun hd => s_is hX hd rfl (by decide)) ?_
  refine aI_c (fun hd => s_ii hX hd (by decide) rfl) ?_
  refine aI_c (fun hd => s_is hX hd rfl (by decide)) ?_
  refine aI_c (fun hd => s_il hX hd rfl) ?_
  refine aI_c (fun hd => s_bp hX hd (by decide) rfl) ?_
  refine aI_c (fun hd => s_ic_ge hX hd (by decide) rfl) ?_
  refine aI_c (fun hd => s_il hX hd rfl) ?_
  refine aI_c (fun hd => s_ii hX hd (by decide) rfl) ?_
  refine aI_c (fun hd => s_il hX hd rfl) ?_
  refine aI_c (fun hd => s_ishl hX hd rfl) ?_
  refine aI_c (fun hd => s_iand hX hd rfl) ?_
  refine aI_c (fun hd => s_if_eq hX hd (by decide) rfl) ?_
  refine aI_c (fun hd => s_ii hX hd (by decide) rfl) ?_
  refine aI_c (fun hd => s_al_n hX hd rfl rfl) ?_
  refine aI_c (fun hd => s_il_n hX hd rfl rfl) ?_
  refine aI_c (fun hd => s_il_n hX hd rfl rfl) ?_
  refine aI_c (fun hd => s_ii hX hd (by decide) rfl) ?_
  refine aI_c (fun hd => s_il hX hd rfl) ?_
  refine aI_c (fun hd => s_ishl hX hd rfl) ?_
  refine aI_c (fun hd => s_ior hX hd rfl) ?_
  refine aI_c (fun hd => s_cV hX (T := TX4) (N := 9) (nX4_mostBehind l) rfl (wg_V up lmX4_266 loX4_mostBehind) rfl rfl rfl (by decide +kernel) ⟨by decide, by decide⟩ ⟨Nat.zero_le _, Nat.zero_le _⟩ hd rfl) ?_
  refine aI_c (fun hd => s_iadd hX hd rfl) ?_
  refine aI_c (fun hd => s_il_n hX hd rfl rfl) ?_
  refine aI_c (fun hd => s_ic_ne hX hd (by decide) rfl) ?_
  refine aI_c (fun hd => s_il hX hd rfl) ?_
  refine aI_c (fun hd => s_ii hX hd (by decide) rfl) ?_
  refine aI_c (fun hd => s_iadd hX hd rfl) ?_
  refine aI_c (fun hd => s_ri hX hr hlk hE hd) ?_
  refine aI_c (fun hd => s_inc hX hd (by decide) rfl (by decide)) ?_
  refine aI_c (fun hd => s_go hX hd (by decide)) ?_
  refine aI_c (fun hd => s_ii hX hd (by decide) rfl) ?_
  refine aI_c (fun hd => s_ri hX hr hlk hE hd) ?_
  exact trivial

-- JudgesByLoss.sitting(I)I
def tX4_sitting : aT := [
  (0, (.iload_n 1, 1), o_il 1 1),
  (1, (.iconst 0, 1), o_ii 0 2),
  (2, (.iconst 1, 1), o_ii 1 3),
  (3, (.invokestatic 79, 3), o_cS CX4_within 3 6),
  (6, (.ifCond .ne 6, 3), o_if (fun x => ¬ x = 0) 12 9),
  (9, (.bipush (-2), 2), o_ii (-2) 11),
  (11, (.ireturn, 1), o_ri),
  (12, (.aload_n 0, 1), o_al 0 13),
  (13, (.invokevirtual 178, 3), o_cV CX4_fillMost 4 0 16),
  (16, (.iload_n 1, 1), o_il 1 17),
  (17, (.ifCond .ne 10, 3), o_if (fun x => ¬ x = 0) 27 20),
  (20, (.aload_n 0, 1), o_al 0 21),
  (21, (.getfield 32, 3), o_gF 4 39 24),
  (24, (.iconst 0, 1), o_ii 0 25),
  (25, (.iaload, 1), o_iald 26),
  (26, (.ireturn, 1), o_ri),
  (27, (.iconst 0, 1), o_ii 0 28),
  (28, (.istore_n 2, 1), o_is 2 29),
  (29, (.iconst 0, 1), o_ii 0 30),
  (30, (.istore_n 3, 1), o_is 3 31),
  (31, (.iconst 0, 1), o_ii 0 32),
  (32, (.istore 4, 2), o_is 4 34),
  (34, (.iload 4, 2), o_mk [false, true, false, false, false, true] (o_il 4 36)),
  (36, (.bipush 8, 2), o_ii 8 38),
  (38, (.if_icmp .ge 40, 3), o_ic (fun x y => y ≤ x) 78 41),
  (41, (.aload_n 0, 1), o_al 0 42),
  (42, (.iload 4, 2), o_il 4 44),
  (44, (.iload_n 3, 1), o_il 3 45),
  (45, (.invokevirtual 181, 3), o_cV CX4_leastDigit 4 2 48),
  (48, (.istore 5, 2), o_is 5 50),
  (50, (.iload 5, 2), o_il 5 52),
  (52, (.ifCond .le 12, 3), o_if (fun x => x ≤ 0) 64 55),
  (55, (.iload_n 3, 1), o_il 3 56),
  (56, (.iconst 1, 1), o_ii 1 57),
  (57, (.iload 5, 2), o_il 5 59),
  (59, (.iconst 1, 1), o_ii 1 60),
  (60, (.isub, 1), o_bi (fun x y => x - y) 61),
  (61, (.ishl, 1), o_bi (fun x y => x <<< (y &&& 31)) 62),
  (62, (.ior, 1), o_bi (fun x y => x ||| y) 63),
  (63, (.istore_n 3, 1), o_is 3 64),
  (64, (.bipush 10, 2), o_ii 10 66),
  (66, (.iload_n 2, 1), o_il 2 67),
  (67, (.imul, 1), o_bi (fun x y => x * y) 68),
  (68, (.iload 5, 2), o_il 5 70),
  (70, (.iadd, 1), o_bi (fun x y => x + y) 71),
  (71, (.istore_n 2, 1), o_is 2 72),
  (72, (.iinc 4 1, 3), o_inc 4 1 75),
  (75, (.goto (-41), 3), o_go 34),
  (78, (.iload_n 2, 1), o_il 2 79),
  (79, (.ireturn, 1), o_ri)]
abbrev CX4_sitting : aC := aCl tX4_sitting 6
def rmX4_sitting : Room := { frames := 7, cells := 0, slots := 0, locals := 167 }
set_option maxRecDepth 100000 in
theorem dX4_sitting : tX4_sitting.all (fun q => decide (decode cX4_sitting q.1 = .ok q.2.1)) = true := by decide +kernel
set_option maxRecDepth 100000 in
set_option maxHeartbeats 4000000 in
theorem nX4_sitting (l : Launch) : aMt l yX4_sitting (Cond.code yX4_sitting cX4_sitting 6 (some .int) :: wsL_law) rmX4_sitting CX4_sitting := by
  refine aMt.of (own := RX4) (cc := cX4_sitting) (maxL := 6) (ret := (some .int)) (by decide +kernel) rfl rfl ?_
  intro p e s m args below meth c Qc D Z ad P G A E hX hr hlk hE
  have up : ∀ w ∈ wsL_law, w ∈ (Cond.code yX4_sitting cX4_sitting 6 (some .int) :: wsL_law) := fun w h => List.mem_cons_of_mem _ h
  refine aImp_all _ dX4_sitting ?_
  unfold tX4_sitting
  refine aI_c (fun hd => s_il_n hX hd rfl rfl) ?_
  refine aI_c (fun hd => s_ii hX hd (by decide) rfl) ?_
  refine aI_c (fun hd => s_ii hX hd (by decide) rfl) ?_
  refine aI_c (fun hd => s_cS hX (nX4_within l) (wg_S up lmX4_79 loX4_within) rfl rfl rfl (by decide +kernel) ⟨by decide, by decide⟩ ⟨Nat.zero_le _, Nat.zero_le _⟩ hd rfl) ?_
  refine aI_c (fun hd => s_if_ne hX hd (by decide) rfl) ?_
  refine aI_c (fun hd => s_bp hX hd (by decide) rfl) ?_
  refine aI_c (fun hd => s_ri hX hr hlk hE hd) ?_
  refine aI_c (fun hd => s_al_n hX hd rfl rfl) ?_
  refine aI_c (fun hd => s_cV hX (T := TX4) (N := 9) (nX4_fillMost l) rfl (wg_V up lmX4_178 loX4_fillMost) rfl rfl rfl (by decide +kernel) ⟨by decide, by decide⟩ ⟨Nat.zero_le _, Nat.zero_le _⟩ hd rfl) ?_
  refine aI_c (fun hd => s_il_n hX hd rfl rfl) ?_
  refine aI_c (fun hd => s_if_ne hX hd (by decide) rfl) ?_
  refine aI_c (fun hd => s_al_n hX hd rfl rfl) ?_
  refine aI_c (fun hd => s_gF hX (C := RX4) (T := TX4) (N := 9) (k := 8) rfl (fun w h => up w (inlX4 w h)) (by decide) rfl rfl rfl (up _ lkX4_32) hd rfl) ?_
  refine aI_c (fun hd => s_ii hX hd (by decide) rfl) ?_
  refine aI_c (fun hd => s_iald hX hd rfl) ?_
  refine aI_c (fun hd => s_ri hX hr hlk hE hd) ?_
  refine aI_c (fun hd => s_ii hX hd (by decide) rfl) ?_
  refine aI_c (fun hd => s_is_n hX hd rfl rfl (by decide)) ?_
  refine aI_c (fun hd => s_ii hX hd (by decide) rfl) ?_
  refine aI_c (fun hd => s_is_n hX hd rfl rfl (by decide)) ?_
  refine aI_c (fun hd => s_ii hX hd (by decide) rfl) ?_
  refine aI_c (fun hd => s_is hX hd rfl (by decide)) ?_
  refine aI_c (fun hd => s_mk (s_il hX hd rfl)) ?_
  refine aI_c (fun hd => s_bp hX hd (by decide) rfl) ?_
  refine aI_c (fun hd => s_ic_ge hX hd (by decide) rfl) ?_
  refine aI_c (fun hd => s_al_n hX hd rfl rfl) ?_
  refine aI_c (fun hd => s_il hX hd rfl) ?_
  refine aI_c (fun hd => s_il_n hX hd rfl rfl) ?_
  refine aI_c (fun hd => s_cV hX (T := TX4) (N := 9) (nX4_leastDigit l) rfl (wg_V up lmX4_181 loX4_leastDigit) rfl rfl rfl (by decide +kernel) ⟨by decide, by decide⟩ ⟨Nat.zero_le _, Nat.zero_le _⟩ hd rfl) ?_
  refine aI_c (fun hd => s_is hX hd rfl (by decide)) ?_
  refine aI_c (fun hd => s_il hX hd rfl) ?_
  refine aI_c (fun hd => s_if_le hX hd (by decide) rfl) ?_
  refine aI_c (fun hd => s_il_n hX hd rfl rfl) ?_
  refine aI_c (fun hd => s_ii hX hd (by decide) rfl) ?_
  refine aI_c (fun hd => s_il hX hd rfl) ?_
  refine aI_c (fun hd => s_ii hX hd (by decide) rfl) ?_
  refine aI_c (fun hd => s_isub hX hd rfl) ?_
  refine aI_c (fun hd => s_ishl hX hd rfl) ?_
  refine aI_c (fun hd => s_ior hX hd rfl) ?_
  refine aI_c (fun hd => s_is_n hX hd rfl rfl (by decide)) ?_
  refine aI_c (fun hd => s_bp hX hd (by decide) rfl) ?_
  refine aI_c (fun hd => s_il_n hX hd rfl rfl) ?_
  refine aI_c (fun hd => s_imul hX hd rfl) ?_
  refine aI_c (fun hd => s_il hX hd rfl) ?_
  refine aI_c (fun hd => s_iadd hX hd rfl) ?_
  refine aI_c (fun hd => s_is_n hX hd rfl rfl (by decide)) ?_
  refine aI_c (fun hd => s_inc hX hd (by decide) rfl (by decide)) ?_
  refine aI_c (fun hd => s_go hX hd (by decide)) ?_
  refine aI_c (fun hd => s_il_n hX hd rfl rfl) ?_
  refine aI_c (fun hd => s_ri hX hr hlk hE hd) ?_
  exact trivial

-- JudgesByLoss.burglary(II)I
def tX4_burglary : aT := [
  (0, (.iload_n 1, 1), o_il 1 1),
  (1, (.iconst 0, 1), o_ii 0 2),
  (2, (.bipush 40, 2), o_ii 40 4),
  (4, (.invokestatic 79, 3), o_cS CX4_within 3 7),
  (7, (.ifCond .eq 12, 3), o_if (fun x => x = 0) 19 10),
  (10, (.iload_n 2, 1), o_il 2 11),
  (11, (.iconst 0, 1), o_ii 0 12),
  (12, (.iconst 1, 1), o_ii 1 13),
  (13, (.invokestatic 79, 3), o_cS CX4_within 3 16),
  (16, (.ifCond .ne 6, 3), o_if (fun x => ¬ x = 0) 22 19),
  (19, (.bipush (-2), 2), o_ii (-2) 21),
  (21, (.ireturn, 1), o_ri),
  (22, (.aload_n 0, 1), o_al 0 23),
  (23, (.invokevirtual 169, 3), o_cV CX4_think 4 0 26),
  (26, (.aload_n 0, 1), o_al 0 27),
  (27, (.iload_n 1, 1), o_il 1 28),
  (28, (.invokevirtual 172, 3), o_cV CX4_heardInThought 4 1 31),
  (31, (.istore_n 3, 1), o_is 3 32),
  (32, (.iconst (-1), 1), o_ii (-1) 33),
  (33, (.istore 4, 2), o_is 4 35),
  (35, (.iconst 0, 1), o_ii 0 36),
  (36, (.istore 5, 2), o_is 5 38),
  (38, (.iload 5, 2), o_mk [false, false, false, false, false, false, true, true] (o_il 5 40)),
  (40, (.aload_n 0, 1), o_al 0 41),
  (41, (.getfield 44, 3), o_gF 4 1 44),
  (44, (.getfield 55, 3), o_gI 0 9 47),
  (47, (.if_icmp .ge 90, 3), o_ic (fun x y => y ≤ x) 137 50),
  (50, (.iconst 0, 1), o_ii 0 51),
  (51, (.istore 6, 2), o_is 6 53),
  (53, (.iload 6, 2), o_mk [false, false, false, false, false, false, false, true] (o_il 6 55)),
  (55, (.bipush 10, 2), o_ii 10 57),
  (57, (.if_icmp .ge 74, 3), o_ic (fun x y => y ≤ x) 131 60),
  (60, (.aload_n 0, 1), o_al 0 61),
  (61, (.getfield 44, 3), o_gF 4 1 64),
  (64, (.getfield 122, 3), o_gF 0 3 67),
  (67, (.iload 5, 2), o_il 5 69),
  (69, (.iaload, 1), o_iald 70),
  (70, (.iload 6, 2), o_il 6 72),
  (72, (.ishr, 1), o_bi (fun x y => x >>> (y &&& 31)) 73),
  (73, (.iconst 1, 1), o_ii 1 74),
  (74, (.iand, 1), o_bi (fun x y => x &&& y) 75),
  (75, (.ifCond .ne 50, 3), o_if (fun x => ¬ x = 0) 125 78),
  (78, (.aload_n 0, 1), o_al 0 79),
  (79, (.invokevirtual 169, 3), o_cV CX4_think 4 0 82),
  (82, (.aload_n 0, 1), o_al 0 83),
  (83, (.getfield 48, 3), o_gF 4 11 86),
  (86, (.getfield 122, 3), o_gF 0 3 89),
  (89, (.iload 5, 2), o_il 5 91),
  (91, (.dup2, 1), o_dup2 92),
  (92, (.iaload, 1), o_iald 93),
  (93, (.iconst 1, 1), o_ii 1 94),
  (94, (.iload 6, 2), o_il 6 96),
  (96, (.ishl, 1), o_bi (fun x y => x <<< (y &&& 31)) 97),
  (97, (.ior, 1), o_bi (fun x y => x ||| y) 98),
  (98, (.iastore, 1), o_iast 99),
  (99, (.aload_n 0, 1), o_al 0 100),
  (100, (.iload_n 1, 1), o_il 1 101),
  (101, (.invokevirtual 172, 3), o_cV CX4_heardInThought 4 1 104),
  (104, (.istore 7, 2), o_is 7 106),
  (106, (.iload 7, 2), o_il 7 108),
  (108, (.iload_n 3, 1), o_il 3 109),
  (109, (.if_icmp .le 16, 3), o_ic (fun x y => x ≤ y) 125 112),
  (112, (.iload 7, 2), o_il 7 114),
  (114, (.istore_n 3, 1), o_is 3 115),
  (115, (.bipush 10, 2), o_ii 10 117),
  (117, (.iload 5, 2), o_il 5 119),
  (119, (.imul, 1), o_bi (fun x y => x * y) 120),
  (120, (.iload 6, 2), o_il 6 122),
  (122, (.iadd, 1), o_bi (fun x y => x + y) 123),
  (123, (.istore 4, 2), o_is 4 125),
  (125, (.iinc 6 1, 3), o_inc 6 1 128),
  (128, (.goto (-75), 3), o_go 53),
  (131, (.iinc 5 1, 3), o_inc 5 1 134),
  (134, (.goto (-96), 3), o_go 38),
  (137, (.iload_n 2, 1), o_il 2 138),
  (138, (.ifCond .ne 8, 3), o_if (fun x => ¬ x = 0) 146 141),
  (141, (.iload 4, 2), o_il 4 143),
  (143, (.goto 4, 3), o_go 147),
  (146, (.iload_n 3, 1), o_il 3 147),
  (147, (.ireturn, 1), o_ri)]
abbrev CX4_burglary : aC := aCl tX4_burglary 8
def rmX4_burglary : Room := { frames := 7, cells := 0, slots := 0, locals := 166 }
set_option maxRecDepth 100000 in
theorem dX4_burglary : tX4_burglary.all (fun q => decide (decode cX4_burglary q.1 = .ok q.2.1)) = true := by decide +kernel
set_option maxRecDepth 100000 in
set_option maxHeartbeats 4000000 in
theorem nX4_burglary (l : Launch) : aMt l yX4_burglary (Cond.code yX4_burglary cX4_burglary 8 (some .int) :: wsL_law) rmX4_burglary CX4_burglary := by
  refine aMt.of (own := RX4) (cc := cX4_burglary) (maxL := 8) (ret := (some .int)) (by decide +kernel) rfl rfl ?_
  intro p e s m args below meth c Qc D Z ad P G A E hX hr hlk hE
  have up : ∀ w ∈ wsL_law, w ∈ (Cond.code yX4_burglary cX4_burglary 8 (some .int) :: wsL_law) := fun w h => List.mem_cons_of_mem _ h
  refine aImp_all _ dX4_burglary ?_
  unfold tX4_burglary
  refine aI_c (fun hd => s_il_n hX hd rfl rfl) ?_
  refine aI_c (fun hd => s_ii hX hd (by decide) rfl) ?_
  refine aI_c (fun hd => s_bp hX hd (by decide) rfl) ?_
  refine aI_c (fun hd => s_cS hX (nX4_within l) (wg_S up lmX4_79 loX4_within) rfl rfl rfl (by decide +kernel) ⟨by decide, by decide⟩ ⟨Nat.zero_le _, Nat.zero_le _⟩ hd rfl) ?_
  refine aI_c (fun hd => s_if_eq hX hd (by decide) rfl) ?_
  refine aI_c (fun hd => s_il_n hX hd rfl rfl) ?_
  refine aI_c (fun hd => s_ii hX hd (by decide) rfl) ?_
  refine aI_c (fun hd => s_ii hX hd (by decide) rfl) ?_
  refine aI_c (fun hd => s_cS hX (nX4_within l) (wg_S up lmX4_79 loX4_within) rfl rfl rfl (by decide +kernel) ⟨by decide, by decide⟩ ⟨Nat.zero_le _, Nat.zero_le _⟩ hd rfl) ?_
  refine aI_c (fun hd => s_if_ne hX hd (by decide) rfl) ?_
  refine aI_c (fun hd => s_bp hX hd (by decide) rfl) ?_
  refine aI_c (fun hd => s_ri hX hr hlk hE hd) ?_
  refine aI_c (fun hd => s_al_n hX hd rfl rfl) ?_
  refine aI_c (fun hd => s_cV hX (T := TX4) (N := 9) (nX4_think l) rfl (wg_V up lmX4_169 loX4_think) rfl rfl rfl (by decide +kernel) ⟨by decide, by decide⟩ ⟨Nat.zero_le _, Nat.zero_le _⟩ hd rfl) ?_
  refine aI_c (fun hd => s_al_n hX hd rfl rfl) ?_
  refine aI_c (fun hd => s_il_n hX hd rfl rfl) ?_
  refine aI_c (fun hd => s_cV hX (T := TX4) (N := 9) (nX4_heardInThought l) rfl (wg_V up lmX4_172 loX4_heardInThought) rfl rfl rfl (by decide +kernel) ⟨by decide, by decide⟩ ⟨Nat.zero_le _, Nat.zero_le _⟩ hd rfl) ?_
  refine aI_c (fun hd => s_is_n hX hd rfl rfl (by decide)) ?_
  refine aI_c (fun hd => s_ii hX hd (by decide) rfl) ?_
  refine aI_c (fun hd => s_is hX hd rfl (by decide)) ?_
  refine aI_c (fun hd => s_ii hX hd (by decide) rfl) ?_
  refine aI_c (fun hd => s_is hX hd rfl (by decide)) ?_
  refine aI_c (fun hd => s_mk (s_il hX hd rfl)) ?_
  refine aI_c (fun hd => s_al_n hX hd rfl rfl) ?_
  refine aI_c (fun hd => s_gF hX (C := RX4) (T := TX4) (N := 9) (k := 0) rfl (fun w h => up w (inlX4 w h)) (by decide) rfl rfl rfl (up _ lkX4_44) hd rfl) ?_
  refine aI_c (fun hd => s_gI hX (C := RX0) (T := TX0) (N := 15) (k := 9) rfl (fun w h => up w (inlX0 w h)) (by decide) rfl rfl rfl (up _ lkX4_55) hd rfl) ?_
  refine aI_c (fun hd => s_ic_ge hX hd (by decide) rfl) ?_
  refine aI_c (fun hd => s_ii hX hd (by decide) rfl) ?_
  refine aI_c (fun hd => s_is hX hd rfl (by decide)) ?_
  refine aI_c (fun hd => s_mk (s_il hX hd rfl)) ?_
  refine aI_c (fun hd => s_bp hX hd (by decide) rfl) ?_
  refine aI_c (fun hd => s_ic_ge hX hd (by decide) rfl) ?_
  refine aI_c (fun hd => s_al_n hX hd rfl rfl) ?_
  refine aI_c (fun hd => s_gF hX (C := RX4) (T := TX4) (N := 9) (k := 0) rfl (fun w h => up w (inlX4 w h)) (by decide) rfl rfl rfl (up _ lkX4_44) hd rfl) ?_
  refine aI_c (fun hd => s_gF hX (C := RX0) (T := TX0) (N := 15) (k := 2) rfl (fun w h => up w (inlX0 w h)) (by decide) rfl rfl rfl (up _ lkX4_122) hd rfl) ?_
  refine aI_c (fun hd => s_il hX hd rfl) ?_
  refine aI_c (fun hd => s_iald hX hd rfl) ?_
  refine aI_c (fun hd => s_il hX hd rfl) ?_
  refine aI_c (fun hd => s_ishr hX hd rfl) ?_
  refine aI_c (fun hd => s_ii hX hd (by decide) rfl) ?_
  refine aI_c (fun hd => s_iand hX hd rfl) ?_
  refine aI_c (fun hd => s_if_ne hX hd (by decide) rfl) ?_
  refine aI_c (fun hd => s_al_n hX hd rfl rfl) ?_
  refine aI_c (fun hd => s_cV hX (T := TX4) (N := 9) (nX4_think l) rfl (wg_V up lmX4_169 loX4_think) rfl rfl rfl (by decide +kernel) ⟨by decide, by decide⟩ ⟨Nat.zero_le _, Nat.zero_le _⟩ hd rfl) ?_
  refine aI_c (fun hd => s_al_n hX hd rfl rfl) ?_
  refine aI_c (fun hd => s_gF hX (C := RX4) (T := TX4) (N := 9) (k := 1) rfl (fun w h => up w (inlX4 w h)) (by decide) rfl rfl rfl (up _ lkX4_48) hd rfl) ?_
  refine aI_c (fun hd => s_gF hX (C := RX0) (T := TX0) (N := 15) (k := 2) rfl (fun w h => up w (inlX0 w h)) (by decide) rfl rfl rfl (up _ lkX4_122) hd rfl) ?_
  refine aI_c (fun hd => s_il hX hd rfl) ?_
  refine aI_c (fun hd => s_dup2 hX hd rfl) ?_
  refine aI_c (fun hd => s_iald hX hd rfl) ?_
  refine aI_c (fun hd => s_ii hX hd (by decide) rfl) ?_
  refine aI_c (fun hd => s_il hX hd rfl) ?_
  refine aI_c (fun hd => s_ishl hX hd rfl) ?_
  refine aI_c (fun hd => s_ior hX hd rfl) ?_
  refine aI_c (fun hd => s_iast hX hd rfl) ?_
  refine aI_c (fun hd => s_al_n hX hd rfl rfl) ?_
  refine aI_c (fun hd => s_il_n hX hd rfl rfl) ?_
  refine aI_c (fun hd => s_cV hX (T := TX4) (N := 9) (nX4_heardInThought l) rfl (wg_V up lmX4_172 loX4_heardInThought) rfl rfl rfl (by decide +kernel) ⟨by decide, by decide⟩ ⟨Nat.zero_le _, Nat.zero_le _⟩ hd rfl) ?_
  refine aI_c (fun hd => s_is hX hd rfl (by decide)) ?_
  refine aI_c (fun hd => s_il hX hd rfl) ?_
  refine aI_c (fun hd => s_il_n hX hd rfl rfl) ?_
  refine aI_c (fun hd => s_ic_le hX hd (by decide) rfl) ?_
  refine aI_c (fun hd => s_il hX hd rfl) ?_
  refine aI_c (fun hd => s_is_n hX hd rfl rfl (by decide)) ?_
  refine aI_c (fun hd => s_bp hX hd (by decide) rfl) ?_
  refine aI_c (fun hd => s_il hX hd rfl) ?_
  refine aI_c (fun hd => s_imul hX hd rfl) ?_
  refine aI_c (fun hd => s_il hX hd rfl) ?_
  refine aI_c (fun hd => s_iadd hX hd rfl) ?_
  refine aI_c (fun hd => s_is hX hd rfl (by decide)) ?_
  refine aI_c (fun hd => s_inc hX hd (by decide) rfl (by decide)) ?_
  refine aI_c (fun hd => s_go hX hd (by decide)) ?_
  refine aI_c (fun hd => s_inc hX hd (by decide) rfl (by decide)) ?_
  refine aI_c (fun hd => s_go hX hd (by decide)) ?_
  refine aI_c (fun hd => s_il_n hX hd rfl rfl) ?_
  refine aI_c (fun hd => s_if_ne hX hd (by decide) rfl) ?_
  refine aI_c (fun hd => s_il hX hd rfl) ?_
  refine aI_c (fun hd => s_go hX hd (by decide)) ?_
  refine aI_c (fun hd => s_il_n hX hd rfl rfl) ?_
  refine aI_c (fun hd => s_ri hX hr hlk hE hd) ?_
  exact trivial

-- JudgesByLoss.fewestLosses(II)I
def tX4_fewestLosses : aT := [
  (0, (.aload_n 0, 1), o_al 0 1),
  (1, (.getfield 44, 3), o_gF 4 1 4),
  (4, (.getfield 122, 3), o_gF 0 3 7),
  (7, (.iload_n 1, 1), o_il 1 8),
  (8, (.iaload, 1), o_iald 9),
  (9, (.istore_n 3, 1), o_is 3 10),
  (10, (.iconst (-1), 1), o_ii (-1) 11),
  (11, (.istore 4, 2), o_is 4 13),
  (13, (.bipush 11, 2), o_ii 11 15),
  (15, (.istore 5, 2), o_is 5 17),
  (17, (.aload_n 0, 1), o_al 0 18),
  (18, (.invokevirtual 169, 3), o_cV CX4_think 4 0 21),
  (21, (.iconst 0, 1), o_ii 0 22),
  (22, (.istore 6, 2), o_is 6 24),
  (24, (.iload 6, 2), o_il 6 26),
  (26, (.sipush 1023, 3), o_ii 1023 29),
  (29, (.if_icmp .gt 62, 3), o_ic (fun x y => y < x) 91 32),
  (32, (.iload 6, 2), o_il 6 34),
  (34, (.iload_n 3, 1), o_il 3 35),
  (35, (.iand, 1), o_bi (fun x y => x &&& y) 36),
  (36, (.ifCond .ne 49, 3), o_if (fun x => ¬ x = 0) 85 39),
  (39, (.iload 6, 2), o_il 6 41),
  (41, (.invokestatic 61, 3), o_cS CJ6_bitCount_0f7a4 1 44),
  (44, (.iload 5, 2), o_il 5 46),
  (46, (.if_icmp .ge 39, 3), o_ic (fun x y => y ≤ x) 85 49),
  (49, (.aload_n 0, 1), o_al 0 50),
  (50, (.getfield 48, 3), o_gF 4 11 53),
  (53, (.getfield 122, 3), o_gF 0 3 56),
  (56, (.iload_n 1, 1), o_il 1 57),
  (57, (.iload_n 3, 1), o_il 3 58),
  (58, (.iload 6, 2), o_il 6 60),
  (60, (.ior, 1), o_bi (fun x y => x ||| y) 61),
  (61, (.iastore, 1), o_iast 62),
  (62, (.aload_n 0, 1), o_al 0 63),
  (63, (.getfield 48, 3), o_gF 4 11 66),
  (66, (.iload_n 1, 1), o_il 1 67),
  (67, (.iload_n 2, 1), o_il 2 68),
  (68, (.invokevirtual 146, 3), o_cV CX0_may 0 2 71),
  (71, (.ifCond .eq 14, 3), o_if (fun x => x = 0) 85 74),
  (74, (.iload 6, 2), o_il 6 76),
  (76, (.istore 4, 2), o_is 4 78),
  (78, (.iload 6, 2), o_il 6 80),
  (80, (.invokestatic 61, 3), o_cS CJ6_bitCount_0f7a4 1 83),
  (83, (.istore 5, 2), o_is 5 85),
  (85, (.iinc 6 1, 3), o_inc 6 1 88),
  (88, (.goto (-64), 3), o_go 24),
  (91, (.iload 4, 2), o_il 4 93),
  (93, (.ireturn, 1), o_ri)]
abbrev CX4_fewestLosses : aC := aCl tX4_fewestLosses 7
def rmX4_fewestLosses : Room := { frames := 4, cells := 0, slots := 0, locals := 101 }
set_option maxRecDepth 100000 in
theorem dX4_fewestLosses : tX4_fewestLosses.all (fun q => decide (decode cX4_fewestLosses q.1 = .ok q.2.1)) = true := by decide +kernel
set_option maxRecDepth 100000 in
set_option maxHeartbeats 4000000 in
theorem nX4_fewestLosses (l : Launch) : aMt l yX4_fewestLosses (Cond.code yX4_fewestLosses cX4_fewestLosses 7 (some .int) :: wsL_law) rmX4_fewestLosses CX4_fewestLosses := by
  refine aMt.of (own := RX4) (cc := cX4_fewestLosses) (maxL := 7) (ret := (some .int)) (by decide +kernel) rfl rfl ?_
  intro p e s m args below meth c Qc D Z ad P G A E hX hr hlk hE
  have up : ∀ w ∈ wsL_law, w ∈ (Cond.code yX4_fewestLosses cX4_fewestLosses 7 (some .int) :: wsL_law) := fun w h => List.mem_cons_of_mem _ h
  refine aImp_all _ dX4_fewestLosses ?_
  unfold tX4_fewestLosses
  refine aI_c (fun hd => s_al_n hX hd rfl rfl) ?_
  refine aI_c (fun hd => s_gF hX (C := RX4) (T := TX4) (N := 9) (k := 0) rfl (fun w h => up w (inlX4 w h)) (by decide) rfl rfl rfl (up _ lkX4_44) hd rfl) ?_
  refine aI_c (fun hd => s_gF hX (C := RX0) (T := TX0) (N := 15) (k := 2) rfl (fun w h => up w (inlX0 w h)) (by decide) rfl rfl rfl (up _ lkX4_122) hd rfl) ?_
  refine aI_c (fun hd => s_il_n hX hd rfl rfl) ?_
  refine aI_c (fun hd => s_iald hX hd rfl) ?_
  refine aI_c (fun hd => s_is_n hX hd rfl rfl (by decide)) ?_
  refine aI_c (fun hd => s_ii hX hd (by decide) rfl) ?_
  refine aI_c (fun hd => s_is hX hd rfl (by decide)) ?_
  refine aI_c (fun hd => s_bp hX hd (by decide) rfl) ?_
  refine aI_c (fun hd => s_is hX hd rfl (by decide)) ?_
  refine aI_c (fun hd => s_al_n hX hd rfl rfl) ?_
  refine aI_c (fun hd => s_cV hX (T := TX4) (N := 9) (nX4_think l) rfl (wg_V up lmX4_169 loX4_think) rfl rfl rfl (by decide +kernel) ⟨by decide, by decide⟩ ⟨Nat.zero_le _, Nat.zero_le _⟩ hd rfl) ?_
  refine aI_c (fun hd => s_ii hX hd (by decide) rfl) ?_
  refine aI_c (fun hd => s_is hX hd rfl (by decide)) ?_
  refine aI_c (fun hd => s_il hX hd rfl) ?_
  refine aI_c (fun hd => s_sp hX hd (by decide) rfl) ?_
  refine aI_c (fun hd => s_ic_gt hX hd (by decide) rfl) ?_
  refine aI_c (fun hd => s_il hX hd rfl) ?_
  refine aI_c (fun hd => s_il_n hX hd rfl rfl) ?_
  refine aI_c (fun hd => s_iand hX hd rfl) ?_
  refine aI_c (fun hd => s_if_ne hX hd (by decide) rfl) ?_
  refine aI_c (fun hd => s_il hX hd rfl) ?_
  refine aI_c (fun hd => s_cS hX (nJ6_bitCount_0f7a4 l) (wg_S up lmX4_61 loJ6_bitCount_0f7a4) rfl rfl rfl (by decide +kernel) ⟨by decide, by decide⟩ ⟨Nat.zero_le _, Nat.zero_le _⟩ hd rfl) ?_
  refine aI_c (fun hd => s_il hX hd rfl) ?_
  refine aI_c (fun hd => s_ic_ge hX hd (by decide) rfl) ?_
  refine aI_c (fun hd => s_al_n hX hd rfl rfl) ?_
  refine aI_c (fun hd => s_gF hX (C := RX4) (T := TX4) (N := 9) (k := 1) rfl (fun w h => up w (inlX4 w h)) (by decide) rfl rfl rfl (up _ lkX4_48) hd rfl) ?_
  refine aI_c (fun hd => s_gF hX (C := RX0) (T := TX0) (N := 15) (k := 2) rfl (fun w h => up w (inlX0 w h)) (by decide) rfl rfl rfl (up _ lkX4_122) hd rfl) ?_
  refine aI_c (fun hd => s_il_n hX hd rfl rfl) ?_
  refine aI_c (fun hd => s_il_n hX hd rfl rfl) ?_
  refine aI_c (fun hd => s_il hX hd rfl) ?_
  refine aI_c (fun hd => s_ior hX hd rfl) ?_
  refine aI_c (fun hd => s_iast hX hd rfl) ?_
  refine aI_c (fun hd => s_al_n hX hd rfl rfl) ?_
  refine aI_c (fun hd => s_gF hX (C := RX4) (T := TX4) (N := 9) (k := 1) rfl (fun w h => up w (inlX4 w h)) (by decide) rfl rfl rfl (up _ lkX4_48) hd rfl) ?_
  refine aI_c (fun hd => s_il_n hX hd rfl rfl) ?_
  refine aI_c (fun hd => s_il_n hX hd rfl rfl) ?_
  refine aI_c (fun hd => s_cV hX (T := TX0) (N := 15) (nX0_may l) rfl (wg_V up lmX4_146 loX0_may) rfl rfl rfl (by decide +kernel) ⟨by decide, by decide⟩ ⟨Nat.zero_le _, Nat.zero_le _⟩ hd rfl) ?_
  refine aI_c (fun hd => s_if_eq hX hd (by decide) rfl) ?_
  refine aI_c (fun hd => s_il hX hd rfl) ?_
  refine aI_c (fun hd => s_is hX hd rfl (by decide)) ?_
  refine aI_c (fun hd => s_il hX hd rfl) ?_
  refine aI_c (fun hd => s_cS hX (nJ6_bitCount_0f7a4 l) (wg_S up lmX4_61 loJ6_bitCount_0f7a4) rfl rfl rfl (by decide +kernel) ⟨by decide, by decide⟩ ⟨Nat.zero_le _, Nat.zero_le _⟩ hd rfl) ?_
  refine aI_c (fun hd => s_is hX hd rfl (by decide)) ?_
  refine aI_c (fun hd => s_inc hX hd (by decide) rfl (by decide)) ?_
  refine aI_c (fun hd => s_go hX hd (by decide)) ?_
  refine aI_c (fun hd => s_il hX hd rfl) ?_
  refine aI_c (fun hd => s_ri hX hr hlk hE hd) ?_
  exact trivial

-- JudgesByLoss.wants(III)I
def tX4_wants : aT := [
  (0, (.aload_n 0, 1), o_al 0 1),
  (1, (.getfield 44, 3), o_gF 4 1 4),
  (4, (.iload_n 1, 1), o_il 1 5),
  (5, (.invokevirtual 103, 3), o_cV CX0_hasJudge 0 1 8),
  (8, (.ifCond .ne 6, 3), o_if (fun x => ¬ x = 0) 14 11),
  (11, (.bipush (-5), 2), o_ii (-5) 13),
  (13, (.ireturn, 1), o_ri),
  (14, (.aload_n 0, 1), o_al 0 15),
  (15, (.getfield 44, 3), o_gF 4 1 18),
  (18, (.iload_n 2, 1), o_il 2 19),
  (19, (.invokevirtual 106, 3), o_cV CX0_hasCase 0 1 22),
  (22, (.ifCond .ne 6, 3), o_if (fun x => ¬ x = 0) 28 25),
  (25, (.bipush (-6), 2), o_ii (-6) 27),
  (27, (.ireturn, 1), o_ri),
  (28, (.iload_n 3, 1), o_il 3 29),
  (29, (.iconst 0, 1), o_ii 0 30),
  (30, (.iconst 1, 1), o_ii 1 31),
  (31, (.invokestatic 79, 3), o_cS CX4_within 3 34),
  (34, (.ifCond .ne 6, 3), o_if (fun x => ¬ x = 0) 40 37),
  (37, (.bipush (-7), 2), o_ii (-7) 39),
  (39, (.ireturn, 1), o_ri),
  (40, (.aload_n 0, 1), o_al 0 41),
  (41, (.iload_n 1, 1), o_il 1 42),
  (42, (.iload_n 2, 1), o_il 2 43),
  (43, (.invokevirtual 184, 3), o_cV CX4_fewestLosses 4 2 46),
  (46, (.istore 4, 2), o_is 4 48),
  (48, (.iload_n 3, 1), o_il 3 49),
  (49, (.ifCond .eq 9, 3), o_if (fun x => x = 0) 58 52),
  (52, (.iload 4, 2), o_il 4 54),
  (54, (.iconst (-1), 1), o_ii (-1) 55),
  (55, (.if_icmp .ne 8, 3), o_ic (fun x y => ¬ x = y) 63 58),
  (58, (.iload 4, 2), o_il 4 60),
  (60, (.goto 8, 3), o_go 68),
  (63, (.iload 4, 2), o_il 4 65),
  (65, (.invokestatic 61, 3), o_cS CJ6_bitCount_0f7a4 1 68),
  (68, (.ireturn, 1), o_ri)]
abbrev CX4_wants : aC := aCl tX4_wants 5
def rmX4_wants : Room := { frames := 5, cells := 0, slots := 0, locals := 127 }
set_option maxRecDepth 100000 in
theorem dX4_wants : tX4_wants.all (fun q => decide (decode cX4_wants q.1 = .ok q.2.1)) = true := by decide +kernel
set_option maxRecDepth 100000 in
set_option maxHeartbeats 4000000 in
theorem nX4_wants (l : Launch) : aMt l yX4_wants (Cond.code yX4_wants cX4_wants 5 (some .int) :: wsL_law) rmX4_wants CX4_wants := by
  refine aMt.of (own := RX4) (cc := cX4_wants) (maxL := 5) (ret := (some .int)) (by decide +kernel) rfl rfl ?_
  intro p e s m args below meth c Qc D Z ad P G A E hX hr hlk hE
  have up : ∀ w ∈ wsL_law, w ∈ (Cond.code yX4_wants cX4_wants 5 (some .int) :: wsL_law) := fun w h => List.mem_cons_of_mem _ h
  refine aImp_all _ dX4_wants ?_
  unfold tX4_wants
  refine aI_c (fun hd => s_al_n hX hd rfl rfl) ?_
  refine aI_c (fun hd => s_gF hX (C := RX4) (T := TX4) (N := 9) (k := 0) rfl (fun w h => up w (inlX4 w h)) (by decide) rfl rfl rfl (up _ lkX4_44) hd rfl) ?_
  refine aI_c (fun hd => s_il_n hX hd rfl rfl) ?_
  refine aI_c (fun hd => s_cV hX (T := TX0) (N := 15) (nX0_hasJudge l) rfl (wg_V up lmX4_103 loX0_hasJudge) rfl rfl rfl (by decide +kernel) ⟨by decide, by decide⟩ ⟨Nat.zero_le _, Nat.zero_le _⟩ hd rfl) ?_
  refine aI_c (fun hd => s_if_ne hX hd (by decide) rfl) ?_
  refine aI_c (fun hd => s_bp hX hd (by decide) rfl) ?_
  refine aI_c (fun hd => s_ri hX hr hlk hE hd) ?_
  refine aI_c (fun hd => s_al_n hX hd rfl rfl) ?_
  refine aI_c (fun hd => s_gF hX (C := RX4) (T := TX4) (N := 9) (k := 0) rfl (fun w h => up w (inlX4 w h)) (by decide) rfl rfl rfl (up _ lkX4_44) hd rfl) ?_
  refine aI_c (fun hd => s_il_n hX hd rfl rfl) ?_
  refine aI_c (fun hd => s_cV hX (T := TX0) (N := 15) (nX0_hasCase l) rfl (wg_V up lmX4_106 loX0_hasCase) rfl rfl rfl (by decide +kernel) ⟨by decide, by decide⟩ ⟨Nat.zero_le _, Nat.zero_le _⟩ hd rfl) ?_
  refine aI_c (fun hd => s_if_ne hX hd (by decide) rfl) ?_
  refine aI_c (fun hd => s_bp hX hd (by decide) rfl) ?_
  refine aI_c (fun hd => s_ri hX hr hlk hE hd) ?_
  refine aI_c (fun hd => s_il_n hX hd rfl rfl) ?_
  refine aI_c (fun hd => s_ii hX hd (by decide) rfl) ?_
  refine aI_c (fun hd => s_ii hX hd (by decide) rfl) ?_
  refine aI_c (fun hd => s_cS hX (nX4_within l) (wg_S up lmX4_79 loX4_within) rfl rfl rfl (by decide +kernel) ⟨by decide, by decide⟩ ⟨Nat.zero_le _, Nat.zero_le _⟩ hd rfl) ?_
  refine aI_c (fun hd => s_if_ne hX hd (by decide) rfl) ?_
  refine aI_c (fun hd => s_bp hX hd (by decide) rfl) ?_
  refine aI_c (fun hd => s_ri hX hr hlk hE hd) ?_
  refine aI_c (fun hd => s_al_n hX hd rfl rfl) ?_
  refine aI_c (fun hd => s_il_n hX hd rfl rfl) ?_
  refine aI_c (fun hd => s_il_n hX hd rfl rfl) ?_
  refine aI_c (fun hd => s_cV hX (T := TX4) (N := 9) (nX4_fewestLosses l) rfl (wg_V up lmX4_184 loX4_fewestLosses) rfl rfl rfl (by decide +kernel) ⟨by decide, by decide⟩ ⟨Nat.zero_le _, Nat.zero_le _⟩ hd rfl) ?_
  refine aI_c (fun hd => s_is hX hd rfl (by decide)) ?_
  refine aI_c (fun hd => s_il_n hX hd rfl rfl) ?_
  refine aI_c (fun hd => s_if_eq hX hd (by decide) rfl) ?_
  refine aI_c (fun hd => s_il hX hd rfl) ?_
  refine aI_c (fun hd => s_ii hX hd (by decide) rfl) ?_
  refine aI_c (fun hd => s_ic_ne hX hd (by decide) rfl) ?_
  refine aI_c (fun hd => s_il hX hd rfl) ?_
  refine aI_c (fun hd => s_go hX hd (by decide)) ?_
  refine aI_c (fun hd => s_il hX hd rfl) ?_
  refine aI_c (fun hd => s_cS hX (nJ6_bitCount_0f7a4 l) (wg_S up lmX4_61 loJ6_bitCount_0f7a4) rfl rfl rfl (by decide +kernel) ⟨by decide, by decide⟩ ⟨Nat.zero_le _, Nat.zero_le _⟩ hd rfl) ?_
  refine aI_c (fun hd => s_ri hX hr hlk hE hd) ?_
  exact trivial

-- JudgesByLoss.fullest(I)I
def tX4_fullest : aT := [
  (0, (.iload_n 1, 1), o_il 1 1),
  (1, (.iconst 0, 1), o_ii 0 2),
  (2, (.iconst 1, 1), o_ii 1 3),
  (3, (.invokestatic 79, 3), o_cS CX4_within 3 6),
  (6, (.ifCond .ne 6, 3), o_if (fun x => ¬ x = 0) 12 9),
  (9, (.bipush (-2), 2), o_ii (-2) 11),
  (11, (.ireturn, 1), o_ri),
  (12, (.iconst (-1), 1), o_ii (-1) 13),
  (13, (.istore_n 2, 1), o_is 2 14),
  (14, (.iconst 0, 1), o_ii 0 15),
  (15, (.istore_n 3, 1), o_is 3 16),
  (16, (.iconst 0, 1), o_ii 0 17),
  (17, (.istore 4, 2), o_is 4 19),
  (19, (.iconst 0, 1), o_ii 0 20),
  (20, (.istore 5, 2), o_is 5 22),
  (22, (.iload 5, 2), o_mk [false, false, false, false, false, false, true, true] (o_il 5 24)),
  (24, (.aload_n 0, 1), o_al 0 25),
  (25, (.getfield 44, 3), o_gF 4 1 28),
  (28, (.getfield 55, 3), o_gI 0 9 31),
  (31, (.if_icmp .ge 72, 3), o_ic (fun x y => y ≤ x) 103 34),
  (34, (.aload_n 0, 1), o_al 0 35),
  (35, (.getfield 44, 3), o_gF 4 1 38),
  (38, (.iload 5, 2), o_il 5 40),
  (40, (.invokevirtual 140, 3), o_cV CX0_casesFor 0 1 43),
  (43, (.invokestatic 61, 3), o_cS CJ6_bitCount_0f7a4 1 46),
  (46, (.istore 6, 2), o_is 6 48),
  (48, (.aload_n 0, 1), o_al 0 49),
  (49, (.getfield 44, 3), o_gF 4 1 52),
  (52, (.getfield 122, 3), o_gF 0 3 55),
  (55, (.iload 5, 2), o_il 5 57),
  (57, (.iaload, 1), o_iald 58),
  (58, (.invokestatic 61, 3), o_cS CJ6_bitCount_0f7a4 1 61),
  (61, (.istore 7, 2), o_is 7 63),
  (63, (.iload_n 2, 1), o_il 2 64),
  (64, (.iconst (-1), 1), o_ii (-1) 65),
  (65, (.if_icmp .eq 22, 3), o_ic (fun x y => x = y) 87 68),
  (68, (.iload 6, 2), o_il 6 70),
  (70, (.iload_n 3, 1), o_il 3 71),
  (71, (.if_icmp .gt 16, 3), o_ic (fun x y => y < x) 87 74),
  (74, (.iload 6, 2), o_il 6 76),
  (76, (.iload_n 3, 1), o_il 3 77),
  (77, (.if_icmp .ne 20, 3), o_ic (fun x y => ¬ x = y) 97 80),
  (80, (.iload 7, 2), o_il 7 82),
  (82, (.iload 4, 2), o_il 4 84),
  (84, (.if_icmp .le 13, 3), o_ic (fun x y => x ≤ y) 97 87),
  (87, (.iload 5, 2), o_il 5 89),
  (89, (.istore_n 2, 1), o_is 2 90),
  (90, (.iload 6, 2), o_il 6 92),
  (92, (.istore_n 3, 1), o_is 3 93),
  (93, (.iload 7, 2), o_il 7 95),
  (95, (.istore 4, 2), o_is 4 97),
  (97, (.iinc 5 1, 3), o_inc 5 1 100),
  (100, (.goto (-78), 3), o_go 22),
  (103, (.iload_n 1, 1), o_il 1 104),
  (104, (.ifCond .ne 7, 3), o_if (fun x => ¬ x = 0) 111 107),
  (107, (.iload_n 2, 1), o_il 2 108),
  (108, (.goto 4, 3), o_go 112),
  (111, (.iload_n 3, 1), o_il 3 112),
  (112, (.ireturn, 1), o_ri)]
abbrev CX4_fullest : aC := aCl tX4_fullest 8
def rmX4_fullest : Room := { frames := 5, cells := 0, slots := 0, locals := 119 }
set_option maxRecDepth 100000 in
theorem dX4_fullest : tX4_fullest.all (fun q => decide (decode cX4_fullest q.1 = .ok q.2.1)) = true := by decide +kernel
set_option maxRecDepth 100000 in
set_option maxHeartbeats 4000000 in
theorem nX4_fullest (l : Launch) : aMt l yX4_fullest (Cond.code yX4_fullest cX4_fullest 8 (some .int) :: wsL_law) rmX4_fullest CX4_fullest := by
  refine aMt.of (own := RX4) (cc := cX4_fullest) (maxL := 8) (ret := (some .int)) (by decide +kernel) rfl rfl ?_
  intro p e s m args below meth c Qc D Z ad P G A E hX hr hlk hE
  have up : ∀ w ∈ wsL_law, w ∈ (Cond.code yX4_fullest cX4_fullest 8 (some .int) :: wsL_law) := fun w h => List.mem_cons_of_mem _ h
  refine aImp_all _ dX4_fullest ?_
  unfold tX4_fullest
  refine aI_c (fun hd => s_il_n hX hd rfl rfl) ?_
  refine aI_c (fun hd => s_ii hX hd (by decide) rfl) ?_
  refine aI_c (fun hd => s_ii hX hd (by decide) rfl) ?_
  refine aI_c (fun hd => s_cS hX (nX4_within l) (wg_S up lmX4_79 loX4_within) rfl rfl rfl (by decide +kernel) ⟨by decide, by decide⟩ ⟨Nat.zero_le _, Nat.zero_le _⟩ hd rfl) ?_
  refine aI_c (fun hd => s_if_ne hX hd (by decide) rfl) ?_
  refine aI_c (fun hd => s_bp hX hd (by decide) rfl) ?_
  refine aI_c (fun hd => s_ri hX hr hlk hE hd) ?_
  refine aI_c (fun hd => s_ii hX hd (by decide) rfl) ?_
  refine aI_c (fun hd => s_is_n hX hd rfl rfl (by decide)) ?_
  refine aI_c (fun hd => s_ii hX hd (by decide) rfl) ?_
  refine aI_c (fun hd => s_is_n hX hd rfl rfl (by decide)) ?_
  refine aI_c (fun hd => s_ii hX hd (by decide) rfl) ?_
  refine aI_c (fun hd => s_is hX hd rfl (by decide)) ?_
  refine aI_c (fun hd => s_ii hX hd (by decide) rfl) ?_
  refine aI_c (fun hd => s_is hX hd rfl (by decide)) ?_
  refine aI_c (fun hd => s_mk (s_il hX hd rfl)) ?_
  refine aI_c (fun hd => s_al_n hX hd rfl rfl) ?_
  refine aI_c (fun hd => s_gF hX (C := RX4) (T := TX4) (N := 9) (k := 0) rfl (fun w h => up w (inlX4 w h)) (by decide) rfl rfl rfl (up _ lkX4_44) hd rfl) ?_
  refine aI_c (fun hd => s_gI hX (C := RX0) (T := TX0) (N := 15) (k := 9) rfl (fun w h => up w (inlX0 w h)) (by decide) rfl rfl rfl (up _ lkX4_55) hd rfl) ?_
  refine aI_c (fun hd => s_ic_ge hX hd (by decide) rfl) ?_
  refine aI_c (fun hd => s_al_n hX hd rfl rfl) ?_
  refine aI_c (fun hd => s_gF hX (C := RX4) (T := TX4) (N := 9) (k := 0) rfl (fun w h => up w (inlX4 w h)) (by decide) rfl rfl rfl (up _ lkX4_44) hd rfl) ?_
  refine aI_c (fun hd => s_il hX hd rfl) ?_
  refine aI_c (fun hd => s_cV hX (T := TX0) (N := 15) (nX0_casesFor l) rfl (wg_V up lmX4_140 loX0_casesFor) rfl rfl rfl (by decide +kernel) ⟨by decide, by decide⟩ ⟨Nat.zero_le _, Nat.zero_le _⟩ hd rfl) ?_
  refine aI_c (fun hd => s_cS hX (nJ6_bitCount_0f7a4 l) (wg_S up lmX4_61 loJ6_bitCount_0f7a4) rfl rfl rfl (by decide +kernel) ⟨by decide, by decide⟩ ⟨Nat.zero_le _, Nat.zero_le _⟩ hd rfl) ?_
  refine aI_c (fun hd => s_is hX hd rfl (by decide)) ?_
  refine aI_c (fun hd => s_al_n hX hd rfl rfl) ?_
  refine aI_c (fun hd => s_gF hX (C := RX4) (T := TX4) (N := 9) (k := 0) rfl (fun w h => up w (inlX4 w h)) (by decide) rfl rfl rfl (up _ lkX4_44) hd rfl) ?_
  refine aI_c (fun hd => s_gF hX (C := RX0) (T := TX0) (N := 15) (k := 2) rfl (fun w h => up w (inlX0 w h)) (by decide) rfl rfl rfl (up _ lkX4_122) hd rfl) ?_
  refine aI_c (fun hd => s_il hX hd rfl) ?_
  refine aI_c (fun hd => s_iald hX hd rfl) ?_
  refine aI_c (fun hd => s_cS hX (nJ6_bitCount_0f7a4 l) (wg_S up lmX4_61 loJ6_bitCount_0f7a4) rfl rfl rfl (by decide +kernel) ⟨by decide, by decide⟩ ⟨Nat.zero_le _, Nat.zero_le _⟩ hd rfl) ?_
  refine aI_c (fun hd => s_is hX hd rfl (by decide)) ?_
  refine aI_c (fun hd => s_il_n hX hd rfl rfl) ?_
  refine aI_c (fun hd => s_ii hX hd (by decide) rfl) ?_
  refine aI_c (fun hd => s_ic_eq hX hd (by decide) rfl) ?_
  refine aI_c (fun hd => s_il hX hd rfl) ?_
  refine aI_c (fun hd => s_il_n hX hd rfl rfl) ?_
  refine aI_c (fun hd => s_ic_gt hX hd (by decide) rfl) ?_
  refine aI_c (fun hd => s_il hX hd rfl) ?_
  refine aI_c (fun hd => s_il_n hX hd rfl rfl) ?_
  refine aI_c (fun hd => s_ic_ne hX hd (by decide) rfl) ?_
  refine aI_c (fun hd => s_il hX hd rfl) ?_
  refine aI_c (fun hd => s_il hX hd rfl) ?_
  refine aI_c (fun hd => s_ic_le hX hd (by decide) rfl) ?_
  refine aI_c (fun hd => s_il hX hd rfl) ?_
  refine aI_c (fun hd => s_is_n hX hd rfl rfl (by decide)) ?_
  refine aI_c (fun hd => s_il hX hd rfl) ?_
  refine aI_c (fun hd => s_is_n hX hd rfl rfl (by decide)) ?_
  refine aI_c (fun hd => s_il hX hd rfl) ?_
  refine aI_c (fun hd => s_is hX hd rfl (by decide)) ?_
  refine aI_c (fun hd => s_inc hX hd (by decide) rfl (by decide)) ?_
  refine aI_c (fun hd => s_go hX hd (by decide)) ?_
  refine aI_c (fun hd => s_il_n hX hd rfl rfl) ?_
  refine aI_c (fun hd => s_if_ne hX hd (by decide) rfl) ?_
  refine aI_c (fun hd => s_il_n hX hd rfl rfl) ?_
  refine aI_c (fun hd => s_go hX hd (by decide)) ?_
  refine aI_c (fun hd => s_il_n hX hd rfl rfl) ?_
  refine aI_c (fun hd => s_ri hX hr hlk hE hd) ?_
  exact trivial

-- JudgesByLoss.cruel()I
def tX4_cruel : aT := [
  (0, (.iconst 0, 1), o_ii 0 1),
  (1, (.istore_n 1, 1), o_is 1 2),
  (2, (.iconst 0, 1), o_ii 0 3),
  (3, (.istore_n 2, 1), o_is 2 4),
  (4, (.iload_n 2, 1), o_il 2 5),
  (5, (.bipush 8, 2), o_ii 8 7),
  (7, (.if_icmp .ge 37, 3), o_ic (fun x y => y ≤ x) 44 10),
  (10, (.aload_n 0, 1), o_al 0 11),
  (11, (.getfield 44, 3), o_gF 4 1 14),
  (14, (.iload_n 2, 1), o_il 2 15),
  (15, (.invokevirtual 106, 3), o_cV CX0_hasCase 0 1 18),
  (18, (.ifCond .eq 20, 3), o_if (fun x => x = 0) 38 21),
  (21, (.aload_n 0, 1), o_al 0 22),
  (22, (.getfield 44, 3), o_gF 4 1 25),
  (25, (.iload_n 2, 1), o_il 2 26),
  (26, (.invokevirtual 143, 3), o_cV CX0_judgesFor 0 1 29),
  (29, (.ifCond .ne 9, 3), o_if (fun x => ¬ x = 0) 38 32),
  (32, (.iload_n 1, 1), o_il 1 33),
  (33, (.iconst 1, 1), o_ii 1 34),
  (34, (.iload_n 2, 1), o_il 2 35),
  (35, (.ishl, 1), o_bi (fun x y => x <<< (y &&& 31)) 36),
  (36, (.ior, 1), o_bi (fun x y => x ||| y) 37),
  (37, (.istore_n 1, 1), o_is 1 38),
  (38, (.iinc 2 1, 3), o_inc 2 1 41),
  (41, (.goto (-37), 3), o_go 4),
  (44, (.iload_n 1, 1), o_il 1 45),
  (45, (.ireturn, 1), o_ri)]
abbrev CX4_cruel : aC := aCl tX4_cruel 3
def rmX4_cruel : Room := { frames := 5, cells := 0, slots := 0, locals := 119 }
set_option maxRecDepth 100000 in
theorem dX4_cruel : tX4_cruel.all (fun q => decide (decode cX4_cruel q.1 = .ok q.2.1)) = true := by decide +kernel
set_option maxRecDepth 100000 in
set_option maxHeartbeats 4000000 in
theorem nX4_cruel (l : Launch) : aMt l yX4_cruel (Cond.code yX4_cruel cX4_cruel 3 (some .int) :: wsL_law) rmX4_cruel CX4_cruel := by
  refine aMt.of (own := RX4) (cc := cX4_cruel) (maxL := 3) (ret := (some .int)) (by decide +kernel) rfl rfl ?_
  intro p e s m args below meth c Qc D Z ad P G A E hX hr hlk hE
  have up : ∀ w ∈ wsL_law, w ∈ (Cond.code yX4_cruel cX4_cruel 3 (some .int) :: wsL_law) := fun w h => List.mem_cons_of_mem _ h
  refine aImp_all _ dX4_cruel ?_
  unfold tX4_cruel
  refine aI_c (fun hd => s_ii hX hd (by decide) rfl) ?_
  refine aI_c (fun hd => s_is_n hX hd rfl rfl (by decide)) ?_
  refine aI_c (fun hd => s_ii hX hd (by decide) rfl) ?_
  refine aI_c (fun hd => s_is_n hX hd rfl rfl (by decide)) ?_
  refine aI_c (fun hd => s_il_n hX hd rfl rfl) ?_
  refine aI_c (fun hd => s_bp hX hd (by decide) rfl) ?_
  refine aI_c (fun hd => s_ic_ge hX hd (by decide) rfl) ?_
  refine aI_c (fun hd => s_al_n hX hd rfl rfl) ?_
  refine aI_c (fun hd => s_gF hX (C := RX4) (T := TX4) (N := 9) (k := 0) rfl (fun w h => up w (inlX4 w h)) (by decide) rfl rfl rfl (up _ lkX4_44) hd rfl) ?_
  refine aI_c (fun hd => s_il_n hX hd rfl rfl) ?_
  refine aI_c (fun hd => s_cV hX (T := TX0) (N := 15) (nX0_hasCase l) rfl (wg_V up lmX4_106 loX0_hasCase) rfl rfl rfl (by decide +kernel) ⟨by decide, by decide⟩ ⟨Nat.zero_le _, Nat.zero_le _⟩ hd rfl) ?_
  refine aI_c (fun hd => s_if_eq hX hd (by decide) rfl) ?_
  refine aI_c (fun hd => s_al_n hX hd rfl rfl) ?_
  refine aI_c (fun hd => s_gF hX (C := RX4) (T := TX4) (N := 9) (k := 0) rfl (fun w h => up w (inlX4 w h)) (by decide) rfl rfl rfl (up _ lkX4_44) hd rfl) ?_
  refine aI_c (fun hd => s_il_n hX hd rfl rfl) ?_
  refine aI_c (fun hd => s_cV hX (T := TX0) (N := 15) (nX0_judgesFor l) rfl (wg_V up lmX4_143 loX0_judgesFor) rfl rfl rfl (by decide +kernel) ⟨by decide, by decide⟩ ⟨Nat.zero_le _, Nat.zero_le _⟩ hd rfl) ?_
  refine aI_c (fun hd => s_if_ne hX hd (by decide) rfl) ?_
  refine aI_c (fun hd => s_il_n hX hd rfl rfl) ?_
  refine aI_c (fun hd => s_ii hX hd (by decide) rfl) ?_
  refine aI_c (fun hd => s_il_n hX hd rfl rfl) ?_
  refine aI_c (fun hd => s_ishl hX hd rfl) ?_
  refine aI_c (fun hd => s_ior hX hd rfl) ?_
  refine aI_c (fun hd => s_is_n hX hd rfl rfl (by decide)) ?_
  refine aI_c (fun hd => s_inc hX hd (by decide) rfl (by decide)) ?_
  refine aI_c (fun hd => s_go hX hd (by decide)) ?_
  refine aI_c (fun hd => s_il_n hX hd rfl rfl) ?_
  refine aI_c (fun hd => s_ri hX hr hlk hE hd) ?_
  exact trivial

-- JudgesByLoss.commonDivisor(II)I
def tX4_commonDivisor : aT := [
  (0, (.iload_n 0, 1), o_il 0 1),
  (1, (.istore_n 2, 1), o_is 2 2),
  (2, (.iload_n 1, 1), o_il 1 3),
  (3, (.istore_n 3, 1), o_is 3 4),
  (4, (.iconst 0, 1), o_ii 0 5),
  (5, (.istore 4, 2), o_is 4 7),
  (7, (.iload 4, 2), o_mk [true, true, false, false, false, true] (o_il 4 9)),
  (9, (.bipush 50, 2), o_ii 50 11),
  (11, (.if_icmp .ge 23, 3), o_ic (fun x y => y ≤ x) 34 14),
  (14, (.iload_n 3, 1), o_il 3 15),
  (15, (.ifCond .eq 19, 3), o_if (fun x => x = 0) 34 18),
  (18, (.iload_n 2, 1), o_il 2 19),
  (19, (.iload_n 3, 1), o_il 3 20),
  (20, (.irem, 1), o_rm 21),
  (21, (.istore 5, 2), o_is 5 23),
  (23, (.iload_n 3, 1), o_il 3 24),
  (24, (.istore_n 2, 1), o_is 2 25),
  (25, (.iload 5, 2), o_il 5 27),
  (27, (.istore_n 3, 1), o_is 3 28),
  (28, (.iinc 4 1, 3), o_inc 4 1 31),
  (31, (.goto (-24), 3), o_go 7),
  (34, (.iload_n 2, 1), o_il 2 35),
  (35, (.ireturn, 1), o_ri)]
abbrev CX4_commonDivisor : aC := aCl tX4_commonDivisor 6
def rmX4_commonDivisor : Room := { frames := 1, cells := 0, slots := 0, locals := 1 }
set_option maxRecDepth 100000 in
theorem dX4_commonDivisor : tX4_commonDivisor.all (fun q => decide (decode cX4_commonDivisor q.1 = .ok q.2.1)) = true := by decide +kernel
set_option maxRecDepth 100000 in
set_option maxHeartbeats 4000000 in
theorem nX4_commonDivisor (l : Launch) : aMt l yX4_commonDivisor (Cond.code yX4_commonDivisor cX4_commonDivisor 6 (some .int) :: wsL_law) rmX4_commonDivisor CX4_commonDivisor := by
  refine aMt.of (own := RX4) (cc := cX4_commonDivisor) (maxL := 6) (ret := (some .int)) (by decide +kernel) rfl rfl ?_
  intro p e s m args below meth c Qc D Z ad P G A E hX hr hlk hE
  have up : ∀ w ∈ wsL_law, w ∈ (Cond.code yX4_commonDivisor cX4_commonDivisor 6 (some .int) :: wsL_law) := fun w h => List.mem_cons_of_mem _ h
  refine aImp_all _ dX4_commonDivisor ?_
  unfold tX4_commonDivisor
  refine aI_c (fun hd => s_il_n hX hd rfl rfl) ?_
  refine aI_c (fun hd => s_is_n hX hd rfl rfl (by decide)) ?_
  refine aI_c (fun hd => s_il_n hX hd rfl rfl) ?_
  refine aI_c (fun hd => s_is_n hX hd rfl rfl (by decide)) ?_
  refine aI_c (fun hd => s_ii hX hd (by decide) rfl) ?_
  refine aI_c (fun hd => s_is hX hd rfl (by decide)) ?_
  refine aI_c (fun hd => s_mk (s_il hX hd rfl)) ?_
  refine aI_c (fun hd => s_bp hX hd (by decide) rfl) ?_
  refine aI_c (fun hd => s_ic_ge hX hd (by decide) rfl) ?_
  refine aI_c (fun hd => s_il_n hX hd rfl rfl) ?_
  refine aI_c (fun hd => s_if_eq hX hd (by decide) rfl) ?_
  refine aI_c (fun hd => s_il_n hX hd rfl rfl) ?_
  refine aI_c (fun hd => s_il_n hX hd rfl rfl) ?_
  refine aI_c (fun hd => s_irem hX hd rfl) ?_
  refine aI_c (fun hd => s_is hX hd rfl (by decide)) ?_
  refine aI_c (fun hd => s_il_n hX hd rfl rfl) ?_
  refine aI_c (fun hd => s_is_n hX hd rfl rfl (by decide)) ?_
  refine aI_c (fun hd => s_il hX hd rfl) ?_
  refine aI_c (fun hd => s_is_n hX hd rfl rfl (by decide)) ?_
  refine aI_c (fun hd => s_inc hX hd (by decide) rfl (by decide)) ?_
  refine aI_c (fun hd => s_go hX hd (by decide)) ?_
  refine aI_c (fun hd => s_il_n hX hd rfl rfl) ?_
  refine aI_c (fun hd => s_ri hX hr hlk hE hd) ?_
  exact trivial

-- JudgesByLoss.partOfFraction(III)J
def tX4_partOfFraction : aT := [
  (0, (.iload_n 0, 1), o_il 0 1),
  (1, (.iload_n 1, 1), o_il 1 2),
  (2, (.invokestatic 248, 3), o_cS CX4_commonDivisor 2 5),
  (5, (.istore_n 3, 1), o_is 3 6),
  (6, (.iload_n 3, 1), o_il 3 7),
  (7, (.ifCond .ne 7, 3), o_if (fun x => ¬ x = 0) 14 10),
  (10, (.ldc2_w 187, 3), o_lc (-4611686018427387904) 13),
  (13, (.lreturn, 1), o_rl),
  (14, (.iload_n 2, 1), o_il 2 15),
  (15, (.ifCond .ne 7, 3), o_if (fun x => ¬ x = 0) 22 18),
  (18, (.iload_n 0, 1), o_il 0 19),
  (19, (.goto 4, 3), o_go 23),
  (22, (.iload_n 1, 1), o_il 1 23),
  (23, (.iload_n 3, 1), o_il 3 24),
  (24, (.idiv, 1), o_dv 25),
  (25, (.i2l, 1), o_tl (fun x => x.toInt64) 26),
  (26, (.lreturn, 1), o_rl)]
abbrev CX4_partOfFraction : aC := aCl tX4_partOfFraction 4
def rmX4_partOfFraction : Room := { frames := 2, cells := 0, slots := 0, locals := 26 }
set_option maxRecDepth 100000 in
theorem dX4_partOfFraction : tX4_partOfFraction.all (fun q => decide (decode cX4_partOfFraction q.1 = .ok q.2.1)) = true := by decide +kernel
set_option maxRecDepth 100000 in
set_option maxHeartbeats 4000000 in
theorem nX4_partOfFraction (l : Launch) : aMt l yX4_partOfFraction (Cond.code yX4_partOfFraction cX4_partOfFraction 4 (some .long) :: wsL_law) rmX4_partOfFraction CX4_partOfFraction := by
  refine aMt.of (own := RX4) (cc := cX4_partOfFraction) (maxL := 4) (ret := (some .long)) (by decide +kernel) rfl rfl ?_
  intro p e s m args below meth c Qc D Z ad P G A E hX hr hlk hE
  have up : ∀ w ∈ wsL_law, w ∈ (Cond.code yX4_partOfFraction cX4_partOfFraction 4 (some .long) :: wsL_law) := fun w h => List.mem_cons_of_mem _ h
  refine aImp_all _ dX4_partOfFraction ?_
  unfold tX4_partOfFraction
  refine aI_c (fun hd => s_il_n hX hd rfl rfl) ?_
  refine aI_c (fun hd => s_il_n hX hd rfl rfl) ?_
  refine aI_c (fun hd => s_cS hX (nX4_commonDivisor l) (wg_S up lmX4_248 loX4_commonDivisor) rfl rfl rfl (by decide +kernel) ⟨by decide, by decide⟩ ⟨Nat.zero_le _, Nat.zero_le _⟩ hd rfl) ?_
  refine aI_c (fun hd => s_is_n hX hd rfl rfl (by decide)) ?_
  refine aI_c (fun hd => s_il_n hX hd rfl rfl) ?_
  refine aI_c (fun hd => s_if_ne hX hd (by decide) rfl) ?_
  refine aI_c (fun hd => s_ldc2 hX hd (up _ lcX4_187) rfl) ?_
  refine aI_c (fun hd => s_rl hX hr hlk hE hd) ?_
  refine aI_c (fun hd => s_il_n hX hd rfl rfl) ?_
  refine aI_c (fun hd => s_if_ne hX hd (by decide) rfl) ?_
  refine aI_c (fun hd => s_il_n hX hd rfl rfl) ?_
  refine aI_c (fun hd => s_go hX hd (by decide)) ?_
  refine aI_c (fun hd => s_il_n hX hd rfl rfl) ?_
  refine aI_c (fun hd => s_il_n hX hd rfl rfl) ?_
  refine aI_c (fun hd => s_idiv hX hd rfl) ?_
  refine aI_c (fun hd => s_i2l hX hd rfl) ?_
  refine aI_c (fun hd => s_rl hX hr hlk hE hd) ?_
  exact trivial

-- JudgesByLoss.ruin(I)J
def tX4_ruin : aT := [
  (0, (.iload_n 1, 1), o_il 1 1),
  (1, (.iconst 0, 1), o_ii 0 2),
  (2, (.iconst 1, 1), o_ii 1 3),
  (3, (.invokestatic 79, 3), o_cS CX4_within 3 6),
  (6, (.ifCond .eq 13, 3), o_if (fun x => x = 0) 19 9),
  (9, (.aload_n 0, 1), o_al 0 10),
  (10, (.getfield 44, 3), o_gF 4 1 13),
  (13, (.getfield 55, 3), o_gI 0 9 16),
  (16, (.ifCond .ne 7, 3), o_if (fun x => ¬ x = 0) 23 19),
  (19, (.ldc2_w 187, 3), o_lc (-4611686018427387904) 22),
  (22, (.lreturn, 1), o_rl),
  (23, (.iconst 0, 1), o_ii 0 24),
  (24, (.istore_n 2, 1), o_is 2 25),
  (25, (.iconst 0, 1), o_ii 0 26),
  (26, (.istore_n 3, 1), o_is 3 27),
  (27, (.iload_n 3, 1), o_il 3 28),
  (28, (.aload_n 0, 1), o_al 0 29),
  (29, (.getfield 44, 3), o_gF 4 1 32),
  (32, (.getfield 55, 3), o_gI 0 9 35),
  (35, (.if_icmp .ge 24, 3), o_ic (fun x y => y ≤ x) 59 38),
  (38, (.iload_n 2, 1), o_il 2 39),
  (39, (.aload_n 0, 1), o_al 0 40),
  (40, (.getfield 44, 3), o_gF 4 1 43),
  (43, (.getfield 122, 3), o_gF 0 3 46),
  (46, (.iload_n 3, 1), o_il 3 47),
  (47, (.iaload, 1), o_iald 48),
  (48, (.invokestatic 61, 3), o_cS CJ6_bitCount_0f7a4 1 51),
  (51, (.iadd, 1), o_bi (fun x y => x + y) 52),
  (52, (.istore_n 2, 1), o_is 2 53),
  (53, (.iinc 3 1, 3), o_inc 3 1 56),
  (56, (.goto (-29), 3), o_go 27),
  (59, (.iload_n 2, 1), o_il 2 60),
  (60, (.aload_n 0, 1), o_al 0 61),
  (61, (.getfield 44, 3), o_gF 4 1 64),
  (64, (.getfield 55, 3), o_gI 0 9 67),
  (67, (.iload_n 1, 1), o_il 1 68),
  (68, (.invokestatic 189, 3), o_cS CX4_partOfFraction 3 71),
  (71, (.lreturn, 1), o_rl)]
abbrev CX4_ruin : aC := aCl tX4_ruin 4
def rmX4_ruin : Room := { frames := 3, cells := 0, slots := 0, locals := 49 }
set_option maxRecDepth 100000 in
theorem dX4_ruin : tX4_ruin.all (fun q => decide (decode cX4_ruin q.1 = .ok q.2.1)) = true := by decide +kernel
set_option maxRecDepth 100000 in
set_option maxHeartbeats 4000000 in
theorem nX4_ruin (l : Launch) : aMt l yX4_ruin (Cond.code yX4_ruin cX4_ruin 4 (some .long) :: wsL_law) rmX4_ruin CX4_ruin := by
  refine aMt.of (own := RX4) (cc := cX4_ruin) (maxL := 4) (ret := (some .long)) (by decide +kernel) rfl rfl ?_
  intro p e s m args below meth c Qc D Z ad P G A E hX hr hlk hE
  have up : ∀ w ∈ wsL_law, w ∈ (Cond.code yX4_ruin cX4_ruin 4 (some .long) :: wsL_law) := fun w h => List.mem_cons_of_mem _ h
  refine aImp_all _ dX4_ruin ?_
  unfold tX4_ruin
  refine aI_c (fun hd => s_il_n hX hd rfl rfl) ?_
  refine aI_c (fun hd => s_ii hX hd (by decide) rfl) ?_
  refine aI_c (fun hd => s_ii hX hd (by decide) rfl) ?_
  refine aI_c (fun hd => s_cS hX (nX4_within l) (wg_S up lmX4_79 loX4_within) rfl rfl rfl (by decide +kernel) ⟨by decide, by decide⟩ ⟨Nat.zero_le _, Nat.zero_le _⟩ hd rfl) ?_
  refine aI_c (fun hd => s_if_eq hX hd (by decide) rfl) ?_
  refine aI_c (fun hd => s_al_n hX hd rfl rfl) ?_
  refine aI_c (fun hd => s_gF hX (C := RX4) (T := TX4) (N := 9) (k := 0) rfl (fun w h => up w (inlX4 w h)) (by decide) rfl rfl rfl (up _ lkX4_44) hd rfl) ?_
  refine aI_c (fun hd => s_gI hX (C := RX0) (T := TX0) (N := 15) (k := 9) rfl (fun w h => up w (inlX0 w h)) (by decide) rfl rfl rfl (up _ lkX4_55) hd rfl) ?_
  refine aI_c (fun hd => s_if_ne hX hd (by decide) rfl) ?_
  refine aI_c (fun hd => s_ldc2 hX hd (up _ lcX4_187) rfl) ?_
  refine aI_c (fun hd => s_rl hX hr hlk hE hd) ?_
  refine aI_c (fun hd => s_ii hX hd (by decide) rfl) ?_
  refine aI_c (fun hd => s_is_n hX hd rfl rfl (by decide)) ?_
  refine aI_c (fun hd => s_ii hX hd (by decide) rfl) ?_
  refine aI_c (fun hd => s_is_n hX hd rfl rfl (by decide)) ?_
  refine aI_c (fun hd => s_il_n hX hd rfl rfl) ?_
  refine aI_c (fun hd => s_al_n hX hd rfl rfl) ?_
  refine aI_c (fun hd => s_gF hX (C := RX4) (T := TX4) (N := 9) (k := 0) rfl (fun w h => up w (inlX4 w h)) (by decide) rfl rfl rfl (up _ lkX4_44) hd rfl) ?_
  refine aI_c (fun hd => s_gI hX (C := RX0) (T := TX0) (N := 15) (k := 9) rfl (fun w h => up w (inlX0 w h)) (by decide) rfl rfl rfl (up _ lkX4_55) hd rfl) ?_
  refine aI_c (fun hd => s_ic_ge hX hd (by decide) rfl) ?_
  refine aI_c (fun hd => s_il_n hX hd rfl rfl) ?_
  refine aI_c (fun hd => s_al_n hX hd rfl rfl) ?_
  refine aI_c (fun hd => s_gF hX (C := RX4) (T := TX4) (N := 9) (k := 0) rfl (fun w h => up w (inlX4 w h)) (by decide) rfl rfl rfl (up _ lkX4_44) hd rfl) ?_
  refine aI_c (fun hd => s_gF hX (C := RX0) (T := TX0) (N := 15) (k := 2) rfl (fun w h => up w (inlX0 w h)) (by decide) rfl rfl rfl (up _ lkX4_122) hd rfl) ?_
  refine aI_c (fun hd => s_il_n hX hd rfl rfl) ?_
  refine aI_c (fun hd => s_iald hX hd rfl) ?_
  refine aI_c (fun hd => s_cS hX (nJ6_bitCount_0f7a4 l) (wg_S up lmX4_61 loJ6_bitCount_0f7a4) rfl rfl rfl (by decide +kernel) ⟨by decide, by decide⟩ ⟨Nat.zero_le _, Nat.zero_le _⟩ hd rfl) ?_
  refine aI_c (fun hd => s_iadd hX hd rfl) ?_
  refine aI_c (fun hd => s_is_n hX hd rfl rfl (by decide)) ?_
  refine aI_c (fun hd => s_inc hX hd (by decide) rfl (by decide)) ?_
  refine aI_c (fun hd => s_go hX hd (by decide)) ?_
  refine aI_c (fun hd => s_il_n hX hd rfl rfl) ?_
  refine aI_c (fun hd => s_al_n hX hd rfl rfl) ?_
  refine aI_c (fun hd => s_gF hX (C := RX4) (T := TX4) (N := 9) (k := 0) rfl (fun w h => up w (inlX4 w h)) (by decide) rfl rfl rfl (up _ lkX4_44) hd rfl) ?_
  refine aI_c (fun hd => s_gI hX (C := RX0) (T := TX0) (N := 15) (k := 9) rfl (fun w h => up w (inlX0 w h)) (by decide) rfl rfl rfl (up _ lkX4_55) hd rfl) ?_
  refine aI_c (fun hd => s_il_n hX hd rfl rfl) ?_
  refine aI_c (fun hd => s_cS hX (nX4_partOfFraction l) (wg_S up lmX4_189 loX4_partOfFraction) rfl rfl rfl (by decide +kernel) ⟨by decide, by decide⟩ ⟨Nat.zero_le _, Nat.zero_le _⟩ hd rfl) ?_
  refine aI_c (fun hd => s_rl hX hr hlk hE hd) ?_
  exact trivial

-- JudgesByLoss.refusalOfTold(I)I
def tX4_refusalOfTold : aT := [
  (0, (.iload_n 1, 1), o_il 1 1),
  (1, (.iconst 0, 1), o_ii 0 2),
  (2, (.iconst 3, 1), o_ii 3 3),
  (3, (.invokestatic 79, 3), o_cS CX4_within 3 6),
  (6, (.ifCond .ne 6, 3), o_if (fun x => ¬ x = 0) 12 9),
  (9, (.bipush (-2), 2), o_ii (-2) 11),
  (11, (.ireturn, 1), o_ri),
  (12, (.aload_n 0, 1), o_al 0 13),
  (13, (.getfield 28, 3), o_gF 4 38 16),
  (16, (.iload_n 1, 1), o_il 1 17),
  (17, (.aaload, 1), o_aald 3 18),
  (18, (.invokevirtual 220, 3), o_cV CX2_isMissing 2 0 21),
  (21, (.ifCond .eq 6, 3), o_if (fun x => x = 0) 27 24),
  (24, (.bipush (-11), 2), o_ii (-11) 26),
  (26, (.ireturn, 1), o_ri),
  (27, (.aload_n 0, 1), o_al 0 28),
  (28, (.getfield 28, 3), o_gF 4 38 31),
  (31, (.iload_n 1, 1), o_il 1 32),
  (32, (.aaload, 1), o_aald 3 33),
  (33, (.getfield 224, 3), o_gI 2 2 36),
  (36, (.bipush 20, 2), o_ii 20 38),
  (38, (.if_icmp .le 8, 3), o_ic (fun x y => x ≤ y) 46 41),
  (41, (.bipush (-2), 2), o_ii (-2) 43),
  (43, (.goto 4, 3), o_go 47),
  (46, (.iconst 0, 1), o_ii 0 47),
  (47, (.ireturn, 1), o_ri)]
abbrev CX4_refusalOfTold : aC := aCl tX4_refusalOfTold 2
def rmX4_refusalOfTold : Room := { frames := 2, cells := 0, slots := 0, locals := 23 }
set_option maxRecDepth 100000 in
theorem dX4_refusalOfTold : tX4_refusalOfTold.all (fun q => decide (decode cX4_refusalOfTold q.1 = .ok q.2.1)) = true := by decide +kernel
set_option maxRecDepth 100000 in
set_option maxHeartbeats 4000000 in
theorem nX4_refusalOfTold (l : Launch) : aMt l yX4_refusalOfTold (Cond.code yX4_refusalOfTold cX4_refusalOfTold 2 (some .int) :: wsL_law) rmX4_refusalOfTold CX4_refusalOfTold := by
  refine aMt.of (own := RX4) (cc := cX4_refusalOfTold) (maxL := 2) (ret := (some .int)) (by decide +kernel) rfl rfl ?_
  intro p e s m args below meth c Qc D Z ad P G A E hX hr hlk hE
  have up : ∀ w ∈ wsL_law, w ∈ (Cond.code yX4_refusalOfTold cX4_refusalOfTold 2 (some .int) :: wsL_law) := fun w h => List.mem_cons_of_mem _ h
  refine aImp_all _ dX4_refusalOfTold ?_
  unfold tX4_refusalOfTold
  refine aI_c (fun hd => s_il_n hX hd rfl rfl) ?_
  refine aI_c (fun hd => s_ii hX hd (by decide) rfl) ?_
  refine aI_c (fun hd => s_ii hX hd (by decide) rfl) ?_
  refine aI_c (fun hd => s_cS hX (nX4_within l) (wg_S up lmX4_79 loX4_within) rfl rfl rfl (by decide +kernel) ⟨by decide, by decide⟩ ⟨Nat.zero_le _, Nat.zero_le _⟩ hd rfl) ?_
  refine aI_c (fun hd => s_if_ne hX hd (by decide) rfl) ?_
  refine aI_c (fun hd => s_bp hX hd (by decide) rfl) ?_
  refine aI_c (fun hd => s_ri hX hr hlk hE hd) ?_
  refine aI_c (fun hd => s_al_n hX hd rfl rfl) ?_
  refine aI_c (fun hd => s_gF hX (C := RX4) (T := TX4) (N := 9) (k := 7) rfl (fun w h => up w (inlX4 w h)) (by decide) rfl rfl rfl (up _ lkX4_28) hd rfl) ?_
  refine aI_c (fun hd => s_il_n hX hd rfl rfl) ?_
  refine aI_c (fun hd => s_aald3 hX hd rfl) ?_
  refine aI_c (fun hd => s_cV hX (T := TX2) (N := 3) (nX2_isMissing l) rfl (wg_V up lmX4_220 loX2_isMissing) rfl rfl rfl (by decide +kernel) ⟨by decide, by decide⟩ ⟨Nat.zero_le _, Nat.zero_le _⟩ hd rfl) ?_
  refine aI_c (fun hd => s_if_eq hX hd (by decide) rfl) ?_
  refine aI_c (fun hd => s_bp hX hd (by decide) rfl) ?_
  refine aI_c (fun hd => s_ri hX hr hlk hE hd) ?_
  refine aI_c (fun hd => s_al_n hX hd rfl rfl) ?_
  refine aI_c (fun hd => s_gF hX (C := RX4) (T := TX4) (N := 9) (k := 7) rfl (fun w h => up w (inlX4 w h)) (by decide) rfl rfl rfl (up _ lkX4_28) hd rfl) ?_
  refine aI_c (fun hd => s_il_n hX hd rfl rfl) ?_
  refine aI_c (fun hd => s_aald3 hX hd rfl) ?_
  refine aI_c (fun hd => s_gI hX (C := RX2) (T := TX2) (N := 3) (k := 2) rfl (fun w h => up w (inlX2 w h)) (by decide) rfl rfl rfl (up _ lkX4_224) hd rfl) ?_
  refine aI_c (fun hd => s_bp hX hd (by decide) rfl) ?_
  refine aI_c (fun hd => s_ic_le hX hd (by decide) rfl) ?_
  refine aI_c (fun hd => s_bp hX hd (by decide) rfl) ?_
  refine aI_c (fun hd => s_go hX hd (by decide)) ?_
  refine aI_c (fun hd => s_ii hX hd (by decide) rfl) ?_
  refine aI_c (fun hd => s_ri hX hr hlk hE hd) ?_
  exact trivial

-- JudgesByLoss.firstOther(I)I
def tX4_firstOther : aT := [
  (0, (.aload_n 0, 1), o_al 0 1),
  (1, (.getfield 28, 3), o_gF 4 38 4),
  (4, (.iload_n 1, 1), o_il 1 5),
  (5, (.aaload, 1), o_aald 3 6),
  (6, (.astore_n 2, 1), o_as 2 7),
  (7, (.iconst 0, 1), o_ii 0 8),
  (8, (.istore_n 3, 1), o_is 3 9),
  (9, (.iload_n 3, 1), o_mk [false, true, false, false] (o_il 3 10)),
  (10, (.aload_n 2, 1), o_al 2 11),
  (11, (.getfield 224, 3), o_gI 2 2 14),
  (14, (.if_icmp .ge 30, 3), o_ic (fun x y => y ≤ x) 44 17),
  (17, (.aload_n 0, 1), o_al 0 18),
  (18, (.getfield 48, 3), o_gF 4 11 21),
  (21, (.invokevirtual 163, 3), o_cV CX0_passDay 0 0 24),
  (24, (.invokestatic 61, 3), o_cS CJ6_bitCount_0f7a4 1 27),
  (27, (.aload_n 2, 1), o_al 2 28),
  (28, (.getfield 205, 3), o_gF 2 1 31),
  (31, (.iload_n 3, 1), o_il 3 32),
  (32, (.iaload, 1), o_iald 33),
  (33, (.if_icmp .eq 5, 3), o_ic (fun x y => x = y) 38 36),
  (36, (.iload_n 3, 1), o_il 3 37),
  (37, (.ireturn, 1), o_ri),
  (38, (.iinc 3 1, 3), o_inc 3 1 41),
  (41, (.goto (-32), 3), o_go 9),
  (44, (.iconst (-1), 1), o_ii (-1) 45),
  (45, (.ireturn, 1), o_ri)]
abbrev CX4_firstOther : aC := aCl tX4_firstOther 4
def rmX4_firstOther : Room := { frames := 6, cells := 0, slots := 0, locals := 143 }
set_option maxRecDepth 100000 in
theorem dX4_firstOther : tX4_firstOther.all (fun q => decide (decode cX4_firstOther q.1 = .ok q.2.1)) = true := by decide +kernel
set_option maxRecDepth 100000 in
set_option maxHeartbeats 4000000 in
theorem nX4_firstOther (l : Launch) : aMt l yX4_firstOther (Cond.code yX4_firstOther cX4_firstOther 4 (some .int) :: wsL_law) rmX4_firstOther CX4_firstOther := by
  refine aMt.of (own := RX4) (cc := cX4_firstOther) (maxL := 4) (ret := (some .int)) (by decide +kernel) rfl rfl ?_
  intro p e s m args below meth c Qc D Z ad P G A E hX hr hlk hE
  have up : ∀ w ∈ wsL_law, w ∈ (Cond.code yX4_firstOther cX4_firstOther 4 (some .int) :: wsL_law) := fun w h => List.mem_cons_of_mem _ h
  refine aImp_all _ dX4_firstOther ?_
  unfold tX4_firstOther
  refine aI_c (fun hd => s_al_n hX hd rfl rfl) ?_
  refine aI_c (fun hd => s_gF hX (C := RX4) (T := TX4) (N := 9) (k := 7) rfl (fun w h => up w (inlX4 w h)) (by decide) rfl rfl rfl (up _ lkX4_28) hd rfl) ?_
  refine aI_c (fun hd => s_il_n hX hd rfl rfl) ?_
  refine aI_c (fun hd => s_aald3 hX hd rfl) ?_
  refine aI_c (fun hd => s_as_n hX hd rfl rfl (by decide)) ?_
  refine aI_c (fun hd => s_ii hX hd (by decide) rfl) ?_
  refine aI_c (fun hd => s_is_n hX hd rfl rfl (by decide)) ?_
  refine aI_c (fun hd => s_mk (s_il_n hX hd rfl rfl)) ?_
  refine aI_c (fun hd => s_al_n hX hd rfl rfl) ?_
  refine aI_c (fun hd => s_gI hX (C := RX2) (T := TX2) (N := 3) (k := 2) rfl (fun w h => up w (inlX2 w h)) (by decide) rfl rfl rfl (up _ lkX4_224) hd rfl) ?_
  refine aI_c (fun hd => s_ic_ge hX hd (by decide) rfl) ?_
  refine aI_c (fun hd => s_al_n hX hd rfl rfl) ?_
  refine aI_c (fun hd => s_gF hX (C := RX4) (T := TX4) (N := 9) (k := 1) rfl (fun w h => up w (inlX4 w h)) (by decide) rfl rfl rfl (up _ lkX4_48) hd rfl) ?_
  refine aI_c (fun hd => s_cV hX (T := TX0) (N := 15) (nX0_passDay l) rfl (wg_V up lmX4_163 loX0_passDay) rfl rfl rfl (by decide +kernel) ⟨by decide, by decide⟩ ⟨Nat.zero_le _, Nat.zero_le _⟩ hd rfl) ?_
  refine aI_c (fun hd => s_cS hX (nJ6_bitCount_0f7a4 l) (wg_S up lmX4_61 loJ6_bitCount_0f7a4) rfl rfl rfl (by decide +kernel) ⟨by decide, by decide⟩ ⟨Nat.zero_le _, Nat.zero_le _⟩ hd rfl) ?_
  refine aI_c (fun hd => s_al_n hX hd rfl rfl) ?_
  refine aI_c (fun hd => s_gF hX (C := RX2) (T := TX2) (N := 3) (k := 0) rfl (fun w h => up w (inlX2 w h)) (by decide) rfl rfl rfl (up _ lkX4_205) hd rfl) ?_
  refine aI_c (fun hd => s_il_n hX hd rfl rfl) ?_
  refine aI_c (fun hd => s_iald hX hd rfl) ?_
  refine aI_c (fun hd => s_ic_eq hX hd (by decide) rfl) ?_
  refine aI_c (fun hd => s_il_n hX hd rfl rfl) ?_
  refine aI_c (fun hd => s_ri hX hr hlk hE hd) ?_
  refine aI_c (fun hd => s_inc hX hd (by decide) rfl (by decide)) ?_
  refine aI_c (fun hd => s_go hX hd (by decide)) ?_
  refine aI_c (fun hd => s_ii hX hd (by decide) rfl) ?_
  refine aI_c (fun hd => s_ri hX hr hlk hE hd) ?_
  exact trivial

-- JudgesByLoss.tells(I)I
def tX4_tells : aT := [
  (0, (.aload_n 0, 1), o_al 0 1),
  (1, (.iload_n 1, 1), o_il 1 2),
  (2, (.invokevirtual 193, 3), o_cV CX4_refusalOfTold 4 1 5),
  (5, (.istore_n 2, 1), o_is 2 6),
  (6, (.iload_n 2, 1), o_il 2 7),
  (7, (.ifCond .eq 5, 3), o_if (fun x => x = 0) 12 10),
  (10, (.iload_n 2, 1), o_il 2 11),
  (11, (.ireturn, 1), o_ri),
  (12, (.aload_n 0, 1), o_al 0 13),
  (13, (.invokevirtual 169, 3), o_cV CX4_think 4 0 16),
  (16, (.aload_n 0, 1), o_al 0 17),
  (17, (.iload_n 1, 1), o_il 1 18),
  (18, (.invokevirtual 196, 3), o_cV CX4_firstOther 4 1 21),
  (21, (.ireturn, 1), o_ri)]
abbrev CX4_tells : aC := aCl tX4_tells 3
def rmX4_tells : Room := { frames := 7, cells := 0, slots := 0, locals := 166 }
set_option maxRecDepth 100000 in
theorem dX4_tells : tX4_tells.all (fun q => decide (decode cX4_tells q.1 = .ok q.2.1)) = true := by decide +kernel
set_option maxRecDepth 100000 in
set_option maxHeartbeats 4000000 in
theorem nX4_tells (l : Launch) : aMt l yX4_tells (Cond.code yX4_tells cX4_tells 3 (some .int) :: wsL_law) rmX4_tells CX4_tells := by
  refine aMt.of (own := RX4) (cc := cX4_tells) (maxL := 3) (ret := (some .int)) (by decide +kernel) rfl rfl ?_
  intro p e s m args below meth c Qc D Z ad P G A E hX hr hlk hE
  have up : ∀ w ∈ wsL_law, w ∈ (Cond.code yX4_tells cX4_tells 3 (some .int) :: wsL_law) := fun w h => List.mem_cons_of_mem _ h
  refine aImp_all _ dX4_tells ?_
  unfold tX4_tells
  refine aI_c (fun hd => s_al_n hX hd rfl rfl) ?_
  refine aI_c (fun hd => s_il_n hX hd rfl rfl) ?_
  refine aI_c (fun hd => s_cV hX (T := TX4) (N := 9) (nX4_refusalOfTold l) rfl (wg_V up lmX4_193 loX4_refusalOfTold) rfl rfl rfl (by decide +kernel) ⟨by decide, by decide⟩ ⟨Nat.zero_le _, Nat.zero_le _⟩ hd rfl) ?_
  refine aI_c (fun hd => s_is_n hX hd rfl rfl (by decide)) ?_
  refine aI_c (fun hd => s_il_n hX hd rfl rfl) ?_
  refine aI_c (fun hd => s_if_eq hX hd (by decide) rfl) ?_
  refine aI_c (fun hd => s_il_n hX hd rfl rfl) ?_
  refine aI_c (fun hd => s_ri hX hr hlk hE hd) ?_
  refine aI_c (fun hd => s_al_n hX hd rfl rfl) ?_
  refine aI_c (fun hd => s_cV hX (T := TX4) (N := 9) (nX4_think l) rfl (wg_V up lmX4_169 loX4_think) rfl rfl rfl (by decide +kernel) ⟨by decide, by decide⟩ ⟨Nat.zero_le _, Nat.zero_le _⟩ hd rfl) ?_
  refine aI_c (fun hd => s_al_n hX hd rfl rfl) ?_
  refine aI_c (fun hd => s_il_n hX hd rfl rfl) ?_
  refine aI_c (fun hd => s_cV hX (T := TX4) (N := 9) (nX4_firstOther l) rfl (wg_V up lmX4_196 loX4_firstOther) rfl rfl rfl (by decide +kernel) ⟨by decide, by decide⟩ ⟨Nat.zero_le _, Nat.zero_le _⟩ hd rfl) ?_
  refine aI_c (fun hd => s_ri hX hr hlk hE hd) ?_
  exact trivial

-- JudgesByLoss.refusalOfTold(II)I
def tX4_refusalOfTold_ : aT := [
  (0, (.aload_n 0, 1), o_al 0 1),
  (1, (.iload_n 1, 1), o_il 1 2),
  (2, (.invokevirtual 193, 3), o_cV CX4_refusalOfTold 4 1 5),
  (5, (.istore_n 3, 1), o_is 3 6),
  (6, (.iload_n 3, 1), o_il 3 7),
  (7, (.ifCond .eq 5, 3), o_if (fun x => x = 0) 12 10),
  (10, (.iload_n 3, 1), o_il 3 11),
  (11, (.ireturn, 1), o_ri),
  (12, (.aload_n 0, 1), o_al 0 13),
  (13, (.getfield 44, 3), o_gF 4 1 16),
  (16, (.iload_n 2, 1), o_il 2 17),
  (17, (.invokevirtual 103, 3), o_cV CX0_hasJudge 0 1 20),
  (20, (.ifCond .eq 7, 3), o_if (fun x => x = 0) 27 23),
  (23, (.iconst 0, 1), o_ii 0 24),
  (24, (.goto 5, 3), o_go 29),
  (27, (.bipush (-5), 2), o_ii (-5) 29),
  (29, (.ireturn, 1), o_ri)]
abbrev CX4_refusalOfTold_ : aC := aCl tX4_refusalOfTold_ 4
def rmX4_refusalOfTold_ : Room := { frames := 3, cells := 0, slots := 0, locals := 44 }
set_option maxRecDepth 100000 in
theorem dX4_refusalOfTold_ : tX4_refusalOfTold_.all (fun q => decide (decode cX4_refusalOfTold_ q.1 = .ok q.2.1)) = true := by decide +kernel
set_option maxRecDepth 100000 in
set_option maxHeartbeats 4000000 in
theorem nX4_refusalOfTold_ (l : Launch) : aMt l yX4_refusalOfTold_ (Cond.code yX4_refusalOfTold_ cX4_refusalOfTold_ 4 (some .int) :: wsL_law) rmX4_refusalOfTold_ CX4_refusalOfTold_ := by
  refine aMt.of (own := RX4) (cc := cX4_refusalOfTold_) (maxL := 4) (ret := (some .int)) (by decide +kernel) rfl rfl ?_
  intro p e s m args below meth c Qc D Z ad P G A E hX hr hlk hE
  have up : ∀ w ∈ wsL_law, w ∈ (Cond.code yX4_refusalOfTold_ cX4_refusalOfTold_ 4 (some .int) :: wsL_law) := fun w h => List.mem_cons_of_mem _ h
  refine aImp_all _ dX4_refusalOfTold_ ?_
  unfold tX4_refusalOfTold_
  refine aI_c (fun hd => s_al_n hX hd rfl rfl) ?_
  refine aI_c (fun hd => s_il_n hX hd rfl rfl) ?_
  refine aI_c (fun hd => s_cV hX (T := TX4) (N := 9) (nX4_refusalOfTold l) rfl (wg_V up lmX4_193 loX4_refusalOfTold) rfl rfl rfl (by decide +kernel) ⟨by decide, by decide⟩ ⟨Nat.zero_le _, Nat.zero_le _⟩ hd rfl) ?_
  refine aI_c (fun hd => s_is_n hX hd rfl rfl (by decide)) ?_
  refine aI_c (fun hd => s_il_n hX hd rfl rfl) ?_
  refine aI_c (fun hd => s_if_eq hX hd (by decide) rfl) ?_
  refine aI_c (fun hd => s_il_n hX hd rfl rfl) ?_
  refine aI_c (fun hd => s_ri hX hr hlk hE hd) ?_
  refine aI_c (fun hd => s_al_n hX hd rfl rfl) ?_
  refine aI_c (fun hd => s_gF hX (C := RX4) (T := TX4) (N := 9) (k := 0) rfl (fun w h => up w (inlX4 w h)) (by decide) rfl rfl rfl (up _ lkX4_44) hd rfl) ?_
  refine aI_c (fun hd => s_il_n hX hd rfl rfl) ?_
  refine aI_c (fun hd => s_cV hX (T := TX0) (N := 15) (nX0_hasJudge l) rfl (wg_V up lmX4_103 loX0_hasJudge) rfl rfl rfl (by decide +kernel) ⟨by decide, by decide⟩ ⟨Nat.zero_le _, Nat.zero_le _⟩ hd rfl) ?_
  refine aI_c (fun hd => s_if_eq hX hd (by decide) rfl) ?_
  refine aI_c (fun hd => s_ii hX hd (by decide) rfl) ?_
  refine aI_c (fun hd => s_go hX hd (by decide)) ?_
  refine aI_c (fun hd => s_bp hX hd (by decide) rfl) ?_
  refine aI_c (fun hd => s_ri hX hr hlk hE hd) ?_
  exact trivial

-- JudgesByLoss.kinds(III)I
def tX4_kinds : aT := [
  (0, (.aload_n 0, 1), o_al 0 1),
  (1, (.iload_n 1, 1), o_il 1 2),
  (2, (.iload_n 2, 1), o_il 2 3),
  (3, (.invokevirtual 199, 3), o_cV CX4_refusalOfTold_ 4 2 6),
  (6, (.istore 4, 2), o_is 4 8),
  (8, (.iload 4, 2), o_il 4 10),
  (10, (.ifCond .eq 6, 3), o_if (fun x => x = 0) 16 13),
  (13, (.iload 4, 2), o_il 4 15),
  (15, (.ireturn, 1), o_ri),
  (16, (.iload_n 3, 1), o_il 3 17),
  (17, (.iconst 0, 1), o_ii 0 18),
  (18, (.iconst 1, 1), o_ii 1 19),
  (19, (.invokestatic 79, 3), o_cS CX4_within 3 22),
  (22, (.ifCond .ne 6, 3), o_if (fun x => ¬ x = 0) 28 25),
  (25, (.bipush (-7), 2), o_ii (-7) 27),
  (27, (.ireturn, 1), o_ri),
  (28, (.iconst 0, 1), o_ii 0 29),
  (29, (.istore 5, 2), o_is 5 31),
  (31, (.iconst 0, 1), o_ii 0 32),
  (32, (.istore 6, 2), o_is 6 34),
  (34, (.iload 6, 2), o_mk [false, false, false, false, true, false, false] (o_il 6 36)),
  (36, (.iload_n 3, 1), o_il 3 37),
  (37, (.ifCond .ne 8, 3), o_if (fun x => ¬ x = 0) 45 40),
  (40, (.bipush 6, 2), o_ii 6 42),
  (42, (.goto 5, 3), o_go 47),
  (45, (.bipush 10, 2), o_ii 10 47),
  (47, (.if_icmp .ge 60, 3), o_ic (fun x y => y ≤ x) 107 50),
  (50, (.aload_n 0, 1), o_al 0 51),
  (51, (.invokevirtual 169, 3), o_cV CX4_think 4 0 54),
  (54, (.iload_n 3, 1), o_il 3 55),
  (55, (.ifCond .ne 17, 3), o_if (fun x => ¬ x = 0) 72 58),
  (58, (.aload_n 0, 1), o_al 0 59),
  (59, (.getfield 48, 3), o_gF 4 11 62),
  (62, (.getfield 116, 3), o_gF 0 1 65),
  (65, (.iload_n 2, 1), o_il 2 66),
  (66, (.iload 6, 2), o_il 6 68),
  (68, (.iastore, 1), o_iast 69),
  (69, (.goto 14, 3), o_go 83),
  (72, (.aload_n 0, 1), o_al 0 73),
  (73, (.getfield 48, 3), o_gF 4 11 76),
  (76, (.getfield 119, 3), o_gF 0 2 79),
  (79, (.iload_n 2, 1), o_il 2 80),
  (80, (.iload 6, 2), o_il 6 82),
  (82, (.iastore, 1), o_iast 83),
  (83, (.aload_n 0, 1), o_al 0 84),
  (84, (.iload_n 1, 1), o_il 1 85),
  (85, (.invokevirtual 196, 3), o_cV CX4_firstOther 4 1 88),
  (88, (.iconst (-1), 1), o_ii (-1) 89),
  (89, (.if_icmp .ne 12, 3), o_ic (fun x y => ¬ x = y) 101 92),
  (92, (.iload 5, 2), o_il 5 94),
  (94, (.iconst 1, 1), o_ii 1 95),
  (95, (.iload 6, 2), o_il 6 97),
  (97, (.ishl, 1), o_bi (fun x y => x <<< (y &&& 31)) 98),
  (98, (.ior, 1), o_bi (fun x y => x ||| y) 99),
  (99, (.istore 5, 2), o_is 5 101),
  (101, (.iinc 6 1, 3), o_inc 6 1 104),
  (104, (.goto (-70), 3), o_go 34),
  (107, (.iload 5, 2), o_il 5 109),
  (109, (.ireturn, 1), o_ri)]
abbrev CX4_kinds : aC := aCl tX4_kinds 7
def rmX4_kinds : Room := { frames := 7, cells := 0, slots := 0, locals := 166 }
set_option maxRecDepth 100000 in
theorem dX4_kinds : tX4_kinds.all (fun q => decide (decode cX4_kinds q.1 = .ok q.2.1)) = true := by decide +kernel
set_option maxRecDepth 100000 in
set_option maxHeartbeats 4000000 in
theorem nX4_kinds (l : Launch) : aMt l yX4_kinds (Cond.code yX4_kinds cX4_kinds 7 (some .int) :: wsL_law) rmX4_kinds CX4_kinds := by
  refine aMt.of (own := RX4) (cc := cX4_kinds) (maxL := 7) (ret := (some .int)) (by decide +kernel) rfl rfl ?_
  intro p e s m args below meth c Qc D Z ad P G A E hX hr hlk hE
  have up : ∀ w ∈ wsL_law, w ∈ (Cond.code yX4_kinds cX4_kinds 7 (some .int) :: wsL_law) := fun w h => List.mem_cons_of_mem _ h
  refine aImp_all _ dX4_kinds ?_
  unfold tX4_kinds
  refine aI_c (fun hd => s_al_n hX hd rfl rfl) ?_
  refine aI_c (fun hd => s_il_n hX hd rfl rfl) ?_
  refine aI_c (fun hd => s_il_n hX hd rfl rfl) ?_
  refine aI_c (fun hd => s_cV hX (T := TX4) (N := 9) (nX4_refusalOfTold_ l) rfl (wg_V up lmX4_199 loX4_refusalOfTold_) rfl rfl rfl (by decide +kernel) ⟨by decide, by decide⟩ ⟨Nat.zero_le _, Nat.zero_le _⟩ hd rfl) ?_
  refine aI_c (fun hd => s_is hX hd rfl (by decide)) ?_
  refine aI_c (fun hd => s_il hX hd rfl) ?_
  refine aI_c (fun hd => s_if_eq hX hd (by decide) rfl) ?_
  refine aI_c (fun hd => s_il hX hd rfl) ?_
  refine aI_c (fun hd => s_ri hX hr hlk hE hd) ?_
  refine aI_c (fun hd => s_il_n hX hd rfl rfl) ?_
  refine aI_c (fun hd => s_ii hX hd (by decide) rfl) ?_
  refine aI_c (fun hd => s_ii hX hd (by decide) rfl) ?_
  refine aI_c (fun hd => s_cS hX (nX4_within l) (wg_S up lmX4_79 loX4_within) rfl rfl rfl (by decide +kernel) ⟨by decide, by decide⟩ ⟨Nat.zero_le _, Nat.zero_le _⟩ hd rfl) ?_
  refine aI_c (fun hd => s_if_ne hX hd (by decide) rfl) ?_
  refine aI_c (fun hd => s_bp hX hd (by decide) rfl) ?_
  refine aI_c (fun hd => s_ri hX hr hlk hE hd) ?_
  refine aI_c (fun hd => s_ii hX hd (by decide) rfl) ?_
  refine aI_c (fun hd => s_is hX hd rfl (by decide)) ?_
  refine aI_c (fun hd => s_ii hX hd (by decide) rfl) ?_
  refine aI_c (fun hd => s_is hX hd rfl (by decide)) ?_
  refine aI_c (fun hd => s_mk (s_il hX hd rfl)) ?_
  refine aI_c (fun hd => s_il_n hX hd rfl rfl) ?_
  refine aI_c (fun hd => s_if_ne hX hd (by decide) rfl) ?_
  refine aI_c (fun hd => s_bp hX hd (by decide) rfl) ?_
  refine aI_c (fun hd => s_go hX hd (by decide)) ?_
  refine aI_c (fun hd => s_bp hX hd (by decide) rfl) ?_
  refine aI_c (fun hd => s_ic_ge hX hd (by decide) rfl) ?_
  refine aI_c (fun hd => s_al_n hX hd rfl rfl) ?_
  refine aI_c (fun hd => s_cV hX (T := TX4) (N := 9) (nX4_think l) rfl (wg_V up lmX4_169 loX4_think) rfl rfl rfl (by decide +kernel) ⟨by decide, by decide⟩ ⟨Nat.zero_le _, Nat.zero_le _⟩ hd rfl) ?_
  refine aI_c (fun hd => s_il_n hX hd rfl rfl) ?_
  refine aI_c (fun hd => s_if_ne hX hd (by decide) rfl) ?_
  refine aI_c (fun hd => s_al_n hX hd rfl rfl) ?_
  refine aI_c (fun hd => s_gF hX (C := RX4) (T := TX4) (N := 9) (k := 1) rfl (fun w h => up w (inlX4 w h)) (by decide) rfl rfl rfl (up _ lkX4_48) hd rfl) ?_
  refine aI_c (fun hd => s_gF hX (C := RX0) (T := TX0) (N := 15) (k := 0) rfl (fun w h => up w (inlX0 w h)) (by decide) rfl rfl rfl (up _ lkX4_116) hd rfl) ?_
  refine aI_c (fun hd => s_il_n hX hd rfl rfl) ?_
  refine aI_c (fun hd => s_il hX hd rfl) ?_
  refine aI_c (fun hd => s_iast hX hd rfl) ?_
  refine aI_c (fun hd => s_go hX hd (by decide)) ?_
  refine aI_c (fun hd => s_al_n hX hd rfl rfl) ?_
  refine aI_c (fun hd => s_gF hX (C := RX4) (T := TX4) (N := 9) (k := 1) rfl (fun w h => up w (inlX4 w h)) (by decide) rfl rfl rfl (up _ lkX4_48) hd rfl) ?_
  refine aI_c (fun hd => s_gF hX (C := RX0) (T := TX0) (N := 15) (k := 1) rfl (fun w h => up w (inlX0 w h)) (by decide) rfl rfl rfl (up _ lkX4_119) hd rfl) ?_
  refine aI_c (fun hd => s_il_n hX hd rfl rfl) ?_
  refine aI_c (fun hd => s_il hX hd rfl) ?_
  refine aI_c (fun hd => s_iast hX hd rfl) ?_
  refine aI_c (fun hd => s_al_n hX hd rfl rfl) ?_
  refine aI_c (fun hd => s_il_n hX hd rfl rfl) ?_
  refine aI_c (fun hd => s_cV hX (T := TX4) (N := 9) (nX4_firstOther l) rfl (wg_V up lmX4_196 loX4_firstOther) rfl rfl rfl (by decide +kernel) ⟨by decide, by decide⟩ ⟨Nat.zero_le _, Nat.zero_le _⟩ hd rfl) ?_
  refine aI_c (fun hd => s_ii hX hd (by decide) rfl) ?_
  refine aI_c (fun hd => s_ic_ne hX hd (by decide) rfl) ?_
  refine aI_c (fun hd => s_il hX hd rfl) ?_
  refine aI_c (fun hd => s_ii hX hd (by decide) rfl) ?_
  refine aI_c (fun hd => s_il hX hd rfl) ?_
  refine aI_c (fun hd => s_ishl hX hd rfl) ?_
  refine aI_c (fun hd => s_ior hX hd rfl) ?_
  refine aI_c (fun hd => s_is hX hd rfl (by decide)) ?_
  refine aI_c (fun hd => s_inc hX hd (by decide) rfl (by decide)) ?_
  refine aI_c (fun hd => s_go hX hd (by decide)) ?_
  refine aI_c (fun hd => s_il hX hd rfl) ?_
  refine aI_c (fun hd => s_ri hX hr hlk hE hd) ?_
  exact trivial

-- JudgesByLoss.turned(II)I
def tX4_turned : aT := [
  (0, (.aload_n 0, 1), o_al 0 1),
  (1, (.iload_n 1, 1), o_il 1 2),
  (2, (.iload_n 2, 1), o_il 2 3),
  (3, (.invokevirtual 199, 3), o_cV CX4_refusalOfTold_ 4 2 6),
  (6, (.istore_n 3, 1), o_is 3 7),
  (7, (.iload_n 3, 1), o_il 3 8),
  (8, (.ifCond .eq 5, 3), o_if (fun x => x = 0) 13 11),
  (11, (.iload_n 3, 1), o_il 3 12),
  (12, (.ireturn, 1), o_ri),
  (13, (.iconst 0, 1), o_ii 0 14),
  (14, (.istore 4, 2), o_is 4 16),
  (16, (.iconst 0, 1), o_ii 0 17),
  (17, (.istore 5, 2), o_is 5 19),
  (19, (.iload 5, 2), o_mk [false, false, false, true, false, false] (o_il 5 21)),
  (21, (.bipush 10, 2), o_ii 10 23),
  (23, (.if_icmp .ge 47, 3), o_ic (fun x y => y ≤ x) 70 26),
  (26, (.aload_n 0, 1), o_al 0 27),
  (27, (.invokevirtual 169, 3), o_cV CX4_think 4 0 30),
  (30, (.aload_n 0, 1), o_al 0 31),
  (31, (.getfield 48, 3), o_gF 4 11 34),
  (34, (.getfield 122, 3), o_gF 0 3 37),
  (37, (.iload_n 2, 1), o_il 2 38),
  (38, (.dup2, 1), o_dup2 39),
  (39, (.iaload, 1), o_iald 40),
  (40, (.iconst 1, 1), o_ii 1 41),
  (41, (.iload 5, 2), o_il 5 43),
  (43, (.ishl, 1), o_bi (fun x y => x <<< (y &&& 31)) 44),
  (44, (.ixor, 1), o_bi (fun x y => x ^^^ y) 45),
  (45, (.iastore, 1), o_iast 46),
  (46, (.aload_n 0, 1), o_al 0 47),
  (47, (.iload_n 1, 1), o_il 1 48),
  (48, (.invokevirtual 196, 3), o_cV CX4_firstOther 4 1 51),
  (51, (.iconst (-1), 1), o_ii (-1) 52),
  (52, (.if_icmp .ne 12, 3), o_ic (fun x y => ¬ x = y) 64 55),
  (55, (.iload 4, 2), o_il 4 57),
  (57, (.iconst 1, 1), o_ii 1 58),
  (58, (.iload 5, 2), o_il 5 60),
  (60, (.ishl, 1), o_bi (fun x y => x <<< (y &&& 31)) 61),
  (61, (.ior, 1), o_bi (fun x y => x ||| y) 62),
  (62, (.istore 4, 2), o_is 4 64),
  (64, (.iinc 5 1, 3), o_inc 5 1 67),
  (67, (.goto (-48), 3), o_go 19),
  (70, (.iload 4, 2), o_il 4 72),
  (72, (.ireturn, 1), o_ri)]
abbrev CX4_turned : aC := aCl tX4_turned 6
def rmX4_turned : Room := { frames := 7, cells := 0, slots := 0, locals := 166 }
set_option maxRecDepth 100000 in
theorem dX4_turned : tX4_turned.all (fun q => decide (decode cX4_turned q.1 = .ok q.2.1)) = true := by decide +kernel
set_option maxRecDepth 100000 in
set_option maxHeartbeats 4000000 in
theorem nX4_turned (l : Launch) : aMt l yX4_turned (Cond.code yX4_turned cX4_turned 6 (some .int) :: wsL_law) rmX4_turned CX4_turned := by
  refine aMt.of (own := RX4) (cc := cX4_turned) (maxL := 6) (ret := (some .int)) (by decide +kernel) rfl rfl ?_
  intro p e s m args below meth c Qc D Z ad P G A E hX hr hlk hE
  have up : ∀ w ∈ wsL_law, w ∈ (Cond.code yX4_turned cX4_turned 6 (some .int) :: wsL_law) := fun w h => List.mem_cons_of_mem _ h
  refine aImp_all _ dX4_turned ?_
  unfold tX4_turned
  refine aI_c (fun hd => s_al_n hX hd rfl rfl) ?_
  refine aI_c (fun hd => s_il_n hX hd rfl rfl) ?_
  refine aI_c (fun hd => s_il_n hX hd rfl rfl) ?_
  refine aI_c (fun hd => s_cV hX (T := TX4) (N := 9) (nX4_refusalOfTold_ l) rfl (wg_V up lmX4_199 loX4_refusalOfTold_) rfl rfl rfl (by decide +kernel) ⟨by decide, by decide⟩ ⟨Nat.zero_le _, Nat.zero_le _⟩ hd rfl) ?_
  refine aI_c (fun hd => s_is_n hX hd rfl rfl (by decide)) ?_
  refine aI_c (fun hd => s_il_n hX hd rfl rfl) ?_
  refine aI_c (fun hd => s_if_eq hX hd (by decide) rfl) ?_
  refine aI_c (fun hd => s_il_n hX hd rfl rfl) ?_
  refine aI_c (fun hd => s_ri hX hr hlk hE hd) ?_
  refine aI_c (fun hd => s_ii hX hd (by decide) rfl) ?_
  refine aI_c (fun hd => s_is hX hd rfl (by decide)) ?_
  refine aI_c (fun hd => s_ii hX hd (by decide) rfl) ?_
  refine aI_c (fun hd => s_is hX hd rfl (by decide)) ?_
  refine aI_c (fun hd => s_mk (s_il hX hd rfl)) ?_
  refine aI_c (fun hd => s_bp hX hd (by decide) rfl) ?_
  refine aI_c (fun hd => s_ic_ge hX hd (by decide) rfl) ?_
  refine aI_c (fun hd => s_al_n hX hd rfl rfl) ?_
  refine aI_c (fun hd => s_cV hX (T := TX4) (N := 9) (nX4_think l) rfl (wg_V up lmX4_169 loX4_think) rfl rfl rfl (by decide +kernel) ⟨by decide, by decide⟩ ⟨Nat.zero_le _, Nat.zero_le _⟩ hd rfl) ?_
  refine aI_c (fun hd => s_al_n hX hd rfl rfl) ?_
  refine aI_c (fun hd => s_gF hX (C := RX4) (T := TX4) (N := 9) (k := 1) rfl (fun w h => up w (inlX4 w h)) (by decide) rfl rfl rfl (up _ lkX4_48) hd rfl) ?_
  refine aI_c (fun hd => s_gF hX (C := RX0) (T := TX0) (N := 15) (k := 2) rfl (fun w h => up w (inlX0 w h)) (by decide) rfl rfl rfl (up _ lkX4_122) hd rfl) ?_
  refine aI_c (fun hd => s_il_n hX hd rfl rfl) ?_
  refine aI_c (fun hd => s_dup2 hX hd rfl) ?_
  refine aI_c (fun hd => s_iald hX hd rfl) ?_
  refine aI_c (fun hd => s_ii hX hd (by decide) rfl) ?_
  refine aI_c (fun hd => s_il hX hd rfl) ?_
  refine aI_c (fun hd => s_ishl hX hd rfl) ?_
  refine aI_c (fun hd => s_ixor hX hd rfl) ?_
  refine aI_c (fun hd => s_iast hX hd rfl) ?_
  refine aI_c (fun hd => s_al_n hX hd rfl rfl) ?_
  refine aI_c (fun hd => s_il_n hX hd rfl rfl) ?_
  refine aI_c (fun hd => s_cV hX (T := TX4) (N := 9) (nX4_firstOther l) rfl (wg_V up lmX4_196 loX4_firstOther) rfl rfl rfl (by decide +kernel) ⟨by decide, by decide⟩ ⟨Nat.zero_le _, Nat.zero_le _⟩ hd rfl) ?_
  refine aI_c (fun hd => s_ii hX hd (by decide) rfl) ?_
  refine aI_c (fun hd => s_ic_ne hX hd (by decide) rfl) ?_
  refine aI_c (fun hd => s_il hX hd rfl) ?_
  refine aI_c (fun hd => s_ii hX hd (by decide) rfl) ?_
  refine aI_c (fun hd => s_il hX hd rfl) ?_
  refine aI_c (fun hd => s_ishl hX hd rfl) ?_
  refine aI_c (fun hd => s_ior hX hd rfl) ?_
  refine aI_c (fun hd => s_is hX hd rfl (by decide)) ?_
  refine aI_c (fun hd => s_inc hX hd (by decide) rfl (by decide)) ?_
  refine aI_c (fun hd => s_go hX hd (by decide)) ?_
  refine aI_c (fun hd => s_il hX hd rfl) ?_
  refine aI_c (fun hd => s_ri hX hr hlk hE hd) ?_
  exact trivial

-- JudgesByLoss.states(IIII)I
def tX4_states : aT := [
  (0, (.aload_n 0, 1), o_al 0 1),
  (1, (.iload_n 1, 1), o_il 1 2),
  (2, (.iload_n 2, 1), o_il 2 3),
  (3, (.invokevirtual 199, 3), o_cV CX4_refusalOfTold_ 4 2 6),
  (6, (.istore 5, 2), o_is 5 8),
  (8, (.iload 5, 2), o_il 5 10),
  (10, (.ifCond .eq 6, 3), o_if (fun x => x = 0) 16 13),
  (13, (.iload 5, 2), o_il 5 15),
  (15, (.ireturn, 1), o_ri),
  (16, (.iload_n 3, 1), o_il 3 17),
  (17, (.iconst 1, 1), o_ii 1 18),
  (18, (.iconst 2, 1), o_ii 2 19),
  (19, (.invokestatic 79, 3), o_cS CX4_within 3 22),
  (22, (.ifCond .eq 13, 3), o_if (fun x => x = 0) 35 25),
  (25, (.iload 4, 2), o_il 4 27),
  (27, (.iconst 0, 1), o_ii 0 28),
  (28, (.iconst 1, 1), o_ii 1 29),
  (29, (.invokestatic 79, 3), o_cS CX4_within 3 32),
  (32, (.ifCond .ne 6, 3), o_if (fun x => ¬ x = 0) 38 35),
  (35, (.bipush (-7), 2), o_ii (-7) 37),
  (37, (.ireturn, 1), o_ri),
  (38, (.iconst 0, 1), o_ii 0 39),
  (39, (.istore 6, 2), o_is 6 41),
  (41, (.iconst (-1), 1), o_ii (-1) 42),
  (42, (.istore 7, 2), o_is 7 44),
  (44, (.iconst 0, 1), o_ii 0 45),
  (45, (.istore 8, 2), o_is 8 47),
  (47, (.iload 8, 2), o_mk [false, false, false, false, false, true, false, false, false] (o_il 8 49)),
  (49, (.bipush 99, 2), o_ii 99 51),
  (51, (.if_icmp .gt 70, 3), o_ic (fun x y => y < x) 121 54),
  (54, (.aload_n 0, 1), o_al 0 55),
  (55, (.invokevirtual 169, 3), o_cV CX4_think 4 0 58),
  (58, (.iload_n 3, 1), o_il 3 59),
  (59, (.iconst 1, 1), o_ii 1 60),
  (60, (.if_icmp .ne 17, 3), o_ic (fun x y => ¬ x = y) 77 63),
  (63, (.aload_n 0, 1), o_al 0 64),
  (64, (.getfield 48, 3), o_gF 4 11 67),
  (67, (.getfield 125, 3), o_gF 0 4 70),
  (70, (.iload_n 2, 1), o_il 2 71),
  (71, (.iload 8, 2), o_il 8 73),
  (73, (.iastore, 1), o_iast 74),
  (74, (.goto 14, 3), o_go 88),
  (77, (.aload_n 0, 1), o_al 0 78),
  (78, (.getfield 48, 3), o_gF 4 11 81),
  (81, (.getfield 128, 3), o_gF 0 5 84),
  (84, (.iload_n 2, 1), o_il 2 85),
  (85, (.iload 8, 2), o_il 8 87),
  (87, (.iastore, 1), o_iast 88),
  (88, (.aload_n 0, 1), o_al 0 89),
  (89, (.iload_n 1, 1), o_il 1 90),
  (90, (.invokevirtual 196, 3), o_cV CX4_firstOther 4 1 93),
  (93, (.iconst (-1), 1), o_ii (-1) 94),
  (94, (.if_icmp .ne 21, 3), o_ic (fun x y => ¬ x = y) 115 97),
  (97, (.iinc 6 1, 3), o_inc 6 1 100),
  (100, (.iload 7, 2), o_il 7 102),
  (102, (.iconst (-1), 1), o_ii (-1) 103),
  (103, (.if_icmp .ne 8, 3), o_ic (fun x y => ¬ x = y) 111 106),
  (106, (.iload 8, 2), o_il 8 108),
  (108, (.goto 5, 3), o_go 113),
  (111, (.iload 7, 2), o_il 7 113),
  (113, (.istore 7, 2), o_is 7 115),
  (115, (.iinc 8 1, 3), o_inc 8 1 118),
  (118, (.goto (-71), 3), o_go 47),
  (121, (.iload 4, 2), o_il 4 123),
  (123, (.ifCond .ne 8, 3), o_if (fun x => ¬ x = 0) 131 126),
  (126, (.iload 6, 2), o_il 6 128),
  (128, (.goto 5, 3), o_go 133),
  (131, (.iload 7, 2), o_il 7 133),
  (133, (.ireturn, 1), o_ri)]
abbrev CX4_states : aC := aCl tX4_states 9
def rmX4_states : Room := { frames := 7, cells := 0, slots := 0, locals := 166 }
set_option maxRecDepth 100000 in
theorem dX4_states : tX4_states.all (fun q => decide (decode cX4_states q.1 = .ok q.2.1)) = true := by decide +kernel
set_option maxRecDepth 100000 in
set_option maxHeartbeats 4000000 in
theorem nX4_states (l : Launch) : aMt l yX4_states (Cond.code yX4_states cX4_states 9 (some .int) :: wsL_law) rmX4_states CX4_states := by
  refine aMt.of (own := RX4) (cc := cX4_states) (maxL := 9) (ret := (some .int)) (by decide +kernel) rfl rfl ?_
  intro p e s m args below meth c Qc D Z ad P G A E hX hr hlk hE
  have up : ∀ w ∈ wsL_law, w ∈ (Cond.code yX4_states cX4_states 9 (some .int) :: wsL_law) := fun w h => List.mem_cons_of_mem _ h
  refine aImp_all _ dX4_states ?_
  unfold tX4_states
  refine aI_c (fun hd => s_al_n hX hd rfl rfl) ?_
  refine aI_c (fun hd => s_il_n hX hd rfl rfl) ?_
  refine aI_c (fun hd => s_il_n hX hd rfl rfl) ?_
  refine aI_c (fun hd => s_cV hX (T := TX4) (N := 9) (nX4_refusalOfTold_ l) rfl (wg_V up lmX4_199 loX4_refusalOfTold_) rfl rfl rfl (by decide +kernel) ⟨by decide, by decide⟩ ⟨Nat.zero_le _, Nat.zero_le _⟩ hd rfl) ?_
  refine aI_c (fun hd => s_is hX hd rfl (by decide)) ?_
  refine aI_c (fun hd => s_il hX hd rfl) ?_
  refine aI_c (fun hd => s_if_eq hX hd (by decide) rfl) ?_
  refine aI_c (fun hd => s_il hX hd rfl) ?_
  refine aI_c (fun hd => s_ri hX hr hlk hE hd) ?_
  refine aI_c (fun hd => s_il_n hX hd rfl rfl) ?_
  refine aI_c (fun hd => s_ii hX hd (by decide) rfl) ?_
  refine aI_c (fun hd => s_ii hX hd (by decide) rfl) ?_
  refine aI_c (fun hd => s_cS hX (nX4_within l) (wg_S up lmX4_79 loX4_within) rfl rfl rfl (by decide +kernel) ⟨by decide, by decide⟩ ⟨Nat.zero_le _, Nat.zero_le _⟩ hd rfl) ?_
  refine aI_c (fun hd => s_if_eq hX hd (by decide) rfl) ?_
  refine aI_c (fun hd => s_il hX hd rfl) ?_
  refine aI_c (fun hd => s_ii hX hd (by decide) rfl) ?_
  refine aI_c (fun hd => s_ii hX hd (by decide) rfl) ?_
  refine aI_c (fun hd => s_cS hX (nX4_within l) (wg_S up lmX4_79 loX4_within) rfl rfl rfl (by decide +kernel) ⟨by decide, by decide⟩ ⟨Nat.zero_le _, Nat.zero_le _⟩ hd rfl) ?_
  refine aI_c (fun hd => s_if_ne hX hd (by decide) rfl) ?_
  refine aI_c (fun hd => s_bp hX hd (by decide) rfl) ?_
  refine aI_c (fun hd => s_ri hX hr hlk hE hd) ?_
  refine aI_c (fun hd => s_ii hX hd (by decide) rfl) ?_
  refine aI_c (fun hd => s_is hX hd rfl (by decide)) ?_
  refine aI_c (fun hd => s_ii hX hd (by decide) rfl) ?_
  refine aI_c (fun hd => s_is hX hd rfl (by decide)) ?_
  refine aI_c (fun hd => s_ii hX hd (by decide) rfl) ?_
  refine aI_c (fun hd => s_is hX hd rfl (by decide)) ?_
  refine aI_c (fun hd => s_mk (s_il hX hd rfl)) ?_
  refine aI_c (fun hd => s_bp hX hd (by decide) rfl) ?_
  refine aI_c (fun hd => s_ic_gt hX hd (by decide) rfl) ?_
  refine aI_c (fun hd => s_al_n hX hd rfl rfl) ?_
  refine aI_c (fun hd => s_cV hX (T := TX4) (N := 9) (nX4_think l) rfl (wg_V up lmX4_169 loX4_think) rfl rfl rfl (by decide +kernel) ⟨by decide, by decide⟩ ⟨Nat.zero_le _, Nat.zero_le _⟩ hd rfl) ?_
  refine aI_c (fun hd => s_il_n hX hd rfl rfl) ?_
  refine aI_c (fun hd => s_ii hX hd (by decide) rfl) ?_
  refine aI_c (fun hd => s_ic_ne hX hd (by decide) rfl) ?_
  refine aI_c (fun hd => s_al_n hX hd rfl rfl) ?_
  refine aI_c (fun hd => s_gF hX (C := RX4) (T := TX4) (N := 9) (k := 1) rfl (fun w h => up w (inlX4 w h)) (by decide) rfl rfl rfl (up _ lkX4_48) hd rfl) ?_
  refine aI_c (fun hd => s_gF hX (C := RX0) (T := TX0) (N := 15) (k := 3) rfl (fun w h => up w (inlX0 w h)) (by decide) rfl rfl rfl (up _ lkX4_125) hd rfl) ?_
  refine aI_c (fun hd => s_il_n hX hd rfl rfl) ?_
  refine aI_c (fun hd => s_il hX hd rfl) ?_
  refine aI_c (fun hd => s_iast hX hd rfl) ?_
  refine aI_c (fun hd => s_go hX hd (by decide)) ?_
  refine aI_c (fun hd => s_al_n hX hd rfl rfl) ?_
  refine aI_c (fun hd => s_gF hX (C := RX4) (T := TX4) (N := 9) (k := 1) rfl (fun w h => up w (inlX4 w h)) (by decide) rfl rfl rfl (up _ lkX4_48) hd rfl) ?_
  refine aI_c (fun hd => s_gF hX (C := RX0) (T := TX0) (N := 15) (k := 4) rfl (fun w h => up w (inlX0 w h)) (by decide) rfl rfl rfl (up _ lkX4_128) hd rfl) ?_
  refine aI_c (fun hd => s_il_n hX hd rfl rfl) ?_
  refine aI_c (fun hd => s_il hX hd rfl) ?_
  refine aI_c (fun hd => s_iast hX hd rfl) ?_
  refine aI_c (fun hd => s_al_n hX hd rfl rfl) ?_
  refine aI_c (fun hd => s_il_n hX hd rfl rfl) ?_
  refine aI_c (fun hd => s_cV hX (T := TX4) (N := 9) (nX4_firstOther l) rfl (wg_V up lmX4_196 loX4_firstOther) rfl rfl rfl (by decide +kernel) ⟨by decide, by decide⟩ ⟨Nat.zero_le _, Nat.zero_le _⟩ hd rfl) ?_
  refine aI_c (fun hd => s_ii hX hd (by decide) rfl) ?_
  refine aI_c (fun hd => s_ic_ne hX hd (by decide) rfl) ?_
  refine aI_c (fun hd => s_inc hX hd (by decide) rfl (by decide)) ?_
  refine aI_c (fun hd => s_il hX hd rfl) ?_
  refine aI_c (fun hd => s_ii hX hd (by decide) rfl) ?_
  refine aI_c (fun hd => s_ic_ne hX hd (by decide) rfl) ?_
  refine aI_c (fun hd => s_il hX hd rfl) ?_
  refine aI_c (fun hd => s_go hX hd (by decide)) ?_
  refine aI_c (fun hd => s_il hX hd rfl) ?_
  refine aI_c (fun hd => s_is hX hd rfl (by decide)) ?_
  refine aI_c (fun hd => s_inc hX hd (by decide) rfl (by decide)) ?_
  refine aI_c (fun hd => s_go hX hd (by decide)) ?_
  refine aI_c (fun hd => s_il hX hd rfl) ?_
  refine aI_c (fun hd => s_if_ne hX hd (by decide) rfl) ?_
  refine aI_c (fun hd => s_il hX hd rfl) ?_
  refine aI_c (fun hd => s_go hX hd (by decide)) ?_
  refine aI_c (fun hd => s_il hX hd rfl) ?_
  refine aI_c (fun hd => s_ri hX hr hlk hE hd) ?_
  exact trivial

-- JudgesByLoss.dropped(I)I
def tX4_dropped : aT := [
  (0, (.aload_n 0, 1), o_al 0 1),
  (1, (.iload_n 1, 1), o_il 1 2),
  (2, (.invokevirtual 193, 3), o_cV CX4_refusalOfTold 4 1 5),
  (5, (.istore_n 2, 1), o_is 2 6),
  (6, (.iload_n 2, 1), o_il 2 7),
  (7, (.ifCond .eq 5, 3), o_if (fun x => x = 0) 12 10),
  (10, (.iload_n 2, 1), o_il 2 11),
  (11, (.ireturn, 1), o_ri),
  (12, (.iconst 0, 1), o_ii 0 13),
  (13, (.istore_n 3, 1), o_is 3 14),
  (14, (.iconst 0, 1), o_ii 0 15),
  (15, (.istore 4, 2), o_is 4 17),
  (17, (.iload 4, 2), o_mk [false, false, true, false, false] (o_il 4 19)),
  (19, (.bipush 8, 2), o_ii 8 21),
  (21, (.if_icmp .ge 59, 3), o_ic (fun x y => y ≤ x) 80 24),
  (24, (.aload_n 0, 1), o_al 0 25),
  (25, (.getfield 44, 3), o_gF 4 1 28),
  (28, (.iload 4, 2), o_il 4 30),
  (30, (.invokevirtual 106, 3), o_cV CX0_hasCase 0 1 33),
  (33, (.ifCond .eq 41, 3), o_if (fun x => x = 0) 74 36),
  (36, (.aload_n 0, 1), o_al 0 37),
  (37, (.invokevirtual 169, 3), o_cV CX4_think 4 0 40),
  (40, (.aload_n 0, 1), o_al 0 41),
  (41, (.getfield 48, 3), o_gF 4 11 44),
  (44, (.dup, 1), o_dup 45),
  (45, (.getfield 58, 3), o_gI 0 10 48),
  (48, (.iconst 1, 1), o_ii 1 49),
  (49, (.iload 4, 2), o_il 4 51),
  (51, (.ishl, 1), o_bi (fun x y => x <<< (y &&& 31)) 52),
  (52, (.iconst (-1), 1), o_ii (-1) 53),
  (53, (.ixor, 1), o_bi (fun x y => x ^^^ y) 54),
  (54, (.iand, 1), o_bi (fun x y => x &&& y) 55),
  (55, (.putfield 58, 3), o_pI 0 10 58),
  (58, (.aload_n 0, 1), o_al 0 59),
  (59, (.iload_n 1, 1), o_il 1 60),
  (60, (.invokevirtual 196, 3), o_cV CX4_firstOther 4 1 63),
  (63, (.iconst (-1), 1), o_ii (-1) 64),
  (64, (.if_icmp .ne 10, 3), o_ic (fun x y => ¬ x = y) 74 67),
  (67, (.iload_n 3, 1), o_il 3 68),
  (68, (.iconst 1, 1), o_ii 1 69),
  (69, (.iload 4, 2), o_il 4 71),
  (71, (.ishl, 1), o_bi (fun x y => x <<< (y &&& 31)) 72),
  (72, (.ior, 1), o_bi (fun x y => x ||| y) 73),
  (73, (.istore_n 3, 1), o_is 3 74),
  (74, (.iinc 4 1, 3), o_inc 4 1 77),
  (77, (.goto (-60), 3), o_go 17),
  (80, (.iload_n 3, 1), o_il 3 81),
  (81, (.ireturn, 1), o_ri)]
abbrev CX4_dropped : aC := aCl tX4_dropped 5
def rmX4_dropped : Room := { frames := 7, cells := 0, slots := 0, locals := 166 }
set_option maxRecDepth 100000 in
theorem dX4_dropped : tX4_dropped.all (fun q => decide (decode cX4_dropped q.1 = .ok q.2.1)) = true := by decide +kernel
set_option maxRecDepth 100000 in
set_option maxHeartbeats 4000000 in
theorem nX4_dropped (l : Launch) : aMt l yX4_dropped (Cond.code yX4_dropped cX4_dropped 5 (some .int) :: wsL_law) rmX4_dropped CX4_dropped := by
  refine aMt.of (own := RX4) (cc := cX4_dropped) (maxL := 5) (ret := (some .int)) (by decide +kernel) rfl rfl ?_
  intro p e s m args below meth c Qc D Z ad P G A E hX hr hlk hE
  have up : ∀ w ∈ wsL_law, w ∈ (Cond.code yX4_dropped cX4_dropped 5 (some .int) :: wsL_law) := fun w h => List.mem_cons_of_mem _ h
  refine aImp_all _ dX4_dropped ?_
  unfold tX4_dropped
  refine aI_c (fun hd => s_al_n hX hd rfl rfl) ?_
  refine aI_c (fun hd => s_il_n hX hd rfl rfl) ?_
  refine aI_c (fun hd => s_cV hX (T := TX4) (N := 9) (nX4_refusalOfTold l) rfl (wg_V up lmX4_193 loX4_refusalOfTold) rfl rfl rfl (by decide +kernel) ⟨by decide, by decide⟩ ⟨Nat.zero_le _, Nat.zero_le _⟩ hd rfl) ?_
  refine aI_c (fun hd => s_is_n hX hd rfl rfl (by decide)) ?_
  refine aI_c (fun hd => s_il_n hX hd rfl rfl) ?_
  refine aI_c (fun hd => s_if_eq hX hd (by decide) rfl) ?_
  refine aI_c (fun hd => s_il_n hX hd rfl rfl) ?_
  refine aI_c (fun hd => s_ri hX hr hlk hE hd) ?_
  refine aI_c (fun hd => s_ii hX hd (by decide) rfl) ?_
  refine aI_c (fun hd => s_is_n hX hd rfl rfl (by decide)) ?_
  refine aI_c (fun hd => s_ii hX hd (by decide) rfl) ?_
  refine aI_c (fun hd => s_is hX hd rfl (by decide)) ?_
  refine aI_c (fun hd => s_mk (s_il hX hd rfl)) ?_
  refine aI_c (fun hd => s_bp hX hd (by decide) rfl) ?_
  refine aI_c (fun hd => s_ic_ge hX hd (by decide) rfl) ?_
  refine aI_c (fun hd => s_al_n hX hd rfl rfl) ?_
  refine aI_c (fun hd => s_gF hX (C := RX4) (T := TX4) (N := 9) (k := 0) rfl (fun w h => up w (inlX4 w h)) (by decide) rfl rfl rfl (up _ lkX4_44) hd rfl) ?_
  refine aI_c (fun hd => s_il hX hd rfl) ?_
  refine aI_c (fun hd => s_cV hX (T := TX0) (N := 15) (nX0_hasCase l) rfl (wg_V up lmX4_106 loX0_hasCase) rfl rfl rfl (by decide +kernel) ⟨by decide, by decide⟩ ⟨Nat.zero_le _, Nat.zero_le _⟩ hd rfl) ?_
  refine aI_c (fun hd => s_if_eq hX hd (by decide) rfl) ?_
  refine aI_c (fun hd => s_al_n hX hd rfl rfl) ?_
  refine aI_c (fun hd => s_cV hX (T := TX4) (N := 9) (nX4_think l) rfl (wg_V up lmX4_169 loX4_think) rfl rfl rfl (by decide +kernel) ⟨by decide, by decide⟩ ⟨Nat.zero_le _, Nat.zero_le _⟩ hd rfl) ?_
  refine aI_c (fun hd => s_al_n hX hd rfl rfl) ?_
  refine aI_c (fun hd => s_gF hX (C := RX4) (T := TX4) (N := 9) (k := 1) rfl (fun w h => up w (inlX4 w h)) (by decide) rfl rfl rfl (up _ lkX4_48) hd rfl) ?_
  refine aI_c (fun hd => s_dup hX hd rfl) ?_
  refine aI_c (fun hd => s_gI hX (C := RX0) (T := TX0) (N := 15) (k := 10) rfl (fun w h => up w (inlX0 w h)) (by decide) rfl rfl rfl (up _ lkX4_58) hd rfl) ?_
  refine aI_c (fun hd => s_ii hX hd (by decide) rfl) ?_
  refine aI_c (fun hd => s_il hX hd rfl) ?_
  refine aI_c (fun hd => s_ishl hX hd rfl) ?_
  refine aI_c (fun hd => s_ii hX hd (by decide) rfl) ?_
  refine aI_c (fun hd => s_ixor hX hd rfl) ?_
  refine aI_c (fun hd => s_iand hX hd rfl) ?_
  refine aI_c (fun hd => s_pI hX (C := RX0) (T := TX0) (N := 15) (k := 10) rfl (fun w h => up w (inlX0 w h)) (by decide) rfl rfl tyX0 tyX0_ok nmX0 rfl rfl rfl (up _ lkX4_58) hd rfl) ?_
  refine aI_c (fun hd => s_al_n hX hd rfl rfl) ?_
  refine aI_c (fun hd => s_il_n hX hd rfl rfl) ?_
  refine aI_c (fun hd => s_cV hX (T := TX4) (N := 9) (nX4_firstOther l) rfl (wg_V up lmX4_196 loX4_firstOther) rfl rfl rfl (by decide +kernel) ⟨by decide, by decide⟩ ⟨Nat.zero_le _, Nat.zero_le _⟩ hd rfl) ?_
  refine aI_c (fun hd => s_ii hX hd (by decide) rfl) ?_
  refine aI_c (fun hd => s_ic_ne hX hd (by decide) rfl) ?_
  refine aI_c (fun hd => s_il_n hX hd rfl rfl) ?_
  refine aI_c (fun hd => s_ii hX hd (by decide) rfl) ?_
  refine aI_c (fun hd => s_il hX hd rfl) ?_
  refine aI_c (fun hd => s_ishl hX hd rfl) ?_
  refine aI_c (fun hd => s_ior hX hd rfl) ?_
  refine aI_c (fun hd => s_is_n hX hd rfl rfl (by decide)) ?_
  refine aI_c (fun hd => s_inc hX hd (by decide) rfl (by decide)) ?_
  refine aI_c (fun hd => s_go hX hd (by decide)) ?_
  refine aI_c (fun hd => s_il_n hX hd rfl rfl) ?_
  refine aI_c (fun hd => s_ri hX hr hlk hE hd) ?_
  exact trivial

-- JudgesByLoss.laws(I)I
def tX4_laws : aT := [
  (0, (.aload_n 0, 1), o_al 0 1),
  (1, (.iload_n 1, 1), o_il 1 2),
  (2, (.invokevirtual 193, 3), o_cV CX4_refusalOfTold 4 1 5),
  (5, (.istore_n 2, 1), o_is 2 6),
  (6, (.iload_n 2, 1), o_il 2 7),
  (7, (.ifCond .eq 5, 3), o_if (fun x => x = 0) 12 10),
  (10, (.iload_n 2, 1), o_il 2 11),
  (11, (.ireturn, 1), o_ri),
  (12, (.iconst 0, 1), o_ii 0 13),
  (13, (.istore_n 3, 1), o_is 3 14),
  (14, (.iconst 0, 1), o_ii 0 15),
  (15, (.istore 4, 2), o_is 4 17),
  (17, (.iload 4, 2), o_mk [false, false, true, false, false] (o_il 4 19)),
  (19, (.aload_n 0, 1), o_al 0 20),
  (20, (.getfield 15, 3), o_gI 4 5 23),
  (23, (.if_icmp .ge 45, 3), o_ic (fun x y => y ≤ x) 68 26),
  (26, (.aload_n 0, 1), o_al 0 27),
  (27, (.invokevirtual 169, 3), o_cV CX4_think 4 0 30),
  (30, (.aload_n 0, 1), o_al 0 31),
  (31, (.getfield 48, 3), o_gF 4 11 34),
  (34, (.aload_n 0, 1), o_al 0 35),
  (35, (.getfield 11, 3), o_gF 4 37 38),
  (38, (.iload 4, 2), o_il 4 40),
  (40, (.aaload, 1), o_aald 2 41),
  (41, (.iload 4, 2), o_il 4 43),
  (43, (.invokevirtual 99, 3), o_cV CX0_obey 0 2 46),
  (46, (.aload_n 0, 1), o_al 0 47),
  (47, (.iload_n 1, 1), o_il 1 48),
  (48, (.invokevirtual 196, 3), o_cV CX4_firstOther 4 1 51),
  (51, (.iconst (-1), 1), o_ii (-1) 52),
  (52, (.if_icmp .ne 10, 3), o_ic (fun x y => ¬ x = y) 62 55),
  (55, (.iload_n 3, 1), o_il 3 56),
  (56, (.iconst 1, 1), o_ii 1 57),
  (57, (.iload 4, 2), o_il 4 59),
  (59, (.ishl, 1), o_bi (fun x y => x <<< (y &&& 31)) 60),
  (60, (.ior, 1), o_bi (fun x y => x ||| y) 61),
  (61, (.istore_n 3, 1), o_is 3 62),
  (62, (.iinc 4 1, 3), o_inc 4 1 65),
  (65, (.goto (-48), 3), o_go 17),
  (68, (.iload_n 3, 1), o_il 3 69),
  (69, (.ireturn, 1), o_ri)]
abbrev CX4_laws : aC := aCl tX4_laws 5
def rmX4_laws : Room := { frames := 7, cells := 0, slots := 0, locals := 166 }
set_option maxRecDepth 100000 in
theorem dX4_laws : tX4_laws.all (fun q => decide (decode cX4_laws q.1 = .ok q.2.1)) = true := by decide +kernel
set_option maxRecDepth 100000 in
set_option maxHeartbeats 4000000 in
theorem nX4_laws (l : Launch) : aMt l yX4_laws (Cond.code yX4_laws cX4_laws 5 (some .int) :: wsL_law) rmX4_laws CX4_laws := by
  refine aMt.of (own := RX4) (cc := cX4_laws) (maxL := 5) (ret := (some .int)) (by decide +kernel) rfl rfl ?_
  intro p e s m args below meth c Qc D Z ad P G A E hX hr hlk hE
  have up : ∀ w ∈ wsL_law, w ∈ (Cond.code yX4_laws cX4_laws 5 (some .int) :: wsL_law) := fun w h => List.mem_cons_of_mem _ h
  refine aImp_all _ dX4_laws ?_
  unfold tX4_laws
  refine aI_c (fun hd => s_al_n hX hd rfl rfl) ?_
  refine aI_c (fun hd => s_il_n hX hd rfl rfl) ?_
  refine aI_c (fun hd => s_cV hX (T := TX4) (N := 9) (nX4_refusalOfTold l) rfl (wg_V up lmX4_193 loX4_refusalOfTold) rfl rfl rfl (by decide +kernel) ⟨by decide, by decide⟩ ⟨Nat.zero_le _, Nat.zero_le _⟩ hd rfl) ?_
  refine aI_c (fun hd => s_is_n hX hd rfl rfl (by decide)) ?_
  refine aI_c (fun hd => s_il_n hX hd rfl rfl) ?_
  refine aI_c (fun hd => s_if_eq hX hd (by decide) rfl) ?_
  refine aI_c (fun hd => s_il_n hX hd rfl rfl) ?_
  refine aI_c (fun hd => s_ri hX hr hlk hE hd) ?_
  refine aI_c (fun hd => s_ii hX hd (by decide) rfl) ?_
  refine aI_c (fun hd => s_is_n hX hd rfl rfl (by decide)) ?_
  refine aI_c (fun hd => s_ii hX hd (by decide) rfl) ?_
  refine aI_c (fun hd => s_is hX hd rfl (by decide)) ?_
  refine aI_c (fun hd => s_mk (s_il hX hd rfl)) ?_
  refine aI_c (fun hd => s_al_n hX hd rfl rfl) ?_
  refine aI_c (fun hd => s_gI hX (C := RX4) (T := TX4) (N := 9) (k := 5) rfl (fun w h => up w (inlX4 w h)) (by decide) rfl rfl rfl (up _ lkX4_15) hd rfl) ?_
  refine aI_c (fun hd => s_ic_ge hX hd (by decide) rfl) ?_
  refine aI_c (fun hd => s_al_n hX hd rfl rfl) ?_
  refine aI_c (fun hd => s_cV hX (T := TX4) (N := 9) (nX4_think l) rfl (wg_V up lmX4_169 loX4_think) rfl rfl rfl (by decide +kernel) ⟨by decide, by decide⟩ ⟨Nat.zero_le _, Nat.zero_le _⟩ hd rfl) ?_
  refine aI_c (fun hd => s_al_n hX hd rfl rfl) ?_
  refine aI_c (fun hd => s_gF hX (C := RX4) (T := TX4) (N := 9) (k := 1) rfl (fun w h => up w (inlX4 w h)) (by decide) rfl rfl rfl (up _ lkX4_48) hd rfl) ?_
  refine aI_c (fun hd => s_al_n hX hd rfl rfl) ?_
  refine aI_c (fun hd => s_gF hX (C := RX4) (T := TX4) (N := 9) (k := 4) rfl (fun w h => up w (inlX4 w h)) (by decide) rfl rfl rfl (up _ lkX4_11) hd rfl) ?_
  refine aI_c (fun hd => s_il hX hd rfl) ?_
  refine aI_c (fun hd => s_aald2 hX hd rfl) ?_
  refine aI_c (fun hd => s_il hX hd rfl) ?_
  refine aI_c (fun hd => s_cV hX (T := TX0) (N := 15) (nX0_obey l) rfl (wg_V up lmX4_99 loX0_obey) rfl rfl rfl (by decide +kernel) ⟨by decide, by decide⟩ ⟨Nat.zero_le _, Nat.zero_le _⟩ hd rfl) ?_
  refine aI_c (fun hd => s_al_n hX hd rfl rfl) ?_
  refine aI_c (fun hd => s_il_n hX hd rfl rfl) ?_
  refine aI_c (fun hd => s_cV hX (T := TX4) (N := 9) (nX4_firstOther l) rfl (wg_V up lmX4_196 loX4_firstOther) rfl rfl rfl (by decide +kernel) ⟨by decide, by decide⟩ ⟨Nat.zero_le _, Nat.zero_le _⟩ hd rfl) ?_
  refine aI_c (fun hd => s_ii hX hd (by decide) rfl) ?_
  refine aI_c (fun hd => s_ic_ne hX hd (by decide) rfl) ?_
  refine aI_c (fun hd => s_il_n hX hd rfl rfl) ?_
  refine aI_c (fun hd => s_ii hX hd (by decide) rfl) ?_
  refine aI_c (fun hd => s_il hX hd rfl) ?_
  refine aI_c (fun hd => s_ishl hX hd rfl) ?_
  refine aI_c (fun hd => s_ior hX hd rfl) ?_
  refine aI_c (fun hd => s_is_n hX hd rfl rfl (by decide)) ?_
  refine aI_c (fun hd => s_inc hX hd (by decide) rfl (by decide)) ?_
  refine aI_c (fun hd => s_go hX hd (by decide)) ?_
  refine aI_c (fun hd => s_il_n hX hd rfl rfl) ?_
  refine aI_c (fun hd => s_ri hX hr hlk hE hd) ?_
  exact trivial

-- JudgesByLoss.film(II)I
def tX4_film : aT := [
  (0, (.iload_n 1, 1), o_il 1 1),
  (1, (.iconst 0, 1), o_ii 0 2),
  (2, (.iconst 3, 1), o_ii 3 3),
  (3, (.invokestatic 79, 3), o_cS CX4_within 3 6),
  (6, (.ifCond .ne 6, 3), o_if (fun x => ¬ x = 0) 12 9),
  (9, (.bipush (-2), 2), o_ii (-2) 11),
  (11, (.ireturn, 1), o_ri),
  (12, (.iload_n 2, 1), o_il 2 13),
  (13, (.iconst 0, 1), o_ii 0 14),
  (14, (.bipush 20, 2), o_ii 20 16),
  (16, (.invokestatic 79, 3), o_cS CX4_within 3 19),
  (19, (.ifCond .ne 6, 3), o_if (fun x => ¬ x = 0) 25 22),
  (22, (.bipush (-7), 2), o_ii (-7) 24),
  (24, (.ireturn, 1), o_ri),
  (25, (.aload_n 0, 1), o_al 0 26),
  (26, (.invokevirtual 169, 3), o_cV CX4_think 4 0 29),
  (29, (.aload_n 0, 1), o_al 0 30),
  (30, (.getfield 28, 3), o_gF 4 38 33),
  (33, (.iload_n 1, 1), o_il 1 34),
  (34, (.aaload, 1), o_aald 3 35),
  (35, (.iconst 0, 1), o_ii 0 36),
  (36, (.iload_n 2, 1), o_il 2 37),
  (37, (.invokevirtual 201, 3), o_cV CX2_renew 2 2 40),
  (40, (.iconst 0, 1), o_ii 0 41),
  (41, (.istore_n 3, 1), o_is 3 42),
  (42, (.iload_n 3, 1), o_il 3 43),
  (43, (.iload_n 2, 1), o_il 2 44),
  (44, (.if_icmp .ge 30, 3), o_ic (fun x y => y ≤ x) 74 47),
  (47, (.aload_n 0, 1), o_al 0 48),
  (48, (.getfield 28, 3), o_gF 4 38 51),
  (51, (.iload_n 1, 1), o_il 1 52),
  (52, (.aaload, 1), o_aald 3 53),
  (53, (.getfield 205, 3), o_gF 2 1 56),
  (56, (.iload_n 3, 1), o_il 3 57),
  (57, (.aload_n 0, 1), o_al 0 58),
  (58, (.getfield 48, 3), o_gF 4 11 61),
  (61, (.invokevirtual 163, 3), o_cV CX0_passDay 0 0 64),
  (64, (.invokestatic 61, 3), o_cS CJ6_bitCount_0f7a4 1 67),
  (67, (.iastore, 1), o_iast 68),
  (68, (.iinc 3 1, 3), o_inc 3 1 71),
  (71, (.goto (-29), 3), o_go 42),
  (74, (.iload_n 2, 1), o_il 2 75),
  (75, (.ireturn, 1), o_ri)]
abbrev CX4_film : aC := aCl tX4_film 4
def rmX4_film : Room := { frames := 6, cells := 0, slots := 0, locals := 143 }
set_option maxRecDepth 100000 in
theorem dX4_film : tX4_film.all (fun q => decide (decode cX4_film q.1 = .ok q.2.1)) = true := by decide +kernel
set_option maxRecDepth 100000 in
set_option maxHeartbeats 4000000 in
theorem nX4_film (l : Launch) : aMt l yX4_film (Cond.code yX4_film cX4_film 4 (some .int) :: wsL_law) rmX4_film CX4_film := by
  refine aMt.of (own := RX4) (cc := cX4_film) (maxL := 4) (ret := (some .int)) (by decide +kernel) rfl rfl ?_
  intro p e s m args below meth c Qc D Z ad P G A E hX hr hlk hE
  have up : ∀ w ∈ wsL_law, w ∈ (Cond.code yX4_film cX4_film 4 (some .int) :: wsL_law) := fun w h => List.mem_cons_of_mem _ h
  refine aImp_all _ dX4_film ?_
  unfold tX4_film
  refine aI_c (fun hd => s_il_n hX hd rfl rfl) ?_
  refine aI_c (fun hd => s_ii hX hd (by decide) rfl) ?_
  refine aI_c (fun hd => s_ii hX hd (by decide) rfl) ?_
  refine aI_c (fun hd => s_cS hX (nX4_within l) (wg_S up lmX4_79 loX4_within) rfl rfl rfl (by decide +kernel) ⟨by decide, by decide⟩ ⟨Nat.zero_le _, Nat.zero_le _⟩ hd rfl) ?_
  refine aI_c (fun hd => s_if_ne hX hd (by decide) rfl) ?_
  refine aI_c (fun hd => s_bp hX hd (by decide) rfl) ?_
  refine aI_c (fun hd => s_ri hX hr hlk hE hd) ?_
  refine aI_c (fun hd => s_il_n hX hd rfl rfl) ?_
  refine aI_c (fun hd => s_ii hX hd (by decide) rfl) ?_
  refine aI_c (fun hd => s_bp hX hd (by decide) rfl) ?_
  refine aI_c (fun hd => s_cS hX (nX4_within l) (wg_S up lmX4_79 loX4_within) rfl rfl rfl (by decide +kernel) ⟨by decide, by decide⟩ ⟨Nat.zero_le _, Nat.zero_le _⟩ hd rfl) ?_
  refine aI_c (fun hd => s_if_ne hX hd (by decide) rfl) ?_
  refine aI_c (fun hd => s_bp hX hd (by decide) rfl) ?_
  refine aI_c (fun hd => s_ri hX hr hlk hE hd) ?_
  refine aI_c (fun hd => s_al_n hX hd rfl rfl) ?_
  refine aI_c (fun hd => s_cV hX (T := TX4) (N := 9) (nX4_think l) rfl (wg_V up lmX4_169 loX4_think) rfl rfl rfl (by decide +kernel) ⟨by decide, by decide⟩ ⟨Nat.zero_le _, Nat.zero_le _⟩ hd rfl) ?_
  refine aI_c (fun hd => s_al_n hX hd rfl rfl) ?_
  refine aI_c (fun hd => s_gF hX (C := RX4) (T := TX4) (N := 9) (k := 7) rfl (fun w h => up w (inlX4 w h)) (by decide) rfl rfl rfl (up _ lkX4_28) hd rfl) ?_
  refine aI_c (fun hd => s_il_n hX hd rfl rfl) ?_
  refine aI_c (fun hd => s_aald3 hX hd rfl) ?_
  refine aI_c (fun hd => s_ii hX hd (by decide) rfl) ?_
  refine aI_c (fun hd => s_il_n hX hd rfl rfl) ?_
  refine aI_c (fun hd => s_cV hX (T := TX2) (N := 3) (nX2_renew l) rfl (wg_V up lmX4_201 loX2_renew) rfl rfl rfl (by decide +kernel) ⟨by decide, by decide⟩ ⟨Nat.zero_le _, Nat.zero_le _⟩ hd rfl) ?_
  refine aI_c (fun hd => s_ii hX hd (by decide) rfl) ?_
  refine aI_c (fun hd => s_is_n hX hd rfl rfl (by decide)) ?_
  refine aI_c (fun hd => s_il_n hX hd rfl rfl) ?_
  refine aI_c (fun hd => s_il_n hX hd rfl rfl) ?_
  refine aI_c (fun hd => s_ic_ge hX hd (by decide) rfl) ?_
  refine aI_c (fun hd => s_al_n hX hd rfl rfl) ?_
  refine aI_c (fun hd => s_gF hX (C := RX4) (T := TX4) (N := 9) (k := 7) rfl (fun w h => up w (inlX4 w h)) (by decide) rfl rfl rfl (up _ lkX4_28) hd rfl) ?_
  refine aI_c (fun hd => s_il_n hX hd rfl rfl) ?_
  refine aI_c (fun hd => s_aald3 hX hd rfl) ?_
  refine aI_c (fun hd => s_gF hX (C := RX2) (T := TX2) (N := 3) (k := 0) rfl (fun w h => up w (inlX2 w h)) (by decide) rfl rfl rfl (up _ lkX4_205) hd rfl) ?_
  refine aI_c (fun hd => s_il_n hX hd rfl rfl) ?_
  refine aI_c (fun hd => s_al_n hX hd rfl rfl) ?_
  refine aI_c (fun hd => s_gF hX (C := RX4) (T := TX4) (N := 9) (k := 1) rfl (fun w h => up w (inlX4 w h)) (by decide) rfl rfl rfl (up _ lkX4_48) hd rfl) ?_
  refine aI_c (fun hd => s_cV hX (T := TX0) (N := 15) (nX0_passDay l) rfl (wg_V up lmX4_163 loX0_passDay) rfl rfl rfl (by decide +kernel) ⟨by decide, by decide⟩ ⟨Nat.zero_le _, Nat.zero_le _⟩ hd rfl) ?_
  refine aI_c (fun hd => s_cS hX (nJ6_bitCount_0f7a4 l) (wg_S up lmX4_61 loJ6_bitCount_0f7a4) rfl rfl rfl (by decide +kernel) ⟨by decide, by decide⟩ ⟨Nat.zero_le _, Nat.zero_le _⟩ hd rfl) ?_
  refine aI_c (fun hd => s_iast hX hd rfl) ?_
  refine aI_c (fun hd => s_inc hX hd (by decide) rfl (by decide)) ?_
  refine aI_c (fun hd => s_go hX hd (by decide)) ?_
  refine aI_c (fun hd => s_il_n hX hd rfl rfl) ?_
  refine aI_c (fun hd => s_ri hX hr hlk hE hd) ?_
  exact trivial

-- JudgesByLoss.nextLot(J)J
def tX4_nextLot : aT := [
  (0, (.lload_n 0, 1), o_ll 0 1),
  (1, (.ldc2_w 251, 3), o_lc 48271 4),
  (4, (.lmul, 1), o_bl (fun x y => x * y) 5),
  (5, (.ldc2_w 253, 3), o_lc 2147483647 8),
  (8, (.lrem, 1), o_lrm 9),
  (9, (.lreturn, 1), o_rl)]
abbrev CX4_nextLot : aC := aCl tX4_nextLot 2
def rmX4_nextLot : Room := { frames := 1, cells := 0, slots := 0, locals := 1 }
set_option maxRecDepth 100000 in
theorem dX4_nextLot : tX4_nextLot.all (fun q => decide (decode cX4_nextLot q.1 = .ok q.2.1)) = true := by decide +kernel
set_option maxRecDepth 100000 in
set_option maxHeartbeats 4000000 in
theorem nX4_nextLot (l : Launch) : aMt l yX4_nextLot (Cond.code yX4_nextLot cX4_nextLot 2 (some .long) :: wsL_law) rmX4_nextLot CX4_nextLot := by
  refine aMt.of (own := RX4) (cc := cX4_nextLot) (maxL := 2) (ret := (some .long)) (by decide +kernel) rfl rfl ?_
  intro p e s m args below meth c Qc D Z ad P G A E hX hr hlk hE
  have up : ∀ w ∈ wsL_law, w ∈ (Cond.code yX4_nextLot cX4_nextLot 2 (some .long) :: wsL_law) := fun w h => List.mem_cons_of_mem _ h
  refine aImp_all _ dX4_nextLot ?_
  unfold tX4_nextLot
  refine aI_c (fun hd => s_ll_n hX hd rfl rfl) ?_
  refine aI_c (fun hd => s_ldc2 hX hd (up _ lcX4_251) rfl) ?_
  refine aI_c (fun hd => s_lmul hX hd rfl) ?_
  refine aI_c (fun hd => s_ldc2 hX hd (up _ lcX4_253) rfl) ?_
  refine aI_c (fun hd => s_lrem hX hd rfl) ?_
  refine aI_c (fun hd => s_rl hX hr hlk hE hd) ?_
  exact trivial

-- JudgesByLoss.heardAmongBurglars(I)I
def tX4_heardAmongBurglars : aT := [
  (0, (.aload_n 0, 1), o_al 0 1),
  (1, (.invokevirtual 169, 3), o_cV CX4_think 4 0 4),
  (4, (.iconst 0, 1), o_ii 0 5),
  (5, (.istore_n 2, 1), o_is 2 6),
  (6, (.iload_n 1, 1), o_il 1 7),
  (7, (.i2l, 1), o_tl (fun x => x.toInt64) 8),
  (8, (.lconst 1, 1), o_lc 1 9),
  (9, (.ladd, 1), o_bl (fun x y => x + y) 10),
  (10, (.lstore_n 3, 1), o_ls 3 11),
  (11, (.iconst 0, 1), o_ii 0 12),
  (12, (.istore 5, 2), o_is 5 14),
  (14, (.iload 5, 2), o_mk [false, true, false, false, true, false, true, true] (o_il 5 16)),
  (16, (.bipush 10, 2), o_ii 10 18),
  (18, (.if_icmp .ge 77, 3), o_ic (fun x y => y ≤ x) 95 21),
  (21, (.lload_n 3, 1), o_ll 3 22),
  (22, (.invokestatic 255, 3), o_cS CX4_nextLot 1 25),
  (25, (.lstore_n 3, 1), o_ls 3 26),
  (26, (.lload_n 3, 1), o_ll 3 27),
  (27, (.ldc2_w 259, 3), o_lc 6 30),
  (30, (.lrem, 1), o_lrm 31),
  (31, (.l2i, 1), o_ti (fun x => x.toInt32) 32),
  (32, (.istore 6, 2), o_is 6 34),
  (34, (.lload_n 3, 1), o_ll 3 35),
  (35, (.invokestatic 255, 3), o_cS CX4_nextLot 1 38),
  (38, (.lstore_n 3, 1), o_ls 3 39),
  (39, (.lload_n 3, 1), o_ll 3 40),
  (40, (.ldc2_w 261, 3), o_lc 10 43),
  (43, (.lrem, 1), o_lrm 44),
  (44, (.l2i, 1), o_ti (fun x => x.toInt32) 45),
  (45, (.istore 7, 2), o_is 7 47),
  (47, (.aload_n 0, 1), o_al 0 48),
  (48, (.getfield 48, 3), o_gF 4 11 51),
  (51, (.iload 6, 2), o_il 6 53),
  (53, (.invokevirtual 103, 3), o_cV CX0_hasJudge 0 1 56),
  (56, (.ifCond .eq 20, 3), o_if (fun x => x = 0) 76 59),
  (59, (.aload_n 0, 1), o_al 0 60),
  (60, (.getfield 48, 3), o_gF 4 11 63),
  (63, (.getfield 122, 3), o_gF 0 3 66),
  (66, (.iload 6, 2), o_il 6 68),
  (68, (.dup2, 1), o_dup2 69),
  (69, (.iaload, 1), o_iald 70),
  (70, (.iconst 1, 1), o_ii 1 71),
  (71, (.iload 7, 2), o_il 7 73),
  (73, (.ishl, 1), o_bi (fun x y => x <<< (y &&& 31)) 74),
  (74, (.ixor, 1), o_bi (fun x y => x ^^^ y) 75),
  (75, (.iastore, 1), o_iast 76),
  (76, (.iload_n 2, 1), o_il 2 77),
  (77, (.aload_n 0, 1), o_al 0 78),
  (78, (.getfield 48, 3), o_gF 4 11 81),
  (81, (.invokevirtual 163, 3), o_cV CX0_passDay 0 0 84),
  (84, (.invokestatic 61, 3), o_cS CJ6_bitCount_0f7a4 1 87),
  (87, (.iadd, 1), o_bi (fun x y => x + y) 88),
  (88, (.istore_n 2, 1), o_is 2 89),
  (89, (.iinc 5 1, 3), o_inc 5 1 92),
  (92, (.goto (-78), 3), o_go 14),
  (95, (.iload_n 2, 1), o_il 2 96),
  (96, (.ireturn, 1), o_ri)]
abbrev CX4_heardAmongBurglars : aC := aCl tX4_heardAmongBurglars 8
def rmX4_heardAmongBurglars : Room := { frames := 6, cells := 0, slots := 0, locals := 143 }
set_option maxRecDepth 100000 in
theorem dX4_heardAmongBurglars : tX4_heardAmongBurglars.all (fun q => decide (decode cX4_heardAmongBurglars q.1 = .ok q.2.1)) = true := by decide +kernel
set_option maxRecDepth 100000 in
set_option maxHeartbeats 4000000 in
theorem nX4_heardAmongBurglars (l : Launch) : aMt l yX4_heardAmongBurglars (Cond.code yX4_heardAmongBurglars cX4_heardAmongBurglars 8 (some .int) :: wsL_law) rmX4_heardAmongBurglars CX4_heardAmongBurglars := by
  refine aMt.of (own := RX4) (cc := cX4_heardAmongBurglars) (maxL := 8) (ret := (some .int)) (by decide +kernel) rfl rfl ?_
  intro p e s m args below meth c Qc D Z ad P G A E hX hr hlk hE
  have up : ∀ w ∈ wsL_law, w ∈ (Cond.code yX4_heardAmongBurglars cX4_heardAmongBurglars 8 (some .int) :: wsL_law) := fun w h => List.mem_cons_of_mem _ h
  refine aImp_all _ dX4_heardAmongBurglars ?_
  unfold tX4_heardAmongBurglars
  refine aI_c (fun hd => s_al_n hX hd rfl rfl) ?_
  refine aI_c (fun hd => s_cV hX (T := TX4) (N := 9) (nX4_think l) rfl (wg_V up lmX4_169 loX4_think) rfl rfl rfl (by decide +kernel) ⟨by decide, by decide⟩ ⟨Nat.zero_le _, Nat.zero_le _⟩ hd rfl) ?_
  refine aI_c (fun hd => s_ii hX hd (by decide) rfl) ?_
  refine aI_c (fun hd => s_is_n hX hd rfl rfl (by decide)) ?_
  refine aI_c (fun hd => s_il_n hX hd rfl rfl) ?_
  refine aI_c (fun hd => s_i2l hX hd rfl) ?_
  refine aI_c (fun hd => s_lc hX hd (by decide) rfl) ?_
  refine aI_c (fun hd => s_ladd hX hd rfl) ?_
  refine aI_c (fun hd => s_ls_n hX hd rfl rfl (by decide)) ?_
  refine aI_c (fun hd => s_ii hX hd (by decide) rfl) ?_
  refine aI_c (fun hd => s_is hX hd rfl (by decide)) ?_
  refine aI_c (fun hd => s_mk (s_il hX hd rfl)) ?_
  refine aI_c (fun hd => s_bp hX hd (by decide) rfl) ?_
  refine aI_c (fun hd => s_ic_ge hX hd (by decide) rfl) ?_
  refine aI_c (fun hd => s_ll_n hX hd rfl rfl) ?_
  refine aI_c (fun hd => s_cS hX (nX4_nextLot l) (wg_S up lmX4_255 loX4_nextLot) rfl rfl rfl (by decide +kernel) ⟨by decide, by decide⟩ ⟨Nat.zero_le _, Nat.zero_le _⟩ hd rfl) ?_
  refine aI_c (fun hd => s_ls_n hX hd rfl rfl (by decide)) ?_
  refine aI_c (fun hd => s_ll_n hX hd rfl rfl) ?_
  refine aI_c (fun hd => s_ldc2 hX hd (up _ lcX4_259) rfl) ?_
  refine aI_c (fun hd => s_lrem hX hd rfl) ?_
  refine aI_c (fun hd => s_l2i hX hd rfl) ?_
  refine aI_c (fun hd => s_is hX hd rfl (by decide)) ?_
  refine aI_c (fun hd => s_ll_n hX hd rfl rfl) ?_
  refine aI_c (fun hd => s_cS hX (nX4_nextLot l) (wg_S up lmX4_255 loX4_nextLot) rfl rfl rfl (by decide +kernel) ⟨by decide, by decide⟩ ⟨Nat.zero_le _, Nat.zero_le _⟩ hd rfl) ?_
  refine aI_c (fun hd => s_ls_n hX hd rfl rfl (by decide)) ?_
  refine aI_c (fun hd => s_ll_n hX hd rfl rfl) ?_
  refine aI_c (fun hd => s_ldc2 hX hd (up _ lcX4_261) rfl) ?_
  refine aI_c (fun hd => s_lrem hX hd rfl) ?_
  refine aI_c (fun hd => s_l2i hX hd rfl) ?_
  refine aI_c (fun hd => s_is hX hd rfl (by decide)) ?_
  refine aI_c (fun hd => s_al_n hX hd rfl rfl) ?_
  refine aI_c (fun hd => s_gF hX (C := RX4) (T := TX4) (N := 9) (k := 1) rfl (fun w h => up w (inlX4 w h)) (by decide) rfl rfl rfl (up _ lkX4_48) hd rfl) ?_
  refine aI_c (fun hd => s_il hX hd rfl) ?_
  refine aI_c (fun hd => s_cV hX (T := TX0) (N := 15) (nX0_hasJudge l) rfl (wg_V up lmX4_103 loX0_hasJudge) rfl rfl rfl (by decide +kernel) ⟨by decide, by decide⟩ ⟨Nat.zero_le _, Nat.zero_le _⟩ hd rfl) ?_
  refine aI_c (fun hd => s_if_eq hX hd (by decide) rfl) ?_
  refine aI_c (fun hd => s_al_n hX hd rfl rfl) ?_
  refine aI_c (fun hd => s_gF hX (C := RX4) (T := TX4) (N := 9) (k := 1) rfl (fun w h => up w (inlX4 w h)) (by decide) rfl rfl rfl (up _ lkX4_48) hd rfl) ?_
  refine aI_c (fun hd => s_gF hX (C := RX0) (T := TX0) (N := 15) (k := 2) rfl (fun w h => up w (inlX0 w h)) (by decide) rfl rfl rfl (up _ lkX4_122) hd rfl) ?_
  refine aI_c (fun hd => s_il hX hd rfl) ?_
  refine aI_c (fun hd => s_dup2 hX hd rfl) ?_
  refine aI_c (fun hd => s_iald hX hd rfl) ?_
  refine aI_c (fun hd => s_ii hX hd (by decide) rfl) ?_
  refine aI_c (fun hd => s_il hX hd rfl) ?_
  refine aI_c (fun hd => s_ishl hX hd rfl) ?_
  refine aI_c (fun hd => s_ixor hX hd rfl) ?_
  refine aI_c (fun hd => s_iast hX hd rfl) ?_
  refine aI_c (fun hd => s_il_n hX hd rfl rfl) ?_
  refine aI_c (fun hd => s_al_n hX hd rfl rfl) ?_
  refine aI_c (fun hd => s_gF hX (C := RX4) (T := TX4) (N := 9) (k := 1) rfl (fun w h => up w (inlX4 w h)) (by decide) rfl rfl rfl (up _ lkX4_48) hd rfl) ?_
  refine aI_c (fun hd => s_cV hX (T := TX0) (N := 15) (nX0_passDay l) rfl (wg_V up lmX4_163 loX0_passDay) rfl rfl rfl (by decide +kernel) ⟨by decide, by decide⟩ ⟨Nat.zero_le _, Nat.zero_le _⟩ hd rfl) ?_
  refine aI_c (fun hd => s_cS hX (nJ6_bitCount_0f7a4 l) (wg_S up lmX4_61 loJ6_bitCount_0f7a4) rfl rfl rfl (by decide +kernel) ⟨by decide, by decide⟩ ⟨Nat.zero_le _, Nat.zero_le _⟩ hd rfl) ?_
  refine aI_c (fun hd => s_iadd hX hd rfl) ?_
  refine aI_c (fun hd => s_is_n hX hd rfl rfl (by decide)) ?_
  refine aI_c (fun hd => s_inc hX hd (by decide) rfl (by decide)) ?_
  refine aI_c (fun hd => s_go hX hd (by decide)) ?_
  refine aI_c (fun hd => s_il_n hX hd rfl rfl) ?_
  refine aI_c (fun hd => s_ri hX hr hlk hE hd) ?_
  exact trivial

-- JudgesByLoss.drawn(II)I
def tX4_drawn : aT := [
  (0, (.iload_n 1, 1), o_il 1 1),
  (1, (.iconst 0, 1), o_ii 0 2),
  (2, (.ldc 208, 2), o_ii 99999 4),
  (4, (.invokestatic 79, 3), o_cS CX4_within 3 7),
  (7, (.ifCond .eq 12, 3), o_if (fun x => x = 0) 19 10),
  (10, (.iload_n 2, 1), o_il 2 11),
  (11, (.iconst 0, 1), o_ii 0 12),
  (12, (.iconst 1, 1), o_ii 1 13),
  (13, (.invokestatic 79, 3), o_cS CX4_within 3 16),
  (16, (.ifCond .ne 6, 3), o_if (fun x => ¬ x = 0) 22 19),
  (19, (.bipush (-2), 2), o_ii (-2) 21),
  (21, (.ireturn, 1), o_ri),
  (22, (.aload_n 0, 1), o_al 0 23),
  (23, (.iload_n 1, 1), o_il 1 24),
  (24, (.invokevirtual 209, 3), o_cV CX4_heardAmongBurglars 4 1 27),
  (27, (.istore_n 3, 1), o_is 3 28),
  (28, (.iload_n 2, 1), o_il 2 29),
  (29, (.ifCond .ne 7, 3), o_if (fun x => ¬ x = 0) 36 32),
  (32, (.iload_n 3, 1), o_il 3 33),
  (33, (.goto 10, 3), o_go 43),
  (36, (.aload_n 0, 1), o_al 0 37),
  (37, (.getfield 48, 3), o_gF 4 11 40),
  (40, (.getfield 58, 3), o_gI 0 10 43),
  (43, (.ireturn, 1), o_ri)]
abbrev CX4_drawn : aC := aCl tX4_drawn 4
def rmX4_drawn : Room := { frames := 7, cells := 0, slots := 0, locals := 170 }
set_option maxRecDepth 100000 in
theorem dX4_drawn : tX4_drawn.all (fun q => decide (decode cX4_drawn q.1 = .ok q.2.1)) = true := by decide +kernel
set_option maxRecDepth 100000 in
set_option maxHeartbeats 4000000 in
theorem nX4_drawn (l : Launch) : aMt l yX4_drawn (Cond.code yX4_drawn cX4_drawn 4 (some .int) :: wsL_law) rmX4_drawn CX4_drawn := by
  refine aMt.of (own := RX4) (cc := cX4_drawn) (maxL := 4) (ret := (some .int)) (by decide +kernel) rfl rfl ?_
  intro p e s m args below meth c Qc D Z ad P G A E hX hr hlk hE
  have up : ∀ w ∈ wsL_law, w ∈ (Cond.code yX4_drawn cX4_drawn 4 (some .int) :: wsL_law) := fun w h => List.mem_cons_of_mem _ h
  refine aImp_all _ dX4_drawn ?_
  unfold tX4_drawn
  refine aI_c (fun hd => s_il_n hX hd rfl rfl) ?_
  refine aI_c (fun hd => s_ii hX hd (by decide) rfl) ?_
  refine aI_c (fun hd => s_ldc hX hd (up _ lcX4_208) rfl) ?_
  refine aI_c (fun hd => s_cS hX (nX4_within l) (wg_S up lmX4_79 loX4_within) rfl rfl rfl (by decide +kernel) ⟨by decide, by decide⟩ ⟨Nat.zero_le _, Nat.zero_le _⟩ hd rfl) ?_
  refine aI_c (fun hd => s_if_eq hX hd (by decide) rfl) ?_
  refine aI_c (fun hd => s_il_n hX hd rfl rfl) ?_
  refine aI_c (fun hd => s_ii hX hd (by decide) rfl) ?_
  refine aI_c (fun hd => s_ii hX hd (by decide) rfl) ?_
  refine aI_c (fun hd => s_cS hX (nX4_within l) (wg_S up lmX4_79 loX4_within) rfl rfl rfl (by decide +kernel) ⟨by decide, by decide⟩ ⟨Nat.zero_le _, Nat.zero_le _⟩ hd rfl) ?_
  refine aI_c (fun hd => s_if_ne hX hd (by decide) rfl) ?_
  refine aI_c (fun hd => s_bp hX hd (by decide) rfl) ?_
  refine aI_c (fun hd => s_ri hX hr hlk hE hd) ?_
  refine aI_c (fun hd => s_al_n hX hd rfl rfl) ?_
  refine aI_c (fun hd => s_il_n hX hd rfl rfl) ?_
  refine aI_c (fun hd => s_cV hX (T := TX4) (N := 9) (nX4_heardAmongBurglars l) rfl (wg_V up lmX4_209 loX4_heardAmongBurglars) rfl rfl rfl (by decide +kernel) ⟨by decide, by decide⟩ ⟨Nat.zero_le _, Nat.zero_le _⟩ hd rfl) ?_
  refine aI_c (fun hd => s_is_n hX hd rfl rfl (by decide)) ?_
  refine aI_c (fun hd => s_il_n hX hd rfl rfl) ?_
  refine aI_c (fun hd => s_if_ne hX hd (by decide) rfl) ?_
  refine aI_c (fun hd => s_il_n hX hd rfl rfl) ?_
  refine aI_c (fun hd => s_go hX hd (by decide)) ?_
  refine aI_c (fun hd => s_al_n hX hd rfl rfl) ?_
  refine aI_c (fun hd => s_gF hX (C := RX4) (T := TX4) (N := 9) (k := 1) rfl (fun w h => up w (inlX4 w h)) (by decide) rfl rfl rfl (up _ lkX4_48) hd rfl) ?_
  refine aI_c (fun hd => s_gI hX (C := RX0) (T := TX0) (N := 15) (k := 10) rfl (fun w h => up w (inlX0 w h)) (by decide) rfl rfl rfl (up _ lkX4_58) hd rfl) ?_
  refine aI_c (fun hd => s_ri hX hr hlk hE hd) ?_
  exact trivial

-- JudgesByLoss.odds(IIII)J
def tX4_odds : aT := [
  (0, (.iload_n 1, 1), o_il 1 1),
  (1, (.iconst 0, 1), o_ii 0 2),
  (2, (.ldc 208, 2), o_ii 99999 4),
  (4, (.invokestatic 79, 3), o_cS CX4_within 3 7),
  (7, (.ifCond .eq 13, 3), o_if (fun x => x = 0) 20 10),
  (10, (.iload_n 2, 1), o_il 2 11),
  (11, (.iconst 1, 1), o_ii 1 12),
  (12, (.bipush 40, 2), o_ii 40 14),
  (14, (.invokestatic 79, 3), o_cS CX4_within 3 17),
  (17, (.ifCond .ne 7, 3), o_if (fun x => ¬ x = 0) 24 20),
  (20, (.ldc2_w 187, 3), o_lc (-4611686018427387904) 23),
  (23, (.lreturn, 1), o_rl),
  (24, (.iload_n 3, 1), o_il 3 25),
  (25, (.iconst 0, 1), o_ii 0 26),
  (26, (.bipush 8, 2), o_ii 8 28),
  (28, (.invokestatic 79, 3), o_cS CX4_within 3 31),
  (31, (.ifCond .eq 13, 3), o_if (fun x => x = 0) 44 34),
  (34, (.iload 4, 2), o_il 4 36),
  (36, (.iconst 0, 1), o_ii 0 37),
  (37, (.iconst 1, 1), o_ii 1 38),
  (38, (.invokestatic 79, 3), o_cS CX4_within 3 41),
  (41, (.ifCond .ne 7, 3), o_if (fun x => ¬ x = 0) 48 44),
  (44, (.ldc2_w 187, 3), o_lc (-4611686018427387904) 47),
  (47, (.lreturn, 1), o_rl),
  (48, (.iconst 0, 1), o_ii 0 49),
  (49, (.istore 5, 2), o_is 5 51),
  (51, (.iconst 0, 1), o_ii 0 52),
  (52, (.istore 6, 2), o_is 6 54),
  (54, (.iload 6, 2), o_il 6 56),
  (56, (.iload_n 2, 1), o_il 2 57),
  (57, (.if_icmp .ge 24, 3), o_ic (fun x y => y ≤ x) 81 60),
  (60, (.aload_n 0, 1), o_al 0 61),
  (61, (.iload_n 1, 1), o_il 1 62),
  (62, (.iload 6, 2), o_il 6 64),
  (64, (.iadd, 1), o_bi (fun x y => x + y) 65),
  (65, (.invokevirtual 209, 3), o_cV CX4_heardAmongBurglars 4 1 68),
  (68, (.iload_n 3, 1), o_il 3 69),
  (69, (.if_icmp .lt 6, 3), o_ic (fun x y => x < y) 75 72),
  (72, (.iinc 5 1, 3), o_inc 5 1 75),
  (75, (.iinc 6 1, 3), o_inc 6 1 78),
  (78, (.goto (-24), 3), o_go 54),
  (81, (.iload 5, 2), o_il 5 83),
  (83, (.iload_n 2, 1), o_il 2 84),
  (84, (.iload 4, 2), o_il 4 86),
  (86, (.invokestatic 189, 3), o_cS CX4_partOfFraction 3 89),
  (89, (.lreturn, 1), o_rl)]
abbrev CX4_odds : aC := aCl tX4_odds 7
def rmX4_odds : Room := { frames := 7, cells := 0, slots := 0, locals := 170 }
set_option maxRecDepth 100000 in
theorem dX4_odds : tX4_odds.all (fun q => decide (decode cX4_odds q.1 = .ok q.2.1)) = true := by decide +kernel
set_option maxRecDepth 100000 in
set_option maxHeartbeats 4000000 in
theorem nX4_odds (l : Launch) : aMt l yX4_odds (Cond.code yX4_odds cX4_odds 7 (some .long) :: wsL_law) rmX4_odds CX4_odds := by
  refine aMt.of (own := RX4) (cc := cX4_odds) (maxL := 7) (ret := (some .long)) (by decide +kernel) rfl rfl ?_
  intro p e s m args below meth c Qc D Z ad P G A E hX hr hlk hE
  have up : ∀ w ∈ wsL_law, w ∈ (Cond.code yX4_odds cX4_odds 7 (some .long) :: wsL_law) := fun w h => List.mem_cons_of_mem _ h
  refine aImp_all _ dX4_odds ?_
  unfold tX4_odds
  refine aI_c (fun hd => s_il_n hX hd rfl rfl) ?_
  refine aI_c (fun hd => s_ii hX hd (by decide) rfl) ?_
  refine aI_c (fun hd => s_ldc hX hd (up _ lcX4_208) rfl) ?_
  refine aI_c (fun hd => s_cS hX (nX4_within l) (wg_S up lmX4_79 loX4_within) rfl rfl rfl (by decide +kernel) ⟨by decide, by decide⟩ ⟨Nat.zero_le _, Nat.zero_le _⟩ hd rfl) ?_
  refine aI_c (fun hd => s_if_eq hX hd (by decide) rfl) ?_
  refine aI_c (fun hd => s_il_n hX hd rfl rfl) ?_
  refine aI_c (fun hd => s_ii hX hd (by decide) rfl) ?_
  refine aI_c (fun hd => s_bp hX hd (by decide) rfl) ?_
  refine aI_c (fun hd => s_cS hX (nX4_within l) (wg_S up lmX4_79 loX4_within) rfl rfl rfl (by decide +kernel) ⟨by decide, by decide⟩ ⟨Nat.zero_le _, Nat.zero_le _⟩ hd rfl) ?_
  refine aI_c (fun hd => s_if_ne hX hd (by decide) rfl) ?_
  refine aI_c (fun hd => s_ldc2 hX hd (up _ lcX4_187) rfl) ?_
  refine aI_c (fun hd => s_rl hX hr hlk hE hd) ?_
  refine aI_c (fun hd => s_il_n hX hd rfl rfl) ?_
  refine aI_c (fun hd => s_ii hX hd (by decide) rfl) ?_
  refine aI_c (fun hd => s_bp hX hd (by decide) rfl) ?_
  refine aI_c (fun hd => s_cS hX (nX4_within l) (wg_S up lmX4_79 loX4_within) rfl rfl rfl (by decide +kernel) ⟨by decide, by decide⟩ ⟨Nat.zero_le _, Nat.zero_le _⟩ hd rfl) ?_
  refine aI_c (fun hd => s_if_eq hX hd (by decide) rfl) ?_
  refine aI_c (fun hd => s_il hX hd rfl) ?_
  refine aI_c (fun hd => s_ii hX hd (by decide) rfl) ?_
  refine aI_c (fun hd => s_ii hX hd (by decide) rfl) ?_
  refine aI_c (fun hd => s_cS hX (nX4_within l) (wg_S up lmX4_79 loX4_within) rfl rfl rfl (by decide +kernel) ⟨by decide, by decide⟩ ⟨Nat.zero_le _, Nat.zero_le _⟩ hd rfl) ?_
  refine aI_c (fun hd => s_if_ne hX hd (by decide) rfl) ?_
  refine aI_c (fun hd => s_ldc2 hX hd (up _ lcX4_187) rfl) ?_
  refine aI_c (fun hd => s_rl hX hr hlk hE hd) ?_
  refine aI_c (fun hd => s_ii hX hd (by decide) rfl) ?_
  refine aI_c (fun hd => s_is hX hd rfl (by decide)) ?_
  refine aI_c (fun hd => s_ii hX hd (by decide) rfl) ?_
  refine aI_c (fun hd => s_is hX hd rfl (by decide)) ?_
  refine aI_c (fun hd => s_il hX hd rfl) ?_
  refine aI_c (fun hd => s_il_n hX hd rfl rfl) ?_
  refine aI_c (fun hd => s_ic_ge hX hd (by decide) rfl) ?_
  refine aI_c (fun hd => s_al_n hX hd rfl rfl) ?_
  refine aI_c (fun hd => s_il_n hX hd rfl rfl) ?_
  refine aI_c (fun hd => s_il hX hd rfl) ?_
  refine aI_c (fun hd => s_iadd hX hd rfl) ?_
  refine aI_c (fun hd => s_cV hX (T := TX4) (N := 9) (nX4_heardAmongBurglars l) rfl (wg_V up lmX4_209 loX4_heardAmongBurglars) rfl rfl rfl (by decide +kernel) ⟨by decide, by decide⟩ ⟨Nat.zero_le _, Nat.zero_le _⟩ hd rfl) ?_
  refine aI_c (fun hd => s_il_n hX hd rfl rfl) ?_
  refine aI_c (fun hd => s_ic_lt hX hd (by decide) rfl) ?_
  refine aI_c (fun hd => s_inc hX hd (by decide) rfl (by decide)) ?_
  refine aI_c (fun hd => s_inc hX hd (by decide) rfl (by decide)) ?_
  refine aI_c (fun hd => s_go hX hd (by decide)) ?_
  refine aI_c (fun hd => s_il hX hd rfl) ?_
  refine aI_c (fun hd => s_il_n hX hd rfl rfl) ?_
  refine aI_c (fun hd => s_il hX hd rfl) ?_
  refine aI_c (fun hd => s_cS hX (nX4_partOfFraction l) (wg_S up lmX4_189 loX4_partOfFraction) rfl rfl rfl (by decide +kernel) ⟨by decide, by decide⟩ ⟨Nat.zero_le _, Nat.zero_le _⟩ hd rfl) ?_
  refine aI_c (fun hd => s_rl hX hr hlk hE hd) ?_
  exact trivial

-- JudgesByLoss.image()I
def tX4_image : aT := [
  (0, (.aload_n 0, 1), o_al 0 1),
  (1, (.getfield 51, 3), o_gF 4 21 4),
  (4, (.aload_n 0, 1), o_al 0 5),
  (5, (.getfield 44, 3), o_gF 4 1 8),
  (8, (.invokevirtual 212, 3), o_cV CX0_become 0 1 11),
  (11, (.aload_n 0, 1), o_al 0 12),
  (12, (.iconst 1, 1), o_ii 1 13),
  (13, (.putfield 216, 3), o_pZ 4 3 16),
  (16, (.aload_n 0, 1), o_al 0 17),
  (17, (.getfield 44, 3), o_gF 4 1 20),
  (20, (.getfield 55, 3), o_gI 0 9 23),
  (23, (.ireturn, 1), o_ri)]
abbrev CX4_image : aC := aCl tX4_image 1
def rmX4_image : Room := { frames := 2, cells := 0, slots := 0, locals := 81 }
set_option maxRecDepth 100000 in
theorem dX4_image : tX4_image.all (fun q => decide (decode cX4_image q.1 = .ok q.2.1)) = true := by decide +kernel
set_option maxRecDepth 100000 in
set_option maxHeartbeats 4000000 in
theorem nX4_image (l : Launch) : aMt l yX4_image (Cond.code yX4_image cX4_image 1 (some .int) :: wsL_law) rmX4_image CX4_image := by
  refine aMt.of (own := RX4) (cc := cX4_image) (maxL := 1) (ret := (some .int)) (by decide +kernel) rfl rfl ?_
  intro p e s m args below meth c Qc D Z ad P G A E hX hr hlk hE
  have up : ∀ w ∈ wsL_law, w ∈ (Cond.code yX4_image cX4_image 1 (some .int) :: wsL_law) := fun w h => List.mem_cons_of_mem _ h
  refine aImp_all _ dX4_image ?_
  unfold tX4_image
  refine aI_c (fun hd => s_al_n hX hd rfl rfl) ?_
  refine aI_c (fun hd => s_gF hX (C := RX4) (T := TX4) (N := 9) (k := 2) rfl (fun w h => up w (inlX4 w h)) (by decide) rfl rfl rfl (up _ lkX4_51) hd rfl) ?_
  refine aI_c (fun hd => s_al_n hX hd rfl rfl) ?_
  refine aI_c (fun hd => s_gF hX (C := RX4) (T := TX4) (N := 9) (k := 0) rfl (fun w h => up w (inlX4 w h)) (by decide) rfl rfl rfl (up _ lkX4_44) hd rfl) ?_
  refine aI_c (fun hd => s_cV hX (T := TX0) (N := 15) (nX0_become l) rfl (wg_V up lmX4_212 loX0_become) rfl rfl rfl (by decide +kernel) ⟨by decide, by decide⟩ ⟨Nat.zero_le _, Nat.zero_le _⟩ hd rfl) ?_
  refine aI_c (fun hd => s_al_n hX hd rfl rfl) ?_
  refine aI_c (fun hd => s_ii hX hd (by decide) rfl) ?_
  refine aI_c (fun hd => s_pZ hX (C := RX4) (T := TX4) (N := 9) (k := 3) rfl (fun w h => up w (inlX4 w h)) (by decide) rfl rfl tyX4 tyX4_ok nmX4 rfl rfl rfl (up _ lkX4_216) hd rfl) ?_
  refine aI_c (fun hd => s_al_n hX hd rfl rfl) ?_
  refine aI_c (fun hd => s_gF hX (C := RX4) (T := TX4) (N := 9) (k := 0) rfl (fun w h => up w (inlX4 w h)) (by decide) rfl rfl rfl (up _ lkX4_44) hd rfl) ?_
  refine aI_c (fun hd => s_gI hX (C := RX0) (T := TX0) (N := 15) (k := 9) rfl (fun w h => up w (inlX0 w h)) (by decide) rfl rfl rfl (up _ lkX4_55) hd rfl) ?_
  refine aI_c (fun hd => s_ri hX hr hlk hE hd) ?_
  exact trivial

-- JudgesByLoss.back()I
def tX4_back : aT := [
  (0, (.aload_n 0, 1), o_al 0 1),
  (1, (.getfield 216, 3), o_gI 4 3 4),
  (4, (.ifCond .ne 6, 3), o_if (fun x => ¬ x = 0) 10 7),
  (7, (.bipush (-3), 2), o_ii (-3) 9),
  (9, (.ireturn, 1), o_ri),
  (10, (.aload_n 0, 1), o_al 0 11),
  (11, (.getfield 44, 3), o_gF 4 1 14),
  (14, (.aload_n 0, 1), o_al 0 15),
  (15, (.getfield 51, 3), o_gF 4 21 18),
  (18, (.invokevirtual 212, 3), o_cV CX0_become 0 1 21),
  (21, (.aload_n 0, 1), o_al 0 22),
  (22, (.getfield 44, 3), o_gF 4 1 25),
  (25, (.getfield 55, 3), o_gI 0 9 28),
  (28, (.ireturn, 1), o_ri)]
abbrev CX4_back : aC := aCl tX4_back 1
def rmX4_back : Room := { frames := 2, cells := 0, slots := 0, locals := 81 }
set_option maxRecDepth 100000 in
theorem dX4_back : tX4_back.all (fun q => decide (decode cX4_back q.1 = .ok q.2.1)) = true := by decide +kernel
set_option maxRecDepth 100000 in
set_option maxHeartbeats 4000000 in
theorem nX4_back (l : Launch) : aMt l yX4_back (Cond.code yX4_back cX4_back 1 (some .int) :: wsL_law) rmX4_back CX4_back := by
  refine aMt.of (own := RX4) (cc := cX4_back) (maxL := 1) (ret := (some .int)) (by decide +kernel) rfl rfl ?_
  intro p e s m args below meth c Qc D Z ad P G A E hX hr hlk hE
  have up : ∀ w ∈ wsL_law, w ∈ (Cond.code yX4_back cX4_back 1 (some .int) :: wsL_law) := fun w h => List.mem_cons_of_mem _ h
  refine aImp_all _ dX4_back ?_
  unfold tX4_back
  refine aI_c (fun hd => s_al_n hX hd rfl rfl) ?_
  refine aI_c (fun hd => s_gI hX (C := RX4) (T := TX4) (N := 9) (k := 3) rfl (fun w h => up w (inlX4 w h)) (by decide) rfl rfl rfl (up _ lkX4_216) hd rfl) ?_
  refine aI_c (fun hd => s_if_ne hX hd (by decide) rfl) ?_
  refine aI_c (fun hd => s_bp hX hd (by decide) rfl) ?_
  refine aI_c (fun hd => s_ri hX hr hlk hE hd) ?_
  refine aI_c (fun hd => s_al_n hX hd rfl rfl) ?_
  refine aI_c (fun hd => s_gF hX (C := RX4) (T := TX4) (N := 9) (k := 0) rfl (fun w h => up w (inlX4 w h)) (by decide) rfl rfl rfl (up _ lkX4_44) hd rfl) ?_
  refine aI_c (fun hd => s_al_n hX hd rfl rfl) ?_
  refine aI_c (fun hd => s_gF hX (C := RX4) (T := TX4) (N := 9) (k := 2) rfl (fun w h => up w (inlX4 w h)) (by decide) rfl rfl rfl (up _ lkX4_51) hd rfl) ?_
  refine aI_c (fun hd => s_cV hX (T := TX0) (N := 15) (nX0_become l) rfl (wg_V up lmX4_212 loX0_become) rfl rfl rfl (by decide +kernel) ⟨by decide, by decide⟩ ⟨Nat.zero_le _, Nat.zero_le _⟩ hd rfl) ?_
  refine aI_c (fun hd => s_al_n hX hd rfl rfl) ?_
  refine aI_c (fun hd => s_gF hX (C := RX4) (T := TX4) (N := 9) (k := 0) rfl (fun w h => up w (inlX4 w h)) (by decide) rfl rfl rfl (up _ lkX4_44) hd rfl) ?_
  refine aI_c (fun hd => s_gI hX (C := RX0) (T := TX0) (N := 15) (k := 9) rfl (fun w h => up w (inlX0 w h)) (by decide) rfl rfl rfl (up _ lkX4_55) hd rfl) ?_
  refine aI_c (fun hd => s_ri hX hr hlk hE hd) ?_
  exact trivial

-- JudgesByLoss.sheet(III)I
def tX4_sheet : aT := [
  (0, (.iload_n 1, 1), o_il 1 1),
  (1, (.iconst 0, 1), o_ii 0 2),
  (2, (.iconst 3, 1), o_ii 3 3),
  (3, (.invokestatic 79, 3), o_cS CX4_within 3 6),
  (6, (.ifCond .eq 12, 3), o_if (fun x => x = 0) 18 9),
  (9, (.iload_n 2, 1), o_il 2 10),
  (10, (.iconst (-1), 1), o_ii (-1) 11),
  (11, (.iconst 2, 1), o_ii 2 12),
  (12, (.invokestatic 79, 3), o_cS CX4_within 3 15),
  (15, (.ifCond .ne 6, 3), o_if (fun x => ¬ x = 0) 21 18),
  (18, (.bipush (-2), 2), o_ii (-2) 20),
  (20, (.ireturn, 1), o_ri),
  (21, (.iload_n 2, 1), o_il 2 22),
  (22, (.iconst (-1), 1), o_ii (-1) 23),
  (23, (.if_icmp .ne 16, 3), o_ic (fun x y => ¬ x = y) 39 26),
  (26, (.aload_n 0, 1), o_al 0 27),
  (27, (.getfield 28, 3), o_gF 4 38 30),
  (30, (.iload_n 1, 1), o_il 1 31),
  (31, (.aaload, 1), o_aald 3 32),
  (32, (.iload_n 2, 1), o_il 2 33),
  (33, (.iconst 0, 1), o_ii 0 34),
  (34, (.invokevirtual 201, 3), o_cV CX2_renew 2 2 37),
  (37, (.iconst 1, 1), o_ii 1 38),
  (38, (.ireturn, 1), o_ri),
  (39, (.iload_n 3, 1), o_il 3 40),
  (40, (.bipush 40, 2), o_ii 40 42),
  (42, (.if_icmp .le 6, 3), o_ic (fun x y => x ≤ y) 48 45),
  (45, (.bipush (-2), 2), o_ii (-2) 47),
  (47, (.ireturn, 1), o_ri),
  (48, (.iload_n 3, 1), o_il 3 49),
  (49, (.ifCond .ge 6, 3), o_if (fun x => 0 ≤ x) 55 52),
  (52, (.bipush (-14), 2), o_ii (-14) 54),
  (54, (.ireturn, 1), o_ri),
  (55, (.aload_n 0, 1), o_al 0 56),
  (56, (.getfield 28, 3), o_gF 4 38 59),
  (59, (.iload_n 1, 1), o_il 1 60),
  (60, (.aaload, 1), o_aald 3 61),
  (61, (.iload_n 2, 1), o_il 2 62),
  (62, (.iload_n 3, 1), o_il 3 63),
  (63, (.invokevirtual 201, 3), o_cV CX2_renew 2 2 66),
  (66, (.iconst 1, 1), o_ii 1 67),
  (67, (.ireturn, 1), o_ri)]
abbrev CX4_sheet : aC := aCl tX4_sheet 4
def rmX4_sheet : Room := { frames := 2, cells := 0, slots := 0, locals := 44 }
set_option maxRecDepth 100000 in
theorem dX4_sheet : tX4_sheet.all (fun q => decide (decode cX4_sheet q.1 = .ok q.2.1)) = true := by decide +kernel
set_option maxRecDepth 100000 in
set_option maxHeartbeats 4000000 in
theorem nX4_sheet (l : Launch) : aMt l yX4_sheet (Cond.code yX4_sheet cX4_sheet 4 (some .int) :: wsL_law) rmX4_sheet CX4_sheet := by
  refine aMt.of (own := RX4) (cc := cX4_sheet) (maxL := 4) (ret := (some .int)) (by decide +kernel) rfl rfl ?_
  intro p e s m args below meth c Qc D Z ad P G A E hX hr hlk hE
  have up : ∀ w ∈ wsL_law, w ∈ (Cond.code yX4_sheet cX4_sheet 4 (some .int) :: wsL_law) := fun w h => List.mem_cons_of_mem _ h
  refine aImp_all _ dX4_sheet ?_
  unfold tX4_sheet
  refine aI_c (fun hd => s_il_n hX hd rfl rfl) ?_
  refine aI_c (fun hd => s_ii hX hd (by decide) rfl) ?_
  refine aI_c (fun hd => s_ii hX hd (by decide) rfl) ?_
  refine aI_c (fun hd => s_cS hX (nX4_within l) (wg_S up lmX4_79 loX4_within) rfl rfl rfl (by decide +kernel) ⟨by decide, by decide⟩ ⟨Nat.zero_le _, Nat.zero_le _⟩ hd rfl) ?_
  refine aI_c (fun hd => s_if_eq hX hd (by decide) rfl) ?_
  refine aI_c (fun hd => s_il_n hX hd rfl rfl) ?_
  refine aI_c (fun hd => s_ii hX hd (by decide) rfl) ?_
  refine aI_c (fun hd => s_ii hX hd (by decide) rfl) ?_
  refine aI_c (fun hd => s_cS hX (nX4_within l) (wg_S up lmX4_79 loX4_within) rfl rfl rfl (by decide +kernel) ⟨by decide, by decide⟩ ⟨Nat.zero_le _, Nat.zero_le _⟩ hd rfl) ?_
  refine aI_c (fun hd => s_if_ne hX hd (by decide) rfl) ?_
  refine aI_c (fun hd => s_bp hX hd (by decide) rfl) ?_
  refine aI_c (fun hd => s_ri hX hr hlk hE hd) ?_
  refine aI_c (fun hd => s_il_n hX hd rfl rfl) ?_
  refine aI_c (fun hd => s_ii hX hd (by decide) rfl) ?_
  refine aI_c (fun hd => s_ic_ne hX hd (by decide) rfl) ?_
  refine aI_c (fun hd => s_al_n hX hd rfl rfl) ?_
  refine aI_c (fun hd => s_gF hX (C := RX4) (T := TX4) (N := 9) (k := 7) rfl (fun w h => up w (inlX4 w h)) (by decide) rfl rfl rfl (up _ lkX4_28) hd rfl) ?_
  refine aI_c (fun hd => s_il_n hX hd rfl rfl) ?_
  refine aI_c (fun hd => s_aald3 hX hd rfl) ?_
  refine aI_c (fun hd => s_il_n hX hd rfl rfl) ?_
  refine aI_c (fun hd => s_ii hX hd (by decide) rfl) ?_
  refine aI_c (fun hd => s_cV hX (T := TX2) (N := 3) (nX2_renew l) rfl (wg_V up lmX4_201 loX2_renew) rfl rfl rfl (by decide +kernel) ⟨by decide, by decide⟩ ⟨Nat.zero_le _, Nat.zero_le _⟩ hd rfl) ?_
  refine aI_c (fun hd => s_ii hX hd (by decide) rfl) ?_
  refine aI_c (fun hd => s_ri hX hr hlk hE hd) ?_
  refine aI_c (fun hd => s_il_n hX hd rfl rfl) ?_
  refine aI_c (fun hd => s_bp hX hd (by decide) rfl) ?_
  refine aI_c (fun hd => s_ic_le hX hd (by decide) rfl) ?_
  refine aI_c (fun hd => s_bp hX hd (by decide) rfl) ?_
  refine aI_c (fun hd => s_ri hX hr hlk hE hd) ?_
  refine aI_c (fun hd => s_il_n hX hd rfl rfl) ?_
  refine aI_c (fun hd => s_if_ge hX hd (by decide) rfl) ?_
  refine aI_c (fun hd => s_bp hX hd (by decide) rfl) ?_
  refine aI_c (fun hd => s_ri hX hr hlk hE hd) ?_
  refine aI_c (fun hd => s_al_n hX hd rfl rfl) ?_
  refine aI_c (fun hd => s_gF hX (C := RX4) (T := TX4) (N := 9) (k := 7) rfl (fun w h => up w (inlX4 w h)) (by decide) rfl rfl rfl (up _ lkX4_28) hd rfl) ?_
  refine aI_c (fun hd => s_il_n hX hd rfl rfl) ?_
  refine aI_c (fun hd => s_aald3 hX hd rfl) ?_
  refine aI_c (fun hd => s_il_n hX hd rfl rfl) ?_
  refine aI_c (fun hd => s_il_n hX hd rfl rfl) ?_
  refine aI_c (fun hd => s_cV hX (T := TX2) (N := 3) (nX2_renew l) rfl (wg_V up lmX4_201 loX2_renew) rfl rfl rfl (by decide +kernel) ⟨by decide, by decide⟩ ⟨Nat.zero_le _, Nat.zero_le _⟩ hd rfl) ?_
  refine aI_c (fun hd => s_ii hX hd (by decide) rfl) ?_
  refine aI_c (fun hd => s_ri hX hr hlk hE hd) ?_
  exact trivial

-- JudgesByLoss.cell(III)I
def tX4_cell : aT := [
  (0, (.iload_n 1, 1), o_il 1 1),
  (1, (.iconst 0, 1), o_ii 0 2),
  (2, (.iconst 3, 1), o_ii 3 3),
  (3, (.invokestatic 79, 3), o_cS CX4_within 3 6),
  (6, (.ifCond .ne 6, 3), o_if (fun x => ¬ x = 0) 12 9),
  (9, (.bipush (-2), 2), o_ii (-2) 11),
  (11, (.ireturn, 1), o_ri),
  (12, (.aload_n 0, 1), o_al 0 13),
  (13, (.getfield 28, 3), o_gF 4 38 16),
  (16, (.iload_n 1, 1), o_il 1 17),
  (17, (.aaload, 1), o_aald 3 18),
  (18, (.astore 4, 2), o_as 4 20),
  (20, (.aload 4, 2), o_al 4 22),
  (22, (.invokevirtual 220, 3), o_cV CX2_isMissing 2 0 25),
  (25, (.ifCond .eq 6, 3), o_if (fun x => x = 0) 31 28),
  (28, (.bipush (-11), 2), o_ii (-11) 30),
  (30, (.ireturn, 1), o_ri),
  (31, (.iload_n 2, 1), o_il 2 32),
  (32, (.iconst 0, 1), o_ii 0 33),
  (33, (.aload 4, 2), o_al 4 35),
  (35, (.getfield 224, 3), o_gI 2 2 38),
  (38, (.iconst 1, 1), o_ii 1 39),
  (39, (.isub, 1), o_bi (fun x y => x - y) 40),
  (40, (.invokestatic 79, 3), o_cS CX4_within 3 43),
  (43, (.ifCond .ne 6, 3), o_if (fun x => ¬ x = 0) 49 46),
  (46, (.bipush (-12), 2), o_ii (-12) 48),
  (48, (.ireturn, 1), o_ri),
  (49, (.aload 4, 2), o_al 4 51),
  (51, (.getfield 205, 3), o_gF 2 1 54),
  (54, (.iload_n 2, 1), o_il 2 55),
  (55, (.aload 4, 2), o_al 4 57),
  (57, (.iload_n 3, 1), o_il 3 58),
  (58, (.invokevirtual 227, 3), o_cV CX2_cut 2 1 61),
  (61, (.iastore, 1), o_iast 62),
  (62, (.iconst 1, 1), o_ii 1 63),
  (63, (.ireturn, 1), o_ri)]
abbrev CX4_cell : aC := aCl tX4_cell 5
def rmX4_cell : Room := { frames := 2, cells := 0, slots := 0, locals := 23 }
set_option maxRecDepth 100000 in
theorem dX4_cell : tX4_cell.all (fun q => decide (decode cX4_cell q.1 = .ok q.2.1)) = true := by decide +kernel
set_option maxRecDepth 100000 in
set_option maxHeartbeats 4000000 in
theorem nX4_cell (l : Launch) : aMt l yX4_cell (Cond.code yX4_cell cX4_cell 5 (some .int) :: wsL_law) rmX4_cell CX4_cell := by
  refine aMt.of (own := RX4) (cc := cX4_cell) (maxL := 5) (ret := (some .int)) (by decide +kernel) rfl rfl ?_
  intro p e s m args below meth c Qc D Z ad P G A E hX hr hlk hE
  have up : ∀ w ∈ wsL_law, w ∈ (Cond.code yX4_cell cX4_cell 5 (some .int) :: wsL_law) := fun w h => List.mem_cons_of_mem _ h
  refine aImp_all _ dX4_cell ?_
  unfold tX4_cell
  refine aI_c (fun hd => s_il_n hX hd rfl rfl) ?_
  refine aI_c (fun hd => s_ii hX hd (by decide) rfl) ?_
  refine aI_c (fun hd => s_ii hX hd (by decide) rfl) ?_
  refine aI_c (fun hd => s_cS hX (nX4_within l) (wg_S up lmX4_79 loX4_within) rfl rfl rfl (by decide +kernel) ⟨by decide, by decide⟩ ⟨Nat.zero_le _, Nat.zero_le _⟩ hd rfl) ?_
  refine aI_c (fun hd => s_if_ne hX hd (by decide) rfl) ?_
  refine aI_c (fun hd => s_bp hX hd (by decide) rfl) ?_
  refine aI_c (fun hd => s_ri hX hr hlk hE hd) ?_
  refine aI_c (fun hd => s_al_n hX hd rfl rfl) ?_
  refine aI_c (fun hd => s_gF hX (C := RX4) (T := TX4) (N := 9) (k := 7) rfl (fun w h => up w (inlX4 w h)) (by decide) rfl rfl rfl (up _ lkX4_28) hd rfl) ?_
  refine aI_c (fun hd => s_il_n hX hd rfl rfl) ?_
  refine aI_c (fun hd => s_aald3 hX hd rfl) ?_
  refine aI_c (fun hd => s_as hX hd rfl (by decide)) ?_
  refine aI_c (fun hd => s_al hX hd rfl) ?_
  refine aI_c (fun hd => s_cV hX (T := TX2) (N := 3) (nX2_isMissing l) rfl (wg_V up lmX4_220 loX2_isMissing) rfl rfl rfl (by decide +kernel) ⟨by decide, by decide⟩ ⟨Nat.zero_le _, Nat.zero_le _⟩ hd rfl) ?_
  refine aI_c (fun hd => s_if_eq hX hd (by decide) rfl) ?_
  refine aI_c (fun hd => s_bp hX hd (by decide) rfl) ?_
  refine aI_c (fun hd => s_ri hX hr hlk hE hd) ?_
  refine aI_c (fun hd => s_il_n hX hd rfl rfl) ?_
  refine aI_c (fun hd => s_ii hX hd (by decide) rfl) ?_
  refine aI_c (fun hd => s_al hX hd rfl) ?_
  refine aI_c (fun hd => s_gI hX (C := RX2) (T := TX2) (N := 3) (k := 2) rfl (fun w h => up w (inlX2 w h)) (by decide) rfl rfl rfl (up _ lkX4_224) hd rfl) ?_
  refine aI_c (fun hd => s_ii hX hd (by decide) rfl) ?_
  refine aI_c (fun hd => s_isub hX hd rfl) ?_
  refine aI_c (fun hd => s_cS hX (nX4_within l) (wg_S up lmX4_79 loX4_within) rfl rfl rfl (by decide +kernel) ⟨by decide, by decide⟩ ⟨Nat.zero_le _, Nat.zero_le _⟩ hd rfl) ?_
  refine aI_c (fun hd => s_if_ne hX hd (by decide) rfl) ?_
  refine aI_c (fun hd => s_bp hX hd (by decide) rfl) ?_
  refine aI_c (fun hd => s_ri hX hr hlk hE hd) ?_
  refine aI_c (fun hd => s_al hX hd rfl) ?_
  refine aI_c (fun hd => s_gF hX (C := RX2) (T := TX2) (N := 3) (k := 0) rfl (fun w h => up w (inlX2 w h)) (by decide) rfl rfl rfl (up _ lkX4_205) hd rfl) ?_
  refine aI_c (fun hd => s_il_n hX hd rfl rfl) ?_
  refine aI_c (fun hd => s_al hX hd rfl) ?_
  refine aI_c (fun hd => s_il_n hX hd rfl rfl) ?_
  refine aI_c (fun hd => s_cV hX (T := TX2) (N := 3) (nX2_cut l) rfl (wg_V up lmX4_227 loX2_cut) rfl rfl rfl (by decide +kernel) ⟨by decide, by decide⟩ ⟨Nat.zero_le _, Nat.zero_le _⟩ hd rfl) ?_
  refine aI_c (fun hd => s_iast hX hd rfl) ?_
  refine aI_c (fun hd => s_ii hX hd (by decide) rfl) ?_
  refine aI_c (fun hd => s_ri hX hr hlk hE hd) ?_
  exact trivial

-- JudgesByLoss.copy(IIIII)I
def tX4_copy : aT := [
  (0, (.iload_n 1, 1), o_il 1 1),
  (1, (.iconst 0, 1), o_ii 0 2),
  (2, (.iconst 3, 1), o_ii 3 3),
  (3, (.invokestatic 79, 3), o_cS CX4_within 3 6),
  (6, (.ifCond .eq 12, 3), o_if (fun x => x = 0) 18 9),
  (9, (.iload_n 3, 1), o_il 3 10),
  (10, (.iconst 0, 1), o_ii 0 11),
  (11, (.iconst 3, 1), o_ii 3 12),
  (12, (.invokestatic 79, 3), o_cS CX4_within 3 15),
  (15, (.ifCond .ne 6, 3), o_if (fun x => ¬ x = 0) 21 18),
  (18, (.bipush (-2), 2), o_ii (-2) 20),
  (20, (.ireturn, 1), o_ri),
  (21, (.aload_n 0, 1), o_al 0 22),
  (22, (.getfield 28, 3), o_gF 4 38 25),
  (25, (.iload_n 1, 1), o_il 1 26),
  (26, (.aaload, 1), o_aald 3 27),
  (27, (.astore 6, 2), o_as 6 29),
  (29, (.aload_n 0, 1), o_al 0 30),
  (30, (.getfield 28, 3), o_gF 4 38 33),
  (33, (.iload_n 3, 1), o_il 3 34),
  (34, (.aaload, 1), o_aald 3 35),
  (35, (.astore 7, 2), o_as 7 37),
  (37, (.aload 6, 2), o_al 6 39),
  (39, (.invokevirtual 220, 3), o_cV CX2_isMissing 2 0 42),
  (42, (.ifCond .ne 11, 3), o_if (fun x => ¬ x = 0) 53 45),
  (45, (.aload 7, 2), o_al 7 47),
  (47, (.invokevirtual 220, 3), o_cV CX2_isMissing 2 0 50),
  (50, (.ifCond .eq 6, 3), o_if (fun x => x = 0) 56 53),
  (53, (.bipush (-11), 2), o_ii (-11) 55),
  (55, (.ireturn, 1), o_ri),
  (56, (.aload 6, 2), o_al 6 58),
  (58, (.getfield 230, 3), o_gI 2 1 61),
  (61, (.aload 7, 2), o_al 7 63),
  (63, (.getfield 230, 3), o_gI 2 1 66),
  (66, (.if_icmp .eq 6, 3), o_ic (fun x y => x = y) 72 69),
  (69, (.bipush (-13), 2), o_ii (-13) 71),
  (71, (.ireturn, 1), o_ri),
  (72, (.aload 6, 2), o_al 6 74),
  (74, (.iload_n 2, 1), o_il 2 75),
  (75, (.iload 5, 2), o_il 5 77),
  (77, (.invokevirtual 233, 3), o_cV CX2_holds 2 2 80),
  (80, (.ifCond .eq 15, 3), o_if (fun x => x = 0) 95 83),
  (83, (.aload 7, 2), o_al 7 85),
  (85, (.iload 4, 2), o_il 4 87),
  (87, (.iload 5, 2), o_il 5 89),
  (89, (.invokevirtual 233, 3), o_cV CX2_holds 2 2 92),
  (92, (.ifCond .ne 6, 3), o_if (fun x => ¬ x = 0) 98 95),
  (95, (.bipush (-12), 2), o_ii (-12) 97),
  (97, (.ireturn, 1), o_ri),
  (98, (.aload 6, 2), o_al 6 100),
  (100, (.getfield 205, 3), o_gF 2 1 103),
  (103, (.iload_n 2, 1), o_il 2 104),
  (104, (.aload 7, 2), o_al 7 106),
  (106, (.getfield 205, 3), o_gF 2 1 109),
  (109, (.iload 4, 2), o_il 4 111),
  (111, (.iload 5, 2), o_il 5 113),
  (113, (.invokestatic 236, 3), o_cpy 116),
  (116, (.iload 5, 2), o_il 5 118),
  (118, (.ireturn, 1), o_ri)]
abbrev CX4_copy : aC := aCl tX4_copy 8
def rmX4_copy : Room := { frames := 2, cells := 0, slots := 0, locals := 60 }
set_option maxRecDepth 100000 in
theorem dX4_copy : tX4_copy.all (fun q => decide (decode cX4_copy q.1 = .ok q.2.1)) = true := by decide +kernel
set_option maxRecDepth 100000 in
set_option maxHeartbeats 4000000 in
theorem nX4_copy (l : Launch) : aMt l yX4_copy (Cond.code yX4_copy cX4_copy 8 (some .int) :: wsL_law) rmX4_copy CX4_copy := by
  refine aMt.of (own := RX4) (cc := cX4_copy) (maxL := 8) (ret := (some .int)) (by decide +kernel) rfl rfl ?_
  intro p e s m args below meth c Qc D Z ad P G A E hX hr hlk hE
  have up : ∀ w ∈ wsL_law, w ∈ (Cond.code yX4_copy cX4_copy 8 (some .int) :: wsL_law) := fun w h => List.mem_cons_of_mem _ h
  refine aImp_all _ dX4_copy ?_
  unfold tX4_copy
  refine aI_c (fun hd => s_il_n hX hd rfl rfl) ?_
  refine aI_c (fun hd => s_ii hX hd (by decide) rfl) ?_
  refine aI_c (fun hd => s_ii hX hd (by decide) rfl) ?_
  refine aI_c (fun hd => s_cS hX (nX4_within l) (wg_S up lmX4_79 loX4_within) rfl rfl rfl (by decide +kernel) ⟨by decide, by decide⟩ ⟨Nat.zero_le _, Nat.zero_le _⟩ hd rfl) ?_
  refine aI_c (fun hd => s_if_eq hX hd (by decide) rfl) ?_
  refine aI_c (fun hd => s_il_n hX hd rfl rfl) ?_
  refine aI_c (fun hd => s_ii hX hd (by decide) rfl) ?_
  refine aI_c (fun hd => s_ii hX hd (by decide) rfl) ?_
  refine aI_c (fun hd => s_cS hX (nX4_within l) (wg_S up lmX4_79 loX4_within) rfl rfl rfl (by decide +kernel) ⟨by decide, by decide⟩ ⟨Nat.zero_le _, Nat.zero_le _⟩ hd rfl) ?_
  refine aI_c (fun hd => s_if_ne hX hd (by decide) rfl) ?_
  refine aI_c (fun hd => s_bp hX hd (by decide) rfl) ?_
  refine aI_c (fun hd => s_ri hX hr hlk hE hd) ?_
  refine aI_c (fun hd => s_al_n hX hd rfl rfl) ?_
  refine aI_c (fun hd => s_gF hX (C := RX4) (T := TX4) (N := 9) (k := 7) rfl (fun w h => up w (inlX4 w h)) (by decide) rfl rfl rfl (up _ lkX4_28) hd rfl) ?_
  refine aI_c (fun hd => s_il_n hX hd rfl rfl) ?_
  refine aI_c (fun hd => s_aald3 hX hd rfl) ?_
  refine aI_c (fun hd => s_as hX hd rfl (by decide)) ?_
  refine aI_c (fun hd => s_al_n hX hd rfl rfl) ?_
  refine aI_c (fun hd => s_gF hX (C := RX4) (T := TX4) (N := 9) (k := 7) rfl (fun w h => up w (inlX4 w h)) (by decide) rfl rfl rfl (up _ lkX4_28) hd rfl) ?_
  refine aI_c (fun hd => s_il_n hX hd rfl rfl) ?_
  refine aI_c (fun hd => s_aald3 hX hd rfl) ?_
  refine aI_c (fun hd => s_as hX hd rfl (by decide)) ?_
  refine aI_c (fun hd => s_al hX hd rfl) ?_
  refine aI_c (fun hd => s_cV hX (T := TX2) (N := 3) (nX2_isMissing l) rfl (wg_V up lmX4_220 loX2_isMissing) rfl rfl rfl (by decide +kernel) ⟨by decide, by decide⟩ ⟨Nat.zero_le _, Nat.zero_le _⟩ hd rfl) ?_
  refine aI_c (fun hd => s_if_ne hX hd (by decide) rfl) ?_
  refine aI_c (fun hd => s_al hX hd rfl) ?_
  refine aI_c (fun hd => s_cV hX (T := TX2) (N := 3) (nX2_isMissing l) rfl (wg_V up lmX4_220 loX2_isMissing) rfl rfl rfl (by decide +kernel) ⟨by decide, by decide⟩ ⟨Nat.zero_le _, Nat.zero_le _⟩ hd rfl) ?_
  refine aI_c (fun hd => s_if_eq hX hd (by decide) rfl) ?_
  refine aI_c (fun hd => s_bp hX hd (by decide) rfl) ?_
  refine aI_c (fun hd => s_ri hX hr hlk hE hd) ?_
  refine aI_c (fun hd => s_al hX hd rfl) ?_
  refine aI_c (fun hd => s_gI hX (C := RX2) (T := TX2) (N := 3) (k := 1) rfl (fun w h => up w (inlX2 w h)) (by decide) rfl rfl rfl (up _ lkX4_230) hd rfl) ?_
  refine aI_c (fun hd => s_al hX hd rfl) ?_
  refine aI_c (fun hd => s_gI hX (C := RX2) (T := TX2) (N := 3) (k := 1) rfl (fun w h => up w (inlX2 w h)) (by decide) rfl rfl rfl (up _ lkX4_230) hd rfl) ?_
  refine aI_c (fun hd => s_ic_eq hX hd (by decide) rfl) ?_
  refine aI_c (fun hd => s_bp hX hd (by decide) rfl) ?_
  refine aI_c (fun hd => s_ri hX hr hlk hE hd) ?_
  refine aI_c (fun hd => s_al hX hd rfl) ?_
  refine aI_c (fun hd => s_il_n hX hd rfl rfl) ?_
  refine aI_c (fun hd => s_il hX hd rfl) ?_
  refine aI_c (fun hd => s_cV hX (T := TX2) (N := 3) (nX2_holds l) rfl (wg_V up lmX4_233 loX2_holds) rfl rfl rfl (by decide +kernel) ⟨by decide, by decide⟩ ⟨Nat.zero_le _, Nat.zero_le _⟩ hd rfl) ?_
  refine aI_c (fun hd => s_if_eq hX hd (by decide) rfl) ?_
  refine aI_c (fun hd => s_al hX hd rfl) ?_
  refine aI_c (fun hd => s_il hX hd rfl) ?_
  refine aI_c (fun hd => s_il hX hd rfl) ?_
  refine aI_c (fun hd => s_cV hX (T := TX2) (N := 3) (nX2_holds l) rfl (wg_V up lmX4_233 loX2_holds) rfl rfl rfl (by decide +kernel) ⟨by decide, by decide⟩ ⟨Nat.zero_le _, Nat.zero_le _⟩ hd rfl) ?_
  refine aI_c (fun hd => s_if_ne hX hd (by decide) rfl) ?_
  refine aI_c (fun hd => s_bp hX hd (by decide) rfl) ?_
  refine aI_c (fun hd => s_ri hX hr hlk hE hd) ?_
  refine aI_c (fun hd => s_al hX hd rfl) ?_
  refine aI_c (fun hd => s_gF hX (C := RX2) (T := TX2) (N := 3) (k := 0) rfl (fun w h => up w (inlX2 w h)) (by decide) rfl rfl rfl (up _ lkX4_205) hd rfl) ?_
  refine aI_c (fun hd => s_il_n hX hd rfl rfl) ?_
  refine aI_c (fun hd => s_al hX hd rfl) ?_
  refine aI_c (fun hd => s_gF hX (C := RX2) (T := TX2) (N := 3) (k := 0) rfl (fun w h => up w (inlX2 w h)) (by decide) rfl rfl rfl (up _ lkX4_205) hd rfl) ?_
  refine aI_c (fun hd => s_il hX hd rfl) ?_
  refine aI_c (fun hd => s_il hX hd rfl) ?_
  refine aI_c (fun hd => s_cpy hX (up _ lmX4_236) (up _ wac_n) (up _ wac_s) (up _ wac_i) ⟨by decide, by decide⟩ hd rfl) ?_
  refine aI_c (fun hd => s_il hX hd rfl) ?_
  refine aI_c (fun hd => s_ri hX hr hlk hE hd) ?_
  exact trivial

-- JudgesByLoss.judgesBy(IIII)I
def tX4_judgesBy : aT := [
  (0, (.iload_n 1, 1), o_il 1 1),
  (1, (.iconst 0, 1), o_ii 0 2),
  (2, (.iconst 3, 1), o_ii 3 3),
  (3, (.invokestatic 79, 3), o_cS CX4_within 3 6),
  (6, (.ifCond .eq 23, 3), o_if (fun x => x = 0) 29 9),
  (9, (.iload_n 2, 1), o_il 2 10),
  (10, (.iconst 0, 1), o_ii 0 11),
  (11, (.iconst 2, 1), o_ii 2 12),
  (12, (.invokestatic 79, 3), o_cS CX4_within 3 15),
  (15, (.ifCond .eq 14, 3), o_if (fun x => x = 0) 29 18),
  (18, (.iload 4, 2), o_il 4 20),
  (20, (.iconst 0, 1), o_ii 0 21),
  (21, (.bipush 6, 2), o_ii 6 23),
  (23, (.invokestatic 79, 3), o_cS CX4_within 3 26),
  (26, (.ifCond .ne 6, 3), o_if (fun x => ¬ x = 0) 32 29),
  (29, (.bipush (-2), 2), o_ii (-2) 31),
  (31, (.ireturn, 1), o_ri),
  (32, (.aload_n 0, 1), o_al 0 33),
  (33, (.getfield 28, 3), o_gF 4 38 36),
  (36, (.iload_n 1, 1), o_il 1 37),
  (37, (.aaload, 1), o_aald 3 38),
  (38, (.astore 5, 2), o_as 5 40),
  (40, (.aload 5, 2), o_al 5 42),
  (42, (.invokevirtual 220, 3), o_cV CX2_isMissing 2 0 45),
  (45, (.ifCond .eq 6, 3), o_if (fun x => x = 0) 51 48),
  (48, (.bipush (-11), 2), o_ii (-11) 50),
  (50, (.ireturn, 1), o_ri),
  (51, (.aload 5, 2), o_al 5 53),
  (53, (.getfield 230, 3), o_gI 2 1 56),
  (56, (.iload_n 2, 1), o_il 2 57),
  (57, (.if_icmp .eq 6, 3), o_ic (fun x y => x = y) 63 60),
  (60, (.bipush (-13), 2), o_ii (-13) 62),
  (62, (.ireturn, 1), o_ri),
  (63, (.iconst 0, 1), o_ii 0 64),
  (64, (.istore 6, 2), o_is 6 66),
  (66, (.iconst 0, 1), o_ii 0 67),
  (67, (.istore 7, 2), o_is 7 69),
  (69, (.iload 7, 2), o_mk [false, true, true, false, false, false, false, false, true] (o_il 7 71)),
  (71, (.iload 4, 2), o_il 4 73),
  (73, (.if_icmp .ge 86, 3), o_ic (fun x y => y ≤ x) 159 76),
  (76, (.iload_n 3, 1), o_il 3 77),
  (77, (.iconst 0, 1), o_ii 0 78),
  (78, (.aload 5, 2), o_al 5 80),
  (80, (.getfield 224, 3), o_gI 2 2 83),
  (83, (.invokestatic 79, 3), o_cS CX4_within 3 86),
  (86, (.ifCond .eq 18, 3), o_if (fun x => x = 0) 104 89),
  (89, (.aload 5, 2), o_al 5 91),
  (91, (.iload_n 3, 1), o_il 3 92),
  (92, (.iconst 3, 1), o_ii 3 93),
  (93, (.iload 7, 2), o_il 7 95),
  (95, (.imul, 1), o_bi (fun x y => x * y) 96),
  (96, (.iadd, 1), o_bi (fun x y => x + y) 97),
  (97, (.iconst 3, 1), o_ii 3 98),
  (98, (.invokevirtual 233, 3), o_cV CX2_holds 2 2 101),
  (101, (.ifCond .ne 6, 3), o_if (fun x => ¬ x = 0) 107 104),
  (104, (.bipush (-12), 2), o_ii (-12) 106),
  (106, (.ireturn, 1), o_ri),
  (107, (.iload_n 3, 1), o_il 3 108),
  (108, (.iconst 3, 1), o_ii 3 109),
  (109, (.iload 7, 2), o_il 7 111),
  (111, (.imul, 1), o_bi (fun x y => x * y) 112),
  (112, (.iadd, 1), o_bi (fun x y => x + y) 113),
  (113, (.istore 8, 2), o_is 8 115),
  (115, (.aload_n 0, 1), o_al 0 116),
  (116, (.aload 5, 2), o_al 5 118),
  (118, (.getfield 205, 3), o_gF 2 1 121),
  (121, (.iload 8, 2), o_il 8 123),
  (123, (.iaload, 1), o_iald 124),
  (124, (.aload 5, 2), o_al 5 126),
  (126, (.getfield 205, 3), o_gF 2 1 129),
  (129, (.iload 8, 2), o_il 8 131),
  (131, (.iconst 1, 1), o_ii 1 132),
  (132, (.iadd, 1), o_bi (fun x y => x + y) 133),
  (133, (.iaload, 1), o_iald 134),
  (134, (.aload 5, 2), o_al 5 136),
  (136, (.getfield 205, 3), o_gF 2 1 139),
  (139, (.iload 8, 2), o_il 8 141),
  (141, (.iconst 2, 1), o_ii 2 142),
  (142, (.iadd, 1), o_bi (fun x y => x + y) 143),
  (143, (.iaload, 1), o_iald 144),
  (144, (.invokevirtual 242, 3), o_cV CX4_judge 4 3 147),
  (147, (.ifCond .lt 6, 3), o_if (fun x => x < 0) 153 150),
  (150, (.iinc 6 1, 3), o_inc 6 1 153),
  (153, (.iinc 7 1, 3), o_inc 7 1 156),
  (156, (.goto (-87), 3), o_go 69),
  (159, (.iload 6, 2), o_il 6 161),
  (161, (.ireturn, 1), o_ri)]
abbrev CX4_judgesBy : aC := aCl tX4_judgesBy 9
def rmX4_judgesBy : Room := { frames := 4, cells := 0, slots := 0, locals := 67 }
set_option maxRecDepth 100000 in
theorem dX4_judgesBy : tX4_judgesBy.all (fun q => decide (decode cX4_judgesBy q.1 = .ok q.2.1)) = true := by decide +kernel
set_option maxRecDepth 100000 in
set_option maxHeartbeats 4000000 in
theorem nX4_judgesBy (l : Launch) : aMt l yX4_judgesBy (Cond.code yX4_judgesBy cX4_judgesBy 9 (some .int) :: wsL_law) rmX4_judgesBy CX4_judgesBy := by
  refine aMt.of (own := RX4) (cc := cX4_judgesBy) (maxL := 9) (ret := (some .int)) (by decide +kernel) rfl rfl ?_
  intro p e s m args below meth c Qc D Z ad P G A E hX hr hlk hE
  have up : ∀ w ∈ wsL_law, w ∈ (Cond.code yX4_judgesBy cX4_judgesBy 9 (some .int) :: wsL_law) := fun w h => List.mem_cons_of_mem _ h
  refine aImp_all _ dX4_judgesBy ?_
  unfold tX4_judgesBy
  refine aI_c (fun hd => s_il_n hX hd rfl rfl) ?_
  refine aI_c (fun hd => s_ii hX hd (by decide) rfl) ?_
  refine aI_c (fun hd => s_ii hX hd (by decide) rfl) ?_
  refine aI_c (fun hd => s_cS hX (nX4_within l) (wg_S up lmX4_79 loX4_within) rfl rfl rfl (by decide +kernel) ⟨by decide, by decide⟩ ⟨Nat.zero_le _, Nat.zero_le _⟩ hd rfl) ?_
  refine aI_c (fun hd => s_if_eq hX hd (by decide) rfl) ?_
  refine aI_c (fun hd => s_il_n hX hd rfl rfl) ?_
  refine aI_c (fun hd => s_ii hX hd (by decide) rfl) ?_
  refine aI_c (fun hd => s_ii hX hd (by decide) rfl) ?_
  refine aI_c (fun hd => s_cS hX (nX4_within l) (wg_S up lmX4_79 loX4_within) rfl rfl rfl (by decide +kernel) ⟨by decide, by decide⟩ ⟨Nat.zero_le _, Nat.zero_le _⟩ hd rfl) ?_
  refine aI_c (fun hd => s_if_eq hX hd (by decide) rfl) ?_
  refine aI_c (fun hd => s_il hX hd rfl) ?_
  refine aI_c (fun hd => s_ii hX hd (by decide) rfl) ?_
  refine aI_c (fun hd => s_bp hX hd (by decide) rfl) ?_
  refine aI_c (fun hd => s_cS hX (nX4_within l) (wg_S up lmX4_79 loX4_within) rfl rfl rfl (by decide +kernel) ⟨by decide, by decide⟩ ⟨Nat.zero_le _, Nat.zero_le _⟩ hd rfl) ?_
  refine aI_c (fun hd => s_if_ne hX hd (by decide) rfl) ?_
  refine aI_c (fun hd => s_bp hX hd (by decide) rfl) ?_
  refine aI_c (fun hd => s_ri hX hr hlk hE hd) ?_
  refine aI_c (fun hd => s_al_n hX hd rfl rfl) ?_
  refine aI_c (fun hd => s_gF hX (C := RX4) (T := TX4) (N := 9) (k := 7) rfl (fun w h => up w (inlX4 w h)) (by decide) rfl rfl rfl (up _ lkX4_28) hd rfl) ?_
  refine aI_c (fun hd => s_il_n hX hd rfl rfl) ?_
  refine aI_c (fun hd => s_aald3 hX hd rfl) ?_
  refine aI_c (fun hd => s_as hX hd rfl (by decide)) ?_
  refine aI_c (fun hd => s_al hX hd rfl) ?_
  refine aI_c (fun hd => s_cV hX (T := TX2) (N := 3) (nX2_isMissing l) rfl (wg_V up lmX4_220 loX2_isMissing) rfl rfl rfl (by decide +kernel) ⟨by decide, by decide⟩ ⟨Nat.zero_le _, Nat.zero_le _⟩ hd rfl) ?_
  refine aI_c (fun hd => s_if_eq hX hd (by decide) rfl) ?_
  refine aI_c (fun hd => s_bp hX hd (by decide) rfl) ?_
  refine aI_c (fun hd => s_ri hX hr hlk hE hd) ?_
  refine aI_c (fun hd => s_al hX hd rfl) ?_
  refine aI_c (fun hd => s_gI hX (C := RX2) (T := TX2) (N := 3) (k := 1) rfl (fun w h => up w (inlX2 w h)) (by decide) rfl rfl rfl (up _ lkX4_230) hd rfl) ?_
  refine aI_c (fun hd => s_il_n hX hd rfl rfl) ?_
  refine aI_c (fun hd => s_ic_eq hX hd (by decide) rfl) ?_
  refine aI_c (fun hd => s_bp hX hd (by decide) rfl) ?_
  refine aI_c (fun hd => s_ri hX hr hlk hE hd) ?_
  refine aI_c (fun hd => s_ii hX hd (by decide) rfl) ?_
  refine aI_c (fun hd => s_is hX hd rfl (by decide)) ?_
  refine aI_c (fun hd => s_ii hX hd (by decide) rfl) ?_
  refine aI_c (fun hd => s_is hX hd rfl (by decide)) ?_
  refine aI_c (fun hd => s_mk (s_il hX hd rfl)) ?_
  refine aI_c (fun hd => s_il hX hd rfl) ?_
  refine aI_c (fun hd => s_ic_ge hX hd (by decide) rfl) ?_
  refine aI_c (fun hd => s_il_n hX hd rfl rfl) ?_
  refine aI_c (fun hd => s_ii hX hd (by decide) rfl) ?_
  refine aI_c (fun hd => s_al hX hd rfl) ?_
  refine aI_c (fun hd => s_gI hX (C := RX2) (T := TX2) (N := 3) (k := 2) rfl (fun w h => up w (inlX2 w h)) (by decide) rfl rfl rfl (up _ lkX4_224) hd rfl) ?_
  refine aI_c (fun hd => s_cS hX (nX4_within l) (wg_S up lmX4_79 loX4_within) rfl rfl rfl (by decide +kernel) ⟨by decide, by decide⟩ ⟨Nat.zero_le _, Nat.zero_le _⟩ hd rfl) ?_
  refine aI_c (fun hd => s_if_eq hX hd (by decide) rfl) ?_
  refine aI_c (fun hd => s_al hX hd rfl) ?_
  refine aI_c (fun hd => s_il_n hX hd rfl rfl) ?_
  refine aI_c (fun hd => s_ii hX hd (by decide) rfl) ?_
  refine aI_c (fun hd => s_il hX hd rfl) ?_
  refine aI_c (fun hd => s_imul hX hd rfl) ?_
  refine aI_c (fun hd => s_iadd hX hd rfl) ?_
  refine aI_c (fun hd => s_ii hX hd (by decide) rfl) ?_
  refine aI_c (fun hd => s_cV hX (T := TX2) (N := 3) (nX2_holds l) rfl (wg_V up lmX4_233 loX2_holds) rfl rfl rfl (by decide +kernel) ⟨by decide, by decide⟩ ⟨Nat.zero_le _, Nat.zero_le _⟩ hd rfl) ?_
  refine aI_c (fun hd => s_if_ne hX hd (by decide) rfl) ?_
  refine aI_c (fun hd => s_bp hX hd (by decide) rfl) ?_
  refine aI_c (fun hd => s_ri hX hr hlk hE hd) ?_
  refine aI_c (fun hd => s_il_n hX hd rfl rfl) ?_
  refine aI_c (fun hd => s_ii hX hd (by decide) rfl) ?_
  refine aI_c (fun hd => s_il hX hd rfl) ?_
  refine aI_c (fun hd => s_imul hX hd rfl) ?_
  refine aI_c (fun hd => s_iadd hX hd rfl) ?_
  refine aI_c (fun hd => s_is hX hd rfl (by decide)) ?_
  refine aI_c (fun hd => s_al_n hX hd rfl rfl) ?_
  refine aI_c (fun hd => s_al hX hd rfl) ?_
  refine aI_c (fun hd => s_gF hX (C := RX2) (T := TX2) (N := 3) (k := 0) rfl (fun w h => up w (inlX2 w h)) (by decide) rfl rfl rfl (up _ lkX4_205) hd rfl) ?_
  refine aI_c (fun hd => s_il hX hd rfl) ?_
  refine aI_c (fun hd => s_iald hX hd rfl) ?_
  refine aI_c (fun hd => s_al hX hd rfl) ?_
  refine aI_c (fun hd => s_gF hX (C := RX2) (T := TX2) (N := 3) (k := 0) rfl (fun w h => up w (inlX2 w h)) (by decide) rfl rfl rfl (up _ lkX4_205) hd rfl) ?_
  refine aI_c (fun hd => s_il hX hd rfl) ?_
  refine aI_c (fun hd => s_ii hX hd (by decide) rfl) ?_
  refine aI_c (fun hd => s_iadd hX hd rfl) ?_
  refine aI_c (fun hd => s_iald hX hd rfl) ?_
  refine aI_c (fun hd => s_al hX hd rfl) ?_
  refine aI_c (fun hd => s_gF hX (C := RX2) (T := TX2) (N := 3) (k := 0) rfl (fun w h => up w (inlX2 w h)) (by decide) rfl rfl rfl (up _ lkX4_205) hd rfl) ?_
  refine aI_c (fun hd => s_il hX hd rfl) ?_
  refine aI_c (fun hd => s_ii hX hd (by decide) rfl) ?_
  refine aI_c (fun hd => s_iadd hX hd rfl) ?_
  refine aI_c (fun hd => s_iald hX hd rfl) ?_
  refine aI_c (fun hd => s_cV hX (T := TX4) (N := 9) (nX4_judge l) rfl (wg_V up lmX4_242 loX4_judge) rfl rfl rfl (by decide +kernel) ⟨by decide, by decide⟩ ⟨Nat.zero_le _, Nat.zero_le _⟩ hd rfl) ?_
  refine aI_c (fun hd => s_if_lt hX hd (by decide) rfl) ?_
  refine aI_c (fun hd => s_inc hX hd (by decide) rfl (by decide)) ?_
  refine aI_c (fun hd => s_inc hX hd (by decide) rfl (by decide)) ?_
  refine aI_c (fun hd => s_go hX hd (by decide)) ?_
  refine aI_c (fun hd => s_il hX hd rfl) ?_
  refine aI_c (fun hd => s_ri hX hr hlk hE hd) ?_
  exact trivial

-- JudgesByLoss.taken(II)I
def tX4_taken : aT := [
  (0, (.iload_n 2, 1), o_il 2 1),
  (1, (.iconst 0, 1), o_ii 0 2),
  (2, (.bipush 6, 2), o_ii 6 4),
  (4, (.invokestatic 79, 3), o_cS CX4_within 3 7),
  (7, (.ifCond .ne 6, 3), o_if (fun x => ¬ x = 0) 13 10),
  (10, (.bipush (-2), 2), o_ii (-2) 12),
  (12, (.ireturn, 1), o_ri),
  (13, (.iload_n 1, 1), o_il 1 14),
  (14, (.iconst 0, 1), o_ii 0 15),
  (15, (.bipush 13, 2), o_ii 13 17),
  (17, (.invokestatic 79, 3), o_cS CX4_within 3 20),
  (20, (.ifCond .ne 6, 3), o_if (fun x => ¬ x = 0) 26 23),
  (23, (.bipush (-12), 2), o_ii (-12) 25),
  (25, (.ireturn, 1), o_ri),
  (26, (.iload_n 1, 1), o_il 1 27),
  (27, (.bipush 6, 2), o_ii 6 29),
  (29, (.if_icmp .ge 7, 3), o_ic (fun x y => y ≤ x) 36 32),
  (32, (.iconst 1, 1), o_ii 1 33),
  (33, (.goto 4, 3), o_go 37),
  (36, (.iconst 0, 1), o_ii 0 37),
  (37, (.istore_n 3, 1), o_is 3 38),
  (38, (.iload_n 3, 1), o_il 3 39),
  (39, (.ifCond .eq 17, 3), o_if (fun x => x = 0) 56 42),
  (42, (.aload_n 0, 1), o_al 0 43),
  (43, (.getfield 44, 3), o_gF 4 1 46),
  (46, (.iload_n 1, 1), o_il 1 47),
  (47, (.invokevirtual 103, 3), o_cV CX0_hasJudge 0 1 50),
  (50, (.ifCond .ne 23, 3), o_if (fun x => ¬ x = 0) 73 53),
  (53, (.goto 17, 3), o_go 70),
  (56, (.aload_n 0, 1), o_al 0 57),
  (57, (.getfield 44, 3), o_gF 4 1 60),
  (60, (.iload_n 1, 1), o_il 1 61),
  (61, (.bipush 6, 2), o_ii 6 63),
  (63, (.isub, 1), o_bi (fun x y => x - y) 64),
  (64, (.invokevirtual 106, 3), o_cV CX0_hasCase 0 1 67),
  (67, (.ifCond .ne 6, 3), o_if (fun x => ¬ x = 0) 73 70),
  (70, (.bipush (-11), 2), o_ii (-11) 72),
  (72, (.ireturn, 1), o_ri),
  (73, (.iload_n 3, 1), o_il 3 74),
  (74, (.ifCond .eq 22, 3), o_if (fun x => x = 0) 96 77),
  (77, (.aload_n 0, 1), o_al 0 78),
  (78, (.getfield 44, 3), o_gF 4 1 81),
  (81, (.iload_n 1, 1), o_il 1 82),
  (82, (.iload_n 2, 1), o_il 2 83),
  (83, (.invokevirtual 245, 3), o_cV CX0_isOf 0 2 86),
  (86, (.ifCond .eq 7, 3), o_if (fun x => x = 0) 93 89),
  (89, (.iload_n 1, 1), o_il 1 90),
  (90, (.goto 5, 3), o_go 95),
  (93, (.bipush (-13), 2), o_ii (-13) 95),
  (95, (.ireturn, 1), o_ri),
  (96, (.iload_n 2, 1), o_il 2 97),
  (97, (.bipush 6, 2), o_ii 6 99),
  (99, (.if_icmp .ne 18, 3), o_ic (fun x y => ¬ x = y) 117 102),
  (102, (.aload_n 0, 1), o_al 0 103),
  (103, (.getfield 44, 3), o_gF 4 1 106),
  (106, (.getfield 131, 3), o_gF 0 6 109),
  (109, (.iload_n 1, 1), o_il 1 110),
  (110, (.bipush 6, 2), o_ii 6 112),
  (112, (.isub, 1), o_bi (fun x y => x - y) 113),
  (113, (.iaload, 1), o_iald 114),
  (114, (.goto 5, 3), o_go 119),
  (117, (.bipush (-13), 2), o_ii (-13) 119),
  (119, (.ireturn, 1), o_ri)]
abbrev CX4_taken : aC := aCl tX4_taken 4
def rmX4_taken : Room := { frames := 2, cells := 0, slots := 0, locals := 23 }
set_option maxRecDepth 100000 in
theorem dX4_taken : tX4_taken.all (fun q => decide (decode cX4_taken q.1 = .ok q.2.1)) = true := by decide +kernel
set_option maxRecDepth 100000 in
set_option maxHeartbeats 4000000 in
theorem nX4_taken (l : Launch) : aMt l yX4_taken (Cond.code yX4_taken cX4_taken 4 (some .int) :: wsL_law) rmX4_taken CX4_taken := by
  refine aMt.of (own := RX4) (cc := cX4_taken) (maxL := 4) (ret := (some .int)) (by decide +kernel) rfl rfl ?_
  intro p e s m args below meth c Qc D Z ad P G A E hX hr hlk hE
  have up : ∀ w ∈ wsL_law, w ∈ (Cond.code yX4_taken cX4_taken 4 (some .int) :: wsL_law) := fun w h => List.mem_cons_of_mem _ h
  refine aImp_all _ dX4_taken ?_
  unfold tX4_taken
  refine aI_c (fun hd => s_il_n hX hd rfl rfl) ?_
  refine aI_c (fun hd => s_ii hX hd (by decide) rfl) ?_
  refine aI_c (fun hd => s_bp hX hd (by decide) rfl) ?_
  refine aI_c (fun hd => s_cS hX (nX4_within l) (wg_S up lmX4_79 loX4_within) rfl rfl rfl (by decide +kernel) ⟨by decide, by decide⟩ ⟨Nat.zero_le _, Nat.zero_le _⟩ hd rfl) ?_
  refine aI_c (fun hd => s_if_ne hX hd (by decide) rfl) ?_
  refine aI_c (fun hd => s_bp hX hd (by decide) rfl) ?_
  refine aI_c (fun hd => s_ri hX hr hlk hE hd) ?_
  refine aI_c (fun hd => s_il_n hX hd rfl rfl) ?_
  refine aI_c (fun hd => s_ii hX hd (by decide) rfl) ?_
  refine aI_c (fun hd => s_bp hX hd (by decide) rfl) ?_
  refine aI_c (fun hd => s_cS hX (nX4_within l) (wg_S up lmX4_79 loX4_within) rfl rfl rfl (by decide +kernel) ⟨by decide, by decide⟩ ⟨Nat.zero_le _, Nat.zero_le _⟩ hd rfl) ?_
  refine aI_c (fun hd => s_if_ne hX hd (by decide) rfl) ?_
  refine aI_c (fun hd => s_bp hX hd (by decide) rfl) ?_
  refine aI_c (fun hd => s_ri hX hr hlk hE hd) ?_
  refine aI_c (fun hd => s_il_n hX hd rfl rfl) ?_
  refine aI_c (fun hd => s_bp hX hd (by decide) rfl) ?_
  refine aI_c (fun hd => s_ic_ge hX hd (by decide) rfl) ?_
  refine aI_c (fun hd => s_ii hX hd (by decide) rfl) ?_
  refine aI_c (fun hd => s_go hX hd (by decide)) ?_
  refine aI_c (fun hd => s_ii hX hd (by decide) rfl) ?_
  refine aI_c (fun hd => s_is_n hX hd rfl rfl (by decide)) ?_
  refine aI_c (fun hd => s_il_n hX hd rfl rfl) ?_
  refine aI_c (fun hd => s_if_eq hX hd (by decide) rfl) ?_
  refine aI_c (fun hd => s_al_n hX hd rfl rfl) ?_
  refine aI_c (fun hd => s_gF hX (C := RX4) (T := TX4) (N := 9) (k := 0) rfl (fun w h => up w (inlX4 w h)) (by decide) rfl rfl rfl (up _ lkX4_44) hd rfl) ?_
  refine aI_c (fun hd => s_il_n hX hd rfl rfl) ?_
  refine aI_c (fun hd => s_cV hX (T := TX0) (N := 15) (nX0_hasJudge l) rfl (wg_V up lmX4_103 loX0_hasJudge) rfl rfl rfl (by decide +kernel) ⟨by decide, by decide⟩ ⟨Nat.zero_le _, Nat.zero_le _⟩ hd rfl) ?_
  refine aI_c (fun hd => s_if_ne hX hd (by decide) rfl) ?_
  refine aI_c (fun hd => s_go hX hd (by decide)) ?_
  refine aI_c (fun hd => s_al_n hX hd rfl rfl) ?_
  refine aI_c (fun hd => s_gF hX (C := RX4) (T := TX4) (N := 9) (k := 0) rfl (fun w h => up w (inlX4 w h)) (by decide) rfl rfl rfl (up _ lkX4_44) hd rfl) ?_
  refine aI_c (fun hd => s_il_n hX hd rfl rfl) ?_
  refine aI_c (fun hd => s_bp hX hd (by decide) rfl) ?_
  refine aI_c (fun hd => s_isub hX hd rfl) ?_
  refine aI_c (fun hd => s_cV hX (T := TX0) (N := 15) (nX0_hasCase l) rfl (wg_V up lmX4_106 loX0_hasCase) rfl rfl rfl (by decide +kernel) ⟨by decide, by decide⟩ ⟨Nat.zero_le _, Nat.zero_le _⟩ hd rfl) ?_
  refine aI_c (fun hd => s_if_ne hX hd (by decide) rfl) ?_
  refine aI_c (fun hd => s_bp hX hd (by decide) rfl) ?_
  refine aI_c (fun hd => s_ri hX hr hlk hE hd) ?_
  refine aI_c (fun hd => s_il_n hX hd rfl rfl) ?_
  refine aI_c (fun hd => s_if_eq hX hd (by decide) rfl) ?_
  refine aI_c (fun hd => s_al_n hX hd rfl rfl) ?_
  refine aI_c (fun hd => s_gF hX (C := RX4) (T := TX4) (N := 9) (k := 0) rfl (fun w h => up w (inlX4 w h)) (by decide) rfl rfl rfl (up _ lkX4_44) hd rfl) ?_
  refine aI_c (fun hd => s_il_n hX hd rfl rfl) ?_
  refine aI_c (fun hd => s_il_n hX hd rfl rfl) ?_
  refine aI_c (fun hd => s_cV hX (T := TX0) (N := 15) (nX0_isOf l) rfl (wg_V up lmX4_245 loX0_isOf) rfl rfl rfl (by decide +kernel) ⟨by decide, by decide⟩ ⟨Nat.zero_le _, Nat.zero_le _⟩ hd rfl) ?_
  refine aI_c (fun hd => s_if_eq hX hd (by decide) rfl) ?_
  refine aI_c (fun hd => s_il_n hX hd rfl rfl) ?_
  refine aI_c (fun hd => s_go hX hd (by decide)) ?_
  refine aI_c (fun hd => s_bp hX hd (by decide) rfl) ?_
  refine aI_c (fun hd => s_ri hX hr hlk hE hd) ?_
  refine aI_c (fun hd => s_il_n hX hd rfl rfl) ?_
  refine aI_c (fun hd => s_bp hX hd (by decide) rfl) ?_
  refine aI_c (fun hd => s_ic_ne hX hd (by decide) rfl) ?_
  refine aI_c (fun hd => s_al_n hX hd rfl rfl) ?_
  refine aI_c (fun hd => s_gF hX (C := RX4) (T := TX4) (N := 9) (k := 0) rfl (fun w h => up w (inlX4 w h)) (by decide) rfl rfl rfl (up _ lkX4_44) hd rfl) ?_
  refine aI_c (fun hd => s_gF hX (C := RX0) (T := TX0) (N := 15) (k := 5) rfl (fun w h => up w (inlX0 w h)) (by decide) rfl rfl rfl (up _ lkX4_131) hd rfl) ?_
  refine aI_c (fun hd => s_il_n hX hd rfl rfl) ?_
  refine aI_c (fun hd => s_bp hX hd (by decide) rfl) ?_
  refine aI_c (fun hd => s_isub hX hd rfl) ?_
  refine aI_c (fun hd => s_iald hX hd rfl) ?_
  refine aI_c (fun hd => s_go hX hd (by decide)) ?_
  refine aI_c (fun hd => s_bp hX hd (by decide) rfl) ?_
  refine aI_c (fun hd => s_ri hX hr hlk hE hd) ?_
  exact trivial
