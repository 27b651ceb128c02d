-- JudgesByLoss$Reader.addByte(I)V
def tX1_addByte : aT := [
  (0, (.aload_n 0, 1), o_al 0 1),
  (1, (.getfield 27, 3), o_gI 1 5 4),
  (4, (.sipush 160, 3), o_ii 160 7),
  (7, (.if_icmp .ge 23, 3), o_ic (fun x y => y ≤ x) 30 10),
  (10, (.aload_n 0, 1), o_al 0 11),
  (11, (.getfield 9, 3), o_gF 1 1 14),
  (14, (.aload_n 0, 1), o_al 0 15),
  (15, (.getfield 27, 3), o_gI 1 5 18),
  (18, (.iload_n 1, 1), o_il 1 19),
  (19, (.iastore, 1), o_iast 20),
  (20, (.aload_n 0, 1), o_al 0 21),
  (21, (.dup, 1), o_dup 22),
  (22, (.getfield 27, 3), o_gI 1 5 25),
  (25, (.iconst 1, 1), o_ii 1 26),
  (26, (.iadd, 1), o_bi (fun x y => x + y) 27),
  (27, (.putfield 27, 3), o_pI 1 5 30),
  (30, (.return_, 1), o_rv)]
abbrev CX1_addByte : aC := aCl tX1_addByte 2
def rmX1_addByte : Room := { frames := 1, cells := 0, slots := 0, locals := 1 }
set_option maxRecDepth 100000 in
theorem dX1_addByte : tX1_addByte.all (fun q => decide (decode cX1_addByte q.1 = .ok q.2.1)) = true := by decide +kernel
set_option maxRecDepth 100000 in
set_option maxHeartbeats 4000000 in
theorem nX1_addByte (l : Launch) : aMt l yX1_addByte (Cond.code yX1_addByte cX1_addByte 2 none :: wsL_law) rmX1_addByte CX1_addByte := by
  refine aMt.of (own := RX1) (cc := cX1_addByte) (maxL := 2) (ret := none) (by decide +kernel) rfl rfl ?_
  intro p e s m args below meth c Qc D Z ad P G A E hX hr hlk hE
  have up : ∀ w ∈ wsL_law, w ∈ (Cond.code yX1_addByte cX1_addByte 2 none :: wsL_law) := fun w h => List.mem_cons_of_mem _ h
  refine aImp_all _ dX1_addByte ?_
  unfold tX1_addByte
  refine aI_c (fun hd => s_al_n hX hd rfl rfl) ?_
  refine aI_c (fun hd => s_gI hX (C := RX1) (T := TX1) (N := 8) (k := 5) rfl (fun w h => up w (inlX1 w h)) (by decide) rfl rfl rfl (up _ lkX1_27) hd rfl) ?_
  refine aI_c (fun hd => s_sp hX hd (by decide) rfl) ?_
  refine aI_c (fun hd => s_ic_ge hX hd (by decide) rfl) ?_
  refine aI_c (fun hd => s_al_n hX hd rfl rfl) ?_
  refine aI_c (fun hd => s_gF hX (C := RX1) (T := TX1) (N := 8) (k := 0) rfl (fun w h => up w (inlX1 w h)) (by decide) rfl rfl rfl (up _ lkX1_9) hd rfl) ?_
  refine aI_c (fun hd => s_al_n hX hd rfl rfl) ?_
  refine aI_c (fun hd => s_gI hX (C := RX1) (T := TX1) (N := 8) (k := 5) rfl (fun w h => up w (inlX1 w h)) (by decide) rfl rfl rfl (up _ lkX1_27) hd rfl) ?_
  refine aI_c (fun hd => s_il_n hX hd rfl rfl) ?_
  refine aI_c (fun hd => s_iast hX hd rfl) ?_
  refine aI_c (fun hd => s_al_n hX hd rfl rfl) ?_
  refine aI_c (fun hd => s_dup hX hd rfl) ?_
  refine aI_c (fun hd => s_gI hX (C := RX1) (T := TX1) (N := 8) (k := 5) rfl (fun w h => up w (inlX1 w h)) (by decide) rfl rfl rfl (up _ lkX1_27) hd rfl) ?_
  refine aI_c (fun hd => s_ii hX hd (by decide) rfl) ?_
  refine aI_c (fun hd => s_iadd hX hd rfl) ?_
  refine aI_c (fun hd => s_pI hX (C := RX1) (T := TX1) (N := 8) (k := 5) rfl (fun w h => up w (inlX1 w h)) (by decide) rfl rfl tyX1 tyX1_ok nmX1 rfl rfl rfl (up _ lkX1_27) hd rfl) ?_
  refine aI_c (fun hd => s_rv hX hr hlk hE hd) ?_
  exact trivial

-- JudgesByLoss$Reader.isLetter(I)Z
def tX1_isLetter : aT := [
  (0, (.iload_n 1, 1), o_il 1 1),
  (1, (.aload_n 0, 1), o_al 0 2),
  (2, (.getfield 27, 3), o_gI 1 5 5),
  (5, (.if_icmp .ge 29, 3), o_ic (fun x y => y ≤ x) 34 8),
  (8, (.aload_n 0, 1), o_al 0 9),
  (9, (.getfield 9, 3), o_gF 1 1 12),
  (12, (.iload_n 1, 1), o_il 1 13),
  (13, (.iaload, 1), o_iald 14),
  (14, (.bipush 97, 2), o_ii 97 16),
  (16, (.if_icmp .lt 18, 3), o_ic (fun x y => x < y) 34 19),
  (19, (.aload_n 0, 1), o_al 0 20),
  (20, (.getfield 9, 3), o_gF 1 1 23),
  (23, (.iload_n 1, 1), o_il 1 24),
  (24, (.iaload, 1), o_iald 25),
  (25, (.bipush 122, 2), o_ii 122 27),
  (27, (.if_icmp .gt 7, 3), o_ic (fun x y => y < x) 34 30),
  (30, (.iconst 1, 1), o_ii 1 31),
  (31, (.goto 4, 3), o_go 35),
  (34, (.iconst 0, 1), o_ii 0 35),
  (35, (.ireturn, 1), o_rz)]
abbrev CX1_isLetter : aC := aCl tX1_isLetter 2
def rmX1_isLetter : Room := { frames := 1, cells := 0, slots := 0, locals := 1 }
set_option maxRecDepth 100000 in
theorem dX1_isLetter : tX1_isLetter.all (fun q => decide (decode cX1_isLetter q.1 = .ok q.2.1)) = true := by decide +kernel
set_option maxRecDepth 100000 in
set_option maxHeartbeats 4000000 in
theorem nX1_isLetter (l : Launch) : aMt l yX1_isLetter (Cond.code yX1_isLetter cX1_isLetter 2 (some .boolean) :: wsL_law) rmX1_isLetter CX1_isLetter := by
  refine aMt.of (own := RX1) (cc := cX1_isLetter) (maxL := 2) (ret := (some .boolean)) (by decide +kernel) rfl rfl ?_
  intro p e s m args below meth c Qc D Z ad P G A E hX hr hlk hE
  have up : ∀ w ∈ wsL_law, w ∈ (Cond.code yX1_isLetter cX1_isLetter 2 (some .boolean) :: wsL_law) := fun w h => List.mem_cons_of_mem _ h
  refine aImp_all _ dX1_isLetter ?_
  unfold tX1_isLetter
  refine aI_c (fun hd => s_il_n hX hd rfl rfl) ?_
  refine aI_c (fun hd => s_al_n hX hd rfl rfl) ?_
  refine aI_c (fun hd => s_gI hX (C := RX1) (T := TX1) (N := 8) (k := 5) rfl (fun w h => up w (inlX1 w h)) (by decide) rfl rfl rfl (up _ lkX1_27) hd rfl) ?_
  refine aI_c (fun hd => s_ic_ge hX hd (by decide) rfl) ?_
  refine aI_c (fun hd => s_al_n hX hd rfl rfl) ?_
  refine aI_c (fun hd => s_gF hX (C := RX1) (T := TX1) (N := 8) (k := 0) rfl (fun w h => up w (inlX1 w h)) (by decide) rfl rfl rfl (up _ lkX1_9) hd rfl) ?_
  refine aI_c (fun hd => s_il_n hX hd rfl rfl) ?_
  refine aI_c (fun hd => s_iald hX hd rfl) ?_
  refine aI_c (fun hd => s_bp hX hd (by decide) rfl) ?_
  refine aI_c (fun hd => s_ic_lt hX hd (by decide) rfl) ?_
  refine aI_c (fun hd => s_al_n hX hd rfl rfl) ?_
  refine aI_c (fun hd => s_gF hX (C := RX1) (T := TX1) (N := 8) (k := 0) rfl (fun w h => up w (inlX1 w h)) (by decide) rfl rfl rfl (up _ lkX1_9) hd rfl) ?_
  refine aI_c (fun hd => s_il_n hX hd rfl rfl) ?_
  refine aI_c (fun hd => s_iald hX hd rfl) ?_
  refine aI_c (fun hd => s_bp hX hd (by decide) rfl) ?_
  refine aI_c (fun hd => s_ic_gt hX hd (by decide) rfl) ?_
  refine aI_c (fun hd => s_ii hX hd (by decide) rfl) ?_
  refine aI_c (fun hd => s_go hX hd (by decide)) ?_
  refine aI_c (fun hd => s_ii hX hd (by decide) rfl) ?_
  refine aI_c (fun hd => s_rz hX hr hlk hE hd) ?_
  exact trivial

-- JudgesByLoss$Reader.isDigit(I)Z
def tX1_isDigit : aT := [
  (0, (.iload_n 1, 1), o_il 1 1),
  (1, (.aload_n 0, 1), o_al 0 2),
  (2, (.getfield 27, 3), o_gI 1 5 5),
  (5, (.if_icmp .ge 29, 3), o_ic (fun x y => y ≤ x) 34 8),
  (8, (.aload_n 0, 1), o_al 0 9),
  (9, (.getfield 9, 3), o_gF 1 1 12),
  (12, (.iload_n 1, 1), o_il 1 13),
  (13, (.iaload, 1), o_iald 14),
  (14, (.bipush 48, 2), o_ii 48 16),
  (16, (.if_icmp .lt 18, 3), o_ic (fun x y => x < y) 34 19),
  (19, (.aload_n 0, 1), o_al 0 20),
  (20, (.getfield 9, 3), o_gF 1 1 23),
  (23, (.iload_n 1, 1), o_il 1 24),
  (24, (.iaload, 1), o_iald 25),
  (25, (.bipush 57, 2), o_ii 57 27),
  (27, (.if_icmp .gt 7, 3), o_ic (fun x y => y < x) 34 30),
  (30, (.iconst 1, 1), o_ii 1 31),
  (31, (.goto 4, 3), o_go 35),
  (34, (.iconst 0, 1), o_ii 0 35),
  (35, (.ireturn, 1), o_rz)]
abbrev CX1_isDigit : aC := aCl tX1_isDigit 2
def rmX1_isDigit : Room := { frames := 1, cells := 0, slots := 0, locals := 1 }
set_option maxRecDepth 100000 in
theorem dX1_isDigit : tX1_isDigit.all (fun q => decide (decode cX1_isDigit q.1 = .ok q.2.1)) = true := by decide +kernel
set_option maxRecDepth 100000 in
set_option maxHeartbeats 4000000 in
theorem nX1_isDigit (l : Launch) : aMt l yX1_isDigit (Cond.code yX1_isDigit cX1_isDigit 2 (some .boolean) :: wsL_law) rmX1_isDigit CX1_isDigit := by
  refine aMt.of (own := RX1) (cc := cX1_isDigit) (maxL := 2) (ret := (some .boolean)) (by decide +kernel) rfl rfl ?_
  intro p e s m args below meth c Qc D Z ad P G A E hX hr hlk hE
  have up : ∀ w ∈ wsL_law, w ∈ (Cond.code yX1_isDigit cX1_isDigit 2 (some .boolean) :: wsL_law) := fun w h => List.mem_cons_of_mem _ h
  refine aImp_all _ dX1_isDigit ?_
  unfold tX1_isDigit
  refine aI_c (fun hd => s_il_n hX hd rfl rfl) ?_
  refine aI_c (fun hd => s_al_n hX hd rfl rfl) ?_
  refine aI_c (fun hd => s_gI hX (C := RX1) (T := TX1) (N := 8) (k := 5) rfl (fun w h => up w (inlX1 w h)) (by decide) rfl rfl rfl (up _ lkX1_27) hd rfl) ?_
  refine aI_c (fun hd => s_ic_ge hX hd (by decide) rfl) ?_
  refine aI_c (fun hd => s_al_n hX hd rfl rfl) ?_
  refine aI_c (fun hd => s_gF hX (C := RX1) (T := TX1) (N := 8) (k := 0) rfl (fun w h => up w (inlX1 w h)) (by decide) rfl rfl rfl (up _ lkX1_9) hd rfl) ?_
  refine aI_c (fun hd => s_il_n hX hd rfl rfl) ?_
  refine aI_c (fun hd => s_iald hX hd rfl) ?_
  refine aI_c (fun hd => s_bp hX hd (by decide) rfl) ?_
  refine aI_c (fun hd => s_ic_lt hX hd (by decide) rfl) ?_
  refine aI_c (fun hd => s_al_n hX hd rfl rfl) ?_
  refine aI_c (fun hd => s_gF hX (C := RX1) (T := TX1) (N := 8) (k := 0) rfl (fun w h => up w (inlX1 w h)) (by decide) rfl rfl rfl (up _ lkX1_9) hd rfl) ?_
  refine aI_c (fun hd => s_il_n hX hd rfl rfl) ?_
  refine aI_c (fun hd => s_iald hX hd rfl) ?_
  refine aI_c (fun hd => s_bp hX hd (by decide) rfl) ?_
  refine aI_c (fun hd => s_ic_gt hX hd (by decide) rfl) ?_
  refine aI_c (fun hd => s_ii hX hd (by decide) rfl) ?_
  refine aI_c (fun hd => s_go hX hd (by decide)) ?_
  refine aI_c (fun hd => s_ii hX hd (by decide) rfl) ?_
  refine aI_c (fun hd => s_rz hX hr hlk hE hd) ?_
  exact trivial

-- JudgesByLoss$Reader.endOfToken(I)I
def tX1_endOfToken : aT := [
  (0, (.iload_n 1, 1), o_il 1 1),
  (1, (.istore_n 2, 1), o_is 2 2),
  (2, (.aload_n 0, 1), o_al 0 3),
  (3, (.iload_n 1, 1), o_il 1 4),
  (4, (.invokevirtual 98, 3), o_cV CX1_isLetter 1 1 7),
  (7, (.ifCond .eq 25, 3), o_if (fun x => x = 0) 32 10),
  (10, (.iload_n 2, 1), o_mk [false, true, false] (o_il 2 11)),
  (11, (.aload_n 0, 1), o_al 0 12),
  (12, (.getfield 27, 3), o_gI 1 5 15),
  (15, (.if_icmp .ge 58, 3), o_ic (fun x y => y ≤ x) 73 18),
  (18, (.aload_n 0, 1), o_al 0 19),
  (19, (.iload_n 2, 1), o_il 2 20),
  (20, (.invokevirtual 98, 3), o_cV CX1_isLetter 1 1 23),
  (23, (.ifCond .eq 50, 3), o_if (fun x => x = 0) 73 26),
  (26, (.iinc 2 1, 3), o_inc 2 1 29),
  (29, (.goto (-19), 3), o_go 10),
  (32, (.aload_n 0, 1), o_al 0 33),
  (33, (.iload_n 1, 1), o_il 1 34),
  (34, (.invokevirtual 101, 3), o_cV CX1_isDigit 1 1 37),
  (37, (.ifCond .eq 25, 3), o_if (fun x => x = 0) 62 40),
  (40, (.iload_n 2, 1), o_mk [false, true, false] (o_il 2 41)),
  (41, (.aload_n 0, 1), o_al 0 42),
  (42, (.getfield 27, 3), o_gI 1 5 45),
  (45, (.if_icmp .ge 28, 3), o_ic (fun x y => y ≤ x) 73 48),
  (48, (.aload_n 0, 1), o_al 0 49),
  (49, (.iload_n 2, 1), o_il 2 50),
  (50, (.invokevirtual 101, 3), o_cV CX1_isDigit 1 1 53),
  (53, (.ifCond .eq 20, 3), o_if (fun x => x = 0) 73 56),
  (56, (.iinc 2 1, 3), o_inc 2 1 59),
  (59, (.goto (-19), 3), o_go 40),
  (62, (.iload_n 1, 1), o_il 1 63),
  (63, (.aload_n 0, 1), o_al 0 64),
  (64, (.getfield 27, 3), o_gI 1 5 67),
  (67, (.if_icmp .ge 6, 3), o_ic (fun x y => y ≤ x) 73 70),
  (70, (.iinc 2 1, 3), o_inc 2 1 73),
  (73, (.iload_n 2, 1), o_il 2 74),
  (74, (.ireturn, 1), o_ri)]
abbrev CX1_endOfToken : aC := aCl tX1_endOfToken 3
def rmX1_endOfToken : Room := { frames := 2, cells := 0, slots := 0, locals := 22 }
set_option maxRecDepth 100000 in
theorem dX1_endOfToken : tX1_endOfToken.all (fun q => decide (decode cX1_endOfToken q.1 = .ok q.2.1)) = true := by decide +kernel
set_option maxRecDepth 100000 in
set_option maxHeartbeats 4000000 in
theorem nX1_endOfToken (l : Launch) : aMt l yX1_endOfToken (Cond.code yX1_endOfToken cX1_endOfToken 3 (some .int) :: wsL_law) rmX1_endOfToken CX1_endOfToken := by
  refine aMt.of (own := RX1) (cc := cX1_endOfToken) (maxL := 3) (ret := (some .int)) (by decide +kernel) rfl rfl ?_
  intro p e s m args below meth c Qc D Z ad P G A E hX hr hlk hE
  have up : ∀ w ∈ wsL_law, w ∈ (Cond.code yX1_endOfToken cX1_endOfToken 3 (some .int) :: wsL_law) := fun w h => List.mem_cons_of_mem _ h
  refine aImp_all _ dX1_endOfToken ?_
  unfold tX1_endOfToken
  refine aI_c (fun hd => s_il_n hX hd rfl rfl) ?_
  refine aI_c (fun hd => s_is_n hX hd rfl rfl (by decide)) ?_
  refine aI_c (fun hd => s_al_n hX hd rfl rfl) ?_
  refine aI_c (fun hd => s_il_n hX hd rfl rfl) ?_
  refine aI_c (fun hd => s_cV hX (T := TX1) (N := 8) (nX1_isLetter l) rfl (wg_V up lmX1_98 loX1_isLetter) rfl rfl rfl (by decide +kernel) ⟨by decide, by decide⟩ ⟨Nat.zero_le _, Nat.zero_le _⟩ hd rfl) ?_
  refine aI_c (fun hd => s_if_eq hX hd (by decide) rfl) ?_
  refine aI_c (fun hd => s_mk (s_il_n hX hd rfl rfl)) ?_
  refine aI_c (fun hd => s_al_n hX hd rfl rfl) ?_
  refine aI_c (fun hd => s_gI hX (C := RX1) (T := TX1) (N := 8) (k := 5) rfl (fun w h => up w (inlX1 w h)) (by decide) rfl rfl rfl (up _ lkX1_27) hd rfl) ?_
  refine aI_c (fun hd => s_ic_ge hX hd (by decide) rfl) ?_
  refine aI_c (fun hd => s_al_n hX hd rfl rfl) ?_
  refine aI_c (fun hd => s_il_n hX hd rfl rfl) ?_
  refine aI_c (fun hd => s_cV hX (T := TX1) (N := 8) (nX1_isLetter l) rfl (wg_V up lmX1_98 loX1_isLetter) rfl rfl rfl (by decide +kernel) ⟨by decide, by decide⟩ ⟨Nat.zero_le _, Nat.zero_le _⟩ hd rfl) ?_
  refine aI_c (fun hd => s_if_eq hX hd (by decide) rfl) ?_
  refine aI_c (fun hd => s_inc hX hd (by decide) rfl (by decide)) ?_
  refine aI_c (fun hd => s_go hX hd (by decide)) ?_
  refine aI_c (fun hd => s_al_n hX hd rfl rfl) ?_
  refine aI_c (fun hd => s_il_n hX hd rfl rfl) ?_
  refine aI_c (fun hd => s_cV hX (T := TX1) (N := 8) (nX1_isDigit l) rfl (wg_V up lmX1_101 loX1_isDigit) rfl rfl rfl (by decide +kernel) ⟨by decide, by decide⟩ ⟨Nat.zero_le _, Nat.zero_le _⟩ hd rfl) ?_
  refine aI_c (fun hd => s_if_eq hX hd (by decide) rfl) ?_
  refine aI_c (fun hd => s_mk (s_il_n hX hd rfl rfl)) ?_
  refine aI_c (fun hd => s_al_n hX hd rfl rfl) ?_
  refine aI_c (fun hd => s_gI hX (C := RX1) (T := TX1) (N := 8) (k := 5) rfl (fun w h => up w (inlX1 w h)) (by decide) rfl rfl rfl (up _ lkX1_27) hd rfl) ?_
  refine aI_c (fun hd => s_ic_ge hX hd (by decide) rfl) ?_
  refine aI_c (fun hd => s_al_n hX hd rfl rfl) ?_
  refine aI_c (fun hd => s_il_n hX hd rfl rfl) ?_
  refine aI_c (fun hd => s_cV hX (T := TX1) (N := 8) (nX1_isDigit l) rfl (wg_V up lmX1_101 loX1_isDigit) rfl rfl rfl (by decide +kernel) ⟨by decide, by decide⟩ ⟨Nat.zero_le _, Nat.zero_le _⟩ hd rfl) ?_
  refine aI_c (fun hd => s_if_eq hX hd (by decide) rfl) ?_
  refine aI_c (fun hd => s_inc hX hd (by decide) rfl (by decide)) ?_
  refine aI_c (fun hd => s_go hX hd (by decide)) ?_
  refine aI_c (fun hd => s_il_n hX hd rfl rfl) ?_
  refine aI_c (fun hd => s_al_n hX hd rfl rfl) ?_
  refine aI_c (fun hd => s_gI hX (C := RX1) (T := TX1) (N := 8) (k := 5) rfl (fun w h => up w (inlX1 w h)) (by decide) rfl rfl rfl (up _ lkX1_27) hd rfl) ?_
  refine aI_c (fun hd => s_ic_ge hX hd (by decide) rfl) ?_
  refine aI_c (fun hd => s_inc hX hd (by decide) rfl (by decide)) ?_
  refine aI_c (fun hd => s_il_n hX hd rfl rfl) ?_
  refine aI_c (fun hd => s_ri hX hr hlk hE hd) ?_
  exact trivial

-- JudgesByLoss$Reader.numberBetween(II)I
def tX1_numberBetween : aT := [
  (0, (.iload_n 2, 1), o_il 2 1),
  (1, (.iload_n 1, 1), o_il 1 2),
  (2, (.isub, 1), o_bi (fun x y => x - y) 3),
  (3, (.iconst 4, 1), o_ii 4 4),
  (4, (.if_icmp .le 6, 3), o_ic (fun x y => x ≤ y) 10 7),
  (7, (.bipush (-27), 2), o_ii (-27) 9),
  (9, (.ireturn, 1), o_ri),
  (10, (.iconst 0, 1), o_ii 0 11),
  (11, (.istore_n 3, 1), o_is 3 12),
  (12, (.iload_n 1, 1), o_il 1 13),
  (13, (.istore 4, 2), o_is 4 15),
  (15, (.iload 4, 2), o_mk [false, true, false, false, false] (o_il 4 17)),
  (17, (.iload_n 2, 1), o_il 2 18),
  (18, (.if_icmp .ge 25, 3), o_ic (fun x y => y ≤ x) 43 21),
  (21, (.bipush 10, 2), o_ii 10 23),
  (23, (.iload_n 3, 1), o_il 3 24),
  (24, (.imul, 1), o_bi (fun x y => x * y) 25),
  (25, (.aload_n 0, 1), o_al 0 26),
  (26, (.getfield 9, 3), o_gF 1 1 29),
  (29, (.iload 4, 2), o_il 4 31),
  (31, (.iaload, 1), o_iald 32),
  (32, (.iadd, 1), o_bi (fun x y => x + y) 33),
  (33, (.bipush 48, 2), o_ii 48 35),
  (35, (.isub, 1), o_bi (fun x y => x - y) 36),
  (36, (.istore_n 3, 1), o_is 3 37),
  (37, (.iinc 4 1, 3), o_inc 4 1 40),
  (40, (.goto (-25), 3), o_go 15),
  (43, (.iload_n 3, 1), o_il 3 44),
  (44, (.ireturn, 1), o_ri)]
abbrev CX1_numberBetween : aC := aCl tX1_numberBetween 5
def rmX1_numberBetween : Room := { frames := 1, cells := 0, slots := 0, locals := 1 }
set_option maxRecDepth 100000 in
theorem dX1_numberBetween : tX1_numberBetween.all (fun q => decide (decode cX1_numberBetween q.1 = .ok q.2.1)) = true := by decide +kernel
set_option maxRecDepth 100000 in
set_option maxHeartbeats 4000000 in
theorem nX1_numberBetween (l : Launch) : aMt l yX1_numberBetween (Cond.code yX1_numberBetween cX1_numberBetween 5 (some .int) :: wsL_law) rmX1_numberBetween CX1_numberBetween := by
  refine aMt.of (own := RX1) (cc := cX1_numberBetween) (maxL := 5) (ret := (some .int)) (by decide +kernel) rfl rfl ?_
  intro p e s m args below meth c Qc D Z ad P G A E hX hr hlk hE
  have up : ∀ w ∈ wsL_law, w ∈ (Cond.code yX1_numberBetween cX1_numberBetween 5 (some .int) :: wsL_law) := fun w h => List.mem_cons_of_mem _ h
  refine aImp_all _ dX1_numberBetween ?_
  unfold tX1_numberBetween
  refine aI_c (fun hd => s_il_n hX hd rfl rfl) ?_
  refine aI_c (fun hd => s_il_n hX hd rfl rfl) ?_
  refine aI_c (fun hd => s_isub hX hd rfl) ?_
  refine aI_c (fun hd => s_ii hX hd (by decide) rfl) ?_
  refine aI_c (fun hd => s_ic_le hX hd (by decide) rfl) ?_
  refine aI_c (fun hd => s_bp hX hd (by decide) rfl) ?_
  refine aI_c (fun hd => s_ri hX hr hlk hE hd) ?_
  refine aI_c (fun hd => s_ii hX hd (by decide) rfl) ?_
  refine aI_c (fun hd => s_is_n hX hd rfl rfl (by decide)) ?_
  refine aI_c (fun hd => s_il_n hX hd rfl rfl) ?_
  refine aI_c (fun hd => s_is hX hd rfl (by decide)) ?_
  refine aI_c (fun hd => s_mk (s_il hX hd rfl)) ?_
  refine aI_c (fun hd => s_il_n hX hd rfl rfl) ?_
  refine aI_c (fun hd => s_ic_ge hX hd (by decide) rfl) ?_
  refine aI_c (fun hd => s_bp hX hd (by decide) rfl) ?_
  refine aI_c (fun hd => s_il_n hX hd rfl rfl) ?_
  refine aI_c (fun hd => s_imul hX hd rfl) ?_
  refine aI_c (fun hd => s_al_n hX hd rfl rfl) ?_
  refine aI_c (fun hd => s_gF hX (C := RX1) (T := TX1) (N := 8) (k := 0) rfl (fun w h => up w (inlX1 w h)) (by decide) rfl rfl rfl (up _ lkX1_9) hd rfl) ?_
  refine aI_c (fun hd => s_il hX hd rfl) ?_
  refine aI_c (fun hd => s_iald hX hd rfl) ?_
  refine aI_c (fun hd => s_iadd hX hd rfl) ?_
  refine aI_c (fun hd => s_bp hX hd (by decide) rfl) ?_
  refine aI_c (fun hd => s_isub hX hd rfl) ?_
  refine aI_c (fun hd => s_is_n hX hd rfl rfl (by decide)) ?_
  refine aI_c (fun hd => s_inc hX hd (by decide) rfl (by decide)) ?_
  refine aI_c (fun hd => s_go hX hd (by decide)) ?_
  refine aI_c (fun hd => s_il_n hX hd rfl rfl) ?_
  refine aI_c (fun hd => s_ri hX hr hlk hE hd) ?_
  exact trivial

-- JudgesByLoss$Reader.signOf(I)I
def tX1_signOf : aT := [
  (0, (.iload_n 0, 1), o_il 0 1),
  (1, (.tableswitch 127 40 61 #[103, 106, 118, 112, 127, 115, 127, 127, 127, 127, 127, 127, 127, 127, 127, 127, 127, 127, 127, 109, 121, 124], 103), o_sw [(40, 104), (41, 107), (42, 119), (43, 113), (44, 128), (45, 116), (46, 128), (47, 128), (48, 128), (49, 128), (50, 128), (51, 128), (52, 128), (53, 128), (54, 128), (55, 128), (56, 128), (57, 128), (58, 128), (59, 110), (60, 122), (61, 125)] 128),
  (104, (.bipush (-20), 2), o_ii (-20) 106),
  (106, (.ireturn, 1), o_ri),
  (107, (.bipush (-21), 2), o_ii (-21) 109),
  (109, (.ireturn, 1), o_ri),
  (110, (.bipush (-22), 2), o_ii (-22) 112),
  (112, (.ireturn, 1), o_ri),
  (113, (.bipush (-12), 2), o_ii (-12) 115),
  (115, (.ireturn, 1), o_ri),
  (116, (.bipush (-13), 2), o_ii (-13) 118),
  (118, (.ireturn, 1), o_ri),
  (119, (.bipush (-14), 2), o_ii (-14) 121),
  (121, (.ireturn, 1), o_ri),
  (122, (.bipush (-10), 2), o_ii (-10) 124),
  (124, (.ireturn, 1), o_ri),
  (125, (.bipush (-11), 2), o_ii (-11) 127),
  (127, (.ireturn, 1), o_ri),
  (128, (.bipush (-27), 2), o_ii (-27) 130),
  (130, (.ireturn, 1), o_ri)]
abbrev CX1_signOf : aC := aCl tX1_signOf 1
def rmX1_signOf : Room := { frames := 1, cells := 0, slots := 0, locals := 1 }
set_option maxRecDepth 100000 in
theorem dX1_signOf : tX1_signOf.all (fun q => decide (decode cX1_signOf q.1 = .ok q.2.1)) = true := by decide +kernel
set_option maxRecDepth 100000 in
set_option maxHeartbeats 4000000 in
theorem nX1_signOf (l : Launch) : aMt l yX1_signOf (Cond.code yX1_signOf cX1_signOf 1 (some .int) :: wsL_law) rmX1_signOf CX1_signOf := by
  refine aMt.of (own := RX1) (cc := cX1_signOf) (maxL := 1) (ret := (some .int)) (by decide +kernel) rfl rfl ?_
  intro p e s m args below meth c Qc D Z ad P G A E hX hr hlk hE
  have up : ∀ w ∈ wsL_law, w ∈ (Cond.code yX1_signOf cX1_signOf 1 (some .int) :: wsL_law) := fun w h => List.mem_cons_of_mem _ h
  refine aImp_all _ dX1_signOf ?_
  unfold tX1_signOf
  refine aI_c (fun hd => s_il_n hX hd rfl rfl) ?_
  refine aI_c (fun hd => s_sw hX hd (by decide) (by decide +kernel)) ?_
  refine aI_c (fun hd => s_bp hX hd (by decide) rfl) ?_
  refine aI_c (fun hd => s_ri hX hr hlk hE hd) ?_
  refine aI_c (fun hd => s_bp hX hd (by decide) rfl) ?_
  refine aI_c (fun hd => s_ri hX hr hlk hE hd) ?_
  refine aI_c (fun hd => s_bp hX hd (by decide) rfl) ?_
  refine aI_c (fun hd => s_ri hX hr hlk hE hd) ?_
  refine aI_c (fun hd => s_bp hX hd (by decide) rfl) ?_
  refine aI_c (fun hd => s_ri hX hr hlk hE hd) ?_
  refine aI_c (fun hd => s_bp hX hd (by decide) rfl) ?_
  refine aI_c (fun hd => s_ri hX hr hlk hE hd) ?_
  refine aI_c (fun hd => s_bp hX hd (by decide) rfl) ?_
  refine aI_c (fun hd => s_ri hX hr hlk hE hd) ?_
  refine aI_c (fun hd => s_bp hX hd (by decide) rfl) ?_
  refine aI_c (fun hd => s_ri hX hr hlk hE hd) ?_
  refine aI_c (fun hd => s_bp hX hd (by decide) rfl) ?_
  refine aI_c (fun hd => s_ri hX hr hlk hE hd) ?_
  refine aI_c (fun hd => s_bp hX hd (by decide) rfl) ?_
  refine aI_c (fun hd => s_ri hX hr hlk hE hd) ?_
  exact trivial

-- JudgesByLoss$Reader.token()I
def tX1_token : aT := [
  (0, (.aload_n 0, 1), o_al 0 1),
  (1, (.getfield 34, 3), o_gI 1 6 4),
  (4, (.sipush 160, 3), o_ii 160 7),
  (7, (.if_icmp .gt 15, 3), o_ic (fun x y => y < x) 22 10),
  (10, (.aload_n 0, 1), o_al 0 11),
  (11, (.getfield 15, 3), o_gF 1 2 14),
  (14, (.aload_n 0, 1), o_al 0 15),
  (15, (.getfield 34, 3), o_gI 1 6 18),
  (18, (.iaload, 1), o_iald 19),
  (19, (.goto 5, 3), o_go 24),
  (22, (.bipush (-26), 2), o_ii (-26) 24),
  (24, (.ireturn, 1), o_ri)]
abbrev CX1_token : aC := aCl tX1_token 1
def rmX1_token : Room := { frames := 1, cells := 0, slots := 0, locals := 1 }
set_option maxRecDepth 100000 in
theorem dX1_token : tX1_token.all (fun q => decide (decode cX1_token q.1 = .ok q.2.1)) = true := by decide +kernel
set_option maxRecDepth 100000 in
set_option maxHeartbeats 4000000 in
theorem nX1_token (l : Launch) : aMt l yX1_token (Cond.code yX1_token cX1_token 1 (some .int) :: wsL_law) rmX1_token CX1_token := by
  refine aMt.of (own := RX1) (cc := cX1_token) (maxL := 1) (ret := (some .int)) (by decide +kernel) rfl rfl ?_
  intro p e s m args below meth c Qc D Z ad P G A E hX hr hlk hE
  have up : ∀ w ∈ wsL_law, w ∈ (Cond.code yX1_token cX1_token 1 (some .int) :: wsL_law) := fun w h => List.mem_cons_of_mem _ h
  refine aImp_all _ dX1_token ?_
  unfold tX1_token
  refine aI_c (fun hd => s_al_n hX hd rfl rfl) ?_
  refine aI_c (fun hd => s_gI hX (C := RX1) (T := TX1) (N := 8) (k := 6) rfl (fun w h => up w (inlX1 w h)) (by decide) rfl rfl rfl (up _ lkX1_34) hd rfl) ?_
  refine aI_c (fun hd => s_sp hX hd (by decide) rfl) ?_
  refine aI_c (fun hd => s_ic_gt hX hd (by decide) rfl) ?_
  refine aI_c (fun hd => s_al_n hX hd rfl rfl) ?_
  refine aI_c (fun hd => s_gF hX (C := RX1) (T := TX1) (N := 8) (k := 1) rfl (fun w h => up w (inlX1 w h)) (by decide) rfl rfl rfl (up _ lkX1_15) hd rfl) ?_
  refine aI_c (fun hd => s_al_n hX hd rfl rfl) ?_
  refine aI_c (fun hd => s_gI hX (C := RX1) (T := TX1) (N := 8) (k := 6) rfl (fun w h => up w (inlX1 w h)) (by decide) rfl rfl rfl (up _ lkX1_34) hd rfl) ?_
  refine aI_c (fun hd => s_iald hX hd rfl) ?_
  refine aI_c (fun hd => s_go hX hd (by decide)) ?_
  refine aI_c (fun hd => s_bp hX hd (by decide) rfl) ?_
  refine aI_c (fun hd => s_ri hX hr hlk hE hd) ?_
  exact trivial

-- JudgesByLoss$Reader.skip(I)Z
def tX1_skip : aT := [
  (0, (.aload_n 0, 1), o_al 0 1),
  (1, (.invokevirtual 48, 3), o_cV CX1_token 1 0 4),
  (4, (.iload_n 1, 1), o_il 1 5),
  (5, (.if_icmp .eq 5, 3), o_ic (fun x y => x = y) 10 8),
  (8, (.iconst 0, 1), o_ii 0 9),
  (9, (.ireturn, 1), o_rz),
  (10, (.aload_n 0, 1), o_al 0 11),
  (11, (.dup, 1), o_dup 12),
  (12, (.getfield 34, 3), o_gI 1 6 15),
  (15, (.iconst 1, 1), o_ii 1 16),
  (16, (.iadd, 1), o_bi (fun x y => x + y) 17),
  (17, (.putfield 34, 3), o_pI 1 6 20),
  (20, (.iconst 1, 1), o_ii 1 21),
  (21, (.ireturn, 1), o_rz)]
abbrev CX1_skip : aC := aCl tX1_skip 2
def rmX1_skip : Room := { frames := 2, cells := 0, slots := 0, locals := 21 }
set_option maxRecDepth 100000 in
theorem dX1_skip : tX1_skip.all (fun q => decide (decode cX1_skip q.1 = .ok q.2.1)) = true := by decide +kernel
set_option maxRecDepth 100000 in
set_option maxHeartbeats 4000000 in
theorem nX1_skip (l : Launch) : aMt l yX1_skip (Cond.code yX1_skip cX1_skip 2 (some .boolean) :: wsL_law) rmX1_skip CX1_skip := by
  refine aMt.of (own := RX1) (cc := cX1_skip) (maxL := 2) (ret := (some .boolean)) (by decide +kernel) rfl rfl ?_
  intro p e s m args below meth c Qc D Z ad P G A E hX hr hlk hE
  have up : ∀ w ∈ wsL_law, w ∈ (Cond.code yX1_skip cX1_skip 2 (some .boolean) :: wsL_law) := fun w h => List.mem_cons_of_mem _ h
  refine aImp_all _ dX1_skip ?_
  unfold tX1_skip
  refine aI_c (fun hd => s_al_n hX hd rfl rfl) ?_
  refine aI_c (fun hd => s_cV hX (T := TX1) (N := 8) (nX1_token l) rfl (wg_V up lmX1_48 loX1_token) rfl rfl rfl (by decide +kernel) ⟨by decide, by decide⟩ ⟨Nat.zero_le _, Nat.zero_le _⟩ hd rfl) ?_
  refine aI_c (fun hd => s_il_n hX hd rfl rfl) ?_
  refine aI_c (fun hd => s_ic_eq hX hd (by decide) rfl) ?_
  refine aI_c (fun hd => s_ii hX hd (by decide) rfl) ?_
  refine aI_c (fun hd => s_rz hX hr hlk hE hd) ?_
  refine aI_c (fun hd => s_al_n hX hd rfl rfl) ?_
  refine aI_c (fun hd => s_dup hX hd rfl) ?_
  refine aI_c (fun hd => s_gI hX (C := RX1) (T := TX1) (N := 8) (k := 6) rfl (fun w h => up w (inlX1 w h)) (by decide) rfl rfl rfl (up _ lkX1_34) hd rfl) ?_
  refine aI_c (fun hd => s_ii hX hd (by decide) rfl) ?_
  refine aI_c (fun hd => s_iadd hX hd rfl) ?_
  refine aI_c (fun hd => s_pI hX (C := RX1) (T := TX1) (N := 8) (k := 6) rfl (fun w h => up w (inlX1 w h)) (by decide) rfl rfl tyX1 tyX1_ok nmX1 rfl rfl rfl (up _ lkX1_34) hd rfl) ?_
  refine aI_c (fun hd => s_ii hX hd (by decide) rfl) ?_
  refine aI_c (fun hd => s_rz hX hr hlk hE hd) ?_
  exact trivial

-- JudgesByLoss$Reader.add(I)V
def tX1_add : aT := [
  (0, (.aload_n 0, 1), o_al 0 1),
  (1, (.getfield 37, 3), o_gI 1 7 4),
  (4, (.sipush 160, 3), o_ii 160 7),
  (7, (.if_icmp .ge 23, 3), o_ic (fun x y => y ≤ x) 30 10),
  (10, (.aload_n 0, 1), o_al 0 11),
  (11, (.getfield 21, 3), o_gF 1 4 14),
  (14, (.aload_n 0, 1), o_al 0 15),
  (15, (.getfield 37, 3), o_gI 1 7 18),
  (18, (.iload_n 1, 1), o_il 1 19),
  (19, (.iastore, 1), o_iast 20),
  (20, (.aload_n 0, 1), o_al 0 21),
  (21, (.dup, 1), o_dup 22),
  (22, (.getfield 37, 3), o_gI 1 7 25),
  (25, (.iconst 1, 1), o_ii 1 26),
  (26, (.iadd, 1), o_bi (fun x y => x + y) 27),
  (27, (.putfield 37, 3), o_pI 1 7 30),
  (30, (.return_, 1), o_rv)]
abbrev CX1_add : aC := aCl tX1_add 2
def rmX1_add : Room := { frames := 1, cells := 0, slots := 0, locals := 1 }
set_option maxRecDepth 100000 in
theorem dX1_add : tX1_add.all (fun q => decide (decode cX1_add q.1 = .ok q.2.1)) = true := by decide +kernel
set_option maxRecDepth 100000 in
set_option maxHeartbeats 4000000 in
theorem nX1_add (l : Launch) : aMt l yX1_add (Cond.code yX1_add cX1_add 2 none :: wsL_law) rmX1_add CX1_add := by
  refine aMt.of (own := RX1) (cc := cX1_add) (maxL := 2) (ret := none) (by decide +kernel) rfl rfl ?_
  intro p e s m args below meth c Qc D Z ad P G A E hX hr hlk hE
  have up : ∀ w ∈ wsL_law, w ∈ (Cond.code yX1_add cX1_add 2 none :: wsL_law) := fun w h => List.mem_cons_of_mem _ h
  refine aImp_all _ dX1_add ?_
  unfold tX1_add
  refine aI_c (fun hd => s_al_n hX hd rfl rfl) ?_
  refine aI_c (fun hd => s_gI hX (C := RX1) (T := TX1) (N := 8) (k := 7) rfl (fun w h => up w (inlX1 w h)) (by decide) rfl rfl rfl (up _ lkX1_37) hd rfl) ?_
  refine aI_c (fun hd => s_sp hX hd (by decide) rfl) ?_
  refine aI_c (fun hd => s_ic_ge hX hd (by decide) rfl) ?_
  refine aI_c (fun hd => s_al_n hX hd rfl rfl) ?_
  refine aI_c (fun hd => s_gF hX (C := RX1) (T := TX1) (N := 8) (k := 3) rfl (fun w h => up w (inlX1 w h)) (by decide) rfl rfl rfl (up _ lkX1_21) hd rfl) ?_
  refine aI_c (fun hd => s_al_n hX hd rfl rfl) ?_
  refine aI_c (fun hd => s_gI hX (C := RX1) (T := TX1) (N := 8) (k := 7) rfl (fun w h => up w (inlX1 w h)) (by decide) rfl rfl rfl (up _ lkX1_37) hd rfl) ?_
  refine aI_c (fun hd => s_il_n hX hd rfl rfl) ?_
  refine aI_c (fun hd => s_iast hX hd rfl) ?_
  refine aI_c (fun hd => s_al_n hX hd rfl rfl) ?_
  refine aI_c (fun hd => s_dup hX hd rfl) ?_
  refine aI_c (fun hd => s_gI hX (C := RX1) (T := TX1) (N := 8) (k := 7) rfl (fun w h => up w (inlX1 w h)) (by decide) rfl rfl rfl (up _ lkX1_37) hd rfl) ?_
  refine aI_c (fun hd => s_ii hX hd (by decide) rfl) ?_
  refine aI_c (fun hd => s_iadd hX hd rfl) ?_
  refine aI_c (fun hd => s_pI hX (C := RX1) (T := TX1) (N := 8) (k := 7) rfl (fun w h => up w (inlX1 w h)) (by decide) rfl rfl tyX1 tyX1_ok nmX1 rfl rfl rfl (up _ lkX1_37) hd rfl) ?_
  refine aI_c (fun hd => s_rv hX hr hlk hE hd) ?_
  exact trivial

-- JudgesByLoss$Reader.joins(II)Z
def tX1_joins : aT := [
  (0, (.iload_n 0, 1), o_il 0 1),
  (1, (.tableswitch 107 0 4 #[35, 47, 59, 77, 95], 35), o_sw [(0, 36), (1, 48), (2, 60), (3, 78), (4, 96)] 108),
  (36, (.iload_n 1, 1), o_il 1 37),
  (37, (.bipush (-7), 2), o_ii (-7) 39),
  (39, (.if_icmp .ne 7, 3), o_ic (fun x y => ¬ x = y) 46 42),
  (42, (.iconst 1, 1), o_ii 1 43),
  (43, (.goto 4, 3), o_go 47),
  (46, (.iconst 0, 1), o_ii 0 47),
  (47, (.ireturn, 1), o_rz),
  (48, (.iload_n 1, 1), o_il 1 49),
  (49, (.bipush (-8), 2), o_ii (-8) 51),
  (51, (.if_icmp .ne 7, 3), o_ic (fun x y => ¬ x = y) 58 54),
  (54, (.iconst 1, 1), o_ii 1 55),
  (55, (.goto 4, 3), o_go 59),
  (58, (.iconst 0, 1), o_ii 0 59),
  (59, (.ireturn, 1), o_rz),
  (60, (.iload_n 1, 1), o_il 1 61),
  (61, (.bipush (-10), 2), o_ii (-10) 63),
  (63, (.if_icmp .eq 9, 3), o_ic (fun x y => x = y) 72 66),
  (66, (.iload_n 1, 1), o_il 1 67),
  (67, (.bipush (-11), 2), o_ii (-11) 69),
  (69, (.if_icmp .ne 7, 3), o_ic (fun x y => ¬ x = y) 76 72),
  (72, (.iconst 1, 1), o_ii 1 73),
  (73, (.goto 4, 3), o_go 77),
  (76, (.iconst 0, 1), o_ii 0 77),
  (77, (.ireturn, 1), o_rz),
  (78, (.iload_n 1, 1), o_il 1 79),
  (79, (.bipush (-12), 2), o_ii (-12) 81),
  (81, (.if_icmp .eq 9, 3), o_ic (fun x y => x = y) 90 84),
  (84, (.iload_n 1, 1), o_il 1 85),
  (85, (.bipush (-13), 2), o_ii (-13) 87),
  (87, (.if_icmp .ne 7, 3), o_ic (fun x y => ¬ x = y) 94 90),
  (90, (.iconst 1, 1), o_ii 1 91),
  (91, (.goto 4, 3), o_go 95),
  (94, (.iconst 0, 1), o_ii 0 95),
  (95, (.ireturn, 1), o_rz),
  (96, (.iload_n 1, 1), o_il 1 97),
  (97, (.bipush (-14), 2), o_ii (-14) 99),
  (99, (.if_icmp .ne 7, 3), o_ic (fun x y => ¬ x = y) 106 102),
  (102, (.iconst 1, 1), o_ii 1 103),
  (103, (.goto 4, 3), o_go 107),
  (106, (.iconst 0, 1), o_ii 0 107),
  (107, (.ireturn, 1), o_rz),
  (108, (.iconst 0, 1), o_ii 0 109),
  (109, (.ireturn, 1), o_rz)]
abbrev CX1_joins : aC := aCl tX1_joins 2
def rmX1_joins : Room := { frames := 1, cells := 0, slots := 0, locals := 1 }
set_option maxRecDepth 100000 in
theorem dX1_joins : tX1_joins.all (fun q => decide (decode cX1_joins q.1 = .ok q.2.1)) = true := by decide +kernel
set_option maxRecDepth 100000 in
set_option maxHeartbeats 4000000 in
theorem nX1_joins (l : Launch) : aMt l yX1_joins (Cond.code yX1_joins cX1_joins 2 (some .boolean) :: wsL_law) rmX1_joins CX1_joins := by
  refine aMt.of (own := RX1) (cc := cX1_joins) (maxL := 2) (ret := (some .boolean)) (by decide +kernel) rfl rfl ?_
  intro p e s m args below meth c Qc D Z ad P G A E hX hr hlk hE
  have up : ∀ w ∈ wsL_law, w ∈ (Cond.code yX1_joins cX1_joins 2 (some .boolean) :: wsL_law) := fun w h => List.mem_cons_of_mem _ h
  refine aImp_all _ dX1_joins ?_
  unfold tX1_joins
  refine aI_c (fun hd => s_il_n hX hd rfl rfl) ?_
  refine aI_c (fun hd => s_sw hX hd (by decide) (by decide +kernel)) ?_
  refine aI_c (fun hd => s_il_n hX hd rfl rfl) ?_
  refine aI_c (fun hd => s_bp hX hd (by decide) rfl) ?_
  refine aI_c (fun hd => s_ic_ne hX hd (by decide) rfl) ?_
  refine aI_c (fun hd => s_ii hX hd (by decide) rfl) ?_
  refine aI_c (fun hd => s_go hX hd (by decide)) ?_
  refine aI_c (fun hd => s_ii hX hd (by decide) rfl) ?_
  refine aI_c (fun hd => s_rz hX hr hlk hE hd) ?_
  refine aI_c (fun hd => s_il_n hX hd rfl rfl) ?_
  refine aI_c (fun hd => s_bp hX hd (by decide) rfl) ?_
  refine aI_c (fun hd => s_ic_ne hX hd (by decide) rfl) ?_
  refine aI_c (fun hd => s_ii hX hd (by decide) rfl) ?_
  refine aI_c (fun hd => s_go hX hd (by decide)) ?_
  refine aI_c (fun hd => s_ii hX hd (by decide) rfl) ?_
  refine aI_c (fun hd => s_rz hX hr hlk hE hd) ?_
  refine aI_c (fun hd => s_il_n hX hd rfl rfl) ?_
  refine aI_c (fun hd => s_bp hX hd (by decide) rfl) ?_
  refine aI_c (fun hd => s_ic_eq hX hd (by decide) rfl) ?_
  refine aI_c (fun hd => s_il_n hX hd rfl rfl) ?_
  refine aI_c (fun hd => s_bp hX hd (by decide) rfl) ?_
  refine aI_c (fun hd => s_ic_ne hX hd (by decide) rfl) ?_
  refine aI_c (fun hd => s_ii hX hd (by decide) rfl) ?_
  refine aI_c (fun hd => s_go hX hd (by decide)) ?_
  refine aI_c (fun hd => s_ii hX hd (by decide) rfl) ?_
  refine aI_c (fun hd => s_rz hX hr hlk hE hd) ?_
  refine aI_c (fun hd => s_il_n hX hd rfl rfl) ?_
  refine aI_c (fun hd => s_bp hX hd (by decide) rfl) ?_
  refine aI_c (fun hd => s_ic_eq hX hd (by decide) rfl) ?_
  refine aI_c (fun hd => s_il_n hX hd rfl rfl) ?_
  refine aI_c (fun hd => s_bp hX hd (by decide) rfl) ?_
  refine aI_c (fun hd => s_ic_ne hX hd (by decide) rfl) ?_
  refine aI_c (fun hd => s_ii hX hd (by decide) rfl) ?_
  refine aI_c (fun hd => s_go hX hd (by decide)) ?_
  refine aI_c (fun hd => s_ii hX hd (by decide) rfl) ?_
  refine aI_c (fun hd => s_rz hX hr hlk hE hd) ?_
  refine aI_c (fun hd => s_il_n hX hd rfl rfl) ?_
  refine aI_c (fun hd => s_bp hX hd (by decide) rfl) ?_
  refine aI_c (fun hd => s_ic_ne hX hd (by decide) rfl) ?_
  refine aI_c (fun hd => s_ii hX hd (by decide) rfl) ?_
  refine aI_c (fun hd => s_go hX hd (by decide)) ?_
  refine aI_c (fun hd => s_ii hX hd (by decide) rfl) ?_
  refine aI_c (fun hd => s_rz hX hr hlk hE hd) ?_
  refine aI_c (fun hd => s_ii hX hd (by decide) rfl) ?_
  refine aI_c (fun hd => s_rz hX hr hlk hE hd) ?_
  exact trivial

-- JudgesByLoss$Reader.place()I
def tX1_place : aT := [
  (0, (.aload_n 0, 1), o_al 0 1),
  (1, (.getfield 34, 3), o_gI 1 6 4),
  (4, (.sipush 160, 3), o_ii 160 7),
  (7, (.if_icmp .gt 15, 3), o_ic (fun x y => y < x) 22 10),
  (10, (.aload_n 0, 1), o_al 0 11),
  (11, (.getfield 18, 3), o_gF 1 3 14),
  (14, (.aload_n 0, 1), o_al 0 15),
  (15, (.getfield 34, 3), o_gI 1 6 18),
  (18, (.iaload, 1), o_iald 19),
  (19, (.goto 7, 3), o_go 26),
  (22, (.aload_n 0, 1), o_al 0 23),
  (23, (.getfield 27, 3), o_gI 1 5 26),
  (26, (.ireturn, 1), o_ri)]
abbrev CX1_place : aC := aCl tX1_place 1
def rmX1_place : Room := { frames := 1, cells := 0, slots := 0, locals := 1 }
set_option maxRecDepth 100000 in
theorem dX1_place : tX1_place.all (fun q => decide (decode cX1_place q.1 = .ok q.2.1)) = true := by decide +kernel
set_option maxRecDepth 100000 in
set_option maxHeartbeats 4000000 in
theorem nX1_place (l : Launch) : aMt l yX1_place (Cond.code yX1_place cX1_place 1 (some .int) :: wsL_law) rmX1_place CX1_place := by
  refine aMt.of (own := RX1) (cc := cX1_place) (maxL := 1) (ret := (some .int)) (by decide +kernel) rfl rfl ?_
  intro p e s m args below meth c Qc D Z ad P G A E hX hr hlk hE
  have up : ∀ w ∈ wsL_law, w ∈ (Cond.code yX1_place cX1_place 1 (some .int) :: wsL_law) := fun w h => List.mem_cons_of_mem _ h
  refine aImp_all _ dX1_place ?_
  unfold tX1_place
  refine aI_c (fun hd => s_al_n hX hd rfl rfl) ?_
  refine aI_c (fun hd => s_gI hX (C := RX1) (T := TX1) (N := 8) (k := 6) rfl (fun w h => up w (inlX1 w h)) (by decide) rfl rfl rfl (up _ lkX1_34) hd rfl) ?_
  refine aI_c (fun hd => s_sp hX hd (by decide) rfl) ?_
  refine aI_c (fun hd => s_ic_gt hX hd (by decide) rfl) ?_
  refine aI_c (fun hd => s_al_n hX hd rfl rfl) ?_
  refine aI_c (fun hd => s_gF hX (C := RX1) (T := TX1) (N := 8) (k := 2) rfl (fun w h => up w (inlX1 w h)) (by decide) rfl rfl rfl (up _ lkX1_18) hd rfl) ?_
  refine aI_c (fun hd => s_al_n hX hd rfl rfl) ?_
  refine aI_c (fun hd => s_gI hX (C := RX1) (T := TX1) (N := 8) (k := 6) rfl (fun w h => up w (inlX1 w h)) (by decide) rfl rfl rfl (up _ lkX1_34) hd rfl) ?_
  refine aI_c (fun hd => s_iald hX hd rfl) ?_
  refine aI_c (fun hd => s_go hX hd (by decide)) ?_
  refine aI_c (fun hd => s_al_n hX hd rfl rfl) ?_
  refine aI_c (fun hd => s_gI hX (C := RX1) (T := TX1) (N := 8) (k := 5) rfl (fun w h => up w (inlX1 w h)) (by decide) rfl rfl rfl (up _ lkX1_27) hd rfl) ?_
  refine aI_c (fun hd => s_ri hX hr hlk hE hd) ?_
  exact trivial
