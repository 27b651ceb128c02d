-- JudgesByLoss$Reader.addByte(I)V
def tX1_addByte : aT := [
  (0, (.aload_n 0, 1), o_al 0 1),
  (1, (.getfield 27, 3), o_gI 1 5 4),
  (4, (.sipush 160, 3), o_ii 160 7),
  (7, (.if_icmp .ge 23, 3), o_ic (fun x y => y ≤ x) 30 10),
  (10, (.aload_n 0, 1), o_al 0 11),
  (11, (.getfield 9, 3), o_gF 1 1 14),
  (14, (.aload_n 0, 1), o_al 0 15),
  (15, (.getfield 27, 3), o_gI 1 5 18),
  (18, (.iload_n 1, 1), o_il 1 19),
  (19, (.iastore, 1), o_iast 20),
  (20, (.aload_n 0, 1), o_al 0 21),
  (21, (.dup, 1), o_dup 22),
  (22, (.getfield 27, 3), o_gI 1 5 25),
  (25, (.iconst 1, 1), o_ii 1 26),
  (26, (.iadd, 1), o_bi (fun x y => x + y) 27),
  (27, (.putfield 27, 3), o_pI 1 5 30),
  (30, (.return_, 1), o_rv)]
abbrev CX1_addByte : aC := aCl tX1_addByte 2
def rmX1_addByte : Room := { frames := 1, cells := 0, slots := 0, locals := 1 }
set_option maxRecDepth 100000 in
theorem dX1_addByte : tX1_addByte.all (fun q => decide (decode cX1_addByte q.1 = .ok q.2.1)) = true := by decide +kernel
set_option maxRecDepth 100000 in
set_option maxHeartbeats 4000000 in
theorem nX1_addByte (l : Launch) : aMt l yX1_addByte (Cond.code yX1_addByte cX1_addByte 2 none :: wsL_law) rmX1_addByte CX1_addByte := by
  refine aMt.of (own := RX1) (cc := cX1_addByte) (maxL := 2) (ret := none) (by decide +kernel) rfl rfl ?_
  intro p e s m args below meth c Qc D Z ad P G A E hX hr hlk hE
  have up : ∀ w ∈ wsL_law, w ∈ (Cond.code yX1_addByte cX1_addByte 2 none :: wsL_law) := fun w h => List.mem_cons_of_mem _ h
  refine aImp_all _ dX1_addByte ?_
  unfold tX1_addByte
  refine aI_c (fun hd => s_al_n hX hd rfl rfl) ?_
  refine aI_c (fun hd => s_gI hX (C := RX1) (T := TX1) (N := 8) (k := 5) rfl (fun w h => up w (inlX1 w h)) (by decide) rfl rfl rfl (up _ lkX1_27) hd rfl) ?_
  refine aI_c (fun hd => s_sp hX hd (by decide) rfl) ?_
  refine aI_c (fun hd => s_ic_ge hX hd (by decide) rfl) ?_
  refine aI_c (fun hd => s_al_n hX hd rfl rfl) ?_
  refine aI_c (fun hd => s_gF hX (C := RX1) (T := TX1) (N := 8) (k := 0) rfl (fun w h => up w (inlX1 w h)) (by decide) rfl rfl rfl (up _ lkX1_9) hd rfl) ?_
  refine aI_c (fun hd => s_al_n hX hd rfl rfl) ?_
  refine aI_c (fun hd => s_gI hX (C := RX1) (T := TX1) (N := 8) (k := 5) rfl (fun w h => up w (inlX1 w h)) (by decide) rfl rfl rfl (up _ lkX1_27) hd rfl) ?_
  refine aI_c (fun hd => s_il_n hX hd rfl rfl) ?_
  refine aI_c (fun hd => s_iast hX hd rfl) ?_
  refine aI_c (fun hd => s_al_n hX hd rfl rfl) ?_
  refine aI_c (fun hd => s_dup hX hd rfl) ?_
  refine aI_c (fun hd => s_gI hX (C := RX1) (T := TX1) (N := 8) (k := 5) rfl (fun w h => up w (inlX1 w h)) (by decide) rfl rfl rfl (up _ lkX1_27) hd rfl) ?_
  refine aI_c (fun hd => s_ii hX hd (by decide) rfl) ?_
  refine aI_c (fun hd => s_iadd hX hd rfl) ?_
  refine aI_c (fun hd => s_pI hX (C := RX1) (T := TX1) (N := 8) (k := 5) rfl (fun w h => up w (inlX1 w h)) (by decide) rfl rfl tyX1 tyX1_ok nmX1 rfl rfl rfl (up _ lkX1_27) hd rfl) ?_
  refine aI_c (fun hd => s_rv hX hr hlk hE hd) ?_
  exact trivial

-- JudgesByLoss$Reader.isLetter(I)Z
def tX1_isLetter : aT := [
  (0, (.iload_n 1, 1), o_il 1 1),
  (1, (.aload_n 0, 1), o_al 0 2),
  (2, (.getfield 27, 3), o_gI 1 5 5),
  (5, (.if_icmp .ge 29, 3), o_ic (fun x y => y ≤ x) 34 8),
  (8, (.aload_n 0, 1), o_al 0 9),
  (9, (.getfield 9, 3), o_gF 1 1 12),
  (12, (.iload_n 1, 1), o_il 1 13),
  (13, (.iaload, 1), o_iald 14),
  (14, (.bipush 97, 2), o_ii 97 16),
  (16, (.if_icmp .lt 18, 3), o_ic (fun x y => x < y) 34 19),
  (19, (.aload_n 0, 1), o_al 0 20),
  (20, (.getfield 9, 3), o_gF 1 1 23),
  (23, (.iload_n 1, 1), o_il 1 24),
  (24, (.iaload, 1), o_iald 25),
  (25, (.bipush 122, 2), o_ii 122 27),
  (27, (.if_icmp .gt 7, 3), o_ic (fun x y => y < x) 34 30),
  (30, (.iconst 1, 1), o_ii 1 31),
  (31, (.goto 4, 3), o_go 35),
  (34, (.iconst 0, 1), o_ii 0 35),
  (35, (.ireturn, 1), o_rz)]
abbrev CX1_isLetter : aC := aCl tX1_isLetter 2
def rmX1_isLetter : Room := { frames := 1, cells := 0, slots := 0, locals := 1 }
set_option maxRecDepth 100000 in
theorem dX1_isLetter : tX1_isLetter.all (fun q => decide (decode cX1_isLetter q.1 = .ok q.2.1)) = true := by decide +kernel
set_option maxRecDepth 100000 in
set_option maxHeartbeats 4000000 in
theorem nX1_isLetter (l : Launch) : aMt l yX1_isLetter (Cond.code yX1_isLetter cX1_isLetter 2 (some .boolean) :: wsL_law) rmX1_isLetter CX1_isLetter := by
  refine aMt.of (own := RX1) (cc := cX1_isLetter) (maxL := 2) (ret := (some .boolean)) (by decide +kernel) rfl rfl ?_
  intro p e s m args below meth c Qc D Z ad P G A E hX hr hlk hE
  have up : ∀ w ∈ wsL_law, w ∈ (Cond.code yX1_isLetter cX1_isLetter 2 (some .boolean) :: wsL_law) := fun w h => List.mem_cons_of_mem _ h
  refine aImp_all _ dX1_isLetter ?_
  unfold tX1_isLetter
  refine aI_c (fun hd => s_il_n hX hd rfl rfl) ?_
  refine aI_c (fun hd => s_al_n hX hd rfl rfl) ?_
  refine aI_c (fun hd => s_gI hX (C := RX1) (T := TX1) (N := 8) (k := 5) rfl (fun w h => up w (inlX1 w h)) (by decide) rfl rfl rfl (up _ lkX1_27) hd rfl) ?_
  refine aI_c (fun hd => s_ic_ge hX hd (by decide) rfl) ?_
  refine aI_c (fun hd => s_al_n hX hd rfl rfl) ?_
  refine aI_c (fun hd => s_gF hX (C := RX1) (T := TX1) (N := 8) (k := 0) rfl (fun w h => up w (inlX1 w h)) (by decide) rfl rfl rfl (up _ lkX1_9) hd rfl) ?_
  refine aI_c (fun hd => s_il_n hX hd rfl rfl) ?_
  refine aI_c (fun hd => s_iald hX hd rfl) ?_
  refine aI_c (fun hd => s_bp hX hd (by decide) rfl) ?_
  refine aI_c (fun hd => s_ic_lt hX hd (by decide) rfl) ?_
  refine aI_c (fun hd => s_al_n hX hd rfl rfl) ?_
  refine aI_c (fun hd => s_gF hX (C := RX1) (T := TX1) (N := 8) (k := 0) rfl (fun w h => up w (inlX1 w h)) (by decide) rfl rfl rfl (up _ lkX1_9) hd rfl) ?_
  refine aI_c (fun hd => s_il_n hX hd rfl rfl) ?_
  refine aI_c (fun hd => s_iald hX hd rfl) ?_
  refine aI_c (fun hd => s_bp hX hd (by decide) rfl) ?_
  refine aI_c (fun hd => s_ic_gt hX hd (by decide) rfl) ?_
  refine aI_c (fun hd => s_ii hX hd (by decide) rfl) ?_
  refine aI_c (fun hd => s_go hX hd (by decide)) ?_
  refine aI_c (fun hd => s_ii hX hd (by decide) rfl) ?_
  refine aI_c (fun hd => s_rz hX hr hlk hE hd) ?_
  exact trivial

-- JudgesByLoss$Reader.isDigit(I)Z
def tX1_isDigit : aT := [
  (0, (.iload_n 1, 1), o_il 1 1),
  (1, (.aload_n 0, 1), o_al 0 2),
  (2, (.getfield 27, 3), o_gI 1 5 5),
  (5, (.if_icmp .ge 29, 3), o_ic (fun x y => y ≤ x) 34 8),
  (8, (.aload_n 0, 1), o_al 0 9),
  (9, (.getfield 9, 3), o_gF 1 1 12),
  (12, (.iload_n 1, 1), o_il 1 13),
  (13, (.iaload, 1), o_iald 14),
  (14, (.bipush 48, 2), o_ii 48 16),
  (16, (.if_icmp .lt 18, 3), o_ic (fun x y => x < y) 34 19),
  (19, (.aload_n 0, 1), o_al 0 20),
  (20, (.getfield 9, 3), o_gF 1 1 23),
  (23, (.iload_n 1, 1), o_il 1 24),
  (24, (.iaload, 1), o_iald 25),
  (25, (.bipush 57, 2), o_ii 57 27),
  (27, (.if_icmp .gt 7, 3), o_ic (fun x y => y < x) 34 30),
  (30, (.iconst 1, 1), o_ii 1 31),
  (31, (.goto 4, 3), o_go 35),
  (34, (.iconst 0, 1), o_ii 0 35),
  (35, (.ireturn, 1), o_rz)]
abbrev CX1_isDigit : aC := aCl tX1_isDigit 2
def rmX1_isDigit : Room := { frames := 1, cells := 0, slots := 0, locals := 1 }
set_option maxRecDepth 100000 in
theorem dX1_isDigit : tX1_isDigit.all (fun q => decide (decode cX1_isDigit q.1 = .ok q.2.1)) = true := by decide +kernel
set_option maxRecDepth 100000 in
set_option maxHeartbeats 4000000 in
theorem nX1_isDigit (l : Launch) : aMt l yX1_isDigit (Cond.code yX1_isDigit cX1_isDigit 2 (some .boolean) :: wsL_law) rmX1_isDigit CX1_isDigit := by
  refine aMt.of (own := RX1) (cc := cX1_isDigit) (maxL := 2) (ret := (some .boolean)) (by decide +kernel) rfl rfl ?_
  intro p e s m args below meth c Qc D Z ad P G A E hX hr hlk hE
  have up : ∀ w ∈ wsL_law, w ∈ (Cond.code yX1_isDigit cX1_isDigit 2 (some .boolean) :: wsL_law) := fun w h => List.mem_cons_of_mem _ h
  refine aImp_all _ dX1_isDigit ?_
  unfold tX1_isDigit
  refine aI_c (fun hd => s_il_n hX hd rfl rfl) ?_
  refine aI_c (fun hd => s_al_n hX hd rfl rfl) ?_
  refine aI_c (fun hd => s_gI hX (C := RX1) (T := TX1) (N := 8) (k := 5) rfl (fun w h => up w (inlX1 w h)) (by decide) rfl rfl rfl (up _ lkX1_27) hd rfl) ?_
  refine aI_c (fun hd => s_ic_ge hX hd (by decide) rfl) ?_
  refine aI_c (fun hd => s_al_n hX hd rfl rfl) ?_
  refine aI_c (fun hd => s_gF hX (C := RX1) (T := TX1) (N := 8) (k := 0) rfl (fun w h => up w (inlX1 w h)) (by decide) rfl rfl rfl (up _ lkX1_9) hd rfl) ?_
  refine aI_c (fun hd => s_il_n hX hd rfl rfl) ?_
  refine aI_c (fun hd => s_iald hX hd rfl) ?_
  refine aI_c (fun hd => s_bp hX hd (by decide) rfl) ?_
  refine aI_c (fun hd => s_ic_lt hX hd (by decide) rfl) ?_
  refine aI_c (fun hd => s_al_n hX hd rfl rfl) ?_
  refine aI_c (fun hd => s_gF hX (C := RX1) (T := TX1) (N := 8) (k := 0) rfl (fun w h => up w (inlX1 w h)) (by decide) rfl rfl rfl (up _ lkX1_9) hd rfl) ?_
  refine aI_c (fun hd => s_il_n hX hd rfl rfl) ?_
  refine aI_c (fun hd => s_iald hX hd rfl) ?_
  refine aI_c (fun hd => s_bp hX hd (by decide) rfl) ?_
  refine aI_c (fun hd => s_ic_gt hX hd (by decide) rfl) ?_
  refine aI_c (fun hd => s_ii hX hd (by decide) rfl) ?_
  refine aI_c (fun hd => s_go hX hd (by decide)) ?_
  refine aI_c (fun hd => s_ii hX hd (by decide) rfl) ?_
  refine aI_c (fun hd => s_rz hX hr hlk hE hd) ?_
  exact trivial

-- JudgesByLoss$Reader.endOfToken(I)I
def tX1_endOfToken : aT := [
  (0, (.iload_n 1, 1), o_il 1 1),
  (1, (.istore_n 2, 1), o_is 2 2),
  (2, (.aload_n 0, 1), o_al 0 3),
  (3, (.iload_n 1, 1), o_il 1 4),
  (4, (.invokevirtual 98, 3), o_cV CX1_isLetter 1 1 7),
  (7, (.ifCond .eq 25, 3), o_if (fun x => x = 0) 32 10),
  (10, (.iload_n 2, 1), o_mk [false, true, false] (o_il 2 11)),
  (11, (.aload_n 0, 1), o_al 0 12),
  (12, (.getfield 27, 3), o_gI 1 5 15),
  (15, (.if_icmp .ge 58, 3), o_ic (fun x y => y ≤ x) 73 18),
  (18, (.aload_n 0, 1), o_al 0 19),
  (19, (.iload_n 2, 1), o_il 2 20),
  (20, (.invokevirtual 98, 3), o_cV CX1_isLetter 1 1 23),
  (23, (.ifCond .eq 50, 3), o_if (fun x => x = 0) 73 26),
  (26, (.iinc 2 1, 3), o_inc 2 1 29),
  (29, (.goto (-19), 3), o_go 10),
  (32, (.aload_n 0, 1), o_al 0 33),
  (33, (.iload_n 1, 1), o_il 1 34),
  (34, (.invokevirtual 101, 3), o_cV CX1_isDigit 1 1 37),
  (37, (.ifCond .eq 25, 3), o_if (fun x => x = 0) 62 40),
  (40, (.iload_n 2, 1), o_mk [false, true, false] (o_il 2 41)),
  (41, (.aload_n 0, 1), o_al 0 42),
  (42, (.getfield 27, 3), o_gI 1 5 45),
  (45, (.if_icmp .ge 28, 3), o_ic (fun x y => y ≤ x) 73 48),
  (48, (.aload_n 0, 1), o_al 0 49),
  (49, (.iload_n 2, 1), o_il 2 50),
  (50, (.invokevirtual 101, 3), o_cV CX1_isDigit 1 1 53),
  (53, (.ifCond .eq 20, 3), o_if (fun x => x = 0) 73 56),
  (56, (.iinc 2 1, 3), o_inc 2 1 59),
  (59, (.goto (-19), 3), o_go 40),
  (62, (.iload_n 1, 1), o_il 1 63),
  (63, (.aload_n 0, 1), o_al 0 64),
  (64, (.getfield 27, 3), o_gI 1 5 67),
  (67, (.if_icmp .ge 6, 3), o_ic (fun x y => y ≤ x) 73 70),
  (70, (.iinc 2 1, 3), o_inc 2 1 73),
  (73, (.iload_n 2, 1), o_il 2 74),
  (74, (.ireturn, 1), o_ri)]
abbrev CX1_endOfToken : aC := aCl tX1_endOfToken 3
def rmX1_endOfToken : Room := { frames := 2, cells := 0, slots := 0, locals := 22 }
set_option maxRecDepth 100000 in
theorem dX1_endOfToken : tX1_endOfToken.all (fun q => decide (decode cX1_endOfToken q.1 = .ok q.2.1)) = true := by decide +kernel
set_option maxRecDepth 100000 in
set_option maxHeartbeats 4000000 in
theorem nX1_endOfToken (l : Launch) : aMt l yX1_endOfToken (Cond.code yX1_endOfToken cX1_endOfToken 3 (some .int) :: wsL_law) rmX1_endOfToken CX1_endOfToken := by
  refine aMt.of (own := RX1) (cc := cX1_endOfToken) (maxL := 3) (ret := (some .int)) (by decide +kernel) rfl rfl ?_
  intro p e s m args below meth c Qc D Z ad P G A E hX hr hlk hE
  have up : ∀ w ∈ wsL_law, w ∈ (Cond.code yX1_endOfToken cX1_endOfToken 3 (some .int) :: wsL_law) := fun w h => List.mem_cons_of_mem _ h
  refine aImp_all _ dX1_endOfToken ?_
  unfold tX1_endOfToken
  refine aI_c (fun hd => s_il_n hX hd rfl rfl) ?_
  refine aI_c (fun hd => s_is_n hX hd rfl rfl (by decide)) ?_
  refine aI_c (fun hd => s_al_n hX hd rfl rfl) ?_
  refine aI_c (fun hd => s_il_n hX hd rfl rfl) ?_
  refine aI_c (fun hd => s_cV hX (T := TX1) (N := 8) (nX1_isLetter l) rfl (wg_V up lmX1_98 loX1_isLetter) rfl rfl rfl (by decide +kernel) ⟨by decide, by decide⟩ ⟨Nat.zero_le _, Nat.zero_le _⟩ hd rfl) ?_
  refine aI_c (fun hd => s_if_eq hX hd (by decide) rfl) ?_
  refine aI_c (fun hd => s_mk (s_il_n hX hd rfl rfl)) ?_
  refine aI_c (fun hd => s_al_n hX hd rfl rfl) ?_
  refine aI_c (fun hd => s_gI hX (C := RX1) (T := TX1) (N := 8) (k := 5) rfl (fun w h => up w (inlX1 w h)) (by decide) rfl rfl rfl (up _ lkX1_27) hd rfl) ?_
  refine aI_c (fun hd => s_ic_ge hX hd (by decide) rfl) ?_
  refine aI_c (fun hd => s_al_n hX hd rfl rfl) ?_
  refine aI_c (fun hd => s_il_n hX hd rfl rfl) ?_
  refine aI_c (fun hd => s_cV hX (T := TX1) (N := 8) (nX1_isLetter l) rfl (wg_V up lmX1_98 loX1_isLetter) rfl rfl rfl (by decide +kernel) ⟨by decide, by decide⟩ ⟨Nat.zero_le _, Nat.zero_le _⟩ hd rfl) ?_
  refine aI_c (fun hd => s_if_eq hX hd (by decide) rfl) ?_
  refine aI_c (fun hd => s_inc hX hd (by decide) rfl (by decide)) ?_
  refine aI_c (fun hd => s_go hX hd (by decide)) ?_
  refine aI_c (fun hd => s_al_n hX hd rfl rfl) ?_
  refine aI_c (fun hd => s_il_n hX hd rfl rfl) ?_
  refine aI_c (fun hd => s_cV hX (T := TX1) (N := 8) (nX1_isDigit l) rfl (wg_V up lmX1_101 loX1_isDigit) rfl rfl rfl (by decide +kernel) ⟨by decide, by decide⟩ ⟨Nat.zero_le _, Nat.zero_le _⟩ hd rfl) ?_
  refine aI_c (fun hd => s_if_eq hX hd (by decide) rfl) ?_
  refine aI_c (fun hd => s_mk (s_il_n hX hd rfl rfl)) ?_
  refine aI_c (fun hd => s_al_n hX hd rfl rfl) ?_
  refine aI_c (fun hd => s_gI hX (C := RX1) (T := TX1) (N := 8) (k := 5) rfl (fun w h => up w (inlX1 w h)) (by decide) rfl rfl rfl (up _ lkX1_27) hd rfl) ?_
  refine aI_c (fun hd => s_ic_ge hX hd (by decide) rfl) ?_
  refine aI_c (fun hd => s_al_n hX hd rfl rfl) ?_
  refine aI_c (fun hd => s_il_n hX hd rfl rfl) ?_
  refine aI_c (fun hd => s_cV hX (T := TX1) (N := 8) (nX1_isDigit l) rfl (wg_V up lmX1_101 loX1_isDigit) rfl rfl rfl (by decide +kernel) ⟨by decide, by decide⟩ ⟨Nat.zero_le _, Nat.zero_le _⟩ hd rfl) ?_
  refine aI_c (fun hd => s_if_eq hX hd (by decide) rfl) ?_
  refine aI_c (fun hd => s_inc hX hd (by decide) rfl (by decide)) ?_
  refine aI_c (fun hd => s_go hX hd (by decide)) ?_
  refine aI_c (fun hd => s_il_n hX hd rfl rfl) ?_
  refine aI_c (fun hd => s_al_n hX hd rfl rfl) ?_
  refine aI_c (fun hd => s_gI hX (C := RX1) (T := TX1) (N := 8) (k := 5) rfl (fun w h => up w (inlX1 w h)) (by decide) rfl rfl rfl (up _ lkX1_27) hd rfl) ?_
  refine aI_c (fun hd => s_ic_ge hX hd (by decide) rfl) ?_
  refine aI_c (fun hd => s_inc hX hd (by decide) rfl (by decide)) ?_
  refine aI_c (fun hd => s_il_n hX hd rfl rfl) ?_
  refine aI_c (fun hd => s_ri hX hr hlk hE hd) ?_
  exact trivial

-- J0.coder()B
def tJ0_coder_7d493 : aT := [
  (0, (.getstatic 38, 3), o_cmp 3),
  (3, (.ifCond .eq 10, 3), o_if (fun x => x = 0) 13 6),
  (6, (.aload_n 0, 1), o_al 0 7),
  (7, (.getfield 15, 3), o_sgc 10),
  (10, (.goto 4, 3), o_go 14),
  (13, (.iconst 1, 1), o_ii 1 14),
  (14, (.ireturn, 1), o_rt .byte)]
abbrev CJ0_coder_7d493 : aC := aCl tJ0_coder_7d493 1
def rmJ0_coder_7d493 : Room := { frames := 1, cells := 0, slots := 0, locals := 1 }
set_option maxRecDepth 100000 in
theorem dJ0_coder_7d493 : tJ0_coder_7d493.all (fun q => decide (decode cJ0_coder_7d493 q.1 = .ok q.2.1)) = true := by decide +kernel
set_option maxRecDepth 100000 in
set_option maxHeartbeats 4000000 in
theorem nJ0_coder_7d493 (l : Launch) : aMt l yJ0_coder_7d493 (Cond.code yJ0_coder_7d493 cJ0_coder_7d493 1 (some .byte) :: wsL_law) rmJ0_coder_7d493 CJ0_coder_7d493 := by
  refine aMt.of (own := RJ0) (cc := cJ0_coder_7d493) (maxL := 1) (ret := (some .byte)) (by decide +kernel) rfl rfl ?_
  intro p e s m args below meth c Qc D Z ad P G A E hX hr hlk hE
  have up : ∀ w ∈ wsL_law, w ∈ (Cond.code yJ0_coder_7d493 cJ0_coder_7d493 1 (some .byte) :: wsL_law) := fun w h => List.mem_cons_of_mem _ h
  refine aImp_all _ dJ0_coder_7d493 ?_
  unfold tJ0_coder_7d493
  refine aI_c (fun hd => s_cmp hX (up _ lkJ0_38) hd rfl) ?_
  refine aI_c (fun hd => s_if_eq hX hd (by decide) rfl) ?_
  refine aI_c (fun hd => s_al_n hX hd rfl rfl) ?_
  refine aI_c (fun hd => s_sgc hX (up _ lkJ0_15) hd rfl) ?_
  refine aI_c (fun hd => s_go hX hd (by decide)) ?_
  refine aI_c (fun hd => s_ii hX hd (by decide) rfl) ?_
  refine aI_c (fun hd => s_rt hX hr hlk hE hd) ?_
  exact trivial

-- J0.length()I
def tJ0_length_8abf5 : aT := [
  (0, (.aload_n 0, 1), o_al 0 1),
  (1, (.getfield 9, 3), o_sgv 4),
  (4, (.arraylength, 1), o_sal 5),
  (5, (.aload_n 0, 1), o_al 0 6),
  (6, (.invokevirtual 335, 3), o_cVs CJ0_coder_7d493 0 9),
  (9, (.ishr, 1), o_bi (fun x y => x >>> (y &&& 31)) 10),
  (10, (.ireturn, 1), o_ri)]
abbrev CJ0_length_8abf5 : aC := aCl tJ0_length_8abf5 1
def rmJ0_length_8abf5 : Room := { frames := 2, cells := 0, slots := 0, locals := 21 }
set_option maxRecDepth 100000 in
theorem dJ0_length_8abf5 : tJ0_length_8abf5.all (fun q => decide (decode cJ0_length_8abf5 q.1 = .ok q.2.1)) = true := by decide +kernel
set_option maxRecDepth 100000 in
set_option maxHeartbeats 4000000 in
theorem nJ0_length_8abf5 (l : Launch) : aMt l yJ0_length_8abf5 (Cond.code yJ0_length_8abf5 cJ0_length_8abf5 1 (some .int) :: wsL_law) rmJ0_length_8abf5 CJ0_length_8abf5 := by
  refine aMt.of (own := RJ0) (cc := cJ0_length_8abf5) (maxL := 1) (ret := (some .int)) (by decide +kernel) rfl rfl ?_
  intro p e s m args below meth c Qc D Z ad P G A E hX hr hlk hE
  have up : ∀ w ∈ wsL_law, w ∈ (Cond.code yJ0_length_8abf5 cJ0_length_8abf5 1 (some .int) :: wsL_law) := fun w h => List.mem_cons_of_mem _ h
  refine aImp_all _ dJ0_length_8abf5 ?_
  unfold tJ0_length_8abf5
  refine aI_c (fun hd => s_al_n hX hd rfl rfl) ?_
  refine aI_c (fun hd => s_sgv hX (up _ lkJ0_9) hd rfl) ?_
  refine aI_c (fun hd => s_sal hX hd rfl) ?_
  refine aI_c (fun hd => s_al_n hX hd rfl rfl) ?_
  refine aI_c (fun hd => s_cVs hX (nJ0_coder_7d493 l) (wg_V up lmJ0_335 loJ0_coder_7d493) rfl rfl rfl (by decide +kernel) ⟨by decide, by decide⟩ ⟨Nat.zero_le _, Nat.zero_le _⟩ hd rfl) ?_
  refine aI_c (fun hd => s_ishr hX hd rfl) ?_
  refine aI_c (fun hd => s_ri hX hr hlk hE hd) ?_
  exact trivial

-- J0.isLatin1()Z
def tJ0_isLatin1_aae02 : aT := [
  (0, (.getstatic 38, 3), o_cmp 3),
  (3, (.ifCond .eq 14, 3), o_if (fun x => x = 0) 17 6),
  (6, (.aload_n 0, 1), o_al 0 7),
  (7, (.getfield 15, 3), o_sgc 10),
  (10, (.ifCond .ne 7, 3), o_if (fun x => ¬ x = 0) 17 13),
  (13, (.iconst 1, 1), o_ii 1 14),
  (14, (.goto 4, 3), o_go 18),
  (17, (.iconst 0, 1), o_ii 0 18),
  (18, (.ireturn, 1), o_rz)]
abbrev CJ0_isLatin1_aae02 : aC := aCl tJ0_isLatin1_aae02 1
def rmJ0_isLatin1_aae02 : Room := { frames := 1, cells := 0, slots := 0, locals := 1 }
set_option maxRecDepth 100000 in
theorem dJ0_isLatin1_aae02 : tJ0_isLatin1_aae02.all (fun q => decide (decode cJ0_isLatin1_aae02 q.1 = .ok q.2.1)) = true := by decide +kernel
set_option maxRecDepth 100000 in
set_option maxHeartbeats 4000000 in
theorem nJ0_isLatin1_aae02 (l : Launch) : aMt l yJ0_isLatin1_aae02 (Cond.code yJ0_isLatin1_aae02 cJ0_isLatin1_aae02 1 (some .boolean) :: wsL_law) rmJ0_isLatin1_aae02 CJ0_isLatin1_aae02 := by
  refine aMt.of (own := RJ0) (cc := cJ0_isLatin1_aae02) (maxL := 1) (ret := (some .boolean)) (by decide +kernel) rfl rfl ?_
  intro p e s m args below meth c Qc D Z ad P G A E hX hr hlk hE
  have up : ∀ w ∈ wsL_law, w ∈ (Cond.code yJ0_isLatin1_aae02 cJ0_isLatin1_aae02 1 (some .boolean) :: wsL_law) := fun w h => List.mem_cons_of_mem _ h
  refine aImp_all _ dJ0_isLatin1_aae02 ?_
  unfold tJ0_isLatin1_aae02
  refine aI_c (fun hd => s_cmp hX (up _ lkJ0_38) hd rfl) ?_
  refine aI_c (fun hd => s_if_eq hX hd (by decide) rfl) ?_
  refine aI_c (fun hd => s_al_n hX hd rfl rfl) ?_
  refine aI_c (fun hd => s_sgc hX (up _ lkJ0_15) hd rfl) ?_
  refine aI_c (fun hd => s_if_ne hX hd (by decide) rfl) ?_
  refine aI_c (fun hd => s_ii hX hd (by decide) rfl) ?_
  refine aI_c (fun hd => s_go hX hd (by decide)) ?_
  refine aI_c (fun hd => s_ii hX hd (by decide) rfl) ?_
  refine aI_c (fun hd => s_rz hX hr hlk hE hd) ?_
  exact trivial

-- J3.checkIndex(IILjava/util/function/BiFunction;)I
def tJ3_checkIndex_8e157 : aT := [
  (0, (.iload_n 0, 1), o_il 0 1),
  (1, (.ifCond .lt 8, 3), o_if (fun x => x < 0) 9 4),
  (4, (.iload_n 0, 1), o_il 0 5),
  (5, (.iload_n 1, 1), o_il 1 6),
  (6, (.if_icmp .lt 10, 3), o_ic (fun x y => x < y) 16 9),
  (9, (.aload_n 2, 1), o_no),
  (10, (.iload_n 0, 1), o_no),
  (11, (.iload_n 1, 1), o_no),
  (12, (.invokestatic 95, 3), o_no),
  (15, (.athrow, 1), o_no),
  (16, (.iload_n 0, 1), o_il 0 17),
  (17, (.ireturn, 1), o_ri)]
abbrev CJ3_checkIndex_8e157 : aC := aCl tJ3_checkIndex_8e157 3
def rmJ3_checkIndex_8e157 : Room := { frames := 1, cells := 0, slots := 0, locals := 1 }
set_option maxRecDepth 100000 in
theorem dJ3_checkIndex_8e157 : tJ3_checkIndex_8e157.all (fun q => decide (decode cJ3_checkIndex_8e157 q.1 = .ok q.2.1)) = true := by decide +kernel
set_option maxRecDepth 100000 in
set_option maxHeartbeats 4000000 in
theorem nJ3_checkIndex_8e157 (l : Launch) : aMt l yJ3_checkIndex_8e157 (Cond.code yJ3_checkIndex_8e157 cJ3_checkIndex_8e157 3 (some .int) :: wsL_law) rmJ3_checkIndex_8e157 CJ3_checkIndex_8e157 := by
  refine aMt.of (own := RJ3) (cc := cJ3_checkIndex_8e157) (maxL := 3) (ret := (some .int)) (by decide +kernel) rfl rfl ?_
  intro p e s m args below meth c Qc D Z ad P G A E hX hr hlk hE
  have up : ∀ w ∈ wsL_law, w ∈ (Cond.code yJ3_checkIndex_8e157 cJ3_checkIndex_8e157 3 (some .int) :: wsL_law) := fun w h => List.mem_cons_of_mem _ h
  refine aImp_all _ dJ3_checkIndex_8e157 ?_
  unfold tJ3_checkIndex_8e157
  refine aI_c (fun hd => s_il_n hX hd rfl rfl) ?_
  refine aI_c (fun hd => s_if_lt hX hd (by decide) rfl) ?_
  refine aI_c (fun hd => s_il_n hX hd rfl rfl) ?_
  refine aI_c (fun hd => s_il_n hX hd rfl rfl) ?_
  refine aI_c (fun hd => s_ic_lt hX hd (by decide) rfl) ?_
  refine aI_c (fun hd => s_no) ?_
  refine aI_c (fun hd => s_no) ?_
  refine aI_c (fun hd => s_no) ?_
  refine aI_c (fun hd => s_no) ?_
  refine aI_c (fun hd => s_no) ?_
  refine aI_c (fun hd => s_il_n hX hd rfl rfl) ?_
  refine aI_c (fun hd => s_ri hX hr hlk hE hd) ?_
  exact trivial

-- J0.checkIndex(II)V
def tJ0_checkIndex_df160 : aT := [
  (0, (.iload_n 0, 1), o_il 0 1),
  (1, (.iload_n 1, 1), o_il 1 2),
  (2, (.getstatic 1053, 3), o_gsq 5),
  (5, (.invokestatic 1059, 3), o_cS CJ3_checkIndex_8e157 3 8),
  (8, (.pop, 1), o_pop 9),
  (9, (.return_, 1), o_rv)]
abbrev CJ0_checkIndex_df160 : aC := aCl tJ0_checkIndex_df160 2
def rmJ0_checkIndex_df160 : Room := { frames := 2, cells := 0, slots := 0, locals := 23 }
set_option maxRecDepth 100000 in
theorem dJ0_checkIndex_df160 : tJ0_checkIndex_df160.all (fun q => decide (decode cJ0_checkIndex_df160 q.1 = .ok q.2.1)) = true := by decide +kernel
set_option maxRecDepth 100000 in
set_option maxHeartbeats 4000000 in
theorem nJ0_checkIndex_df160 (l : Launch) : aMt l yJ0_checkIndex_df160 (Cond.code yJ0_checkIndex_df160 cJ0_checkIndex_df160 2 none :: wsL_law) rmJ0_checkIndex_df160 CJ0_checkIndex_df160 := by
  refine aMt.of (own := RJ0) (cc := cJ0_checkIndex_df160) (maxL := 2) (ret := none) (by decide +kernel) rfl rfl ?_
  intro p e s m args below meth c Qc D Z ad P G A E hX hr hlk hE
  have up : ∀ w ∈ wsL_law, w ∈ (Cond.code yJ0_checkIndex_df160 cJ0_checkIndex_df160 2 none :: wsL_law) := fun w h => List.mem_cons_of_mem _ h
  refine aImp_all _ dJ0_checkIndex_df160 ?_
  unfold tJ0_checkIndex_df160
  refine aI_c (fun hd => s_il_n hX hd rfl rfl) ?_
  refine aI_c (fun hd => s_il_n hX hd rfl rfl) ?_
  refine aI_c (fun hd => s_gsq hX (up _ lkJ0_1053) hd rfl) ?_
  refine aI_c (fun hd => s_cS hX (nJ3_checkIndex_8e157 l) (wg_S up lmJ0_1059 loJ3_checkIndex_8e157) rfl rfl rfl (by decide +kernel) ⟨by decide, by decide⟩ ⟨Nat.zero_le _, Nat.zero_le _⟩ hd rfl) ?_
  refine aI_c (fun hd => s_pop hX hd rfl) ?_
  refine aI_c (fun hd => s_rv hX hr hlk hE hd) ?_
  exact trivial

-- J1.charAt([BI)C
def tJ1_charAt_3b067 : aT := [
  (0, (.iload_n 1, 1), o_il 1 1),
  (1, (.aload_n 0, 1), o_al 0 2),
  (2, (.arraylength, 1), o_sal 3),
  (3, (.invokestatic 9, 3), o_cS CJ0_checkIndex_df160 2 6),
  (6, (.aload_n 0, 1), o_al 0 7),
  (7, (.iload_n 1, 1), o_il 1 8),
  (8, (.baload, 1), o_sbl 9),
  (9, (.sipush 255, 3), o_ii 255 12),
  (12, (.iand, 1), o_bi (fun x y => x &&& y) 13),
  (13, (.i2c, 1), o_ui (fun x => (x.toUInt32 % 65536).toInt32) 14),
  (14, (.ireturn, 1), o_rt .char)]
abbrev CJ1_charAt_3b067 : aC := aCl tJ1_charAt_3b067 2
def rmJ1_charAt_3b067 : Room := { frames := 3, cells := 0, slots := 0, locals := 44 }
set_option maxRecDepth 100000 in
theorem dJ1_charAt_3b067 : tJ1_charAt_3b067.all (fun q => decide (decode cJ1_charAt_3b067 q.1 = .ok q.2.1)) = true := by decide +kernel
set_option maxRecDepth 100000 in
set_option maxHeartbeats 4000000 in
theorem nJ1_charAt_3b067 (l : Launch) : aMt l yJ1_charAt_3b067 (Cond.code yJ1_charAt_3b067 cJ1_charAt_3b067 2 (some .char) :: wsL_law) rmJ1_charAt_3b067 CJ1_charAt_3b067 := by
  refine aMt.of (own := RJ1) (cc := cJ1_charAt_3b067) (maxL := 2) (ret := (some .char)) (by decide +kernel) rfl rfl ?_
  intro p e s m args below meth c Qc D Z ad P G A E hX hr hlk hE
  have up : ∀ w ∈ wsL_law, w ∈ (Cond.code yJ1_charAt_3b067 cJ1_charAt_3b067 2 (some .char) :: wsL_law) := fun w h => List.mem_cons_of_mem _ h
  refine aImp_all _ dJ1_charAt_3b067 ?_
  unfold tJ1_charAt_3b067
  refine aI_c (fun hd => s_il_n hX hd rfl rfl) ?_
  refine aI_c (fun hd => s_al_n hX hd rfl rfl) ?_
  refine aI_c (fun hd => s_sal hX hd rfl) ?_
  refine aI_c (fun hd => s_cS hX (nJ0_checkIndex_df160 l) (wg_S up lmJ1_9 loJ0_checkIndex_df160) rfl rfl rfl (by decide +kernel) ⟨by decide, by decide⟩ ⟨Nat.zero_le _, Nat.zero_le _⟩ hd rfl) ?_
  refine aI_c (fun hd => s_al_n hX hd rfl rfl) ?_
  refine aI_c (fun hd => s_il_n hX hd rfl rfl) ?_
  refine aI_c (fun hd => s_sbl hX hd rfl) ?_
  refine aI_c (fun hd => s_sp hX hd (by decide) rfl) ?_
  refine aI_c (fun hd => s_iand hX hd rfl) ?_
  refine aI_c (fun hd => s_i2c hX hd rfl) ?_
  refine aI_c (fun hd => s_rt hX hr hlk hE hd) ?_
  exact trivial

-- J0.charAt(I)C
def tJ0_charAt_5068e : aT := [
  (0, (.aload_n 0, 1), o_al 0 1),
  (1, (.invokevirtual 492, 3), o_cVs CJ0_isLatin1_aae02 0 4),
  (4, (.ifCond .eq 12, 3), o_if (fun x => x = 0) 16 7),
  (7, (.aload_n 0, 1), o_al 0 8),
  (8, (.getfield 9, 3), o_sgv 11),
  (11, (.iload_n 1, 1), o_il 1 12),
  (12, (.invokestatic 495, 3), o_cS CJ1_charAt_3b067 2 15),
  (15, (.ireturn, 1), o_rt .char),
  (16, (.aload_n 0, 1), o_no),
  (17, (.getfield 9, 3), o_sgv 20),
  (20, (.iload_n 1, 1), o_no),
  (21, (.invokestatic 498, 3), o_no),
  (24, (.ireturn, 1), o_no)]
abbrev CJ0_charAt_5068e : aC := aCl tJ0_charAt_5068e 2
def rmJ0_charAt_5068e : Room := { frames := 4, cells := 0, slots := 0, locals := 65 }
set_option maxRecDepth 100000 in
theorem dJ0_charAt_5068e : tJ0_charAt_5068e.all (fun q => decide (decode cJ0_charAt_5068e q.1 = .ok q.2.1)) = true := by decide +kernel
set_option maxRecDepth 100000 in
set_option maxHeartbeats 4000000 in
theorem nJ0_charAt_5068e (l : Launch) : aMt l yJ0_charAt_5068e (Cond.code yJ0_charAt_5068e cJ0_charAt_5068e 2 (some .char) :: wsL_law) rmJ0_charAt_5068e CJ0_charAt_5068e := by
  refine aMt.of (own := RJ0) (cc := cJ0_charAt_5068e) (maxL := 2) (ret := (some .char)) (by decide +kernel) rfl rfl ?_
  intro p e s m args below meth c Qc D Z ad P G A E hX hr hlk hE
  have up : ∀ w ∈ wsL_law, w ∈ (Cond.code yJ0_charAt_5068e cJ0_charAt_5068e 2 (some .char) :: wsL_law) := fun w h => List.mem_cons_of_mem _ h
  refine aImp_all _ dJ0_charAt_5068e ?_
  unfold tJ0_charAt_5068e
  refine aI_c (fun hd => s_al_n hX hd rfl rfl) ?_
  refine aI_c (fun hd => s_cVs hX (nJ0_isLatin1_aae02 l) (wg_V up lmJ0_492 loJ0_isLatin1_aae02) rfl rfl rfl (by decide +kernel) ⟨by decide, by decide⟩ ⟨Nat.zero_le _, Nat.zero_le _⟩ hd rfl) ?_
  refine aI_c (fun hd => s_if_eq hX hd (by decide) rfl) ?_
  refine aI_c (fun hd => s_al_n hX hd rfl rfl) ?_
  refine aI_c (fun hd => s_sgv hX (up _ lkJ0_9) hd rfl) ?_
  refine aI_c (fun hd => s_il_n hX hd rfl rfl) ?_
  refine aI_c (fun hd => s_cS hX (nJ1_charAt_3b067 l) (wg_S up lmJ0_495 loJ1_charAt_3b067) rfl rfl rfl (by decide +kernel) ⟨by decide, by decide⟩ ⟨Nat.zero_le _, Nat.zero_le _⟩ hd rfl) ?_
  refine aI_c (fun hd => s_rt hX hr hlk hE hd) ?_
  refine aI_c (fun hd => s_no) ?_
  refine aI_c (fun hd => s_sgv hX (up _ lkJ0_9) hd rfl) ?_
  refine aI_c (fun hd => s_no) ?_
  refine aI_c (fun hd => s_no) ?_
  refine aI_c (fun hd => s_no) ?_
  exact trivial

-- JudgesByLoss$Reader.isWord(Ljava/lang/String;II)Z
def tX1_isWord : aT := [
  (0, (.iload_n 3, 1), o_il 3 1),
  (1, (.iload_n 2, 1), o_il 2 2),
  (2, (.isub, 1), o_bi (fun x y => x - y) 3),
  (3, (.aload_n 1, 1), o_al 1 4),
  (4, (.invokevirtual 141, 3), o_cVs CJ0_length_8abf5 0 7),
  (7, (.if_icmp .eq 5, 3), o_ic (fun x y => x = y) 12 10),
  (10, (.iconst 0, 1), o_ii 0 11),
  (11, (.ireturn, 1), o_rz),
  (12, (.iconst 0, 1), o_ii 0 13),
  (13, (.istore 4, 2), o_is 4 15),
  (15, (.iload 4, 2), o_mk [false, false, false, true, false] (o_il 4 17)),
  (17, (.aload_n 1, 1), o_al 1 18),
  (18, (.invokevirtual 141, 3), o_cVs CJ0_length_8abf5 0 21),
  (21, (.if_icmp .ge 29, 3), o_ic (fun x y => y ≤ x) 50 24),
  (24, (.aload_n 1, 1), o_al 1 25),
  (25, (.iload 4, 2), o_il 4 27),
  (27, (.invokevirtual 146, 3), o_cVs CJ0_charAt_5068e 1 30),
  (30, (.aload_n 0, 1), o_al 0 31),
  (31, (.getfield 9, 3), o_gF 1 1 34),
  (34, (.iload_n 2, 1), o_il 2 35),
  (35, (.iload 4, 2), o_il 4 37),
  (37, (.iadd, 1), o_bi (fun x y => x + y) 38),
  (38, (.iaload, 1), o_iald 39),
  (39, (.if_icmp .eq 5, 3), o_ic (fun x y => x = y) 44 42),
  (42, (.iconst 0, 1), o_ii 0 43),
  (43, (.ireturn, 1), o_rz),
  (44, (.iinc 4 1, 3), o_inc 4 1 47),
  (47, (.goto (-32), 3), o_go 15),
  (50, (.iconst 1, 1), o_ii 1 51),
  (51, (.ireturn, 1), o_rz)]
abbrev CX1_isWord : aC := aCl tX1_isWord 5
def rmX1_isWord : Room := { frames := 5, cells := 0, slots := 0, locals := 86 }
set_option maxRecDepth 100000 in
theorem dX1_isWord : tX1_isWord.all (fun q => decide (decode cX1_isWord q.1 = .ok q.2.1)) = true := by decide +kernel
set_option maxRecDepth 100000 in
set_option maxHeartbeats 4000000 in
theorem nX1_isWord (l : Launch) : aMt l yX1_isWord (Cond.code yX1_isWord cX1_isWord 5 (some .boolean) :: wsL_law) rmX1_isWord CX1_isWord := by
  refine aMt.of (own := RX1) (cc := cX1_isWord) (maxL := 5) (ret := (some .boolean)) (by decide +kernel) rfl rfl ?_
  intro p e s m args below meth c Qc D Z ad P G A E hX hr hlk hE
  have up : ∀ w ∈ wsL_law, w ∈ (Cond.code yX1_isWord cX1_isWord 5 (some .boolean) :: wsL_law) := fun w h => List.mem_cons_of_mem _ h
  refine aImp_all _ dX1_isWord ?_
  unfold tX1_isWord
  refine aI_c (fun hd => s_il_n hX hd rfl rfl) ?_
  refine aI_c (fun hd => s_il_n hX hd rfl rfl) ?_
  refine aI_c (fun hd => s_isub hX hd rfl) ?_
  refine aI_c (fun hd => s_al_n hX hd rfl rfl) ?_
  refine aI_c (fun hd => s_cVs hX (nJ0_length_8abf5 l) (wg_V up lmX1_141 loJ0_length_8abf5) rfl rfl rfl (by decide +kernel) ⟨by decide, by decide⟩ ⟨Nat.zero_le _, Nat.zero_le _⟩ hd rfl) ?_
  refine aI_c (fun hd => s_ic_eq hX hd (by decide) rfl) ?_
  refine aI_c (fun hd => s_ii hX hd (by decide) rfl) ?_
  refine aI_c (fun hd => s_rz hX hr hlk hE hd) ?_
  refine aI_c (fun hd => s_ii hX hd (by decide) rfl) ?_
  refine aI_c (fun hd => s_is hX hd rfl (by decide)) ?_
  refine aI_c (fun hd => s_mk (s_il hX hd rfl)) ?_
  refine aI_c (fun hd => s_al_n hX hd rfl rfl) ?_
  refine aI_c (fun hd => s_cVs hX (nJ0_length_8abf5 l) (wg_V up lmX1_141 loJ0_length_8abf5) rfl rfl rfl (by decide +kernel) ⟨by decide, by decide⟩ ⟨Nat.zero_le _, Nat.zero_le _⟩ hd rfl) ?_
  refine aI_c (fun hd => s_ic_ge hX hd (by decide) rfl) ?_
  refine aI_c (fun hd => s_al_n hX hd rfl rfl) ?_
  refine aI_c (fun hd => s_il hX hd rfl) ?_
  refine aI_c (fun hd => s_cVs hX (nJ0_charAt_5068e l) (wg_V up lmX1_146 loJ0_charAt_5068e) rfl rfl rfl (by decide +kernel) ⟨by decide, by decide⟩ ⟨Nat.zero_le _, Nat.zero_le _⟩ hd rfl) ?_
  refine aI_c (fun hd => s_al_n hX hd rfl rfl) ?_
  refine aI_c (fun hd => s_gF hX (C := RX1) (T := TX1) (N := 8) (k := 0) rfl (fun w h => up w (inlX1 w h)) (by decide) rfl rfl rfl (up _ lkX1_9) hd rfl) ?_
  refine aI_c (fun hd => s_il_n hX hd rfl rfl) ?_
  refine aI_c (fun hd => s_il hX hd rfl) ?_
  refine aI_c (fun hd => s_iadd hX hd rfl) ?_
  refine aI_c (fun hd => s_iald hX hd rfl) ?_
  refine aI_c (fun hd => s_ic_eq hX hd (by decide) rfl) ?_
  refine aI_c (fun hd => s_ii hX hd (by decide) rfl) ?_
  refine aI_c (fun hd => s_rz hX hr hlk hE hd) ?_
  refine aI_c (fun hd => s_inc hX hd (by decide) rfl (by decide)) ?_
  refine aI_c (fun hd => s_go hX hd (by decide)) ?_
  refine aI_c (fun hd => s_ii hX hd (by decide) rfl) ?_
  refine aI_c (fun hd => s_rz hX hr hlk hE hd) ?_
  exact trivial

-- JudgesByLoss$Reader.wordBetween(II)I
def tX1_wordBetween : aT := [
  (0, (.aload_n 0, 1), o_al 0 1),
  (1, (.ldc 113, 2), o_ldS 0 3),
  (3, (.iload_n 1, 1), o_il 1 4),
  (4, (.iload_n 2, 1), o_il 2 5),
  (5, (.invokevirtual 115, 3), o_cV CX1_isWord 1 3 8),
  (8, (.ifCond .eq 6, 3), o_if (fun x => x = 0) 14 11),
  (11, (.bipush (-23), 2), o_ii (-23) 13),
  (13, (.ireturn, 1), o_ri),
  (14, (.aload_n 0, 1), o_al 0 15),
  (15, (.ldc 119, 2), o_ldS 1 17),
  (17, (.iload_n 1, 1), o_il 1 18),
  (18, (.iload_n 2, 1), o_il 2 19),
  (19, (.invokevirtual 115, 3), o_cV CX1_isWord 1 3 22),
  (22, (.ifCond .eq 6, 3), o_if (fun x => x = 0) 28 25),
  (25, (.bipush (-24), 2), o_ii (-24) 27),
  (27, (.ireturn, 1), o_ri),
  (28, (.aload_n 0, 1), o_al 0 29),
  (29, (.ldc 121, 2), o_ldS 2 31),
  (31, (.iload_n 1, 1), o_il 1 32),
  (32, (.iload_n 2, 1), o_il 2 33),
  (33, (.invokevirtual 115, 3), o_cV CX1_isWord 1 3 36),
  (36, (.ifCond .eq 6, 3), o_if (fun x => x = 0) 42 39),
  (39, (.bipush (-25), 2), o_ii (-25) 41),
  (41, (.ireturn, 1), o_ri),
  (42, (.aload_n 0, 1), o_al 0 43),
  (43, (.ldc 123, 2), o_ldS 3 45),
  (45, (.iload_n 1, 1), o_il 1 46),
  (46, (.iload_n 2, 1), o_il 2 47),
  (47, (.invokevirtual 115, 3), o_cV CX1_isWord 1 3 50),
  (50, (.ifCond .eq 6, 3), o_if (fun x => x = 0) 56 53),
  (53, (.bipush (-7), 2), o_ii (-7) 55),
  (55, (.ireturn, 1), o_ri),
  (56, (.aload_n 0, 1), o_al 0 57),
  (57, (.ldc 125, 2), o_ldS 4 59),
  (59, (.iload_n 1, 1), o_il 1 60),
  (60, (.iload_n 2, 1), o_il 2 61),
  (61, (.invokevirtual 115, 3), o_cV CX1_isWord 1 3 64),
  (64, (.ifCond .eq 6, 3), o_if (fun x => x = 0) 70 67),
  (67, (.bipush (-8), 2), o_ii (-8) 69),
  (69, (.ireturn, 1), o_ri),
  (70, (.aload_n 0, 1), o_al 0 71),
  (71, (.ldc 127, 2), o_ldS 5 73),
  (73, (.iload_n 1, 1), o_il 1 74),
  (74, (.iload_n 2, 1), o_il 2 75),
  (75, (.invokevirtual 115, 3), o_cV CX1_isWord 1 3 78),
  (78, (.ifCond .eq 6, 3), o_if (fun x => x = 0) 84 81),
  (81, (.bipush (-9), 2), o_ii (-9) 83),
  (83, (.ireturn, 1), o_ri),
  (84, (.aload_n 0, 1), o_al 0 85),
  (85, (.ldc 129, 2), o_ldS 6 87),
  (87, (.iload_n 1, 1), o_il 1 88),
  (88, (.iload_n 2, 1), o_il 2 89),
  (89, (.invokevirtual 115, 3), o_cV CX1_isWord 1 3 92),
  (92, (.ifCond .eq 5, 3), o_if (fun x => x = 0) 97 95),
  (95, (.iconst (-1), 1), o_ii (-1) 96),
  (96, (.ireturn, 1), o_ri),
  (97, (.aload_n 0, 1), o_al 0 98),
  (98, (.ldc 131, 2), o_ldS 7 100),
  (100, (.iload_n 1, 1), o_il 1 101),
  (101, (.iload_n 2, 1), o_il 2 102),
  (102, (.invokevirtual 115, 3), o_cV CX1_isWord 1 3 105),
  (105, (.ifCond .eq 6, 3), o_if (fun x => x = 0) 111 108),
  (108, (.bipush (-2), 2), o_ii (-2) 110),
  (110, (.ireturn, 1), o_ri),
  (111, (.aload_n 0, 1), o_al 0 112),
  (112, (.ldc 133, 2), o_ldS 8 114),
  (114, (.iload_n 1, 1), o_il 1 115),
  (115, (.iload_n 2, 1), o_il 2 116),
  (116, (.invokevirtual 115, 3), o_cV CX1_isWord 1 3 119),
  (119, (.ifCond .eq 6, 3), o_if (fun x => x = 0) 125 122),
  (122, (.bipush (-3), 2), o_ii (-3) 124),
  (124, (.ireturn, 1), o_ri),
  (125, (.aload_n 0, 1), o_al 0 126),
  (126, (.ldc 135, 2), o_ldS 9 128),
  (128, (.iload_n 1, 1), o_il 1 129),
  (129, (.iload_n 2, 1), o_il 2 130),
  (130, (.invokevirtual 115, 3), o_cV CX1_isWord 1 3 133),
  (133, (.ifCond .eq 6, 3), o_if (fun x => x = 0) 139 136),
  (136, (.bipush (-4), 2), o_ii (-4) 138),
  (138, (.ireturn, 1), o_ri),
  (139, (.aload_n 0, 1), o_al 0 140),
  (140, (.ldc 137, 2), o_ldS 10 142),
  (142, (.iload_n 1, 1), o_il 1 143),
  (143, (.iload_n 2, 1), o_il 2 144),
  (144, (.invokevirtual 115, 3), o_cV CX1_isWord 1 3 147),
  (147, (.ifCond .eq 6, 3), o_if (fun x => x = 0) 153 150),
  (150, (.bipush (-5), 2), o_ii (-5) 152),
  (152, (.ireturn, 1), o_ri),
  (153, (.aload_n 0, 1), o_al 0 154),
  (154, (.ldc 139, 2), o_ldS 11 156),
  (156, (.iload_n 1, 1), o_il 1 157),
  (157, (.iload_n 2, 1), o_il 2 158),
  (158, (.invokevirtual 115, 3), o_cV CX1_isWord 1 3 161),
  (161, (.ifCond .eq 8, 3), o_if (fun x => x = 0) 169 164),
  (164, (.bipush (-6), 2), o_ii (-6) 166),
  (166, (.goto 5, 3), o_go 171),
  (169, (.bipush (-27), 2), o_ii (-27) 171),
  (171, (.ireturn, 1), o_ri)]
abbrev CX1_wordBetween : aC := aCl tX1_wordBetween 3
def rmX1_wordBetween : Room := { frames := 6, cells := 0, slots := 0, locals := 110 }
set_option maxRecDepth 100000 in
theorem dX1_wordBetween : tX1_wordBetween.all (fun q => decide (decode cX1_wordBetween q.1 = .ok q.2.1)) = true := by decide +kernel
set_option maxRecDepth 100000 in
set_option maxHeartbeats 4000000 in
theorem nX1_wordBetween (l : Launch) : aMt l yX1_wordBetween (Cond.code yX1_wordBetween cX1_wordBetween 3 (some .int) :: wsL_law) rmX1_wordBetween CX1_wordBetween := by
  refine aMt.of (own := RX1) (cc := cX1_wordBetween) (maxL := 3) (ret := (some .int)) (by decide +kernel) rfl rfl ?_
  intro p e s m args below meth c Qc D Z ad P G A E hX hr hlk hE
  have up : ∀ w ∈ wsL_law, w ∈ (Cond.code yX1_wordBetween cX1_wordBetween 3 (some .int) :: wsL_law) := fun w h => List.mem_cons_of_mem _ h
  refine aImp_all _ dX1_wordBetween ?_
  unfold tX1_wordBetween
  refine aI_c (fun hd => s_al_n hX hd rfl rfl) ?_
  refine aI_c (fun hd => s_ldS hX (by decide) rfl rfl hd rfl) ?_
  refine aI_c (fun hd => s_il_n hX hd rfl rfl) ?_
  refine aI_c (fun hd => s_il_n hX hd rfl rfl) ?_
  refine aI_c (fun hd => s_cV hX (T := TX1) (N := 8) (nX1_isWord l) rfl (wg_V up lmX1_115 loX1_isWord) rfl rfl rfl (by decide +kernel) ⟨by decide, by decide⟩ ⟨Nat.zero_le _, Nat.zero_le _⟩ hd rfl) ?_
  refine aI_c (fun hd => s_if_eq hX hd (by decide) rfl) ?_
  refine aI_c (fun hd => s_bp hX hd (by decide) rfl) ?_
  refine aI_c (fun hd => s_ri hX hr hlk hE hd) ?_
  refine aI_c (fun hd => s_al_n hX hd rfl rfl) ?_
  refine aI_c (fun hd => s_ldS hX (by decide) rfl rfl hd rfl) ?_
  refine aI_c (fun hd => s_il_n hX hd rfl rfl) ?_
  refine aI_c (fun hd => s_il_n hX hd rfl rfl) ?_
  refine aI_c (fun hd => s_cV hX (T := TX1) (N := 8) (nX1_isWord l) rfl (wg_V up lmX1_115 loX1_isWord) rfl rfl rfl (by decide +kernel) ⟨by decide, by decide⟩ ⟨Nat.zero_le _, Nat.zero_le _⟩ hd rfl) ?_
  refine aI_c (fun hd => s_if_eq hX hd (by decide) rfl) ?_
  refine aI_c (fun hd => s_bp hX hd (by decide) rfl) ?_
  refine aI_c (fun hd => s_ri hX hr hlk hE hd) ?_
  refine aI_c (fun hd => s_al_n hX hd rfl rfl) ?_
  refine aI_c (fun hd => s_ldS hX (by decide) rfl rfl hd rfl) ?_
  refine aI_c (fun hd => s_il_n hX hd rfl rfl) ?_
  refine aI_c (fun hd => s_il_n hX hd rfl rfl) ?_
  refine aI_c (fun hd => s_cV hX (T := TX1) (N := 8) (nX1_isWord l) rfl (wg_V up lmX1_115 loX1_isWord) rfl rfl rfl (by decide +kernel) ⟨by decide, by decide⟩ ⟨Nat.zero_le _, Nat.zero_le _⟩ hd rfl) ?_
  refine aI_c (fun hd => s_if_eq hX hd (by decide) rfl) ?_
  refine aI_c (fun hd => s_bp hX hd (by decide) rfl) ?_
  refine aI_c (fun hd => s_ri hX hr hlk hE hd) ?_
  refine aI_c (fun hd => s_al_n hX hd rfl rfl) ?_
  refine aI_c (fun hd => s_ldS hX (by decide) rfl rfl hd rfl) ?_
  refine aI_c (fun hd => s_il_n hX hd rfl rfl) ?_
  refine aI_c (fun hd => s_il_n hX hd rfl rfl) ?_
  refine aI_c (fun hd => s_cV hX (T := TX1) (N := 8) (nX1_isWord l) rfl (wg_V up lmX1_115 loX1_isWord) rfl rfl rfl (by decide +kernel) ⟨by decide, by decide⟩ ⟨Nat.zero_le _, Nat.zero_le _⟩ hd rfl) ?_
  refine aI_c (fun hd => s_if_eq hX hd (by decide) rfl) ?_
  refine aI_c (fun hd => s_bp hX hd (by decide) rfl) ?_
  refine aI_c (fun hd => s_ri hX hr hlk hE hd) ?_
  refine aI_c (fun hd => s_al_n hX hd rfl rfl) ?_
  refine aI_c (fun hd => s_ldS hX (by decide) rfl rfl hd rfl) ?_
  refine aI_c (fun hd => s_il_n hX hd rfl rfl) ?_
  refine aI_c (fun hd => s_il_n hX hd rfl rfl) ?_
  refine aI_c (fun hd => s_cV hX (T := TX1) (N := 8) (nX1_isWord l) rfl (wg_V up lmX1_115 loX1_isWord) rfl rfl rfl (by decide +kernel) ⟨by decide, by decide⟩ ⟨Nat.zero_le _, Nat.zero_le _⟩ hd rfl) ?_
  refine aI_c (fun hd => s_if_eq hX hd (by decide) rfl) ?_
  refine aI_c (fun hd => s_bp hX hd (by decide) rfl) ?_
  refine aI_c (fun hd => s_ri hX hr hlk hE hd) ?_
  refine aI_c (fun hd => s_al_n hX hd rfl rfl) ?_
  refine aI_c (fun hd => s_ldS hX (by decide) rfl rfl hd rfl) ?_
  refine aI_c (fun hd => s_il_n hX hd rfl rfl) ?_
  refine aI_c (fun hd => s_il_n hX hd rfl rfl) ?_
  refine aI_c (fun hd => s_cV hX (T := TX1) (N := 8) (nX1_isWord l) rfl (wg_V up lmX1_115 loX1_isWord) rfl rfl rfl (by decide +kernel) ⟨by decide, by decide⟩ ⟨Nat.zero_le _, Nat.zero_le _⟩ hd rfl) ?_
  refine aI_c (fun hd => s_if_eq hX hd (by decide) rfl) ?_
  refine aI_c (fun hd => s_bp hX hd (by decide) rfl) ?_
  refine aI_c (fun hd => s_ri hX hr hlk hE hd) ?_
  refine aI_c (fun hd => s_al_n hX hd rfl rfl) ?_
  refine aI_c (fun hd => s_ldS hX (by decide) rfl rfl hd rfl) ?_
  refine aI_c (fun hd => s_il_n hX hd rfl rfl) ?_
  refine aI_c (fun hd => s_il_n hX hd rfl rfl) ?_
  refine aI_c (fun hd => s_cV hX (T := TX1) (N := 8) (nX1_isWord l) rfl (wg_V up lmX1_115 loX1_isWord) rfl rfl rfl (by decide +kernel) ⟨by decide, by decide⟩ ⟨Nat.zero_le _, Nat.zero_le _⟩ hd rfl) ?_
  refine aI_c (fun hd => s_if_eq hX hd (by decide) rfl) ?_
  refine aI_c (fun hd => s_ii hX hd (by decide) rfl) ?_
  refine aI_c (fun hd => s_ri hX hr hlk hE hd) ?_
  refine aI_c (fun hd => s_al_n hX hd rfl rfl) ?_
  refine aI_c (fun hd => s_ldS hX (by decide) rfl rfl hd rfl) ?_
  refine aI_c (fun hd => s_il_n hX hd rfl rfl) ?_
  refine aI_c (fun hd => s_il_n hX hd rfl rfl) ?_
  refine aI_c (fun hd => s_cV hX (T := TX1) (N := 8) (nX1_isWord l) rfl (wg_V up lmX1_115 loX1_isWord) rfl rfl rfl (by decide +kernel) ⟨by decide, by decide⟩ ⟨Nat.zero_le _, Nat.zero_le _⟩ hd rfl) ?_
  refine aI_c (fun hd => s_if_eq hX hd (by decide) rfl) ?_
  refine aI_c (fun hd => s_bp hX hd (by decide) rfl) ?_
  refine aI_c (fun hd => s_ri hX hr hlk hE hd) ?_
  refine aI_c (fun hd => s_al_n hX hd rfl rfl) ?_
  refine aI_c (fun hd => s_ldS hX (by decide) rfl rfl hd rfl) ?_
  refine aI_c (fun hd => s_il_n hX hd rfl rfl) ?_
  refine aI_c (fun hd => s_il_n hX hd rfl rfl) ?_
  refine aI_c (fun hd => s_cV hX (T := TX1) (N := 8) (nX1_isWord l) rfl (wg_V up lmX1_115 loX1_isWord) rfl rfl rfl (by decide +kernel) ⟨by decide, by decide⟩ ⟨Nat.zero_le _, Nat.zero_le _⟩ hd rfl) ?_
  refine aI_c (fun hd => s_if_eq hX hd (by decide) rfl) ?_
  refine aI_c (fun hd => s_bp hX hd (by decide) rfl) ?_
  refine aI_c (fun hd => s_ri hX hr hlk hE hd) ?_
  refine aI_c (fun hd => s_al_n hX hd rfl rfl) ?_
  refine aI_c (fun hd => s_ldS hX (by decide) rfl rfl hd rfl) ?_
  refine aI_c (fun hd => s_il_n hX hd rfl rfl) ?_
  refine aI_c (fun hd => s_il_n hX hd rfl rfl) ?_
  refine aI_c (fun hd => s_cV hX (T := TX1) (N := 8) (nX1_isWord l) rfl (wg_V up lmX1_115 loX1_isWord) rfl rfl rfl (by decide +kernel) ⟨by decide, by decide⟩ ⟨Nat.zero_le _, Nat.zero_le _⟩ hd rfl) ?_
  refine aI_c (fun hd => s_if_eq hX hd (by decide) rfl) ?_
  refine aI_c (fun hd => s_bp hX hd (by decide) rfl) ?_
  refine aI_c (fun hd => s_ri hX hr hlk hE hd) ?_
  refine aI_c (fun hd => s_al_n hX hd rfl rfl) ?_
  refine aI_c (fun hd => s_ldS hX (by decide) rfl rfl hd rfl) ?_
  refine aI_c (fun hd => s_il_n hX hd rfl rfl) ?_
  refine aI_c (fun hd => s_il_n hX hd rfl rfl) ?_
  refine aI_c (fun hd => s_cV hX (T := TX1) (N := 8) (nX1_isWord l) rfl (wg_V up lmX1_115 loX1_isWord) rfl rfl rfl (by decide +kernel) ⟨by decide, by decide⟩ ⟨Nat.zero_le _, Nat.zero_le _⟩ hd rfl) ?_
  refine aI_c (fun hd => s_if_eq hX hd (by decide) rfl) ?_
  refine aI_c (fun hd => s_bp hX hd (by decide) rfl) ?_
  refine aI_c (fun hd => s_ri hX hr hlk hE hd) ?_
  refine aI_c (fun hd => s_al_n hX hd rfl rfl) ?_
  refine aI_c (fun hd => s_ldS hX (by decide) rfl rfl hd rfl) ?_
  refine aI_c (fun hd => s_il_n hX hd rfl rfl) ?_
  refine aI_c (fun hd => s_il_n hX hd rfl rfl) ?_
  refine aI_c (fun hd => s_cV hX (T := TX1) (N := 8) (nX1_isWord l) rfl (wg_V up lmX1_115 loX1_isWord) rfl rfl rfl (by decide +kernel) ⟨by decide, by decide⟩ ⟨Nat.zero_le _, Nat.zero_le _⟩ hd rfl) ?_
  refine aI_c (fun hd => s_if_eq hX hd (by decide) rfl) ?_
  refine aI_c (fun hd => s_bp hX hd (by decide) rfl) ?_
  refine aI_c (fun hd => s_go hX hd (by decide)) ?_
  refine aI_c (fun hd => s_bp hX hd (by decide) rfl) ?_
  refine aI_c (fun hd => s_ri hX hr hlk hE hd) ?_
  exact trivial

-- JudgesByLoss$Reader.numberBetween(II)I
def tX1_numberBetween : aT := [
  (0, (.iload_n 2, 1), o_il 2 1),
  (1, (.iload_n 1, 1), o_il 1 2),
  (2, (.isub, 1), o_bi (fun x y => x - y) 3),
  (3, (.iconst 4, 1), o_ii 4 4),
  (4, (.if_icmp .le 6, 3), o_ic (fun x y => x ≤ y) 10 7),
  (7, (.bipush (-27), 2), o_ii (-27) 9),
  (9, (.ireturn, 1), o_ri),
  (10, (.iconst 0, 1), o_ii 0 11),
  (11, (.istore_n 3, 1), o_is 3 12),
  (12, (.iload_n 1, 1), o_il 1 13),
  (13, (.istore 4, 2), o_is 4 15),
  (15, (.iload 4, 2), o_mk [false, true, false, false, false] (o_il 4 17)),
  (17, (.iload_n 2, 1), o_il 2 18),
  (18, (.if_icmp .ge 25, 3), o_ic (fun x y => y ≤ x) 43 21),
  (21, (.bipush 10, 2), o_ii 10 23),
  (23, (.iload_n 3, 1), o_il 3 24),
  (24, (.imul, 1), o_bi (fun x y => x * y) 25),
  (25, (.aload_n 0, 1), o_al 0 26),
  (26, (.getfield 9, 3), o_gF 1 1 29),
  (29, (.iload 4, 2), o_il 4 31),
  (31, (.iaload, 1), o_iald 32),
  (32, (.iadd, 1), o_bi (fun x y => x + y) 33),
  (33, (.bipush 48, 2), o_ii 48 35),
  (35, (.isub, 1), o_bi (fun x y => x - y) 36),
  (36, (.istore_n 3, 1), o_is 3 37),
  (37, (.iinc 4 1, 3), o_inc 4 1 40),
  (40, (.goto (-25), 3), o_go 15),
  (43, (.iload_n 3, 1), o_il 3 44),
  (44, (.ireturn, 1), o_ri)]
abbrev CX1_numberBetween : aC := aCl tX1_numberBetween 5
def rmX1_numberBetween : Room := { frames := 1, cells := 0, slots := 0, locals := 1 }
set_option maxRecDepth 100000 in
theorem dX1_numberBetween : tX1_numberBetween.all (fun q => decide (decode cX1_numberBetween q.1 = .ok q.2.1)) = true := by decide +kernel
set_option maxRecDepth 100000 in
set_option maxHeartbeats 4000000 in
theorem nX1_numberBetween (l : Launch) : aMt l yX1_numberBetween (Cond.code yX1_numberBetween cX1_numberBetween 5 (some .int) :: wsL_law) rmX1_numberBetween CX1_numberBetween := by
  refine aMt.of (own := RX1) (cc := cX1_numberBetween) (maxL := 5) (ret := (some .int)) (by decide +kernel) rfl rfl ?_
  intro p e s m args below meth c Qc D Z ad P G A E hX hr hlk hE
  have up : ∀ w ∈ wsL_law, w ∈ (Cond.code yX1_numberBetween cX1_numberBetween 5 (some .int) :: wsL_law) := fun w h => List.mem_cons_of_mem _ h
  refine aImp_all _ dX1_numberBetween ?_
  unfold tX1_numberBetween
  refine aI_c (fun hd => s_il_n hX hd rfl rfl) ?_
  refine aI_c (fun hd => s_il_n hX hd rfl rfl) ?_
  refine aI_c (fun hd => s_isub hX hd rfl) ?_
  refine aI_c (fun hd => s_ii hX hd (by decide) rfl) ?_
  refine aI_c (fun hd => s_ic_le hX hd (by decide) rfl) ?_
  refine aI_c (fun hd => s_bp hX hd (by decide) rfl) ?_
  refine aI_c (fun hd => s_ri hX hr hlk hE hd) ?_
  refine aI_c (fun hd => s_ii hX hd (by decide) rfl) ?_
  refine aI_c (fun hd => s_is_n hX hd rfl rfl (by decide)) ?_
  refine aI_c (fun hd => s_il_n hX hd rfl rfl) ?_
  refine aI_c (fun hd => s_is hX hd rfl (by decide)) ?_
  refine aI_c (fun hd => s_mk (s_il hX hd rfl)) ?_
  refine aI_c (fun hd => s_il_n hX hd rfl rfl) ?_
  refine aI_c (fun hd => s_ic_ge hX hd (by decide) rfl) ?_
  refine aI_c (fun hd => s_bp hX hd (by decide) rfl) ?_
  refine aI_c (fun hd => s_il_n hX hd rfl rfl) ?_
  refine aI_c (fun hd => s_imul hX hd rfl) ?_
  refine aI_c (fun hd => s_al_n hX hd rfl rfl) ?_
  refine aI_c (fun hd => s_gF hX (C := RX1) (T := TX1) (N := 8) (k := 0) rfl (fun w h => up w (inlX1 w h)) (by decide) rfl rfl rfl (up _ lkX1_9) hd rfl) ?_
  refine aI_c (fun hd => s_il hX hd rfl) ?_
  refine aI_c (fun hd => s_iald hX hd rfl) ?_
  refine aI_c (fun hd => s_iadd hX hd rfl) ?_
  refine aI_c (fun hd => s_bp hX hd (by decide) rfl) ?_
  refine aI_c (fun hd => s_isub hX hd rfl) ?_
  refine aI_c (fun hd => s_is_n hX hd rfl rfl (by decide)) ?_
  refine aI_c (fun hd => s_inc hX hd (by decide) rfl (by decide)) ?_
  refine aI_c (fun hd => s_go hX hd (by decide)) ?_
  refine aI_c (fun hd => s_il_n hX hd rfl rfl) ?_
  refine aI_c (fun hd => s_ri hX hr hlk hE hd) ?_
  exact trivial

-- JudgesByLoss$Reader.signOf(I)I
def tX1_signOf : aT := [
  (0, (.iload_n 0, 1), o_il 0 1),
  (1, (.tableswitch 127 40 61 #[103, 106, 118, 112, 127, 115, 127, 127, 127, 127, 127, 127, 127, 127, 127, 127, 127, 127, 127, 109, 121, 124], 103), o_sw [(40, 104), (41, 107), (42, 119), (43, 113), (44, 128), (45, 116), (46, 128), (47, 128), (48, 128), (49, 128), (50, 128), (51, 128), (52, 128), (53, 128), (54, 128), (55, 128), (56, 128), (57, 128), (58, 128), (59, 110), (60, 122), (61, 125)] 128),
  (104, (.bipush (-20), 2), o_ii (-20) 106),
  (106, (.ireturn, 1), o_ri),
  (107, (.bipush (-21), 2), o_ii (-21) 109),
  (109, (.ireturn, 1), o_ri),
  (110, (.bipush (-22), 2), o_ii (-22) 112),
  (112, (.ireturn, 1), o_ri),
  (113, (.bipush (-12), 2), o_ii (-12) 115),
  (115, (.ireturn, 1), o_ri),
  (116, (.bipush (-13), 2), o_ii (-13) 118),
  (118, (.ireturn, 1), o_ri),
  (119, (.bipush (-14), 2), o_ii (-14) 121),
  (121, (.ireturn, 1), o_ri),
  (122, (.bipush (-10), 2), o_ii (-10) 124),
  (124, (.ireturn, 1), o_ri),
  (125, (.bipush (-11), 2), o_ii (-11) 127),
  (127, (.ireturn, 1), o_ri),
  (128, (.bipush (-27), 2), o_ii (-27) 130),
  (130, (.ireturn, 1), o_ri)]
abbrev CX1_signOf : aC := aCl tX1_signOf 1
def rmX1_signOf : Room := { frames := 1, cells := 0, slots := 0, locals := 1 }
set_option maxRecDepth 100000 in
theorem dX1_signOf : tX1_signOf.all (fun q => decide (decode cX1_signOf q.1 = .ok q.2.1)) = true := by decide +kernel
set_option maxRecDepth 100000 in
set_option maxHeartbeats 4000000 in
theorem nX1_signOf (l : Launch) : aMt l yX1_signOf (Cond.code yX1_signOf cX1_signOf 1 (some .int) :: wsL_law) rmX1_signOf CX1_signOf := by
  refine aMt.of (own := RX1) (cc := cX1_signOf) (maxL := 1) (ret := (some .int)) (by decide +kernel) rfl rfl ?_
  intro p e s m args below meth c Qc D Z ad P G A E hX hr hlk hE
  have up : ∀ w ∈ wsL_law, w ∈ (Cond.code yX1_signOf cX1_signOf 1 (some .int) :: wsL_law) := fun w h => List.mem_cons_of_mem _ h
  refine aImp_all _ dX1_signOf ?_
  unfold tX1_signOf
  refine aI_c (fun hd => s_il_n hX hd rfl rfl) ?_
  refine aI_c (fun hd => s_sw hX hd (by decide) (by decide +kernel)) ?_
  refine aI_c (fun hd => s_bp hX hd (by decide) rfl) ?_
  refine aI_c (fun hd => s_ri hX hr hlk hE hd) ?_
  refine aI_c (fun hd => s_bp hX hd (by decide) rfl) ?_
  refine aI_c (fun hd => s_ri hX hr hlk hE hd) ?_
  refine aI_c (fun hd => s_bp hX hd (by decide) rfl) ?_
  refine aI_c (fun hd => s_ri hX hr hlk hE hd) ?_
  refine aI_c (fun hd => s_bp hX hd (by decide) rfl) ?_
  refine aI_c (fun hd => s_ri hX hr hlk hE hd) ?_
  refine aI_c (fun hd => s_bp hX hd (by decide) rfl) ?_
  refine aI_c (fun hd => s_ri hX hr hlk hE hd) ?_
  refine aI_c (fun hd => s_bp hX hd (by decide) rfl) ?_
  refine aI_c (fun hd => s_ri hX hr hlk hE hd) ?_
  refine aI_c (fun hd => s_bp hX hd (by decide) rfl) ?_
  refine aI_c (fun hd => s_ri hX hr hlk hE hd) ?_
  refine aI_c (fun hd => s_bp hX hd (by decide) rfl) ?_
  refine aI_c (fun hd => s_ri hX hr hlk hE hd) ?_
  refine aI_c (fun hd => s_bp hX hd (by decide) rfl) ?_
  refine aI_c (fun hd => s_ri hX hr hlk hE hd) ?_
  exact trivial

-- JudgesByLoss$Reader.tokenBetween(II)I
def tX1_tokenBetween : aT := [
  (0, (.iload_n 1, 1), o_il 1 1),
  (1, (.aload_n 0, 1), o_al 0 2),
  (2, (.getfield 27, 3), o_gI 1 5 5),
  (5, (.if_icmp .lt 6, 3), o_ic (fun x y => x < y) 11 8),
  (8, (.bipush (-26), 2), o_ii (-26) 10),
  (10, (.ireturn, 1), o_ri),
  (11, (.aload_n 0, 1), o_al 0 12),
  (12, (.iload_n 1, 1), o_il 1 13),
  (13, (.invokevirtual 98, 3), o_cV CX1_isLetter 1 1 16),
  (16, (.ifCond .eq 10, 3), o_if (fun x => x = 0) 26 19),
  (19, (.aload_n 0, 1), o_al 0 20),
  (20, (.iload_n 1, 1), o_il 1 21),
  (21, (.iload_n 2, 1), o_il 2 22),
  (22, (.invokevirtual 104, 3), o_cV CX1_wordBetween 1 2 25),
  (25, (.ireturn, 1), o_ri),
  (26, (.aload_n 0, 1), o_al 0 27),
  (27, (.iload_n 1, 1), o_il 1 28),
  (28, (.invokevirtual 101, 3), o_cV CX1_isDigit 1 1 31),
  (31, (.ifCond .eq 10, 3), o_if (fun x => x = 0) 41 34),
  (34, (.aload_n 0, 1), o_al 0 35),
  (35, (.iload_n 1, 1), o_il 1 36),
  (36, (.iload_n 2, 1), o_il 2 37),
  (37, (.invokevirtual 107, 3), o_cV CX1_numberBetween 1 2 40),
  (40, (.ireturn, 1), o_ri),
  (41, (.aload_n 0, 1), o_al 0 42),
  (42, (.getfield 9, 3), o_gF 1 1 45),
  (45, (.iload_n 1, 1), o_il 1 46),
  (46, (.iaload, 1), o_iald 47),
  (47, (.invokestatic 110, 3), o_cS CX1_signOf 1 50),
  (50, (.ireturn, 1), o_ri)]
abbrev CX1_tokenBetween : aC := aCl tX1_tokenBetween 3
def rmX1_tokenBetween : Room := { frames := 7, cells := 0, slots := 0, locals := 132 }
set_option maxRecDepth 100000 in
theorem dX1_tokenBetween : tX1_tokenBetween.all (fun q => decide (decode cX1_tokenBetween q.1 = .ok q.2.1)) = true := by decide +kernel
set_option maxRecDepth 100000 in
set_option maxHeartbeats 4000000 in
theorem nX1_tokenBetween (l : Launch) : aMt l yX1_tokenBetween (Cond.code yX1_tokenBetween cX1_tokenBetween 3 (some .int) :: wsL_law) rmX1_tokenBetween CX1_tokenBetween := by
  refine aMt.of (own := RX1) (cc := cX1_tokenBetween) (maxL := 3) (ret := (some .int)) (by decide +kernel) rfl rfl ?_
  intro p e s m args below meth c Qc D Z ad P G A E hX hr hlk hE
  have up : ∀ w ∈ wsL_law, w ∈ (Cond.code yX1_tokenBetween cX1_tokenBetween 3 (some .int) :: wsL_law) := fun w h => List.mem_cons_of_mem _ h
  refine aImp_all _ dX1_tokenBetween ?_
  unfold tX1_tokenBetween
  refine aI_c (fun hd => s_il_n hX hd rfl rfl) ?_
  refine aI_c (fun hd => s_al_n hX hd rfl rfl) ?_
  refine aI_c (fun hd => s_gI hX (C := RX1) (T := TX1) (N := 8) (k := 5) rfl (fun w h => up w (inlX1 w h)) (by decide) rfl rfl rfl (up _ lkX1_27) hd rfl) ?_
  refine aI_c (fun hd => s_ic_lt hX hd (by decide) rfl) ?_
  refine aI_c (fun hd => s_bp hX hd (by decide) rfl) ?_
  refine aI_c (fun hd => s_ri hX hr hlk hE hd) ?_
  refine aI_c (fun hd => s_al_n hX hd rfl rfl) ?_
  refine aI_c (fun hd => s_il_n hX hd rfl rfl) ?_
  refine aI_c (fun hd => s_cV hX (T := TX1) (N := 8) (nX1_isLetter l) rfl (wg_V up lmX1_98 loX1_isLetter) rfl rfl rfl (by decide +kernel) ⟨by decide, by decide⟩ ⟨Nat.zero_le _, Nat.zero_le _⟩ hd rfl) ?_
  refine aI_c (fun hd => s_if_eq hX hd (by decide) rfl) ?_
  refine aI_c (fun hd => s_al_n hX hd rfl rfl) ?_
  refine aI_c (fun hd => s_il_n hX hd rfl rfl) ?_
  refine aI_c (fun hd => s_il_n hX hd rfl rfl) ?_
  refine aI_c (fun hd => s_cV hX (T := TX1) (N := 8) (nX1_wordBetween l) rfl (wg_V up lmX1_104 loX1_wordBetween) rfl rfl rfl (by decide +kernel) ⟨by decide, by decide⟩ ⟨Nat.zero_le _, Nat.zero_le _⟩ hd rfl) ?_
  refine aI_c (fun hd => s_ri hX hr hlk hE hd) ?_
  refine aI_c (fun hd => s_al_n hX hd rfl rfl) ?_
  refine aI_c (fun hd => s_il_n hX hd rfl rfl) ?_
  refine aI_c (fun hd => s_cV hX (T := TX1) (N := 8) (nX1_isDigit l) rfl (wg_V up lmX1_101 loX1_isDigit) rfl rfl rfl (by decide +kernel) ⟨by decide, by decide⟩ ⟨Nat.zero_le _, Nat.zero_le _⟩ hd rfl) ?_
  refine aI_c (fun hd => s_if_eq hX hd (by decide) rfl) ?_
  refine aI_c (fun hd => s_al_n hX hd rfl rfl) ?_
  refine aI_c (fun hd => s_il_n hX hd rfl rfl) ?_
  refine aI_c (fun hd => s_il_n hX hd rfl rfl) ?_
  refine aI_c (fun hd => s_cV hX (T := TX1) (N := 8) (nX1_numberBetween l) rfl (wg_V up lmX1_107 loX1_numberBetween) rfl rfl rfl (by decide +kernel) ⟨by decide, by decide⟩ ⟨Nat.zero_le _, Nat.zero_le _⟩ hd rfl) ?_
  refine aI_c (fun hd => s_ri hX hr hlk hE hd) ?_
  refine aI_c (fun hd => s_al_n hX hd rfl rfl) ?_
  refine aI_c (fun hd => s_gF hX (C := RX1) (T := TX1) (N := 8) (k := 0) rfl (fun w h => up w (inlX1 w h)) (by decide) rfl rfl rfl (up _ lkX1_9) hd rfl) ?_
  refine aI_c (fun hd => s_il_n hX hd rfl rfl) ?_
  refine aI_c (fun hd => s_iald hX hd rfl) ?_
  refine aI_c (fun hd => s_cS hX (nX1_signOf l) (wg_S up lmX1_110 loX1_signOf) rfl rfl rfl (by decide +kernel) ⟨by decide, by decide⟩ ⟨Nat.zero_le _, Nat.zero_le _⟩ hd rfl) ?_
  refine aI_c (fun hd => s_ri hX hr hlk hE hd) ?_
  exact trivial

-- JudgesByLoss$Reader.scan()V
def tX1_scan : aT := [
  (0, (.iconst 0, 1), o_ii 0 1),
  (1, (.istore_n 1, 1), o_is 1 2),
  (2, (.iconst 0, 1), o_ii 0 3),
  (3, (.istore_n 2, 1), o_is 2 4),
  (4, (.iload_n 2, 1), o_mk [false, false, false, true] (o_il 2 5)),
  (5, (.sipush 160, 3), o_ii 160 8),
  (8, (.if_icmp .gt 95, 3), o_ic (fun x y => y < x) 103 11),
  (11, (.iload_n 1, 1), o_mk [false, false, false, true] (o_il 1 12)),
  (12, (.aload_n 0, 1), o_al 0 13),
  (13, (.getfield 27, 3), o_gI 1 5 16),
  (16, (.if_icmp .ge 31, 3), o_ic (fun x y => y ≤ x) 47 19),
  (19, (.aload_n 0, 1), o_al 0 20),
  (20, (.getfield 9, 3), o_gF 1 1 23),
  (23, (.iload_n 1, 1), o_il 1 24),
  (24, (.iaload, 1), o_iald 25),
  (25, (.bipush 32, 2), o_ii 32 27),
  (27, (.if_icmp .eq 14, 3), o_ic (fun x y => x = y) 41 30),
  (30, (.aload_n 0, 1), o_al 0 31),
  (31, (.getfield 9, 3), o_gF 1 1 34),
  (34, (.iload_n 1, 1), o_il 1 35),
  (35, (.iaload, 1), o_iald 36),
  (36, (.bipush 10, 2), o_ii 10 38),
  (38, (.if_icmp .ne 9, 3), o_ic (fun x y => ¬ x = y) 47 41),
  (41, (.iinc 1 1, 3), o_inc 1 1 44),
  (44, (.goto (-33), 3), o_go 11),
  (47, (.aload_n 0, 1), o_al 0 48),
  (48, (.getfield 18, 3), o_gF 1 3 51),
  (51, (.iload_n 2, 1), o_il 2 52),
  (52, (.iload_n 1, 1), o_il 1 53),
  (53, (.iastore, 1), o_iast 54),
  (54, (.aload_n 0, 1), o_al 0 55),
  (55, (.iload_n 1, 1), o_il 1 56),
  (56, (.invokevirtual 90, 3), o_cV CX1_endOfToken 1 1 59),
  (59, (.istore_n 3, 1), o_is 3 60),
  (60, (.aload_n 0, 1), o_al 0 61),
  (61, (.getfield 15, 3), o_gF 1 2 64),
  (64, (.iload_n 2, 1), o_il 2 65),
  (65, (.aload_n 0, 1), o_al 0 66),
  (66, (.iload_n 1, 1), o_il 1 67),
  (67, (.iload_n 3, 1), o_il 3 68),
  (68, (.invokevirtual 94, 3), o_cV CX1_tokenBetween 1 2 71),
  (71, (.iastore, 1), o_iast 72),
  (72, (.aload_n 0, 1), o_al 0 73),
  (73, (.getfield 15, 3), o_gF 1 2 76),
  (76, (.iload_n 2, 1), o_il 2 77),
  (77, (.iaload, 1), o_iald 78),
  (78, (.bipush (-26), 2), o_ii (-26) 80),
  (80, (.if_icmp .eq 14, 3), o_ic (fun x y => x = y) 94 83),
  (83, (.aload_n 0, 1), o_al 0 84),
  (84, (.getfield 15, 3), o_gF 1 2 87),
  (87, (.iload_n 2, 1), o_il 2 88),
  (88, (.iaload, 1), o_iald 89),
  (89, (.bipush (-27), 2), o_ii (-27) 91),
  (91, (.if_icmp .ne 4, 3), o_ic (fun x y => ¬ x = y) 95 94),
  (94, (.return_, 1), o_rv),
  (95, (.iload_n 3, 1), o_il 3 96),
  (96, (.istore_n 1, 1), o_is 1 97),
  (97, (.iinc 2 1, 3), o_inc 2 1 100),
  (100, (.goto (-96), 3), o_go 4),
  (103, (.return_, 1), o_rv)]
abbrev CX1_scan : aC := aCl tX1_scan 4
def rmX1_scan : Room := { frames := 8, cells := 0, slots := 0, locals := 154 }
set_option maxRecDepth 100000 in
theorem dX1_scan : tX1_scan.all (fun q => decide (decode cX1_scan q.1 = .ok q.2.1)) = true := by decide +kernel
set_option maxRecDepth 100000 in
set_option maxHeartbeats 4000000 in
theorem nX1_scan (l : Launch) : aMt l yX1_scan (Cond.code yX1_scan cX1_scan 4 none :: wsL_law) rmX1_scan CX1_scan := by
  refine aMt.of (own := RX1) (cc := cX1_scan) (maxL := 4) (ret := none) (by decide +kernel) rfl rfl ?_
  intro p e s m args below meth c Qc D Z ad P G A E hX hr hlk hE
  have up : ∀ w ∈ wsL_law, w ∈ (Cond.code yX1_scan cX1_scan 4 none :: wsL_law) := fun w h => List.mem_cons_of_mem _ h
  refine aImp_all _ dX1_scan ?_
  unfold tX1_scan
  refine aI_c (fun hd => s_ii hX hd (by decide) rfl) ?_
  refine aI_c (fun hd => s_is_n hX hd rfl rfl (by decide)) ?_
  refine aI_c (fun hd => s_ii hX hd (by decide) rfl) ?_
  refine aI_c (fun hd => s_is_n hX hd rfl rfl (by decide)) ?_
  refine aI_c (fun hd => s_mk (s_il_n hX hd rfl rfl)) ?_
  refine aI_c (fun hd => s_sp hX hd (by decide) rfl) ?_
  refine aI_c (fun hd => s_ic_gt hX hd (by decide) rfl) ?_
  refine aI_c (fun hd => s_mk (s_il_n hX hd rfl rfl)) ?_
  refine aI_c (fun hd => s_al_n hX hd rfl rfl) ?_
  refine aI_c (fun hd => s_gI hX (C := RX1) (T := TX1) (N := 8) (k := 5) rfl (fun w h => up w (inlX1 w h)) (by decide) rfl rfl rfl (up _ lkX1_27) hd rfl) ?_
  refine aI_c (fun hd => s_ic_ge hX hd (by decide) rfl) ?_
  refine aI_c (fun hd => s_al_n hX hd rfl rfl) ?_
  refine aI_c (fun hd => s_gF hX (C := RX1) (T := TX1) (N := 8) (k := 0) rfl (fun w h => up w (inlX1 w h)) (by decide) rfl rfl rfl (up _ lkX1_9) hd rfl) ?_
  refine aI_c (fun hd => s_il_n hX hd rfl rfl) ?_
  refine aI_c (fun hd => s_iald hX hd rfl) ?_
  refine aI_c (fun hd => s_bp hX hd (by decide) rfl) ?_
  refine aI_c (fun hd => s_ic_eq hX hd (by decide) rfl) ?_
  refine aI_c (fun hd => s_al_n hX hd rfl rfl) ?_
  refine aI_c (fun hd => s_gF hX (C := RX1) (T := TX1) (N := 8) (k := 0) rfl (fun w h => up w (inlX1 w h)) (by decide) rfl rfl rfl (up _ lkX1_9) hd rfl) ?_
  refine aI_c (fun hd => s_il_n hX hd rfl rfl) ?_
  refine aI_c (fun hd => s_iald hX hd rfl) ?_
  refine aI_c (fun hd => s_bp hX hd (by decide) rfl) ?_
  refine aI_c (fun hd => s_ic_ne hX hd (by decide) rfl) ?_
  refine aI_c (fun hd => s_inc hX hd (by decide) rfl (by decide)) ?_
  refine aI_c (fun hd => s_go hX hd (by decide)) ?_
  refine aI_c (fun hd => s_al_n hX hd rfl rfl) ?_
  refine aI_c (fun hd => s_gF hX (C := RX1) (T := TX1) (N := 8) (k := 2) rfl (fun w h => up w (inlX1 w h)) (by decide) rfl rfl rfl (up _ lkX1_18) hd rfl) ?_
  refine aI_c (fun hd => s_il_n hX hd rfl rfl) ?_
  refine aI_c (fun hd => s_il_n hX hd rfl rfl) ?_
  refine aI_c (fun hd => s_iast hX hd rfl) ?_
  refine aI_c (fun hd => s_al_n hX hd rfl rfl) ?_
  refine aI_c (fun hd => s_il_n hX hd rfl rfl) ?_
  refine aI_c (fun hd => s_cV hX (T := TX1) (N := 8) (nX1_endOfToken l) rfl (wg_V up lmX1_90 loX1_endOfToken) rfl rfl rfl (by decide +kernel) ⟨by decide, by decide⟩ ⟨Nat.zero_le _, Nat.zero_le _⟩ hd rfl) ?_
  refine aI_c (fun hd => s_is_n hX hd rfl rfl (by decide)) ?_
  refine aI_c (fun hd => s_al_n hX hd rfl rfl) ?_
  refine aI_c (fun hd => s_gF hX (C := RX1) (T := TX1) (N := 8) (k := 1) rfl (fun w h => up w (inlX1 w h)) (by decide) rfl rfl rfl (up _ lkX1_15) hd rfl) ?_
  refine aI_c (fun hd => s_il_n hX hd rfl rfl) ?_
  refine aI_c (fun hd => s_al_n hX hd rfl rfl) ?_
  refine aI_c (fun hd => s_il_n hX hd rfl rfl) ?_
  refine aI_c (fun hd => s_il_n hX hd rfl rfl) ?_
  refine aI_c (fun hd => s_cV hX (T := TX1) (N := 8) (nX1_tokenBetween l) rfl (wg_V up lmX1_94 loX1_tokenBetween) rfl rfl rfl (by decide +kernel) ⟨by decide, by decide⟩ ⟨Nat.zero_le _, Nat.zero_le _⟩ hd rfl) ?_
  refine aI_c (fun hd => s_iast hX hd rfl) ?_
  refine aI_c (fun hd => s_al_n hX hd rfl rfl) ?_
  refine aI_c (fun hd => s_gF hX (C := RX1) (T := TX1) (N := 8) (k := 1) rfl (fun w h => up w (inlX1 w h)) (by decide) rfl rfl rfl (up _ lkX1_15) hd rfl) ?_
  refine aI_c (fun hd => s_il_n hX hd rfl rfl) ?_
  refine aI_c (fun hd => s_iald hX hd rfl) ?_
  refine aI_c (fun hd => s_bp hX hd (by decide) rfl) ?_
  refine aI_c (fun hd => s_ic_eq hX hd (by decide) rfl) ?_
  refine aI_c (fun hd => s_al_n hX hd rfl rfl) ?_
  refine aI_c (fun hd => s_gF hX (C := RX1) (T := TX1) (N := 8) (k := 1) rfl (fun w h => up w (inlX1 w h)) (by decide) rfl rfl rfl (up _ lkX1_15) hd rfl) ?_
  refine aI_c (fun hd => s_il_n hX hd rfl rfl) ?_
  refine aI_c (fun hd => s_iald hX hd rfl) ?_
  refine aI_c (fun hd => s_bp hX hd (by decide) rfl) ?_
  refine aI_c (fun hd => s_ic_ne hX hd (by decide) rfl) ?_
  refine aI_c (fun hd => s_rv hX hr hlk hE hd) ?_
  refine aI_c (fun hd => s_il_n hX hd rfl rfl) ?_
  refine aI_c (fun hd => s_is_n hX hd rfl rfl (by decide)) ?_
  refine aI_c (fun hd => s_inc hX hd (by decide) rfl (by decide)) ?_
  refine aI_c (fun hd => s_go hX hd (by decide)) ?_
  refine aI_c (fun hd => s_rv hX hr hlk hE hd) ?_
  exact trivial

-- JudgesByLoss$Reader.token()I
def tX1_token : aT := [
  (0, (.aload_n 0, 1), o_al 0 1),
  (1, (.getfield 34, 3), o_gI 1 6 4),
  (4, (.sipush 160, 3), o_ii 160 7),
  (7, (.if_icmp .gt 15, 3), o_ic (fun x y => y < x) 22 10),
  (10, (.aload_n 0, 1), o_al 0 11),
  (11, (.getfield 15, 3), o_gF 1 2 14),
  (14, (.aload_n 0, 1), o_al 0 15),
  (15, (.getfield 34, 3), o_gI 1 6 18),
  (18, (.iaload, 1), o_iald 19),
  (19, (.goto 5, 3), o_go 24),
  (22, (.bipush (-26), 2), o_ii (-26) 24),
  (24, (.ireturn, 1), o_ri)]
abbrev CX1_token : aC := aCl tX1_token 1
def rmX1_token : Room := { frames := 1, cells := 0, slots := 0, locals := 1 }
set_option maxRecDepth 100000 in
theorem dX1_token : tX1_token.all (fun q => decide (decode cX1_token q.1 = .ok q.2.1)) = true := by decide +kernel
set_option maxRecDepth 100000 in
set_option maxHeartbeats 4000000 in
theorem nX1_token (l : Launch) : aMt l yX1_token (Cond.code yX1_token cX1_token 1 (some .int) :: wsL_law) rmX1_token CX1_token := by
  refine aMt.of (own := RX1) (cc := cX1_token) (maxL := 1) (ret := (some .int)) (by decide +kernel) rfl rfl ?_
  intro p e s m args below meth c Qc D Z ad P G A E hX hr hlk hE
  have up : ∀ w ∈ wsL_law, w ∈ (Cond.code yX1_token cX1_token 1 (some .int) :: wsL_law) := fun w h => List.mem_cons_of_mem _ h
  refine aImp_all _ dX1_token ?_
  unfold tX1_token
  refine aI_c (fun hd => s_al_n hX hd rfl rfl) ?_
  refine aI_c (fun hd => s_gI hX (C := RX1) (T := TX1) (N := 8) (k := 6) rfl (fun w h => up w (inlX1 w h)) (by decide) rfl rfl rfl (up _ lkX1_34) hd rfl) ?_
  refine aI_c (fun hd => s_sp hX hd (by decide) rfl) ?_
  refine aI_c (fun hd => s_ic_gt hX hd (by decide) rfl) ?_
  refine aI_c (fun hd => s_al_n hX hd rfl rfl) ?_
  refine aI_c (fun hd => s_gF hX (C := RX1) (T := TX1) (N := 8) (k := 1) rfl (fun w h => up w (inlX1 w h)) (by decide) rfl rfl rfl (up _ lkX1_15) hd rfl) ?_
  refine aI_c (fun hd => s_al_n hX hd rfl rfl) ?_
  refine aI_c (fun hd => s_gI hX (C := RX1) (T := TX1) (N := 8) (k := 6) rfl (fun w h => up w (inlX1 w h)) (by decide) rfl rfl rfl (up _ lkX1_34) hd rfl) ?_
  refine aI_c (fun hd => s_iald hX hd rfl) ?_
  refine aI_c (fun hd => s_go hX hd (by decide)) ?_
  refine aI_c (fun hd => s_bp hX hd (by decide) rfl) ?_
  refine aI_c (fun hd => s_ri hX hr hlk hE hd) ?_
  exact trivial

-- JudgesByLoss$Reader.skip(I)Z
def tX1_skip : aT := [
  (0, (.aload_n 0, 1), o_al 0 1),
  (1, (.invokevirtual 48, 3), o_cV CX1_token 1 0 4),
  (4, (.iload_n 1, 1), o_il 1 5),
  (5, (.if_icmp .eq 5, 3), o_ic (fun x y => x = y) 10 8),
  (8, (.iconst 0, 1), o_ii 0 9),
  (9, (.ireturn, 1), o_rz),
  (10, (.aload_n 0, 1), o_al 0 11),
  (11, (.dup, 1), o_dup 12),
  (12, (.getfield 34, 3), o_gI 1 6 15),
  (15, (.iconst 1, 1), o_ii 1 16),
  (16, (.iadd, 1), o_bi (fun x y => x + y) 17),
  (17, (.putfield 34, 3), o_pI 1 6 20),
  (20, (.iconst 1, 1), o_ii 1 21),
  (21, (.ireturn, 1), o_rz)]
abbrev CX1_skip : aC := aCl tX1_skip 2
def rmX1_skip : Room := { frames := 2, cells := 0, slots := 0, locals := 21 }
set_option maxRecDepth 100000 in
theorem dX1_skip : tX1_skip.all (fun q => decide (decode cX1_skip q.1 = .ok q.2.1)) = true := by decide +kernel
set_option maxRecDepth 100000 in
set_option maxHeartbeats 4000000 in
theorem nX1_skip (l : Launch) : aMt l yX1_skip (Cond.code yX1_skip cX1_skip 2 (some .boolean) :: wsL_law) rmX1_skip CX1_skip := by
  refine aMt.of (own := RX1) (cc := cX1_skip) (maxL := 2) (ret := (some .boolean)) (by decide +kernel) rfl rfl ?_
  intro p e s m args below meth c Qc D Z ad P G A E hX hr hlk hE
  have up : ∀ w ∈ wsL_law, w ∈ (Cond.code yX1_skip cX1_skip 2 (some .boolean) :: wsL_law) := fun w h => List.mem_cons_of_mem _ h
  refine aImp_all _ dX1_skip ?_
  unfold tX1_skip
  refine aI_c (fun hd => s_al_n hX hd rfl rfl) ?_
  refine aI_c (fun hd => s_cV hX (T := TX1) (N := 8) (nX1_token l) rfl (wg_V up lmX1_48 loX1_token) rfl rfl rfl (by decide +kernel) ⟨by decide, by decide⟩ ⟨Nat.zero_le _, Nat.zero_le _⟩ hd rfl) ?_
  refine aI_c (fun hd => s_il_n hX hd rfl rfl) ?_
  refine aI_c (fun hd => s_ic_eq hX hd (by decide) rfl) ?_
  refine aI_c (fun hd => s_ii hX hd (by decide) rfl) ?_
  refine aI_c (fun hd => s_rz hX hr hlk hE hd) ?_
  refine aI_c (fun hd => s_al_n hX hd rfl rfl) ?_
  refine aI_c (fun hd => s_dup hX hd rfl) ?_
  refine aI_c (fun hd => s_gI hX (C := RX1) (T := TX1) (N := 8) (k := 6) rfl (fun w h => up w (inlX1 w h)) (by decide) rfl rfl rfl (up _ lkX1_34) hd rfl) ?_
  refine aI_c (fun hd => s_ii hX hd (by decide) rfl) ?_
  refine aI_c (fun hd => s_iadd hX hd rfl) ?_
  refine aI_c (fun hd => s_pI hX (C := RX1) (T := TX1) (N := 8) (k := 6) rfl (fun w h => up w (inlX1 w h)) (by decide) rfl rfl tyX1 tyX1_ok nmX1 rfl rfl rfl (up _ lkX1_34) hd rfl) ?_
  refine aI_c (fun hd => s_ii hX hd (by decide) rfl) ?_
  refine aI_c (fun hd => s_rz hX hr hlk hE hd) ?_
  exact trivial

-- JudgesByLoss$Reader.add(I)V
def tX1_add : aT := [
  (0, (.aload_n 0, 1), o_al 0 1),
  (1, (.getfield 37, 3), o_gI 1 7 4),
  (4, (.sipush 160, 3), o_ii 160 7),
  (7, (.if_icmp .ge 23, 3), o_ic (fun x y => y ≤ x) 30 10),
  (10, (.aload_n 0, 1), o_al 0 11),
  (11, (.getfield 21, 3), o_gF 1 4 14),
  (14, (.aload_n 0, 1), o_al 0 15),
  (15, (.getfield 37, 3), o_gI 1 7 18),
  (18, (.iload_n 1, 1), o_il 1 19),
  (19, (.iastore, 1), o_iast 20),
  (20, (.aload_n 0, 1), o_al 0 21),
  (21, (.dup, 1), o_dup 22),
  (22, (.getfield 37, 3), o_gI 1 7 25),
  (25, (.iconst 1, 1), o_ii 1 26),
  (26, (.iadd, 1), o_bi (fun x y => x + y) 27),
  (27, (.putfield 37, 3), o_pI 1 7 30),
  (30, (.return_, 1), o_rv)]
abbrev CX1_add : aC := aCl tX1_add 2
def rmX1_add : Room := { frames := 1, cells := 0, slots := 0, locals := 1 }
set_option maxRecDepth 100000 in
theorem dX1_add : tX1_add.all (fun q => decide (decode cX1_add q.1 = .ok q.2.1)) = true := by decide +kernel
set_option maxRecDepth 100000 in
set_option maxHeartbeats 4000000 in
theorem nX1_add (l : Launch) : aMt l yX1_add (Cond.code yX1_add cX1_add 2 none :: wsL_law) rmX1_add CX1_add := by
  refine aMt.of (own := RX1) (cc := cX1_add) (maxL := 2) (ret := none) (by decide +kernel) rfl rfl ?_
  intro p e s m args below meth c Qc D Z ad P G A E hX hr hlk hE
  have up : ∀ w ∈ wsL_law, w ∈ (Cond.code yX1_add cX1_add 2 none :: wsL_law) := fun w h => List.mem_cons_of_mem _ h
  refine aImp_all _ dX1_add ?_
  unfold tX1_add
  refine aI_c (fun hd => s_al_n hX hd rfl rfl) ?_
  refine aI_c (fun hd => s_gI hX (C := RX1) (T := TX1) (N := 8) (k := 7) rfl (fun w h => up w (inlX1 w h)) (by decide) rfl rfl rfl (up _ lkX1_37) hd rfl) ?_
  refine aI_c (fun hd => s_sp hX hd (by decide) rfl) ?_
  refine aI_c (fun hd => s_ic_ge hX hd (by decide) rfl) ?_
  refine aI_c (fun hd => s_al_n hX hd rfl rfl) ?_
  refine aI_c (fun hd => s_gF hX (C := RX1) (T := TX1) (N := 8) (k := 3) rfl (fun w h => up w (inlX1 w h)) (by decide) rfl rfl rfl (up _ lkX1_21) hd rfl) ?_
  refine aI_c (fun hd => s_al_n hX hd rfl rfl) ?_
  refine aI_c (fun hd => s_gI hX (C := RX1) (T := TX1) (N := 8) (k := 7) rfl (fun w h => up w (inlX1 w h)) (by decide) rfl rfl rfl (up _ lkX1_37) hd rfl) ?_
  refine aI_c (fun hd => s_il_n hX hd rfl rfl) ?_
  refine aI_c (fun hd => s_iast hX hd rfl) ?_
  refine aI_c (fun hd => s_al_n hX hd rfl rfl) ?_
  refine aI_c (fun hd => s_dup hX hd rfl) ?_
  refine aI_c (fun hd => s_gI hX (C := RX1) (T := TX1) (N := 8) (k := 7) rfl (fun w h => up w (inlX1 w h)) (by decide) rfl rfl rfl (up _ lkX1_37) hd rfl) ?_
  refine aI_c (fun hd => s_ii hX hd (by decide) rfl) ?_
  refine aI_c (fun hd => s_iadd hX hd rfl) ?_
  refine aI_c (fun hd => s_pI hX (C := RX1) (T := TX1) (N := 8) (k := 7) rfl (fun w h => up w (inlX1 w h)) (by decide) rfl rfl tyX1 tyX1_ok nmX1 rfl rfl rfl (up _ lkX1_37) hd rfl) ?_
  refine aI_c (fun hd => s_rv hX hr hlk hE hd) ?_
  exact trivial

-- JudgesByLoss$Reader.joins(II)Z
def tX1_joins : aT := [
  (0, (.iload_n 0, 1), o_il 0 1),
  (1, (.tableswitch 107 0 4 #[35, 47, 59, 77, 95], 35), o_sw [(0, 36), (1, 48), (2, 60), (3, 78), (4, 96)] 108),
  (36, (.iload_n 1, 1), o_il 1 37),
  (37, (.bipush (-7), 2), o_ii (-7) 39),
  (39, (.if_icmp .ne 7, 3), o_ic (fun x y => ¬ x = y) 46 42),
  (42, (.iconst 1, 1), o_ii 1 43),
  (43, (.goto 4, 3), o_go 47),
  (46, (.iconst 0, 1), o_ii 0 47),
  (47, (.ireturn, 1), o_rz),
  (48, (.iload_n 1, 1), o_il 1 49),
  (49, (.bipush (-8), 2), o_ii (-8) 51),
  (51, (.if_icmp .ne 7, 3), o_ic (fun x y => ¬ x = y) 58 54),
  (54, (.iconst 1, 1), o_ii 1 55),
  (55, (.goto 4, 3), o_go 59),
  (58, (.iconst 0, 1), o_ii 0 59),
  (59, (.ireturn, 1), o_rz),
  (60, (.iload_n 1, 1), o_il 1 61),
  (61, (.bipush (-10), 2), o_ii (-10) 63),
  (63, (.if_icmp .eq 9, 3), o_ic (fun x y => x = y) 72 66),
  (66, (.iload_n 1, 1), o_il 1 67),
  (67, (.bipush (-11), 2), o_ii (-11) 69),
  (69, (.if_icmp .ne 7, 3), o_ic (fun x y => ¬ x = y) 76 72),
  (72, (.iconst 1, 1), o_ii 1 73),
  (73, (.goto 4, 3), o_go 77),
  (76, (.iconst 0, 1), o_ii 0 77),
  (77, (.ireturn, 1), o_rz),
  (78, (.iload_n 1, 1), o_il 1 79),
  (79, (.bipush (-12), 2), o_ii (-12) 81),
  (81, (.if_icmp .eq 9, 3), o_ic (fun x y => x = y) 90 84),
  (84, (.iload_n 1, 1), o_il 1 85),
  (85, (.bipush (-13), 2), o_ii (-13) 87),
  (87, (.if_icmp .ne 7, 3), o_ic (fun x y => ¬ x = y) 94 90),
  (90, (.iconst 1, 1), o_ii 1 91),
  (91, (.goto 4, 3), o_go 95),
  (94, (.iconst 0, 1), o_ii 0 95),
  (95, (.ireturn, 1), o_rz),
  (96, (.iload_n 1, 1), o_il 1 97),
  (97, (.bipush (-14), 2), o_ii (-14) 99),
  (99, (.if_icmp .ne 7, 3), o_ic (fun x y => ¬ x = y) 106 102),
  (102, (.iconst 1, 1), o_ii 1 103),
  (103, (.goto 4, 3), o_go 107),
  (106, (.iconst 0, 1), o_ii 0 107),
  (107, (.ireturn, 1), o_rz),
  (108, (.iconst 0, 1), o_ii 0 109),
  (109, (.ireturn, 1), o_rz)]
abbrev CX1_joins : aC := aCl tX1_joins 2
def rmX1_joins : Room := { frames := 1, cells := 0, slots := 0, locals := 1 }
set_option maxRecDepth 100000 in
theorem dX1_joins : tX1_joins.all (fun q => decide (decode cX1_joins q.1 = .ok q.2.1)) = true := by decide +kernel
set_option maxRecDepth 100000 in
set_option maxHeartbeats 4000000 in
theorem nX1_joins (l : Launch) : aMt l yX1_joins (Cond.code yX1_joins cX1_joins 2 (some .boolean) :: wsL_law) rmX1_joins CX1_joins := by
  refine aMt.of (own := RX1) (cc := cX1_joins) (maxL := 2) (ret := (some .boolean)) (by decide +kernel) rfl rfl ?_
  intro p e s m args below meth c Qc D Z ad P G A E hX hr hlk hE
  have up : ∀ w ∈ wsL_law, w ∈ (Cond.code yX1_joins cX1_joins 2 (some .boolean) :: wsL_law) := fun w h => List.mem_cons_of_mem _ h
  refine aImp_all _ dX1_joins ?_
  unfold tX1_joins
  refine aI_c (fun hd => s_il_n hX hd rfl rfl) ?_
  refine aI_c (fun hd => s_sw hX hd (by decide) (by decide +kernel)) ?_
  refine aI_c (fun hd => s_il_n hX hd rfl rfl) ?_
  refine aI_c (fun hd => s_bp hX hd (by decide) rfl) ?_
  refine aI_c (fun hd => s_ic_ne hX hd (by decide) rfl) ?_
  refine aI_c (fun hd => s_ii hX hd (by decide) rfl) ?_
  refine aI_c (fun hd => s_go hX hd (by decide)) ?_
  refine aI_c (fun hd => s_ii hX hd (by decide) rfl) ?_
  refine aI_c (fun hd => s_rz hX hr hlk hE hd) ?_
  refine aI_c (fun hd => s_il_n hX hd rfl rfl) ?_
  refine aI_c (fun hd => s_bp hX hd (by decide) rfl) ?_
  refine aI_c (fun hd => s_ic_ne hX hd (by decide) rfl) ?_
  refine aI_c (fun hd => s_ii hX hd (by decide) rfl) ?_
  refine aI_c (fun hd => s_go hX hd (by decide)) ?_
  refine aI_c (fun hd => s_ii hX hd (by decide) rfl) ?_
  refine aI_c (fun hd => s_rz hX hr hlk hE hd) ?_
  refine aI_c (fun hd => s_il_n hX hd rfl rfl) ?_
  refine aI_c (fun hd => s_bp hX hd (by decide) rfl) ?_
  refine aI_c (fun hd => s_ic_eq hX hd (by decide) rfl) ?_
  refine aI_c (fun hd => s_il_n hX hd rfl rfl) ?_
  refine aI_c (fun hd => s_bp hX hd (by decide) rfl) ?_
  refine aI_c (fun hd => s_ic_ne hX hd (by decide) rfl) ?_
  refine aI_c (fun hd => s_ii hX hd (by decide) rfl) ?_
  refine aI_c (fun hd => s_go hX hd (by decide)) ?_
  refine aI_c (fun hd => s_ii hX hd (by decide) rfl) ?_
  refine aI_c (fun hd => s_rz hX hr hlk hE hd) ?_
  refine aI_c (fun hd => s_il_n hX hd rfl rfl) ?_
  refine aI_c (fun hd => s_bp hX hd (by decide) rfl) ?_
  refine aI_c (fun hd => s_ic_eq hX hd (by decide) rfl) ?_
  refine aI_c (fun hd => s_il_n hX hd rfl rfl) ?_
  refine aI_c (fun hd => s_bp hX hd (by decide) rfl) ?_
  refine aI_c (fun hd => s_ic_ne hX hd (by decide) rfl) ?_
  refine aI_c (fun hd => s_ii hX hd (by decide) rfl) ?_
  refine aI_c (fun hd => s_go hX hd (by decide)) ?_
  refine aI_c (fun hd => s_ii hX hd (by decide) rfl) ?_
  refine aI_c (fun hd => s_rz hX hr hlk hE hd) ?_
  refine aI_c (fun hd => s_il_n hX hd rfl rfl) ?_
  refine aI_c (fun hd => s_bp hX hd (by decide) rfl) ?_
  refine aI_c (fun hd => s_ic_ne hX hd (by decide) rfl) ?_
  refine aI_c (fun hd => s_ii hX hd (by decide) rfl) ?_
  refine aI_c (fun hd => s_go hX hd (by decide)) ?_
  refine aI_c (fun hd => s_ii hX hd (by decide) rfl) ?_
  refine aI_c (fun hd => s_rz hX hr hlk hE hd) ?_
  refine aI_c (fun hd => s_ii hX hd (by decide) rfl) ?_
  refine aI_c (fun hd => s_rz hX hr hlk hE hd) ?_
  exact trivial

/-! the three that read by levels: by the depth that is left -/
def rmR (d : Nat) : Room := { frames := d + 2, cells := 0, slots := 0, locals := 30 * d + 100 }
def tX1_readLevel (cL cO cP : aC) : aT := [
  (0, (.iload_n 1, 1), o_il 1 1),
  (1, (.iconst 5, 1), o_ii 5 2),
  (2, (.if_icmp .lt 9, 3), o_ic (fun x y => x < y) 11 5),
  (5, (.aload_n 0, 1), o_al 0 6),
  (6, (.iload_n 2, 1), o_il 2 7),
  (7, (.invokestatic 74, 3), o_cS cO 2 10),
  (10, (.ireturn, 1), o_rz),
  (11, (.iload_n 1, 1), o_il 1 12),
  (12, (.iconst 2, 1), o_ii 2 13),
  (13, (.if_icmp .ne 21, 3), o_ic (fun x y => ¬ x = y) 34 16),
  (16, (.aload_n 0, 1), o_al 0 17),
  (17, (.invokevirtual 48, 3), o_cV CX1_token 1 0 20),
  (20, (.bipush (-9), 2), o_ii (-9) 22),
  (22, (.if_icmp .ne 12, 3), o_ic (fun x y => ¬ x = y) 34 25),
  (25, (.aload_n 0, 1), o_al 0 26),
  (26, (.bipush (-9), 2), o_ii (-9) 28),
  (28, (.iconst 2, 1), o_ii 2 29),
  (29, (.iload_n 2, 1), o_il 2 30),
  (30, (.invokestatic 78, 3), o_cS cP 4 33),
  (33, (.ireturn, 1), o_rz),
  (34, (.aload_n 0, 1), o_al 0 35),
  (35, (.iload_n 1, 1), o_il 1 36),
  (36, (.iconst 1, 1), o_ii 1 37),
  (37, (.iadd, 1), o_bi (fun x y => x + y) 38),
  (38, (.iload_n 2, 1), o_il 2 39),
  (39, (.invokestatic 70, 3), o_cS cL 3 42),
  (42, (.ifCond .ne 5, 3), o_if (fun x => ¬ x = 0) 47 45),
  (45, (.iconst 0, 1), o_ii 0 46),
  (46, (.ireturn, 1), o_rz),
  (47, (.iload_n 1, 1), o_il 1 48),
  (48, (.iconst 2, 1), o_ii 2 49),
  (49, (.if_icmp .ne 7, 3), o_ic (fun x y => ¬ x = y) 56 52),
  (52, (.iconst 1, 1), o_ii 1 53),
  (53, (.goto 6, 3), o_go 59),
  (56, (.sipush 160, 3), o_ii 160 59),
  (59, (.istore_n 3, 1), o_is 3 60),
  (60, (.iconst 0, 1), o_ii 0 61),
  (61, (.istore 4, 2), o_is 4 63),
  (63, (.iload 4, 2), o_mk [false, false, false, false, false, true] (o_il 4 65)),
  (65, (.iload_n 3, 1), o_il 3 66),
  (66, (.if_icmp .ge 55, 3), o_ic (fun x y => y ≤ x) 121 69),
  (69, (.iload_n 1, 1), o_il 1 70),
  (70, (.aload_n 0, 1), o_al 0 71),
  (71, (.invokevirtual 48, 3), o_cV CX1_token 1 0 74),
  (74, (.invokestatic 82, 3), o_cS CX1_joins 2 77),
  (77, (.ifCond .eq 44, 3), o_if (fun x => x = 0) 121 80),
  (80, (.aload_n 0, 1), o_al 0 81),
  (81, (.invokevirtual 48, 3), o_cV CX1_token 1 0 84),
  (84, (.istore 5, 2), o_is 5 86),
  (86, (.aload_n 0, 1), o_al 0 87),
  (87, (.dup, 1), o_dup 88),
  (88, (.getfield 34, 3), o_gI 1 6 91),
  (91, (.iconst 1, 1), o_ii 1 92),
  (92, (.iadd, 1), o_bi (fun x y => x + y) 93),
  (93, (.putfield 34, 3), o_pI 1 6 96),
  (96, (.aload_n 0, 1), o_al 0 97),
  (97, (.iload_n 1, 1), o_il 1 98),
  (98, (.iconst 1, 1), o_ii 1 99),
  (99, (.iadd, 1), o_bi (fun x y => x + y) 100),
  (100, (.iload_n 2, 1), o_il 2 101),
  (101, (.invokestatic 70, 3), o_cS cL 3 104),
  (104, (.ifCond .ne 5, 3), o_if (fun x => ¬ x = 0) 109 107),
  (107, (.iconst 0, 1), o_ii 0 108),
  (108, (.ireturn, 1), o_rz),
  (109, (.aload_n 0, 1), o_al 0 110),
  (110, (.iload 5, 2), o_il 5 112),
  (112, (.invokevirtual 86, 3), o_cV CX1_add 1 1 115),
  (115, (.iinc 4 1, 3), o_inc 4 1 118),
  (118, (.goto (-55), 3), o_go 63),
  (121, (.iconst 1, 1), o_ii 1 122),
  (122, (.ireturn, 1), o_rz)]
def eX1_readLevel : List (Nat × (Instr × Nat)) := [(0, (.iload_n 1, 1)), (1, (.iconst 5, 1)), (2, (.if_icmp .lt 9, 3)), (5, (.aload_n 0, 1)), (6, (.iload_n 2, 1)), (7, (.invokestatic 74, 3)), (10, (.ireturn, 1)), (11, (.iload_n 1, 1)), (12, (.iconst 2, 1)), (13, (.if_icmp .ne 21, 3)), (16, (.aload_n 0, 1)), (17, (.invokevirtual 48, 3)), (20, (.bipush (-9), 2)), (22, (.if_icmp .ne 12, 3)), (25, (.aload_n 0, 1)), (26, (.bipush (-9), 2)), (28, (.iconst 2, 1)), (29, (.iload_n 2, 1)), (30, (.invokestatic 78, 3)), (33, (.ireturn, 1)), (34, (.aload_n 0, 1)), (35, (.iload_n 1, 1)), (36, (.iconst 1, 1)), (37, (.iadd, 1)), (38, (.iload_n 2, 1)), (39, (.invokestatic 70, 3)), (42, (.ifCond .ne 5, 3)), (45, (.iconst 0, 1)), (46, (.ireturn, 1)), (47, (.iload_n 1, 1)), (48, (.iconst 2, 1)), (49, (.if_icmp .ne 7, 3)), (52, (.iconst 1, 1)), (53, (.goto 6, 3)), (56, (.sipush 160, 3)), (59, (.istore_n 3, 1)), (60, (.iconst 0, 1)), (61, (.istore 4, 2)), (63, (.iload 4, 2)), (65, (.iload_n 3, 1)), (66, (.if_icmp .ge 55, 3)), (69, (.iload_n 1, 1)), (70, (.aload_n 0, 1)), (71, (.invokevirtual 48, 3)), (74, (.invokestatic 82, 3)), (77, (.ifCond .eq 44, 3)), (80, (.aload_n 0, 1)), (81, (.invokevirtual 48, 3)), (84, (.istore 5, 2)), (86, (.aload_n 0, 1)), (87, (.dup, 1)), (88, (.getfield 34, 3)), (91, (.iconst 1, 1)), (92, (.iadd, 1)), (93, (.putfield 34, 3)), (96, (.aload_n 0, 1)), (97, (.iload_n 1, 1)), (98, (.iconst 1, 1)), (99, (.iadd, 1)), (100, (.iload_n 2, 1)), (101, (.invokestatic 70, 3)), (104, (.ifCond .ne 5, 3)), (107, (.iconst 0, 1)), (108, (.ireturn, 1)), (109, (.aload_n 0, 1)), (110, (.iload 5, 2)), (112, (.invokevirtual 86, 3)), (115, (.iinc 4 1, 3)), (118, (.goto (-55), 3)), (121, (.iconst 1, 1)), (122, (.ireturn, 1))]
set_option maxRecDepth 100000 in
theorem d0X1_readLevel : eX1_readLevel.all (fun q => decide (decode cX1_readLevel q.1 = .ok q.2)) = true := by decide +kernel
set_option maxRecDepth 100000 in
theorem dX1_readLevel (cL cO cP : aC) : (tX1_readLevel cL cO cP).all (fun q => decide (decode cX1_readLevel q.1 = .ok q.2.1)) = true := by
  have h : (tX1_readLevel cL cO cP).map (fun q => (q.1, q.2.1)) = eX1_readLevel := rfl
  have k := d0X1_readLevel
  rw [← h, List.all_map] at k
  exact k
def tX1_readOne (cL cO cP : aC) : aT := [
  (0, (.aload_n 0, 1), o_al 0 1),
  (1, (.invokevirtual 48, 3), o_cV CX1_token 1 0 4),
  (4, (.istore_n 2, 1), o_is 2 5),
  (5, (.iload_n 2, 1), o_il 2 6),
  (6, (.bipush (-13), 2), o_ii (-13) 8),
  (8, (.if_icmp .ne 12, 3), o_ic (fun x y => ¬ x = y) 20 11),
  (11, (.aload_n 0, 1), o_al 0 12),
  (12, (.bipush (-15), 2), o_ii (-15) 14),
  (14, (.iconst 5, 1), o_ii 5 15),
  (15, (.iload_n 1, 1), o_il 1 16),
  (16, (.invokestatic 78, 3), o_cS cP 4 19),
  (19, (.ireturn, 1), o_rz),
  (20, (.iload_n 2, 1), o_il 2 21),
  (21, (.bipush (-20), 2), o_ii (-20) 23),
  (23, (.if_icmp .ne 46, 3), o_ic (fun x y => ¬ x = y) 69 26),
  (26, (.iload_n 1, 1), o_il 1 27),
  (27, (.iconst 5, 1), o_ii 5 28),
  (28, (.if_icmp .lt 5, 3), o_ic (fun x y => x < y) 33 31),
  (31, (.iconst 0, 1), o_ii 0 32),
  (32, (.ireturn, 1), o_rz),
  (33, (.aload_n 0, 1), o_al 0 34),
  (34, (.dup, 1), o_dup 35),
  (35, (.getfield 34, 3), o_gI 1 6 38),
  (38, (.iconst 1, 1), o_ii 1 39),
  (39, (.iadd, 1), o_bi (fun x y => x + y) 40),
  (40, (.putfield 34, 3), o_pI 1 6 43),
  (43, (.aload_n 0, 1), o_al 0 44),
  (44, (.iconst 0, 1), o_ii 0 45),
  (45, (.iload_n 1, 1), o_il 1 46),
  (46, (.iconst 1, 1), o_ii 1 47),
  (47, (.iadd, 1), o_bi (fun x y => x + y) 48),
  (48, (.invokestatic 70, 3), o_cS cL 3 51),
  (51, (.ifCond .eq 16, 3), o_if (fun x => x = 0) 67 54),
  (54, (.aload_n 0, 1), o_al 0 55),
  (55, (.bipush (-21), 2), o_ii (-21) 57),
  (57, (.invokevirtual 67, 3), o_cV CX1_skip 1 1 60),
  (60, (.ifCond .eq 7, 3), o_if (fun x => x = 0) 67 63),
  (63, (.iconst 1, 1), o_ii 1 64),
  (64, (.goto 4, 3), o_go 68),
  (67, (.iconst 0, 1), o_ii 0 68),
  (68, (.ireturn, 1), o_rz),
  (69, (.iload_n 2, 1), o_il 2 70),
  (70, (.bipush (-6), 2), o_ii (-6) 72),
  (72, (.if_icmp .ge 5, 3), o_ic (fun x y => y ≤ x) 77 75),
  (75, (.iconst 0, 1), o_ii 0 76),
  (76, (.ireturn, 1), o_rz),
  (77, (.aload_n 0, 1), o_al 0 78),
  (78, (.iload_n 2, 1), o_il 2 79),
  (79, (.invokevirtual 86, 3), o_cV CX1_add 1 1 82),
  (82, (.aload_n 0, 1), o_al 0 83),
  (83, (.dup, 1), o_dup 84),
  (84, (.getfield 34, 3), o_gI 1 6 87),
  (87, (.iconst 1, 1), o_ii 1 88),
  (88, (.iadd, 1), o_bi (fun x y => x + y) 89),
  (89, (.putfield 34, 3), o_pI 1 6 92),
  (92, (.iconst 1, 1), o_ii 1 93),
  (93, (.ireturn, 1), o_rz)]
def eX1_readOne : List (Nat × (Instr × Nat)) := [(0, (.aload_n 0, 1)), (1, (.invokevirtual 48, 3)), (4, (.istore_n 2, 1)), (5, (.iload_n 2, 1)), (6, (.bipush (-13), 2)), (8, (.if_icmp .ne 12, 3)), (11, (.aload_n 0, 1)), (12, (.bipush (-15), 2)), (14, (.iconst 5, 1)), (15, (.iload_n 1, 1)), (16, (.invokestatic 78, 3)), (19, (.ireturn, 1)), (20, (.iload_n 2, 1)), (21, (.bipush (-20), 2)), (23, (.if_icmp .ne 46, 3)), (26, (.iload_n 1, 1)), (27, (.iconst 5, 1)), (28, (.if_icmp .lt 5, 3)), (31, (.iconst 0, 1)), (32, (.ireturn, 1)), (33, (.aload_n 0, 1)), (34, (.dup, 1)), (35, (.getfield 34, 3)), (38, (.iconst 1, 1)), (39, (.iadd, 1)), (40, (.putfield 34, 3)), (43, (.aload_n 0, 1)), (44, (.iconst 0, 1)), (45, (.iload_n 1, 1)), (46, (.iconst 1, 1)), (47, (.iadd, 1)), (48, (.invokestatic 70, 3)), (51, (.ifCond .eq 16, 3)), (54, (.aload_n 0, 1)), (55, (.bipush (-21), 2)), (57, (.invokevirtual 67, 3)), (60, (.ifCond .eq 7, 3)), (63, (.iconst 1, 1)), (64, (.goto 4, 3)), (67, (.iconst 0, 1)), (68, (.ireturn, 1)), (69, (.iload_n 2, 1)), (70, (.bipush (-6), 2)), (72, (.if_icmp .ge 5, 3)), (75, (.iconst 0, 1)), (76, (.ireturn, 1)), (77, (.aload_n 0, 1)), (78, (.iload_n 2, 1)), (79, (.invokevirtual 86, 3)), (82, (.aload_n 0, 1)), (83, (.dup, 1)), (84, (.getfield 34, 3)), (87, (.iconst 1, 1)), (88, (.iadd, 1)), (89, (.putfield 34, 3)), (92, (.iconst 1, 1)), (93, (.ireturn, 1))]
set_option maxRecDepth 100000 in
theorem d0X1_readOne : eX1_readOne.all (fun q => decide (decode cX1_readOne q.1 = .ok q.2)) = true := by decide +kernel
set_option maxRecDepth 100000 in
theorem dX1_readOne (cL cO cP : aC) : (tX1_readOne cL cO cP).all (fun q => decide (decode cX1_readOne q.1 = .ok q.2.1)) = true := by
  have h : (tX1_readOne cL cO cP).map (fun q => (q.1, q.2.1)) = eX1_readOne := rfl
  have k := d0X1_readOne
  rw [← h, List.all_map] at k
  exact k
def tX1_readPrefixed (cL cO cP : aC) : aT := [
  (0, (.iload_n 3, 1), o_il 3 1),
  (1, (.iconst 5, 1), o_ii 5 2),
  (2, (.if_icmp .lt 5, 3), o_ic (fun x y => x < y) 7 5),
  (5, (.iconst 0, 1), o_ii 0 6),
  (6, (.ireturn, 1), o_rz),
  (7, (.aload_n 0, 1), o_al 0 8),
  (8, (.dup, 1), o_dup 9),
  (9, (.getfield 34, 3), o_gI 1 6 12),
  (12, (.iconst 1, 1), o_ii 1 13),
  (13, (.iadd, 1), o_bi (fun x y => x + y) 14),
  (14, (.putfield 34, 3), o_pI 1 6 17),
  (17, (.aload_n 0, 1), o_al 0 18),
  (18, (.iload_n 2, 1), o_il 2 19),
  (19, (.iload_n 3, 1), o_il 3 20),
  (20, (.iconst 1, 1), o_ii 1 21),
  (21, (.iadd, 1), o_bi (fun x y => x + y) 22),
  (22, (.invokestatic 70, 3), o_cS cL 3 25),
  (25, (.ifCond .ne 5, 3), o_if (fun x => ¬ x = 0) 30 28),
  (28, (.iconst 0, 1), o_ii 0 29),
  (29, (.ireturn, 1), o_rz),
  (30, (.aload_n 0, 1), o_al 0 31),
  (31, (.iload_n 1, 1), o_il 1 32),
  (32, (.invokevirtual 86, 3), o_cV CX1_add 1 1 35),
  (35, (.iconst 1, 1), o_ii 1 36),
  (36, (.ireturn, 1), o_rz)]
def eX1_readPrefixed : List (Nat × (Instr × Nat)) := [(0, (.iload_n 3, 1)), (1, (.iconst 5, 1)), (2, (.if_icmp .lt 5, 3)), (5, (.iconst 0, 1)), (6, (.ireturn, 1)), (7, (.aload_n 0, 1)), (8, (.dup, 1)), (9, (.getfield 34, 3)), (12, (.iconst 1, 1)), (13, (.iadd, 1)), (14, (.putfield 34, 3)), (17, (.aload_n 0, 1)), (18, (.iload_n 2, 1)), (19, (.iload_n 3, 1)), (20, (.iconst 1, 1)), (21, (.iadd, 1)), (22, (.invokestatic 70, 3)), (25, (.ifCond .ne 5, 3)), (28, (.iconst 0, 1)), (29, (.ireturn, 1)), (30, (.aload_n 0, 1)), (31, (.iload_n 1, 1)), (32, (.invokevirtual 86, 3)), (35, (.iconst 1, 1)), (36, (.ireturn, 1))]
set_option maxRecDepth 100000 in
theorem d0X1_readPrefixed : eX1_readPrefixed.all (fun q => decide (decode cX1_readPrefixed q.1 = .ok q.2)) = true := by decide +kernel
set_option maxRecDepth 100000 in
theorem dX1_readPrefixed (cL cO cP : aC) : (tX1_readPrefixed cL cO cP).all (fun q => decide (decode cX1_readPrefixed q.1 = .ok q.2.1)) = true := by
  have h : (tX1_readPrefixed cL cO cP).map (fun q => (q.1, q.2.1)) = eX1_readPrefixed := rfl
  have k := d0X1_readPrefixed
  rw [← h, List.all_map] at k
  exact k
def gR : Nat → aC × aC × aC
  | 0 => (fun _ _ _ _ => False, fun _ _ _ _ => False, fun _ _ _ _ => False)
  | d + 1 => (aCl (tX1_readLevel (gR d).1 (gR d).2.1 (gR d).2.2) 6, aCl (tX1_readOne (gR d).1 (gR d).2.1 (gR d).2.2) 3, aCl (tX1_readPrefixed (gR d).1 (gR d).2.1 (gR d).2.2) 4)
set_option maxRecDepth 100000 in
set_option maxHeartbeats 4000000 in
theorem nX1_readLevel_s (l : Launch) (d : Nat) {cL cO cP : aC} (icL : aMt l yX1_readLevel (Cond.code yX1_readLevel cX1_readLevel 6 (some .boolean) :: wsL_law) (rmR d) cL) (icO : aMt l yX1_readOne (Cond.code yX1_readOne cX1_readOne 3 (some .boolean) :: wsL_law) (rmR d) cO) (icP : aMt l yX1_readPrefixed (Cond.code yX1_readPrefixed cX1_readPrefixed 4 (some .boolean) :: wsL_law) (rmR d) cP) : aMt l yX1_readLevel (Cond.code yX1_readLevel cX1_readLevel 6 (some .boolean) :: wsL_law) (rmR (d + 1)) (aCl (tX1_readLevel cL cO cP) 6) := by
  refine aMt.of (own := RX1) (cc := cX1_readLevel) (maxL := 6) (ret := (some .boolean)) (by decide +kernel) rfl rfl ?_
  intro p e s m args below meth c Qc D Z ad P G A E hX hr hlk hE
  have up : ∀ w ∈ wsL_law, w ∈ (Cond.code yX1_readLevel cX1_readLevel 6 (some .boolean) :: wsL_law) := fun w h => List.mem_cons_of_mem _ h
  refine aImp_all _ (dX1_readLevel cL cO cP) ?_
  unfold tX1_readLevel
  refine aI_c (fun hd => s_il_n hX hd rfl rfl) ?_
  refine aI_c (fun hd => s_ii hX hd (by decide) rfl) ?_
  refine aI_c (fun hd => s_ic_lt hX hd (by decide) rfl) ?_
  refine aI_c (fun hd => s_al_n hX hd rfl rfl) ?_
  refine aI_c (fun hd => s_il_n hX hd rfl rfl) ?_
  refine aI_c (fun hd => s_cS hX icO (wg_S up lmX1_74 loX1_readOne) rfl rfl rfl (by decide +kernel) ⟨by unfold rmR; dsimp only; omega, by unfold rmR; dsimp only; omega⟩ ⟨Nat.zero_le _, Nat.zero_le _⟩ hd rfl) ?_
  refine aI_c (fun hd => s_rz hX hr hlk hE hd) ?_
  refine aI_c (fun hd => s_il_n hX hd rfl rfl) ?_
  refine aI_c (fun hd => s_ii hX hd (by decide) rfl) ?_
  refine aI_c (fun hd => s_ic_ne hX hd (by decide) rfl) ?_
  refine aI_c (fun hd => s_al_n hX hd rfl rfl) ?_
  refine aI_c (fun hd => s_cV hX (T := TX1) (N := 8) (nX1_token l) rfl (wg_V up lmX1_48 loX1_token) rfl rfl rfl (by decide +kernel) ⟨by unfold rmR rmX1_token; dsimp only; omega, by unfold rmR rmX1_token; dsimp only; omega⟩ ⟨Nat.zero_le _, Nat.zero_le _⟩ hd rfl) ?_
  refine aI_c (fun hd => s_bp hX hd (by decide) rfl) ?_
  refine aI_c (fun hd => s_ic_ne hX hd (by decide) rfl) ?_
  refine aI_c (fun hd => s_al_n hX hd rfl rfl) ?_
  refine aI_c (fun hd => s_bp hX hd (by decide) rfl) ?_
  refine aI_c (fun hd => s_ii hX hd (by decide) rfl) ?_
  refine aI_c (fun hd => s_il_n hX hd rfl rfl) ?_
  refine aI_c (fun hd => s_cS hX icP (wg_S up lmX1_78 loX1_readPrefixed) rfl rfl rfl (by decide +kernel) ⟨by unfold rmR; dsimp only; omega, by unfold rmR; dsimp only; omega⟩ ⟨Nat.zero_le _, Nat.zero_le _⟩ hd rfl) ?_
  refine aI_c (fun hd => s_rz hX hr hlk hE hd) ?_
  refine aI_c (fun hd => s_al_n hX hd rfl rfl) ?_
  refine aI_c (fun hd => s_il_n hX hd rfl rfl) ?_
  refine aI_c (fun hd => s_ii hX hd (by decide) rfl) ?_
  refine aI_c (fun hd => s_iadd hX hd rfl) ?_
  refine aI_c (fun hd => s_il_n hX hd rfl rfl) ?_
  refine aI_c (fun hd => s_cS hX icL (wg_S up lmX1_70 loX1_readLevel) rfl rfl rfl (by decide +kernel) ⟨by unfold rmR; dsimp only; omega, by unfold rmR; dsimp only; omega⟩ ⟨Nat.zero_le _, Nat.zero_le _⟩ hd rfl) ?_
  refine aI_c (fun hd => s_if_ne hX hd (by decide) rfl) ?_
  refine aI_c (fun hd => s_ii hX hd (by decide) rfl) ?_
  refine aI_c (fun hd => s_rz hX hr hlk hE hd) ?_
  refine aI_c (fun hd => s_il_n hX hd rfl rfl) ?_
  refine aI_c (fun hd => s_ii hX hd (by decide) rfl) ?_
  refine aI_c (fun hd => s_ic_ne hX hd (by decide) rfl) ?_
  refine aI_c (fun hd => s_ii hX hd (by decide) rfl) ?_
  refine aI_c (fun hd => s_go hX hd (by decide)) ?_
  refine aI_c (fun hd => s_sp hX hd (by decide) rfl) ?_
  refine aI_c (fun hd => s_is_n hX hd rfl rfl (by decide)) ?_
  refine aI_c (fun hd => s_ii hX hd (by decide) rfl) ?_
  refine aI_c (fun hd => s_is hX hd rfl (by decide)) ?_
  refine aI_c (fun hd => s_mk (s_il hX hd rfl)) ?_
  refine aI_c (fun hd => s_il_n hX hd rfl rfl) ?_
  refine aI_c (fun hd => s_ic_ge hX hd (by decide) rfl) ?_
  refine aI_c (fun hd => s_il_n hX hd rfl rfl) ?_
  refine aI_c (fun hd => s_al_n hX hd rfl rfl) ?_
  refine aI_c (fun hd => s_cV hX (T := TX1) (N := 8) (nX1_token l) rfl (wg_V up lmX1_48 loX1_token) rfl rfl rfl (by decide +kernel) ⟨by unfold rmR rmX1_token; dsimp only; omega, by unfold rmR rmX1_token; dsimp only; omega⟩ ⟨Nat.zero_le _, Nat.zero_le _⟩ hd rfl) ?_
  refine aI_c (fun hd => s_cS hX (nX1_joins l) (wg_S up lmX1_82 loX1_joins) rfl rfl rfl (by decide +kernel) ⟨by unfold rmR rmX1_joins; dsimp only; omega, by unfold rmR rmX1_joins; dsimp only; omega⟩ ⟨Nat.zero_le _, Nat.zero_le _⟩ hd rfl) ?_
  refine aI_c (fun hd => s_if_eq hX hd (by decide) rfl) ?_
  refine aI_c (fun hd => s_al_n hX hd rfl rfl) ?_
  refine aI_c (fun hd => s_cV hX (T := TX1) (N := 8) (nX1_token l) rfl (wg_V up lmX1_48 loX1_token) rfl rfl rfl (by decide +kernel) ⟨by unfold rmR rmX1_token; dsimp only; omega, by unfold rmR rmX1_token; dsimp only; omega⟩ ⟨Nat.zero_le _, Nat.zero_le _⟩ hd rfl) ?_
  refine aI_c (fun hd => s_is hX hd rfl (by decide)) ?_
  refine aI_c (fun hd => s_al_n hX hd rfl rfl) ?_
  refine aI_c (fun hd => s_dup hX hd rfl) ?_
  refine aI_c (fun hd => s_gI hX (C := RX1) (T := TX1) (N := 8) (k := 6) rfl (fun w h => up w (inlX1 w h)) (by decide) rfl rfl rfl (up _ lkX1_34) hd rfl) ?_
  refine aI_c (fun hd => s_ii hX hd (by decide) rfl) ?_
  refine aI_c (fun hd => s_iadd hX hd rfl) ?_
  refine aI_c (fun hd => s_pI hX (C := RX1) (T := TX1) (N := 8) (k := 6) rfl (fun w h => up w (inlX1 w h)) (by decide) rfl rfl tyX1 tyX1_ok nmX1 rfl rfl rfl (up _ lkX1_34) hd rfl) ?_
  refine aI_c (fun hd => s_al_n hX hd rfl rfl) ?_
  refine aI_c (fun hd => s_il_n hX hd rfl rfl) ?_
  refine aI_c (fun hd => s_ii hX hd (by decide) rfl) ?_
  refine aI_c (fun hd => s_iadd hX hd rfl) ?_
  refine aI_c (fun hd => s_il_n hX hd rfl rfl) ?_
  refine aI_c (fun hd => s_cS hX icL (wg_S up lmX1_70 loX1_readLevel) rfl rfl rfl (by decide +kernel) ⟨by unfold rmR; dsimp only; omega, by unfold rmR; dsimp only; omega⟩ ⟨Nat.zero_le _, Nat.zero_le _⟩ hd rfl) ?_
  refine aI_c (fun hd => s_if_ne hX hd (by decide) rfl) ?_
  refine aI_c (fun hd => s_ii hX hd (by decide) rfl) ?_
  refine aI_c (fun hd => s_rz hX hr hlk hE hd) ?_
  refine aI_c (fun hd => s_al_n hX hd rfl rfl) ?_
  refine aI_c (fun hd => s_il hX hd rfl) ?_
  refine aI_c (fun hd => s_cV hX (T := TX1) (N := 8) (nX1_add l) rfl (wg_V up lmX1_86 loX1_add) rfl rfl rfl (by decide +kernel) ⟨by unfold rmR rmX1_add; dsimp only; omega, by unfold rmR rmX1_add; dsimp only; omega⟩ ⟨Nat.zero_le _, Nat.zero_le _⟩ hd rfl) ?_
  refine aI_c (fun hd => s_inc hX hd (by decide) rfl (by decide)) ?_
  refine aI_c (fun hd => s_go hX hd (by decide)) ?_
  refine aI_c (fun hd => s_ii hX hd (by decide) rfl) ?_
  refine aI_c (fun hd => s_rz hX hr hlk hE hd) ?_
  exact trivial
set_option maxRecDepth 100000 in
set_option maxHeartbeats 4000000 in
theorem nX1_readOne_s (l : Launch) (d : Nat) {cL cO cP : aC} (icL : aMt l yX1_readLevel (Cond.code yX1_readLevel cX1_readLevel 6 (some .boolean) :: wsL_law) (rmR d) cL) (icO : aMt l yX1_readOne (Cond.code yX1_readOne cX1_readOne 3 (some .boolean) :: wsL_law) (rmR d) cO) (icP : aMt l yX1_readPrefixed (Cond.code yX1_readPrefixed cX1_readPrefixed 4 (some .boolean) :: wsL_law) (rmR d) cP) : aMt l yX1_readOne (Cond.code yX1_readOne cX1_readOne 3 (some .boolean) :: wsL_law) (rmR (d + 1)) (aCl (tX1_readOne cL cO cP) 3) := by
  refine aMt.of (own := RX1) (cc := cX1_readOne) (maxL := 3) (ret := (some .boolean)) (by decide +kernel) rfl rfl ?_
  intro p e s m args below meth c Qc D Z ad P G A E hX hr hlk hE
  have up : ∀ w ∈ wsL_law, w ∈ (Cond.code yX1_readOne cX1_readOne 3 (some .boolean) :: wsL_law) := fun w h => List.mem_cons_of_mem _ h
  refine aImp_all _ (dX1_readOne cL cO cP) ?_
  unfold tX1_readOne
  refine aI_c (fun hd => s_al_n hX hd rfl rfl) ?_
  refine aI_c (fun hd => s_cV hX (T := TX1) (N := 8) (nX1_token l) rfl (wg_V up lmX1_48 loX1_token) rfl rfl rfl (by decide +kernel) ⟨by unfold rmR rmX1_token; dsimp only; omega, by unfold rmR rmX1_token; dsimp only; omega⟩ ⟨Nat.zero_le _, Nat.zero_le _⟩ hd rfl) ?_
  refine aI_c (fun hd => s_is_n hX hd rfl rfl (by decide)) ?_
  refine aI_c (fun hd => s_il_n hX hd rfl rfl) ?_
  refine aI_c (fun hd => s_bp hX hd (by decide) rfl) ?_
  refine aI_c (fun hd => s_ic_ne hX hd (by decide) rfl) ?_
  refine aI_c (fun hd => s_al_n hX hd rfl rfl) ?_
  refine aI_c (fun hd => s_bp hX hd (by decide) rfl) ?_
  refine aI_c (fun hd => s_ii hX hd (by decide) rfl) ?_
  refine aI_c (fun hd => s_il_n hX hd rfl rfl) ?_
  refine aI_c (fun hd => s_cS hX icP (wg_S up lmX1_78 loX1_readPrefixed) rfl rfl rfl (by decide +kernel) ⟨by unfold rmR; dsimp only; omega, by unfold rmR; dsimp only; omega⟩ ⟨Nat.zero_le _, Nat.zero_le _⟩ hd rfl) ?_
  refine aI_c (fun hd => s_rz hX hr hlk hE hd) ?_
  refine aI_c (fun hd => s_il_n hX hd rfl rfl) ?_
  refine aI_c (fun hd => s_bp hX hd (by decide) rfl) ?_
  refine aI_c (fun hd => s_ic_ne hX hd (by decide) rfl) ?_
  refine aI_c (fun hd => s_il_n hX hd rfl rfl) ?_
  refine aI_c (fun hd => s_ii hX hd (by decide) rfl) ?_
  refine aI_c (fun hd => s_ic_lt hX hd (by decide) rfl) ?_
  refine aI_c (fun hd => s_ii hX hd (by decide) rfl) ?_
  refine aI_c (fun hd => s_rz hX hr hlk hE hd) ?_
  refine aI_c (fun hd => s_al_n hX hd rfl rfl) ?_
  refine aI_c (fun hd => s_dup hX hd rfl) ?_
  refine aI_c (fun hd => s_gI hX (C := RX1) (T := TX1) (N := 8) (k := 6) rfl (fun w h => up w (inlX1 w h)) (by decide) rfl rfl rfl (up _ lkX1_34) hd rfl) ?_
  refine aI_c (fun hd => s_ii hX hd (by decide) rfl) ?_
  refine aI_c (fun hd => s_iadd hX hd rfl) ?_
  refine aI_c (fun hd => s_pI hX (C := RX1) (T := TX1) (N := 8) (k := 6) rfl (fun w h => up w (inlX1 w h)) (by decide) rfl rfl tyX1 tyX1_ok nmX1 rfl rfl rfl (up _ lkX1_34) hd rfl) ?_
  refine aI_c (fun hd => s_al_n hX hd rfl rfl) ?_
  refine aI_c (fun hd => s_ii hX hd (by decide) rfl) ?_
  refine aI_c (fun hd => s_il_n hX hd rfl rfl) ?_
  refine aI_c (fun hd => s_ii hX hd (by decide) rfl) ?_
  refine aI_c (fun hd => s_iadd hX hd rfl) ?_
  refine aI_c (fun hd => s_cS hX icL (wg_S up lmX1_70 loX1_readLevel) rfl rfl rfl (by decide +kernel) ⟨by unfold rmR; dsimp only; omega, by unfold rmR; dsimp only; omega⟩ ⟨Nat.zero_le _, Nat.zero_le _⟩ hd rfl) ?_
  refine aI_c (fun hd => s_if_eq hX hd (by decide) rfl) ?_
  refine aI_c (fun hd => s_al_n hX hd rfl rfl) ?_
  refine aI_c (fun hd => s_bp hX hd (by decide) rfl) ?_
  refine aI_c (fun hd => s_cV hX (T := TX1) (N := 8) (nX1_skip l) rfl (wg_V up lmX1_67 loX1_skip) rfl rfl rfl (by decide +kernel) ⟨by unfold rmR rmX1_skip; dsimp only; omega, by unfold rmR rmX1_skip; dsimp only; omega⟩ ⟨Nat.zero_le _, Nat.zero_le _⟩ hd rfl) ?_
  refine aI_c (fun hd => s_if_eq hX hd (by decide) rfl) ?_
  refine aI_c (fun hd => s_ii hX hd (by decide) rfl) ?_
  refine aI_c (fun hd => s_go hX hd (by decide)) ?_
  refine aI_c (fun hd => s_ii hX hd (by decide) rfl) ?_
  refine aI_c (fun hd => s_rz hX hr hlk hE hd) ?_
  refine aI_c (fun hd => s_il_n hX hd rfl rfl) ?_
  refine aI_c (fun hd => s_bp hX hd (by decide) rfl) ?_
  refine aI_c (fun hd => s_ic_ge hX hd (by decide) rfl) ?_
  refine aI_c (fun hd => s_ii hX hd (by decide) rfl) ?_
  refine aI_c (fun hd => s_rz hX hr hlk hE hd) ?_
  refine aI_c (fun hd => s_al_n hX hd rfl rfl) ?_
  refine aI_c (fun hd => s_il_n hX hd rfl rfl) ?_
  refine aI_c (fun hd => s_cV hX (T := TX1) (N := 8) (nX1_add l) rfl (wg_V up lmX1_86 loX1_add) rfl rfl rfl (by decide +kernel) ⟨by unfold rmR rmX1_add; dsimp only; omega, by unfold rmR rmX1_add; dsimp only; omega⟩ ⟨Nat.zero_le _, Nat.zero_le _⟩ hd rfl) ?_
  refine aI_c (fun hd => s_al_n hX hd rfl rfl) ?_
  refine aI_c (fun hd => s_dup hX hd rfl) ?_
  refine aI_c (fun hd => s_gI hX (C := RX1) (T := TX1) (N := 8) (k := 6) rfl (fun w h => up w (inlX1 w h)) (by decide) rfl rfl rfl (up _ lkX1_34) hd rfl) ?_
  refine aI_c (fun hd => s_ii hX hd (by decide) rfl) ?_
  refine aI_c (fun hd => s_iadd hX hd rfl) ?_
  refine aI_c (fun hd => s_pI hX (C := RX1) (T := TX1) (N := 8) (k := 6) rfl (fun w h => up w (inlX1 w h)) (by decide) rfl rfl tyX1 tyX1_ok nmX1 rfl rfl rfl (up _ lkX1_34) hd rfl) ?_
  refine aI_c (fun hd => s_ii hX hd (by decide) rfl) ?_
  refine aI_c (fun hd => s_rz hX hr hlk hE hd) ?_
  exact trivial
set_option maxRecDepth 100000 in
set_option maxHeartbeats 4000000 in
theorem nX1_readPrefixed_s (l : Launch) (d : Nat) {cL cO cP : aC} (icL : aMt l yX1_readLevel (Cond.code yX1_readLevel cX1_readLevel 6 (some .boolean) :: wsL_law) (rmR d) cL) (icO : aMt l yX1_readOne (Cond.code yX1_readOne cX1_readOne 3 (some .boolean) :: wsL_law) (rmR d) cO) (icP : aMt l yX1_readPrefixed (Cond.code yX1_readPrefixed cX1_readPrefixed 4 (some .boolean) :: wsL_law) (rmR d) cP) : aMt l yX1_readPrefixed (Cond.code yX1_readPrefixed cX1_readPrefixed 4 (some .boolean) :: wsL_law) (rmR (d + 1)) (aCl (tX1_readPrefixed cL cO cP) 4) := by
  refine aMt.of (own := RX1) (cc := cX1_readPrefixed) (maxL := 4) (ret := (some .boolean)) (by decide +kernel) rfl rfl ?_
  intro p e s m args below meth c Qc D Z ad P G A E hX hr hlk hE
  have up : ∀ w ∈ wsL_law, w ∈ (Cond.code yX1_readPrefixed cX1_readPrefixed 4 (some .boolean) :: wsL_law) := fun w h => List.mem_cons_of_mem _ h
  refine aImp_all _ (dX1_readPrefixed cL cO cP) ?_
  unfold tX1_readPrefixed
  refine aI_c (fun hd => s_il_n hX hd rfl rfl) ?_
  refine aI_c (fun hd => s_ii hX hd (by decide) rfl) ?_
  refine aI_c (fun hd => s_ic_lt hX hd (by decide) rfl) ?_
  refine aI_c (fun hd => s_ii hX hd (by decide) rfl) ?_
  refine aI_c (fun hd => s_rz hX hr hlk hE hd) ?_
  refine aI_c (fun hd => s_al_n hX hd rfl rfl) ?_
  refine aI_c (fun hd => s_dup hX hd rfl) ?_
  refine aI_c (fun hd => s_gI hX (C := RX1) (T := TX1) (N := 8) (k := 6) rfl (fun w h => up w (inlX1 w h)) (by decide) rfl rfl rfl (up _ lkX1_34) hd rfl) ?_
  refine aI_c (fun hd => s_ii hX hd (by decide) rfl) ?_
  refine aI_c (fun hd => s_iadd hX hd rfl) ?_
  refine aI_c (fun hd => s_pI hX (C := RX1) (T := TX1) (N := 8) (k := 6) rfl (fun w h => up w (inlX1 w h)) (by decide) rfl rfl tyX1 tyX1_ok nmX1 rfl rfl rfl (up _ lkX1_34) hd rfl) ?_
  refine aI_c (fun hd => s_al_n hX hd rfl rfl) ?_
  refine aI_c (fun hd => s_il_n hX hd rfl rfl) ?_
  refine aI_c (fun hd => s_il_n hX hd rfl rfl) ?_
  refine aI_c (fun hd => s_ii hX hd (by decide) rfl) ?_
  refine aI_c (fun hd => s_iadd hX hd rfl) ?_
  refine aI_c (fun hd => s_cS hX icL (wg_S up lmX1_70 loX1_readLevel) rfl rfl rfl (by decide +kernel) ⟨by unfold rmR; dsimp only; omega, by unfold rmR; dsimp only; omega⟩ ⟨Nat.zero_le _, Nat.zero_le _⟩ hd rfl) ?_
  refine aI_c (fun hd => s_if_ne hX hd (by decide) rfl) ?_
  refine aI_c (fun hd => s_ii hX hd (by decide) rfl) ?_
  refine aI_c (fun hd => s_rz hX hr hlk hE hd) ?_
  refine aI_c (fun hd => s_al_n hX hd rfl rfl) ?_
  refine aI_c (fun hd => s_il_n hX hd rfl rfl) ?_
  refine aI_c (fun hd => s_cV hX (T := TX1) (N := 8) (nX1_add l) rfl (wg_V up lmX1_86 loX1_add) rfl rfl rfl (by decide +kernel) ⟨by unfold rmR rmX1_add; dsimp only; omega, by unfold rmR rmX1_add; dsimp only; omega⟩ ⟨Nat.zero_le _, Nat.zero_le _⟩ hd rfl) ?_
  refine aI_c (fun hd => s_ii hX hd (by decide) rfl) ?_
  refine aI_c (fun hd => s_rz hX hr hlk hE hd) ?_
  exact trivial
theorem gR_snd (l : Launch) : ∀ d, aMt l yX1_readLevel (Cond.code yX1_readLevel cX1_readLevel 6 (some .boolean) :: wsL_law) (rmR d) (gR d).1 ∧ aMt l yX1_readOne (Cond.code yX1_readOne cX1_readOne 3 (some .boolean) :: wsL_law) (rmR d) (gR d).2.1 ∧ aMt l yX1_readPrefixed (Cond.code yX1_readPrefixed cX1_readPrefixed 4 (some .boolean) :: wsL_law) (rmR d) (gR d).2.2
  | 0 => ⟨fun _ _ _ _ _ _ _ _ _ h => h.elim, fun _ _ _ _ _ _ _ _ _ h => h.elim, fun _ _ _ _ _ _ _ _ _ h => h.elim⟩
  | d + 1 =>
    have ih := gR_snd l d
    ⟨nX1_readLevel_s l d ih.1 ih.2.1 ih.2.2, nX1_readOne_s l d ih.1 ih.2.1 ih.2.2, nX1_readPrefixed_s l d ih.1 ih.2.1 ih.2.2⟩

-- JudgesByLoss$Reader.readPart(I)Z
def tX1_readPart : aT := [
  (0, (.iload_n 1, 1), o_il 1 1),
  (1, (.ifCond .ne 8, 3), o_if (fun x => ¬ x = 0) 9 4),
  (4, (.bipush (-23), 2), o_ii (-23) 6),
  (6, (.goto 15, 3), o_go 21),
  (9, (.iload_n 1, 1), o_il 1 10),
  (10, (.iconst 1, 1), o_ii 1 11),
  (11, (.if_icmp .ne 8, 3), o_ic (fun x y => ¬ x = y) 19 14),
  (14, (.bipush (-24), 2), o_ii (-24) 16),
  (16, (.goto 5, 3), o_go 21),
  (19, (.bipush (-25), 2), o_ii (-25) 21),
  (21, (.istore_n 2, 1), o_is 2 22),
  (22, (.aload_n 0, 1), o_al 0 23),
  (23, (.iload_n 2, 1), o_il 2 24),
  (24, (.invokevirtual 67, 3), o_cV CX1_skip 1 1 27),
  (27, (.ifCond .eq 21, 3), o_if (fun x => x = 0) 48 30),
  (30, (.aload_n 0, 1), o_al 0 31),
  (31, (.iconst 0, 1), o_ii 0 32),
  (32, (.iconst 0, 1), o_ii 0 33),
  (33, (.invokestatic 70, 3), o_cS (gR 60).1 3 36),
  (36, (.ifCond .eq 12, 3), o_if (fun x => x = 0) 48 39),
  (39, (.aload_n 0, 1), o_al 0 40),
  (40, (.bipush (-22), 2), o_ii (-22) 42),
  (42, (.invokevirtual 67, 3), o_cV CX1_skip 1 1 45),
  (45, (.ifCond .ne 5, 3), o_if (fun x => ¬ x = 0) 50 48),
  (48, (.iconst 0, 1), o_ii 0 49),
  (49, (.ireturn, 1), o_rz),
  (50, (.aload_n 0, 1), o_al 0 51),
  (51, (.getfield 24, 3), o_gF 1 5 54),
  (54, (.iload_n 1, 1), o_il 1 55),
  (55, (.aload_n 0, 1), o_al 0 56),
  (56, (.getfield 37, 3), o_gI 1 7 59),
  (59, (.iastore, 1), o_iast 60),
  (60, (.iconst 1, 1), o_ii 1 61),
  (61, (.ireturn, 1), o_rz)]
abbrev CX1_readPart : aC := aCl tX1_readPart 3
def rmX1_readPart : Room := { frames := 63, cells := 0, slots := 0, locals := 1925 }
set_option maxRecDepth 100000 in
theorem dX1_readPart : tX1_readPart.all (fun q => decide (decode cX1_readPart q.1 = .ok q.2.1)) = true := by decide +kernel
set_option maxRecDepth 100000 in
set_option maxHeartbeats 4000000 in
theorem nX1_readPart (l : Launch) : aMt l yX1_readPart (Cond.code yX1_readPart cX1_readPart 3 (some .boolean) :: wsL_law) rmX1_readPart CX1_readPart := by
  refine aMt.of (own := RX1) (cc := cX1_readPart) (maxL := 3) (ret := (some .boolean)) (by decide +kernel) rfl rfl ?_
  intro p e s m args below meth c Qc D Z ad P G A E hX hr hlk hE
  have up : ∀ w ∈ wsL_law, w ∈ (Cond.code yX1_readPart cX1_readPart 3 (some .boolean) :: wsL_law) := fun w h => List.mem_cons_of_mem _ h
  refine aImp_all _ dX1_readPart ?_
  unfold tX1_readPart
  refine aI_c (fun hd => s_il_n hX hd rfl rfl) ?_
  refine aI_c (fun hd => s_if_ne hX hd (by decide) rfl) ?_
  refine aI_c (fun hd => s_bp hX hd (by decide) rfl) ?_
  refine aI_c (fun hd => s_go hX hd (by decide)) ?_
  refine aI_c (fun hd => s_il_n hX hd rfl rfl) ?_
  refine aI_c (fun hd => s_ii hX hd (by decide) rfl) ?_
  refine aI_c (fun hd => s_ic_ne hX hd (by decide) rfl) ?_
  refine aI_c (fun hd => s_bp hX hd (by decide) rfl) ?_
  refine aI_c (fun hd => s_go hX hd (by decide)) ?_
  refine aI_c (fun hd => s_bp hX hd (by decide) rfl) ?_
  refine aI_c (fun hd => s_is_n hX hd rfl rfl (by decide)) ?_
  refine aI_c (fun hd => s_al_n hX hd rfl rfl) ?_
  refine aI_c (fun hd => s_il_n hX hd rfl rfl) ?_
  refine aI_c (fun hd => s_cV hX (T := TX1) (N := 8) (nX1_skip l) rfl (wg_V up lmX1_67 loX1_skip) rfl rfl rfl (by decide +kernel) ⟨by decide, by decide⟩ ⟨Nat.zero_le _, Nat.zero_le _⟩ hd rfl) ?_
  refine aI_c (fun hd => s_if_eq hX hd (by decide) rfl) ?_
  refine aI_c (fun hd => s_al_n hX hd rfl rfl) ?_
  refine aI_c (fun hd => s_ii hX hd (by decide) rfl) ?_
  refine aI_c (fun hd => s_ii hX hd (by decide) rfl) ?_
  refine aI_c (fun hd => s_cS hX ((gR_snd l 60).1) (wg_S up lmX1_70 loX1_readLevel) rfl rfl rfl (by decide +kernel) ⟨by decide, by decide⟩ ⟨Nat.zero_le _, Nat.zero_le _⟩ hd rfl) ?_
  refine aI_c (fun hd => s_if_eq hX hd (by decide) rfl) ?_
  refine aI_c (fun hd => s_al_n hX hd rfl rfl) ?_
  refine aI_c (fun hd => s_bp hX hd (by decide) rfl) ?_
  refine aI_c (fun hd => s_cV hX (T := TX1) (N := 8) (nX1_skip l) rfl (wg_V up lmX1_67 loX1_skip) rfl rfl rfl (by decide +kernel) ⟨by decide, by decide⟩ ⟨Nat.zero_le _, Nat.zero_le _⟩ hd rfl) ?_
  refine aI_c (fun hd => s_if_ne hX hd (by decide) rfl) ?_
  refine aI_c (fun hd => s_ii hX hd (by decide) rfl) ?_
  refine aI_c (fun hd => s_rz hX hr hlk hE hd) ?_
  refine aI_c (fun hd => s_al_n hX hd rfl rfl) ?_
  refine aI_c (fun hd => s_gF hX (C := RX1) (T := TX1) (N := 8) (k := 4) rfl (fun w h => up w (inlX1 w h)) (by decide) rfl rfl rfl (up _ lkX1_24) hd rfl) ?_
  refine aI_c (fun hd => s_il_n hX hd rfl rfl) ?_
  refine aI_c (fun hd => s_al_n hX hd rfl rfl) ?_
  refine aI_c (fun hd => s_gI hX (C := RX1) (T := TX1) (N := 8) (k := 7) rfl (fun w h => up w (inlX1 w h)) (by decide) rfl rfl rfl (up _ lkX1_37) hd rfl) ?_
  refine aI_c (fun hd => s_iast hX hd rfl) ?_
  refine aI_c (fun hd => s_ii hX hd (by decide) rfl) ?_
  refine aI_c (fun hd => s_rz hX hr hlk hE hd) ?_
  exact trivial

-- JudgesByLoss$Reader.place()I
def tX1_place : aT := [
  (0, (.aload_n 0, 1), o_al 0 1),
  (1, (.getfield 34, 3), o_gI 1 6 4),
  (4, (.sipush 160, 3), o_ii 160 7),
  (7, (.if_icmp .gt 15, 3), o_ic (fun x y => y < x) 22 10),
  (10, (.aload_n 0, 1), o_al 0 11),
  (11, (.getfield 18, 3), o_gF 1 3 14),
  (14, (.aload_n 0, 1), o_al 0 15),
  (15, (.getfield 34, 3), o_gI 1 6 18),
  (18, (.iaload, 1), o_iald 19),
  (19, (.goto 7, 3), o_go 26),
  (22, (.aload_n 0, 1), o_al 0 23),
  (23, (.getfield 27, 3), o_gI 1 5 26),
  (26, (.ireturn, 1), o_ri)]
abbrev CX1_place : aC := aCl tX1_place 1
def rmX1_place : Room := { frames := 1, cells := 0, slots := 0, locals := 1 }
set_option maxRecDepth 100000 in
theorem dX1_place : tX1_place.all (fun q => decide (decode cX1_place q.1 = .ok q.2.1)) = true := by decide +kernel
set_option maxRecDepth 100000 in
set_option maxHeartbeats 4000000 in
theorem nX1_place (l : Launch) : aMt l yX1_place (Cond.code yX1_place cX1_place 1 (some .int) :: wsL_law) rmX1_place CX1_place := by
  refine aMt.of (own := RX1) (cc := cX1_place) (maxL := 1) (ret := (some .int)) (by decide +kernel) rfl rfl ?_
  intro p e s m args below meth c Qc D Z ad P G A E hX hr hlk hE
  have up : ∀ w ∈ wsL_law, w ∈ (Cond.code yX1_place cX1_place 1 (some .int) :: wsL_law) := fun w h => List.mem_cons_of_mem _ h
  refine aImp_all _ dX1_place ?_
  unfold tX1_place
  refine aI_c (fun hd => s_al_n hX hd rfl rfl) ?_
  refine aI_c (fun hd => s_gI hX (C := RX1) (T := TX1) (N := 8) (k := 6) rfl (fun w h => up w (inlX1 w h)) (by decide) rfl rfl rfl (up _ lkX1_34) hd rfl) ?_
  refine aI_c (fun hd => s_sp hX hd (by decide) rfl) ?_
  refine aI_c (fun hd => s_ic_gt hX hd (by decide) rfl) ?_
  refine aI_c (fun hd => s_al_n hX hd rfl rfl) ?_
  refine aI_c (fun hd => s_gF hX (C := RX1) (T := TX1) (N := 8) (k := 2) rfl (fun w h => up w (inlX1 w h)) (by decide) rfl rfl rfl (up _ lkX1_18) hd rfl) ?_
  refine aI_c (fun hd => s_al_n hX hd rfl rfl) ?_
  refine aI_c (fun hd => s_gI hX (C := RX1) (T := TX1) (N := 8) (k := 6) rfl (fun w h => up w (inlX1 w h)) (by decide) rfl rfl rfl (up _ lkX1_34) hd rfl) ?_
  refine aI_c (fun hd => s_iald hX hd rfl) ?_
  refine aI_c (fun hd => s_go hX hd (by decide)) ?_
  refine aI_c (fun hd => s_al_n hX hd rfl rfl) ?_
  refine aI_c (fun hd => s_gI hX (C := RX1) (T := TX1) (N := 8) (k := 5) rfl (fun w h => up w (inlX1 w h)) (by decide) rfl rfl rfl (up _ lkX1_27) hd rfl) ?_
  refine aI_c (fun hd => s_ri hX hr hlk hE hd) ?_
  exact trivial

-- JudgesByLoss$Reader.faultOfTape()I
def tX1_faultOfTape : aT := [
  (0, (.aload_n 0, 1), o_al 0 1),
  (1, (.invokevirtual 31, 3), o_cV CX1_scan 1 0 4),
  (4, (.aload_n 0, 1), o_al 0 5),
  (5, (.iconst 0, 1), o_ii 0 6),
  (6, (.putfield 34, 3), o_pI 1 6 9),
  (9, (.aload_n 0, 1), o_al 0 10),
  (10, (.iconst 0, 1), o_ii 0 11),
  (11, (.putfield 37, 3), o_pI 1 7 14),
  (14, (.iconst 0, 1), o_ii 0 15),
  (15, (.istore_n 1, 1), o_is 1 16),
  (16, (.iload_n 1, 1), o_il 1 17),
  (17, (.iconst 3, 1), o_ii 3 18),
  (18, (.if_icmp .ge 22, 3), o_ic (fun x y => y ≤ x) 40 21),
  (21, (.aload_n 0, 1), o_al 0 22),
  (22, (.iload_n 1, 1), o_il 1 23),
  (23, (.invokevirtual 40, 3), o_cV CX1_readPart 1 1 26),
  (26, (.ifCond .ne 8, 3), o_if (fun x => ¬ x = 0) 34 29),
  (29, (.aload_n 0, 1), o_al 0 30),
  (30, (.invokevirtual 44, 3), o_cV CX1_place 1 0 33),
  (33, (.ireturn, 1), o_ri),
  (34, (.iinc 1 1, 3), o_inc 1 1 37),
  (37, (.goto (-21), 3), o_go 16),
  (40, (.aload_n 0, 1), o_al 0 41),
  (41, (.invokevirtual 48, 3), o_cV CX1_token 1 0 44),
  (44, (.bipush (-26), 2), o_ii (-26) 46),
  (46, (.if_icmp .ne 7, 3), o_ic (fun x y => ¬ x = y) 53 49),
  (49, (.iconst (-1), 1), o_ii (-1) 50),
  (50, (.goto 7, 3), o_go 57),
  (53, (.aload_n 0, 1), o_al 0 54),
  (54, (.invokevirtual 44, 3), o_cV CX1_place 1 0 57),
  (57, (.ireturn, 1), o_ri)]
abbrev CX1_faultOfTape : aC := aCl tX1_faultOfTape 2
def rmX1_faultOfTape : Room := { frames := 64, cells := 0, slots := 0, locals := 1947 }
set_option maxRecDepth 100000 in
theorem dX1_faultOfTape : tX1_faultOfTape.all (fun q => decide (decode cX1_faultOfTape q.1 = .ok q.2.1)) = true := by decide +kernel
set_option maxRecDepth 100000 in
set_option maxHeartbeats 4000000 in
theorem nX1_faultOfTape (l : Launch) : aMt l yX1_faultOfTape (Cond.code yX1_faultOfTape cX1_faultOfTape 2 (some .int) :: wsL_law) rmX1_faultOfTape CX1_faultOfTape := by
  refine aMt.of (own := RX1) (cc := cX1_faultOfTape) (maxL := 2) (ret := (some .int)) (by decide +kernel) rfl rfl ?_
  intro p e s m args below meth c Qc D Z ad P G A E hX hr hlk hE
  have up : ∀ w ∈ wsL_law, w ∈ (Cond.code yX1_faultOfTape cX1_faultOfTape 2 (some .int) :: wsL_law) := fun w h => List.mem_cons_of_mem _ h
  refine aImp_all _ dX1_faultOfTape ?_
  unfold tX1_faultOfTape
  refine aI_c (fun hd => s_al_n hX hd rfl rfl) ?_
  refine aI_c (fun hd => s_cV hX (T := TX1) (N := 8) (nX1_scan l) rfl (wg_V up lmX1_31 loX1_scan) rfl rfl rfl (by decide +kernel) ⟨by decide, by decide⟩ ⟨Nat.zero_le _, Nat.zero_le _⟩ hd rfl) ?_
  refine aI_c (fun hd => s_al_n hX hd rfl rfl) ?_
  refine aI_c (fun hd => s_ii hX hd (by decide) rfl) ?_
  refine aI_c (fun hd => s_pI hX (C := RX1) (T := TX1) (N := 8) (k := 6) rfl (fun w h => up w (inlX1 w h)) (by decide) rfl rfl tyX1 tyX1_ok nmX1 rfl rfl rfl (up _ lkX1_34) hd rfl) ?_
  refine aI_c (fun hd => s_al_n hX hd rfl rfl) ?_
  refine aI_c (fun hd => s_ii hX hd (by decide) rfl) ?_
  refine aI_c (fun hd => s_pI hX (C := RX1) (T := TX1) (N := 8) (k := 7) rfl (fun w h => up w (inlX1 w h)) (by decide) rfl rfl tyX1 tyX1_ok nmX1 rfl rfl rfl (up _ lkX1_37) hd rfl) ?_
  refine aI_c (fun hd => s_ii hX hd (by decide) rfl) ?_
  refine aI_c (fun hd => s_is_n hX hd rfl rfl (by decide)) ?_
  refine aI_c (fun hd => s_il_n hX hd rfl rfl) ?_
  refine aI_c (fun hd => s_ii hX hd (by decide) rfl) ?_
  refine aI_c (fun hd => s_ic_ge hX hd (by decide) rfl) ?_
  refine aI_c (fun hd => s_al_n hX hd rfl rfl) ?_
  refine aI_c (fun hd => s_il_n hX hd rfl rfl) ?_
  refine aI_c (fun hd => s_cV hX (T := TX1) (N := 8) (nX1_readPart l) rfl (wg_V up lmX1_40 loX1_readPart) rfl rfl rfl (by decide +kernel) ⟨by decide, by decide⟩ ⟨Nat.zero_le _, Nat.zero_le _⟩ hd rfl) ?_
  refine aI_c (fun hd => s_if_ne hX hd (by decide) rfl) ?_
  refine aI_c (fun hd => s_al_n hX hd rfl rfl) ?_
  refine aI_c (fun hd => s_cV hX (T := TX1) (N := 8) (nX1_place l) rfl (wg_V up lmX1_44 loX1_place) rfl rfl rfl (by decide +kernel) ⟨by decide, by decide⟩ ⟨Nat.zero_le _, Nat.zero_le _⟩ hd rfl) ?_
  refine aI_c (fun hd => s_ri hX hr hlk hE hd) ?_
  refine aI_c (fun hd => s_inc hX hd (by decide) rfl (by decide)) ?_
  refine aI_c (fun hd => s_go hX hd (by decide)) ?_
  refine aI_c (fun hd => s_al_n hX hd rfl rfl) ?_
  refine aI_c (fun hd => s_cV hX (T := TX1) (N := 8) (nX1_token l) rfl (wg_V up lmX1_48 loX1_token) rfl rfl rfl (by decide +kernel) ⟨by decide, by decide⟩ ⟨Nat.zero_le _, Nat.zero_le _⟩ hd rfl) ?_
  refine aI_c (fun hd => s_bp hX hd (by decide) rfl) ?_
  refine aI_c (fun hd => s_ic_ne hX hd (by decide) rfl) ?_
  refine aI_c (fun hd => s_ii hX hd (by decide) rfl) ?_
  refine aI_c (fun hd => s_go hX hd (by decide)) ?_
  refine aI_c (fun hd => s_al_n hX hd rfl rfl) ?_
  refine aI_c (fun hd => s_cV hX (T := TX1) (N := 8) (nX1_place l) rfl (wg_V up lmX1_44 loX1_place) rfl rfl rfl (by decide +kernel) ⟨by decide, by decide⟩ ⟨Nat.zero_le _, Nat.zero_le _⟩ hd rfl) ?_
  refine aI_c (fun hd => s_ri hX hr hlk hE hd) ?_
  exact trivial
