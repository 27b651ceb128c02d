-- JudgesByLoss$Sheet.isMissing()Z
def tX2_isMissing : aT := [
  (0, (.aload_n 0, 1), o_al 0 1),
  (1, (.getfield 15, 3), o_gI 2 1 4),
  (4, (.iconst (-1), 1), o_ii (-1) 5),
  (5, (.if_icmp .ne 7, 3), o_ic (fun x y => ¬ x = y) 12 8),
  (8, (.iconst 1, 1), o_ii 1 9),
  (9, (.goto 4, 3), o_go 13),
  (12, (.iconst 0, 1), o_ii 0 13),
  (13, (.ireturn, 1), o_rz)]
abbrev CX2_isMissing : aC := aCl tX2_isMissing 1
def rmX2_isMissing : Room := { frames := 1, cells := 0, slots := 0, locals := 1 }
set_option maxRecDepth 100000 in
theorem dX2_isMissing : tX2_isMissing.all (fun q => decide (decode cX2_isMissing q.1 = .ok q.2.1)) = true := by decide +kernel
set_option maxRecDepth 100000 in
set_option maxHeartbeats 4000000 in
theorem nX2_isMissing (l : Launch) : aMt l yX2_isMissing (Cond.code yX2_isMissing cX2_isMissing 1 (some .boolean) :: wsL_law) rmX2_isMissing CX2_isMissing := by
  refine aMt.of (own := RX2) (cc := cX2_isMissing) (maxL := 1) (ret := (some .boolean)) (by decide +kernel) rfl rfl ?_
  intro p e s m args below meth c Qc D Z ad P G A E hX hr hlk hE
  have up : ∀ w ∈ wsL_law, w ∈ (Cond.code yX2_isMissing cX2_isMissing 1 (some .boolean) :: wsL_law) := fun w h => List.mem_cons_of_mem _ h
  refine aImp_all _ dX2_isMissing ?_
  unfold tX2_isMissing
  refine aI_c (fun hd => s_al_n hX hd rfl rfl) ?_
  refine aI_c (fun hd => s_gI hX (C := RX2) (T := TX2) (N := 3) (k := 1) rfl (fun w h => up w (inlX2 w h)) (by decide) rfl rfl rfl (up _ lkX2_15) hd rfl) ?_
  refine aI_c (fun hd => s_ii hX hd (by decide) rfl) ?_
  refine aI_c (fun hd => s_ic_ne hX hd (by decide) rfl) ?_
  refine aI_c (fun hd => s_ii hX hd (by decide) rfl) ?_
  refine aI_c (fun hd => s_go hX hd (by decide)) ?_
  refine aI_c (fun hd => s_ii hX hd (by decide) rfl) ?_
  refine aI_c (fun hd => s_rz hX hr hlk hE hd) ?_
  exact trivial

-- JudgesByLoss$Sheet.renew(II)V
def tX2_renew : aT := [
  (0, (.aload_n 0, 1), o_al 0 1),
  (1, (.iload_n 1, 1), o_il 1 2),
  (2, (.putfield 15, 3), o_pI 2 1 5),
  (5, (.aload_n 0, 1), o_al 0 6),
  (6, (.iconst 0, 1), o_ii 0 7),
  (7, (.bipush 40, 2), o_ii 40 9),
  (9, (.iload_n 2, 1), o_il 2 10),
  (10, (.invokestatic 19, 3), o_min 13),
  (13, (.invokestatic 25, 3), o_max 16),
  (16, (.putfield 28, 3), o_pI 2 2 19),
  (19, (.iconst 0, 1), o_ii 0 20),
  (20, (.istore_n 3, 1), o_is 3 21),
  (21, (.iload_n 3, 1), o_mk [false, true, true, false] (o_il 3 22)),
  (22, (.bipush 40, 2), o_ii 40 24),
  (24, (.if_icmp .ge 16, 3), o_ic (fun x y => y ≤ x) 40 27),
  (27, (.aload_n 0, 1), o_al 0 28),
  (28, (.getfield 9, 3), o_gF 2 1 31),
  (31, (.iload_n 3, 1), o_il 3 32),
  (32, (.iconst 0, 1), o_ii 0 33),
  (33, (.iastore, 1), o_iast 34),
  (34, (.iinc 3 1, 3), o_inc 3 1 37),
  (37, (.goto (-16), 3), o_go 21),
  (40, (.return_, 1), o_rv)]
abbrev CX2_renew : aC := aCl tX2_renew 4
def rmX2_renew : Room := { frames := 1, cells := 0, slots := 0, locals := 21 }
set_option maxRecDepth 100000 in
theorem dX2_renew : tX2_renew.all (fun q => decide (decode cX2_renew q.1 = .ok q.2.1)) = true := by decide +kernel
set_option maxRecDepth 100000 in
set_option maxHeartbeats 4000000 in
theorem nX2_renew (l : Launch) : aMt l yX2_renew (Cond.code yX2_renew cX2_renew 4 none :: wsL_law) rmX2_renew CX2_renew := by
  refine aMt.of (own := RX2) (cc := cX2_renew) (maxL := 4) (ret := none) (by decide +kernel) rfl rfl ?_
  intro p e s m args below meth c Qc D Z ad P G A E hX hr hlk hE
  have up : ∀ w ∈ wsL_law, w ∈ (Cond.code yX2_renew cX2_renew 4 none :: wsL_law) := fun w h => List.mem_cons_of_mem _ h
  refine aImp_all _ dX2_renew ?_
  unfold tX2_renew
  refine aI_c (fun hd => s_al_n hX hd rfl rfl) ?_
  refine aI_c (fun hd => s_il_n hX hd rfl rfl) ?_
  refine aI_c (fun hd => s_pI hX (C := RX2) (T := TX2) (N := 3) (k := 1) rfl (fun w h => up w (inlX2 w h)) (by decide) rfl rfl tyX2 tyX2_ok nmX2 rfl rfl rfl (up _ lkX2_15) hd rfl) ?_
  refine aI_c (fun hd => s_al_n hX hd rfl rfl) ?_
  refine aI_c (fun hd => s_ii hX hd (by decide) rfl) ?_
  refine aI_c (fun hd => s_bp hX hd (by decide) rfl) ?_
  refine aI_c (fun hd => s_il_n hX hd rfl rfl) ?_
  refine aI_c (fun hd => s_min hX (up _ lmX2_19) (up _ wma_smin) (up _ wma_i) (up _ wma_cmin) ⟨by decide, by decide⟩ ⟨Nat.zero_le _, Nat.zero_le _⟩ hd rfl) ?_
  refine aI_c (fun hd => s_max hX (up _ lmX2_25) (up _ wma_smax) (up _ wma_i) (up _ wma_cmax) ⟨by decide, by decide⟩ ⟨Nat.zero_le _, Nat.zero_le _⟩ hd rfl) ?_
  refine aI_c (fun hd => s_pI hX (C := RX2) (T := TX2) (N := 3) (k := 2) rfl (fun w h => up w (inlX2 w h)) (by decide) rfl rfl tyX2 tyX2_ok nmX2 rfl rfl rfl (up _ lkX2_28) hd rfl) ?_
  refine aI_c (fun hd => s_ii hX hd (by decide) rfl) ?_
  refine aI_c (fun hd => s_is_n hX hd rfl rfl (by decide)) ?_
  refine aI_c (fun hd => s_mk (s_il_n hX hd rfl rfl)) ?_
  refine aI_c (fun hd => s_bp hX hd (by decide) rfl) ?_
  refine aI_c (fun hd => s_ic_ge hX hd (by decide) rfl) ?_
  refine aI_c (fun hd => s_al_n hX hd rfl rfl) ?_
  refine aI_c (fun hd => s_gF hX (C := RX2) (T := TX2) (N := 3) (k := 0) rfl (fun w h => up w (inlX2 w h)) (by decide) rfl rfl rfl (up _ lkX2_9) hd rfl) ?_
  refine aI_c (fun hd => s_il_n hX hd rfl rfl) ?_
  refine aI_c (fun hd => s_ii hX hd (by decide) rfl) ?_
  refine aI_c (fun hd => s_iast hX hd rfl) ?_
  refine aI_c (fun hd => s_inc hX hd (by decide) rfl (by decide)) ?_
  refine aI_c (fun hd => s_go hX hd (by decide)) ?_
  refine aI_c (fun hd => s_rv hX hr hlk hE hd) ?_
  exact trivial

-- JudgesByLoss$Sheet.cut(I)I
def tX2_cut : aT := [
  (0, (.aload_n 0, 1), o_al 0 1),
  (1, (.getfield 15, 3), o_gI 2 1 4),
  (4, (.ifCond .ne 8, 3), o_if (fun x => ¬ x = 0) 12 7),
  (7, (.iload_n 1, 1), o_il 1 8),
  (8, (.i2b, 1), o_ui (fun x => x.toInt8.toInt32) 9),
  (9, (.goto 17, 3), o_go 26),
  (12, (.aload_n 0, 1), o_al 0 13),
  (13, (.getfield 15, 3), o_gI 2 1 16),
  (16, (.iconst 1, 1), o_ii 1 17),
  (17, (.if_icmp .ne 8, 3), o_ic (fun x y => ¬ x = y) 25 20),
  (20, (.iload_n 1, 1), o_il 1 21),
  (21, (.i2s, 1), o_ui (fun x => x.toInt16.toInt32) 22),
  (22, (.goto 4, 3), o_go 26),
  (25, (.iload_n 1, 1), o_il 1 26),
  (26, (.ireturn, 1), o_ri)]
abbrev CX2_cut : aC := aCl tX2_cut 2
def rmX2_cut : Room := { frames := 1, cells := 0, slots := 0, locals := 1 }
set_option maxRecDepth 100000 in
theorem dX2_cut : tX2_cut.all (fun q => decide (decode cX2_cut q.1 = .ok q.2.1)) = true := by decide +kernel
set_option maxRecDepth 100000 in
set_option maxHeartbeats 4000000 in
theorem nX2_cut (l : Launch) : aMt l yX2_cut (Cond.code yX2_cut cX2_cut 2 (some .int) :: wsL_law) rmX2_cut CX2_cut := by
  refine aMt.of (own := RX2) (cc := cX2_cut) (maxL := 2) (ret := (some .int)) (by decide +kernel) rfl rfl ?_
  intro p e s m args below meth c Qc D Z ad P G A E hX hr hlk hE
  have up : ∀ w ∈ wsL_law, w ∈ (Cond.code yX2_cut cX2_cut 2 (some .int) :: wsL_law) := fun w h => List.mem_cons_of_mem _ h
  refine aImp_all _ dX2_cut ?_
  unfold tX2_cut
  refine aI_c (fun hd => s_al_n hX hd rfl rfl) ?_
  refine aI_c (fun hd => s_gI hX (C := RX2) (T := TX2) (N := 3) (k := 1) rfl (fun w h => up w (inlX2 w h)) (by decide) rfl rfl rfl (up _ lkX2_15) hd rfl) ?_
  refine aI_c (fun hd => s_if_ne hX hd (by decide) rfl) ?_
  refine aI_c (fun hd => s_il_n hX hd rfl rfl) ?_
  refine aI_c (fun hd => s_i2b hX hd rfl) ?_
  refine aI_c (fun hd => s_go hX hd (by decide)) ?_
  refine aI_c (fun hd => s_al_n hX hd rfl rfl) ?_
  refine aI_c (fun hd => s_gI hX (C := RX2) (T := TX2) (N := 3) (k := 1) rfl (fun w h => up w (inlX2 w h)) (by decide) rfl rfl rfl (up _ lkX2_15) hd rfl) ?_
  refine aI_c (fun hd => s_ii hX hd (by decide) rfl) ?_
  refine aI_c (fun hd => s_ic_ne hX hd (by decide) rfl) ?_
  refine aI_c (fun hd => s_il_n hX hd rfl rfl) ?_
  refine aI_c (fun hd => s_i2s hX hd rfl) ?_
  refine aI_c (fun hd => s_go hX hd (by decide)) ?_
  refine aI_c (fun hd => s_il_n hX hd rfl rfl) ?_
  refine aI_c (fun hd => s_ri hX hr hlk hE hd) ?_
  exact trivial

-- JudgesByLoss$Sheet.holds(II)Z
def tX2_holds : aT := [
  (0, (.iload_n 1, 1), o_il 1 1),
  (1, (.ifCond .lt 29, 3), o_if (fun x => x < 0) 30 4),
  (4, (.iload_n 2, 1), o_il 2 5),
  (5, (.ifCond .lt 25, 3), o_if (fun x => x < 0) 30 8),
  (8, (.iload_n 2, 1), o_il 2 9),
  (9, (.aload_n 0, 1), o_al 0 10),
  (10, (.getfield 28, 3), o_gI 2 2 13),
  (13, (.if_icmp .gt 17, 3), o_ic (fun x y => y < x) 30 16),
  (16, (.iload_n 1, 1), o_il 1 17),
  (17, (.aload_n 0, 1), o_al 0 18),
  (18, (.getfield 28, 3), o_gI 2 2 21),
  (21, (.iload_n 2, 1), o_il 2 22),
  (22, (.isub, 1), o_bi (fun x y => x - y) 23),
  (23, (.if_icmp .gt 7, 3), o_ic (fun x y => y < x) 30 26),
  (26, (.iconst 1, 1), o_ii 1 27),
  (27, (.goto 4, 3), o_go 31),
  (30, (.iconst 0, 1), o_ii 0 31),
  (31, (.ireturn, 1), o_rz)]
abbrev CX2_holds : aC := aCl tX2_holds 3
def rmX2_holds : Room := { frames := 1, cells := 0, slots := 0, locals := 1 }
set_option maxRecDepth 100000 in
theorem dX2_holds : tX2_holds.all (fun q => decide (decode cX2_holds q.1 = .ok q.2.1)) = true := by decide +kernel
set_option maxRecDepth 100000 in
set_option maxHeartbeats 4000000 in
theorem nX2_holds (l : Launch) : aMt l yX2_holds (Cond.code yX2_holds cX2_holds 3 (some .boolean) :: wsL_law) rmX2_holds CX2_holds := by
  refine aMt.of (own := RX2) (cc := cX2_holds) (maxL := 3) (ret := (some .boolean)) (by decide +kernel) rfl rfl ?_
  intro p e s m args below meth c Qc D Z ad P G A E hX hr hlk hE
  have up : ∀ w ∈ wsL_law, w ∈ (Cond.code yX2_holds cX2_holds 3 (some .boolean) :: wsL_law) := fun w h => List.mem_cons_of_mem _ h
  refine aImp_all _ dX2_holds ?_
  unfold tX2_holds
  refine aI_c (fun hd => s_il_n hX hd rfl rfl) ?_
  refine aI_c (fun hd => s_if_lt hX hd (by decide) rfl) ?_
  refine aI_c (fun hd => s_il_n hX hd rfl rfl) ?_
  refine aI_c (fun hd => s_if_lt hX hd (by decide) rfl) ?_
  refine aI_c (fun hd => s_il_n hX hd rfl rfl) ?_
  refine aI_c (fun hd => s_al_n hX hd rfl rfl) ?_
  refine aI_c (fun hd => s_gI hX (C := RX2) (T := TX2) (N := 3) (k := 2) rfl (fun w h => up w (inlX2 w h)) (by decide) rfl rfl rfl (up _ lkX2_28) hd rfl) ?_
  refine aI_c (fun hd => s_ic_gt hX hd (by decide) rfl) ?_
  refine aI_c (fun hd => s_il_n hX hd rfl rfl) ?_
  refine aI_c (fun hd => s_al_n hX hd rfl rfl) ?_
  refine aI_c (fun hd => s_gI hX (C := RX2) (T := TX2) (N := 3) (k := 2) rfl (fun w h => up w (inlX2 w h)) (by decide) rfl rfl rfl (up _ lkX2_28) hd rfl) ?_
  refine aI_c (fun hd => s_il_n hX hd rfl rfl) ?_
  refine aI_c (fun hd => s_isub hX hd rfl) ?_
  refine aI_c (fun hd => s_ic_gt hX hd (by decide) rfl) ?_
  refine aI_c (fun hd => s_ii hX hd (by decide) rfl) ?_
  refine aI_c (fun hd => s_go hX hd (by decide)) ?_
  refine aI_c (fun hd => s_ii hX hd (by decide) rfl) ?_
  refine aI_c (fun hd => s_rz hX hr hlk hE hd) ?_
  exact trivial
