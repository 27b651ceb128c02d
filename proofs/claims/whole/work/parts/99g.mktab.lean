theorem mw0 : Cond.methodLink RX3 1 objectInit ∈ wsL_law := wr2 _ (List.mem_of_getElem? (i := 20) (by decide +kernel))
theorem mw1 : Cond.instanceMethod objectInit ∈ wsL_law := wr1 _ (List.mem_of_getElem? (i := 10) (by decide +kernel))
theorem mw2 : Cond.code objectInit ⟨#[0xb1]⟩ 1 none ∈ wsL_law := wr1 _ (List.mem_of_getElem? (i := 11) rfl)
theorem mw3 : Cond.arrayClass .int ∈ wsL_law := wr1 _ (List.mem_of_getElem? (i := 21) (by decide +kernel))
theorem mw4 : Cond.classLink RX1 57 RX3 ∈ wsL_law := wr15 _ (List.mem_of_getElem? (i := 14) (by decide +kernel))
theorem mw5 : Cond.instantiable RX3 3 ∈ wsL_law := wr1 _ (List.mem_of_getElem? (i := 23) (by decide +kernel))
theorem mw6 : Cond.initialized RX3 ∈ wsL_law := wr2 _ (List.mem_of_getElem? (i := 0) (by decide +kernel))
theorem mw7 : Cond.methodLink RX1 59 ⟨"[I", "clone", "()Ljava/lang/Object;"⟩ ∈ wsL_law := wr15 _ (List.mem_of_getElem? (i := 15) (by decide +kernel))
theorem mw8 : Cond.sameMethod "[I" "java/lang/Object" "clone" "()Ljava/lang/Object;" ∈ wsL_law := wr15 _ (List.mem_of_getElem? (i := 16) (by decide +kernel))
theorem mw9 : Cond.native ⟨"java/lang/Object", "clone", "()Ljava/lang/Object;"⟩ ∈ wsL_law := wr15 _ (List.mem_of_getElem? (i := 17) (by decide +kernel))
theorem mw10 : Cond.instanceMethod ⟨"java/lang/Object", "clone", "()Ljava/lang/Object;"⟩ ∈ wsL_law := wr15 _ (List.mem_of_getElem? (i := 18) (by decide +kernel))
theorem mw11 : Cond.selects "[I" ⟨"[I", "clone", "()Ljava/lang/Object;"⟩ ⟨"java/lang/Object", "clone", "()Ljava/lang/Object;"⟩ ∈ wsL_law := wr15 _ (List.mem_of_getElem? (i := 19) (by decide +kernel))
theorem mw12 : Cond.classLink RX1 60 "[I" ∈ wsL_law := wr15 _ (List.mem_of_getElem? (i := 20) (by decide +kernel))
theorem mw13 : Cond.code yX3_init cX3_init 3 none ∈ wsL_law := wr2 _ (List.mem_of_getElem? (i := 19) rfl)
theorem mw14 : Cond.methodLink RX1 64 yX3_init ∈ wsL_law := wr15 _ (List.mem_of_getElem? (i := 21) (by decide +kernel))
theorem mw15 : Cond.instanceMethod yX3_init ∈ wsL_law := wr2 _ (List.mem_of_getElem? (i := 18) (by decide +kernel))
theorem mw16 : Cond.methodLink RX0 3 objectInit ∈ wsL_law := wr3 _ (List.mem_of_getElem? (i := 3) (by decide +kernel))
theorem mw17 : Cond.methodLink RX1 3 objectInit ∈ wsL_law := wr2 _ (List.mem_of_getElem? (i := 11) (by decide +kernel))
theorem mw18 : Cond.methodLink RX2 3 objectInit ∈ wsL_law := wr3 _ (List.mem_of_getElem? (i := 16) (by decide +kernel))
theorem mw19 : Cond.instanceMethod yX1_whatWasRead ∈ wsL_law := wr15 _ (List.mem_of_getElem? (i := 7) (by decide +kernel))
theorem mw20 : Cond.selects RX1 yX1_whatWasRead yX1_whatWasRead ∈ wsL_law := wr15 _ (List.mem_of_getElem? (i := 8) (by decide +kernel))
theorem mw21 : Cond.initialized RX1 ∈ wsL_law := wr1 _ (List.mem_of_getElem? (i := 17) (by decide +kernel))
theorem mw22 : Cond.code yX1_whatWasRead cX1_whatWasRead 2 (some (.object "JudgesByLoss$Text")) ∈ wsL_law := wr15 _ (List.mem_of_getElem? (i := 9) rfl)
theorem mw23 : Cond.methodLink RX4 1 objectInit ∈ wsL_law := wr1 _ (List.mem_of_getElem? (i := 9) (by decide +kernel))
theorem mw24 : Cond.classLink RX4 9 RX3 ∈ wsL_law := wr1 _ (List.mem_of_getElem? (i := 12) (by decide +kernel))
theorem mw25 : Cond.classLink RX4 19 RX1 ∈ wsL_law := wr1 _ (List.mem_of_getElem? (i := 15) (by decide +kernel))
theorem mw26 : Cond.instantiable RX1 8 ∈ wsL_law := wr1 _ (List.mem_of_getElem? (i := 16) (by decide +kernel))
theorem mw27 : Cond.code yX1_init cX1_init 1 none ∈ wsL_law := wr2 _ (List.mem_of_getElem? (i := 10) rfl)
theorem mw28 : Cond.instanceMethod yX1_init ∈ wsL_law := wr2 _ (List.mem_of_getElem? (i := 9) (by decide +kernel))
theorem mw29 : Cond.classLink RX4 26 RX2 ∈ wsL_law := wr1 _ (List.mem_of_getElem? (i := 19) (by decide +kernel))
theorem mw30 : Cond.methodLink RX4 36 yX3_init ∈ wsL_law := wr2 _ (List.mem_of_getElem? (i := 17) (by decide +kernel))
theorem mw31 : Cond.classLink RX4 39 RX0 ∈ wsL_law := wr2 _ (List.mem_of_getElem? (i := 1) (by decide +kernel))
theorem mw32 : Cond.instantiable RX0 15 ∈ wsL_law := wr2 _ (List.mem_of_getElem? (i := 2) (by decide +kernel))
theorem mw33 : Cond.initialized RX0 ∈ wsL_law := wr2 _ (List.mem_of_getElem? (i := 3) (by decide +kernel))
theorem mw34 : Cond.code yX0_init cX0_init 2 none ∈ wsL_law := wr3 _ (List.mem_of_getElem? (i := 2) rfl)
theorem mw35 : Cond.methodLink RX4 41 yX0_init ∈ wsL_law := wr3 _ (List.mem_of_getElem? (i := 0) (by decide +kernel))
theorem mw36 : Cond.instanceMethod yX0_init ∈ wsL_law := wr3 _ (List.mem_of_getElem? (i := 1) (by decide +kernel))
theorem mw37 : Cond.instantiable RX2 3 ∈ wsL_law := wr2 _ (List.mem_of_getElem? (i := 7) (by decide +kernel))
theorem mw38 : Cond.initialized RX2 ∈ wsL_law := wr2 _ (List.mem_of_getElem? (i := 8) (by decide +kernel))
theorem mw39 : Cond.code yX2_init cX2_init 1 none ∈ wsL_law := wr3 _ (List.mem_of_getElem? (i := 15) rfl)
theorem mw40 : Cond.instanceMethod yX2_init ∈ wsL_law := wr3 _ (List.mem_of_getElem? (i := 14) (by decide +kernel))
theorem mw41 : Cond.methodLink RX5 1 objectInit ∈ wsL_law := wr3 _ (List.mem_of_getElem? (i := 22) (by decide +kernel))
theorem wg_I {Ts : List Cond} {n : Nat} {y : MethodName} {cc : ByteArray} {ret : Option FieldType} (hT : ∀ w ∈ wsL_law, w ∈ Ts) (h1 : Cond.code y cc n ret ∈ wsL_law) : GoodIn Ts (Cond.code y cc n ret :: wsL_law) := by
  have key : ∀ w ∈ (Cond.code y cc n ret :: wsL_law), w ∈ wsL_law := by
    intro w h
    rcases List.mem_cons.mp h with rfl | h
    · exact h1
    · exact h
  exact fun w h => ⟨hT w (key w h), good_of_word (List.all_eq_true.mp wgood w (key w h))⟩
theorem hdfX0 : ∀ k, k < 15 → defaultValue (tyX0 k) = if alay 0 k = 0 then Value.int 0 else .null := by decide +kernel
theorem hdfX1 : ∀ k, k < 8 → defaultValue (tyX1 k) = if alay 1 k = 0 then Value.int 0 else .null := by decide +kernel
theorem hdfX2 : ∀ k, k < 3 → defaultValue (tyX2 k) = if alay 2 k = 0 then Value.int 0 else .null := by decide +kernel
theorem hdfX3 : ∀ k, k < 3 → defaultValue (tyX3 k) = if alay 3 k = 0 then Value.int 0 else .null := by decide +kernel
theorem hdfX4 : ∀ k, k < 9 → defaultValue (tyX4 k) = if alay 4 k = 0 then Value.int 0 else .null := by decide +kernel
theorem hdfX5 : ∀ k, k < 35 → defaultValue (tyX5 k) = if alay 5 k = 0 then Value.int 0 else .null := by decide +kernel
-- <init>([I[I)V
def tX3_init : bT := [
  (0, (.aload_n 0, 1), bL (o_al 0 1)),
  (1, (.invokespecial 1, 3), b_obj 4),
  (4, (.aload_n 0, 1), bL (o_al 0 5)),
  (5, (.bipush 40, 2), bL (o_ii 40 7)),
  (7, (.newarray .int, 2), b_nwa 1 40 9),
  (9, (.putfield 9, 3), b_pwR 3 2 12),
  (12, (.aload_n 0, 1), bL (o_al 0 13)),
  (13, (.aload_n 1, 1), bL (o_al 1 14)),
  (14, (.putfield 13, 3), b_pwR 3 0 17),
  (17, (.aload_n 0, 1), bL (o_al 0 18)),
  (18, (.aload_n 2, 1), bL (o_al 2 19)),
  (19, (.putfield 16, 3), b_pwR 3 1 22),
  (22, (.return_, 1), b_mk 3 (b_rv))]
abbrev CX3_init : aC := fun args μ r μ' => bRk r ∧ bCl tX3_init 3 1 40 args μ r μ'
def rmX3_init : Room := { frames := 1, cells := 1, slots := 40, locals := 20 }
set_option maxRecDepth 100000 in
theorem dX3_init : tX3_init.all (fun q => decide (decode cX3_init q.1 = .ok q.2.1)) = true := by decide +kernel
set_option maxRecDepth 100000 in
theorem kX3_init : bKl tX3_init := by
  unfold tX3_init
  refine bK_c (bl_L lin_al) ?_
  refine bK_c bl_obj ?_
  refine bK_c (bl_L lin_al) ?_
  refine bK_c (bl_L lin_ii) ?_
  refine bK_c bl_nwa ?_
  refine bK_c bl_pwR ?_
  refine bK_c (bl_L lin_al) ?_
  refine bK_c (bl_L lin_al) ?_
  refine bK_c bl_pwR ?_
  refine bK_c (bl_L lin_al) ?_
  refine bK_c (bl_L lin_al) ?_
  refine bK_c bl_pwR ?_
  refine bK_c (bl_mk bl_rv) ?_
  exact bK_n
set_option maxRecDepth 100000 in
set_option maxHeartbeats 4000000 in
theorem nX3_init (l : Launch) : bMt l yX3_init (Cond.code yX3_init cX3_init 3 none :: wsL_law) rmX3_init 1 40 CX3_init := by
  refine bMt.of (own := RX3) (cc := cX3_init) (maxL := 3) (ret := none) (by decide +kernel) rfl rfl ?_
  intro p e s m args below meth c Qc D Z ad0 G0 A E hX hnm hr hlk hE
  have up : ∀ w ∈ wsL_law, w ∈ (Cond.code yX3_init cX3_init 3 none :: wsL_law) := fun w h => List.mem_cons_of_mem _ h
  refine bImp_all _ dX3_init ?_
  unfold tX3_init
  refine bI_c (fun hd => t_L hX cls_al (fun ad P G cells slots F hX h => s_al_n hX hd rfl rfl)) ?_
  refine bI_c (fun hd => t_obj hX (up _ mw0) (up _ mw1) (up _ mw2) ⟨by decide, by decide⟩ hd rfl) ?_
  refine bI_c (fun hd => t_L hX cls_al (fun ad P G cells slots F hX h => s_al_n hX hd rfl rfl)) ?_
  refine bI_c (fun hd => t_L hX cls_ii (fun ad P G cells slots F hX h => s_bp hX hd (by decide) rfl)) ?_
  refine bI_c (fun hd => t_nwa hX rfl (up _ mw3) hd rfl) ?_
  refine bI_c (fun hd => t_pwR hX (C := RX3) (T := TX3) (N := 3) (k := 2) rfl rfl (fun w h => up w (inlX3 w h)) (by decide) (by decide) tyX3 tyX3_ok nmX3 (Or.inr ⟨rfl, hnm, rfl⟩) (fun a => ⟨rfl, rfl⟩) rfl (up _ lkX3_9) hd rfl) ?_
  refine bI_c (fun hd => t_L hX cls_al (fun ad P G cells slots F hX h => s_al_n hX hd rfl rfl)) ?_
  refine bI_c (fun hd => t_L hX cls_al (fun ad P G cells slots F hX h => s_al_n hX hd rfl rfl)) ?_
  refine bI_c (fun hd => t_pwR hX (C := RX3) (T := TX3) (N := 3) (k := 0) rfl rfl (fun w h => up w (inlX3 w h)) (by decide) (by decide) tyX3 tyX3_ok nmX3 (Or.inr ⟨rfl, hnm, rfl⟩) (fun a => ⟨rfl, rfl⟩) rfl (up _ lkX3_13) hd rfl) ?_
  refine bI_c (fun hd => t_L hX cls_al (fun ad P G cells slots F hX h => s_al_n hX hd rfl rfl)) ?_
  refine bI_c (fun hd => t_L hX cls_al (fun ad P G cells slots F hX h => s_al_n hX hd rfl rfl)) ?_
  refine bI_c (fun hd => t_pwR hX (C := RX3) (T := TX3) (N := 3) (k := 1) rfl rfl (fun w h => up w (inlX3 w h)) (by decide) (by decide) tyX3 tyX3_ok nmX3 (Or.inr ⟨rfl, hnm, rfl⟩) (fun a => ⟨rfl, rfl⟩) rfl (up _ lkX3_16) hd rfl) ?_
  refine bI_c (fun hd => t_mk (t_rv hX hr hlk hE hd)) ?_
  exact trivial
-- whatWasRead()LJudgesByLoss$Text;
def tX1_whatWasRead : bT := [
  (0, (.aload_n 0, 1), bL (o_al 0 1)),
  (1, (.getfield 37, 3), bL (o_gI 1 7 4)),
  (4, (.newarray .int, 2), b_nwa 4 206 6),
  (6, (.astore_n 1, 1), bL (o_as 1 7)),
  (7, (.aload_n 0, 1), bL (o_al 0 8)),
  (8, (.getfield 21, 3), bL (o_gF 1 4 11)),
  (11, (.iconst 0, 1), bL (o_ii 0 12)),
  (12, (.aload_n 1, 1), bL (o_al 1 13)),
  (13, (.iconst 0, 1), bL (o_ii 0 14)),
  (14, (.aload_n 0, 1), bL (o_al 0 15)),
  (15, (.getfield 37, 3), bL (o_gI 1 7 18)),
  (18, (.invokestatic 51, 3), bL (o_cpy 21)),
  (21, (.new 57, 3), b_new 3 3 4 206 24),
  (24, (.dup, 1), bL (o_dup 25)),
  (25, (.aload_n 1, 1), bL (o_al 1 26)),
  (26, (.aload_n 0, 1), bL (o_al 0 27)),
  (27, (.getfield 24, 3), bL (o_gF 1 5 30)),
  (30, (.invokevirtual 59, 3), b_cln 4 206 33),
  (33, (.checkcast 60, 3), b_cst 36),
  (36, (.invokespecial 64, 3), b_cI CX3_init 3 2 1 40 4 206 39),
  (39, (.areturn, 1), b_rr)]
abbrev CX1_whatWasRead : aC := fun args μ r μ' => bRk r ∧ bCl tX1_whatWasRead 2 4 206 args μ r μ'
def rmX1_whatWasRead : Room := { frames := 2, cells := 4, slots := 206, locals := 60 }
set_option maxRecDepth 100000 in
theorem dX1_whatWasRead : tX1_whatWasRead.all (fun q => decide (decode cX1_whatWasRead q.1 = .ok q.2.1)) = true := by decide +kernel
set_option maxRecDepth 100000 in
theorem kX1_whatWasRead : bKl tX1_whatWasRead := by
  unfold tX1_whatWasRead
  refine bK_c (bl_L lin_al) ?_
  refine bK_c (bl_L lin_gI) ?_
  refine bK_c bl_nwa ?_
  refine bK_c (bl_L lin_as) ?_
  refine bK_c (bl_L lin_al) ?_
  refine bK_c (bl_L lin_gF) ?_
  refine bK_c (bl_L lin_ii) ?_
  refine bK_c (bl_L lin_al) ?_
  refine bK_c (bl_L lin_ii) ?_
  refine bK_c (bl_L lin_al) ?_
  refine bK_c (bl_L lin_gI) ?_
  refine bK_c (bl_L lin_cpy) ?_
  refine bK_c bl_new ?_
  refine bK_c (bl_L lin_dup) ?_
  refine bK_c (bl_L lin_al) ?_
  refine bK_c (bl_L lin_al) ?_
  refine bK_c (bl_L lin_gF) ?_
  refine bK_c bl_cln ?_
  refine bK_c bl_cst ?_
  refine bK_c bl_cI ?_
  refine bK_c bl_rr ?_
  exact bK_n
set_option maxRecDepth 100000 in
set_option maxHeartbeats 4000000 in
theorem nX1_whatWasRead (l : Launch) : bMt l yX1_whatWasRead (Cond.code yX1_whatWasRead cX1_whatWasRead 2 (some (.object "JudgesByLoss$Text")) :: wsL_law) rmX1_whatWasRead 4 206 CX1_whatWasRead := by
  refine bMt.of (own := RX1) (cc := cX1_whatWasRead) (maxL := 2) (ret := (some (.object "JudgesByLoss$Text"))) (by decide +kernel) rfl rfl ?_
  intro p e s m args below meth c Qc D Z ad0 G0 A E hX hnm hr hlk hE
  have up : ∀ w ∈ wsL_law, w ∈ (Cond.code yX1_whatWasRead cX1_whatWasRead 2 (some (.object "JudgesByLoss$Text")) :: wsL_law) := fun w h => List.mem_cons_of_mem _ h
  refine bImp_all _ dX1_whatWasRead ?_
  unfold tX1_whatWasRead
  refine bI_c (fun hd => t_L hX cls_al (fun ad P G cells slots F hX h => s_al_n hX hd rfl rfl)) ?_
  refine bI_c (fun hd => t_L hX cls_gI (fun ad P G cells slots F hX h => s_gI hX (C := RX1) (T := TX1) (N := 8) (k := 7) rfl (fun w h => up w (inlX1 w h)) (by decide) rfl rfl rfl (up _ lkX1_37) hd rfl)) ?_
  refine bI_c (fun hd => t_nwa hX rfl (up _ mw3) hd rfl) ?_
  refine bI_c (fun hd => t_L hX cls_as (fun ad P G cells slots F hX h => s_as_n hX hd rfl rfl (by decide))) ?_
  refine bI_c (fun hd => t_L hX cls_al (fun ad P G cells slots F hX h => s_al_n hX hd rfl rfl)) ?_
  refine bI_c (fun hd => t_L hX (cls_gF 3 rfl (Nat.le_of_ble_eq_true rfl)) (fun ad P G cells slots F hX h => s_gF hX (C := RX1) (T := TX1) (N := 8) (k := 3) rfl (fun w h => up w (inlX1 w h)) (by decide) rfl rfl rfl (up _ lkX1_21) hd rfl)) ?_
  refine bI_c (fun hd => t_L hX cls_ii (fun ad P G cells slots F hX h => s_ii hX hd (by decide) rfl)) ?_
  refine bI_c (fun hd => t_L hX cls_al (fun ad P G cells slots F hX h => s_al_n hX hd rfl rfl)) ?_
  refine bI_c (fun hd => t_L hX cls_ii (fun ad P G cells slots F hX h => s_ii hX hd (by decide) rfl)) ?_
  refine bI_c (fun hd => t_L hX cls_al (fun ad P G cells slots F hX h => s_al_n hX hd rfl rfl)) ?_
  refine bI_c (fun hd => t_L hX cls_gI (fun ad P G cells slots F hX h => s_gI hX (C := RX1) (T := TX1) (N := 8) (k := 7) rfl (fun w h => up w (inlX1 w h)) (by decide) rfl rfl rfl (up _ lkX1_37) hd rfl)) ?_
  refine bI_c (fun hd => t_L hX cls_cpy (fun ad P G cells slots F hX h => s_cpy hX (up _ lmX1_51) (up _ wac_n) (up _ wac_s) (up _ wac_i) ⟨by decide, by decide⟩ hd rfl)) ?_
  refine bI_c (fun hd => t_new hX (C := RX3) (T := TX3) rfl rfl (fun w h => up w (inlX3 w h)) tyX3 tyX3_ok hdfX3 (up _ mw4) (up _ mw5) (up _ mw6) hd rfl) ?_
  refine bI_c (fun hd => t_L hX cls_dup (fun ad P G cells slots F hX h => s_dup hX hd rfl)) ?_
  refine bI_c (fun hd => t_L hX cls_al (fun ad P G cells slots F hX h => s_al_n hX hd rfl rfl)) ?_
  refine bI_c (fun hd => t_L hX cls_al (fun ad P G cells slots F hX h => s_al_n hX hd rfl rfl)) ?_
  refine bI_c (fun hd => t_L hX (cls_gF 4 rfl (Nat.le_of_ble_eq_true rfl)) (fun ad P G cells slots F hX h => s_gF hX (C := RX1) (T := TX1) (N := 8) (k := 4) rfl (fun w h => up w (inlX1 w h)) (by decide) rfl rfl rfl (up _ lkX1_24) hd rfl)) ?_
  refine bI_c (fun hd => t_cln hX (up _ mw7) (up _ mw8) (up _ mw9) (up _ mw10) (up _ mw11) ⟨by decide, by decide⟩ hd rfl) ?_
  refine bI_c (fun hd => t_cst hX (up _ mw12) hd rfl) ?_
  refine bI_c (fun hd => t_cI hX (nX3_init l) (wg_I up mw13) (up _ mw6) (up _ mw14) (up _ mw15) rfl rfl rfl rfl (by decide +kernel) ⟨by decide, by decide⟩ hd rfl) ?_
  refine bI_c (fun hd => t_rr hX hr hlk hE hd) ?_
  exact trivial
-- <init>(LJudgesByLoss$Text;)V
def tX0_init : bT := [
  (0, (.aload_n 0, 1), bL (o_al 0 1)),
  (1, (.invokespecial 3, 3), b_obj 4),
  (4, (.aload_n 0, 1), bL (o_al 0 5)),
  (5, (.bipush 6, 2), bL (o_ii 6 7)),
  (7, (.newarray .int, 2), b_nwa 9 60 9),
  (9, (.putfield 9, 3), b_pwR 0 0 12),
  (12, (.aload_n 0, 1), bL (o_al 0 13)),
  (13, (.bipush 6, 2), bL (o_ii 6 15)),
  (15, (.newarray .int, 2), b_nwa 9 60 17),
  (17, (.putfield 15, 3), b_pwR 0 1 20),
  (20, (.aload_n 0, 1), bL (o_al 0 21)),
  (21, (.bipush 6, 2), bL (o_ii 6 23)),
  (23, (.newarray .int, 2), b_nwa 9 60 25),
  (25, (.putfield 18, 3), b_pwR 0 2 28),
  (28, (.aload_n 0, 1), bL (o_al 0 29)),
  (29, (.bipush 6, 2), bL (o_ii 6 31)),
  (31, (.newarray .int, 2), b_nwa 9 60 33),
  (33, (.putfield 21, 3), b_pwR 0 3 36),
  (36, (.aload_n 0, 1), bL (o_al 0 37)),
  (37, (.bipush 6, 2), bL (o_ii 6 39)),
  (39, (.newarray .int, 2), b_nwa 9 60 41),
  (41, (.putfield 24, 3), b_pwR 0 4 44),
  (44, (.aload_n 0, 1), bL (o_al 0 45)),
  (45, (.bipush 8, 2), bL (o_ii 8 47)),
  (47, (.newarray .int, 2), b_nwa 9 60 49),
  (49, (.putfield 27, 3), b_pwR 0 5 52),
  (52, (.aload_n 0, 1), bL (o_al 0 53)),
  (53, (.bipush 8, 2), bL (o_ii 8 55)),
  (55, (.newarray .int, 2), b_nwa 9 60 57),
  (57, (.putfield 30, 3), b_pwR 0 6 60),
  (60, (.aload_n 0, 1), bL (o_al 0 61)),
  (61, (.bipush 8, 2), bL (o_ii 8 63)),
  (63, (.newarray .int, 2), b_nwa 9 60 65),
  (65, (.putfield 33, 3), b_pwR 0 7 68),
  (68, (.aload_n 0, 1), bL (o_al 0 69)),
  (69, (.bipush 6, 2), bL (o_ii 6 71)),
  (71, (.newarray .int, 2), b_nwa 9 60 73),
  (73, (.putfield 36, 3), b_pwR 0 8 76),
  (76, (.aload_n 0, 1), bL (o_al 0 77)),
  (77, (.aload_n 1, 1), bL (o_al 1 78)),
  (78, (.putfield 39, 3), b_pwR 0 14 81),
  (81, (.return_, 1), b_mk 0 (b_rv))]
abbrev CX0_init : aC := fun args μ r μ' => bRk r ∧ bCl tX0_init 2 9 60 args μ r μ'
def rmX0_init : Room := { frames := 1, cells := 9, slots := 60, locals := 20 }
set_option maxRecDepth 100000 in
theorem dX0_init : tX0_init.all (fun q => decide (decode cX0_init q.1 = .ok q.2.1)) = true := by decide +kernel
set_option maxRecDepth 100000 in
theorem kX0_init : bKl tX0_init := by
  unfold tX0_init
  refine bK_c (bl_L lin_al) ?_
  refine bK_c bl_obj ?_
  refine bK_c (bl_L lin_al) ?_
  refine bK_c (bl_L lin_ii) ?_
  refine bK_c bl_nwa ?_
  refine bK_c bl_pwR ?_
  refine bK_c (bl_L lin_al) ?_
  refine bK_c (bl_L lin_ii) ?_
  refine bK_c bl_nwa ?_
  refine bK_c bl_pwR ?_
  refine bK_c (bl_L lin_al) ?_
  refine bK_c (bl_L lin_ii) ?_
  refine bK_c bl_nwa ?_
  refine bK_c bl_pwR ?_
  refine bK_c (bl_L lin_al) ?_
  refine bK_c (bl_L lin_ii) ?_
  refine bK_c bl_nwa ?_
  refine bK_c bl_pwR ?_
  refine bK_c (bl_L lin_al) ?_
  refine bK_c (bl_L lin_ii) ?_
  refine bK_c bl_nwa ?_
  refine bK_c bl_pwR ?_
  refine bK_c (bl_L lin_al) ?_
  refine bK_c (bl_L lin_ii) ?_
  refine bK_c bl_nwa ?_
  refine bK_c bl_pwR ?_
  refine bK_c (bl_L lin_al) ?_
  refine bK_c (bl_L lin_ii) ?_
  refine bK_c bl_nwa ?_
  refine bK_c bl_pwR ?_
  refine bK_c (bl_L lin_al) ?_
  refine bK_c (bl_L lin_ii) ?_
  refine bK_c bl_nwa ?_
  refine bK_c bl_pwR ?_
  refine bK_c (bl_L lin_al) ?_
  refine bK_c (bl_L lin_ii) ?_
  refine bK_c bl_nwa ?_
  refine bK_c bl_pwR ?_
  refine bK_c (bl_L lin_al) ?_
  refine bK_c (bl_L lin_al) ?_
  refine bK_c bl_pwR ?_
  refine bK_c (bl_mk bl_rv) ?_
  exact bK_n
set_option maxRecDepth 100000 in
set_option maxHeartbeats 4000000 in
theorem nX0_init (l : Launch) : bMt l yX0_init (Cond.code yX0_init cX0_init 2 none :: wsL_law) rmX0_init 9 60 CX0_init := by
  refine bMt.of (own := RX0) (cc := cX0_init) (maxL := 2) (ret := none) (by decide +kernel) rfl rfl ?_
  intro p e s m args below meth c Qc D Z ad0 G0 A E hX hnm hr hlk hE
  have up : ∀ w ∈ wsL_law, w ∈ (Cond.code yX0_init cX0_init 2 none :: wsL_law) := fun w h => List.mem_cons_of_mem _ h
  refine bImp_all _ dX0_init ?_
  unfold tX0_init
  refine bI_c (fun hd => t_L hX cls_al (fun ad P G cells slots F hX h => s_al_n hX hd rfl rfl)) ?_
  refine bI_c (fun hd => t_obj hX (up _ mw16) (up _ mw1) (up _ mw2) ⟨by decide, by decide⟩ hd rfl) ?_
  refine bI_c (fun hd => t_L hX cls_al (fun ad P G cells slots F hX h => s_al_n hX hd rfl rfl)) ?_
  refine bI_c (fun hd => t_L hX cls_ii (fun ad P G cells slots F hX h => s_bp hX hd (by decide) rfl)) ?_
  refine bI_c (fun hd => t_nwa hX rfl (up _ mw3) hd rfl) ?_
  refine bI_c (fun hd => t_pwR hX (C := RX0) (T := TX0) (N := 15) (k := 0) rfl rfl (fun w h => up w (inlX0 w h)) (by decide) (by decide) tyX0 tyX0_ok nmX0 (Or.inr ⟨rfl, hnm, rfl⟩) (fun a => ⟨rfl, rfl⟩) rfl (up _ lkX0_9) hd rfl) ?_
  refine bI_c (fun hd => t_L hX cls_al (fun ad P G cells slots F hX h => s_al_n hX hd rfl rfl)) ?_
  refine bI_c (fun hd => t_L hX cls_ii (fun ad P G cells slots F hX h => s_bp hX hd (by decide) rfl)) ?_
  refine bI_c (fun hd => t_nwa hX rfl (up _ mw3) hd rfl) ?_
  refine bI_c (fun hd => t_pwR hX (C := RX0) (T := TX0) (N := 15) (k := 1) rfl rfl (fun w h => up w (inlX0 w h)) (by decide) (by decide) tyX0 tyX0_ok nmX0 (Or.inr ⟨rfl, hnm, rfl⟩) (fun a => ⟨rfl, rfl⟩) rfl (up _ lkX0_15) hd rfl) ?_
  refine bI_c (fun hd => t_L hX cls_al (fun ad P G cells slots F hX h => s_al_n hX hd rfl rfl)) ?_
  refine bI_c (fun hd => t_L hX cls_ii (fun ad P G cells slots F hX h => s_bp hX hd (by decide) rfl)) ?_
  refine bI_c (fun hd => t_nwa hX rfl (up _ mw3) hd rfl) ?_
  refine bI_c (fun hd => t_pwR hX (C := RX0) (T := TX0) (N := 15) (k := 2) rfl rfl (fun w h => up w (inlX0 w h)) (by decide) (by decide) tyX0 tyX0_ok nmX0 (Or.inr ⟨rfl, hnm, rfl⟩) (fun a => ⟨rfl, rfl⟩) rfl (up _ lkX0_18) hd rfl) ?_
  refine bI_c (fun hd => t_L hX cls_al (fun ad P G cells slots F hX h => s_al_n hX hd rfl rfl)) ?_
  refine bI_c (fun hd => t_L hX cls_ii (fun ad P G cells slots F hX h => s_bp hX hd (by decide) rfl)) ?_
  refine bI_c (fun hd => t_nwa hX rfl (up _ mw3) hd rfl) ?_
  refine bI_c (fun hd => t_pwR hX (C := RX0) (T := TX0) (N := 15) (k := 3) rfl rfl (fun w h => up w (inlX0 w h)) (by decide) (by decide) tyX0 tyX0_ok nmX0 (Or.inr ⟨rfl, hnm, rfl⟩) (fun a => ⟨rfl, rfl⟩) rfl (up _ lkX0_21) hd rfl) ?_
  refine bI_c (fun hd => t_L hX cls_al (fun ad P G cells slots F hX h => s_al_n hX hd rfl rfl)) ?_
  refine bI_c (fun hd => t_L hX cls_ii (fun ad P G cells slots F hX h => s_bp hX hd (by decide) rfl)) ?_
  refine bI_c (fun hd => t_nwa hX rfl (up _ mw3) hd rfl) ?_
  refine bI_c (fun hd => t_pwR hX (C := RX0) (T := TX0) (N := 15) (k := 4) rfl rfl (fun w h => up w (inlX0 w h)) (by decide) (by decide) tyX0 tyX0_ok nmX0 (Or.inr ⟨rfl, hnm, rfl⟩) (fun a => ⟨rfl, rfl⟩) rfl (up _ lkX0_24) hd rfl) ?_
  refine bI_c (fun hd => t_L hX cls_al (fun ad P G cells slots F hX h => s_al_n hX hd rfl rfl)) ?_
  refine bI_c (fun hd => t_L hX cls_ii (fun ad P G cells slots F hX h => s_bp hX hd (by decide) rfl)) ?_
  refine bI_c (fun hd => t_nwa hX rfl (up _ mw3) hd rfl) ?_
  refine bI_c (fun hd => t_pwR hX (C := RX0) (T := TX0) (N := 15) (k := 5) rfl rfl (fun w h => up w (inlX0 w h)) (by decide) (by decide) tyX0 tyX0_ok nmX0 (Or.inr ⟨rfl, hnm, rfl⟩) (fun a => ⟨rfl, rfl⟩) rfl (up _ lkX0_27) hd rfl) ?_
  refine bI_c (fun hd => t_L hX cls_al (fun ad P G cells slots F hX h => s_al_n hX hd rfl rfl)) ?_
  refine bI_c (fun hd => t_L hX cls_ii (fun ad P G cells slots F hX h => s_bp hX hd (by decide) rfl)) ?_
  refine bI_c (fun hd => t_nwa hX rfl (up _ mw3) hd rfl) ?_
  refine bI_c (fun hd => t_pwR hX (C := RX0) (T := TX0) (N := 15) (k := 6) rfl rfl (fun w h => up w (inlX0 w h)) (by decide) (by decide) tyX0 tyX0_ok nmX0 (Or.inr ⟨rfl, hnm, rfl⟩) (fun a => ⟨rfl, rfl⟩) rfl (up _ lkX0_30) hd rfl) ?_
  refine bI_c (fun hd => t_L hX cls_al (fun ad P G cells slots F hX h => s_al_n hX hd rfl rfl)) ?_
  refine bI_c (fun hd => t_L hX cls_ii (fun ad P G cells slots F hX h => s_bp hX hd (by decide) rfl)) ?_
  refine bI_c (fun hd => t_nwa hX rfl (up _ mw3) hd rfl) ?_
  refine bI_c (fun hd => t_pwR hX (C := RX0) (T := TX0) (N := 15) (k := 7) rfl rfl (fun w h => up w (inlX0 w h)) (by decide) (by decide) tyX0 tyX0_ok nmX0 (Or.inr ⟨rfl, hnm, rfl⟩) (fun a => ⟨rfl, rfl⟩) rfl (up _ lkX0_33) hd rfl) ?_
  refine bI_c (fun hd => t_L hX cls_al (fun ad P G cells slots F hX h => s_al_n hX hd rfl rfl)) ?_
  refine bI_c (fun hd => t_L hX cls_ii (fun ad P G cells slots F hX h => s_bp hX hd (by decide) rfl)) ?_
  refine bI_c (fun hd => t_nwa hX rfl (up _ mw3) hd rfl) ?_
  refine bI_c (fun hd => t_pwR hX (C := RX0) (T := TX0) (N := 15) (k := 8) rfl rfl (fun w h => up w (inlX0 w h)) (by decide) (by decide) tyX0 tyX0_ok nmX0 (Or.inr ⟨rfl, hnm, rfl⟩) (fun a => ⟨rfl, rfl⟩) rfl (up _ lkX0_36) hd rfl) ?_
  refine bI_c (fun hd => t_L hX cls_al (fun ad P G cells slots F hX h => s_al_n hX hd rfl rfl)) ?_
  refine bI_c (fun hd => t_L hX cls_al (fun ad P G cells slots F hX h => s_al_n hX hd rfl rfl)) ?_
  refine bI_c (fun hd => t_pwR hX (C := RX0) (T := TX0) (N := 15) (k := 14) rfl rfl (fun w h => up w (inlX0 w h)) (by decide) (by decide) tyX0 tyX0_ok nmX0 (Or.inl rfl) (fun a => ⟨rfl, rfl⟩) rfl (up _ lkX0_39) hd rfl) ?_
  refine bI_c (fun hd => t_mk (t_rv hX hr hlk hE hd)) ?_
  exact trivial
-- <init>()V
def tX1_init : bT := [
  (0, (.aload_n 0, 1), bL (o_al 0 1)),
  (1, (.invokespecial 3, 3), b_obj 4),
  (4, (.aload_n 0, 1), bL (o_al 0 5)),
  (5, (.sipush 160, 3), bL (o_ii 160 8)),
  (8, (.newarray .int, 2), b_nwa 5 645 10),
  (10, (.putfield 9, 3), b_pwR 1 0 13),
  (13, (.aload_n 0, 1), bL (o_al 0 14)),
  (14, (.sipush 161, 3), bL (o_ii 161 17)),
  (17, (.newarray .int, 2), b_nwa 5 645 19),
  (19, (.putfield 15, 3), b_pwR 1 1 22),
  (22, (.aload_n 0, 1), bL (o_al 0 23)),
  (23, (.sipush 161, 3), bL (o_ii 161 26)),
  (26, (.newarray .int, 2), b_nwa 5 645 28),
  (28, (.putfield 18, 3), b_pwR 1 2 31),
  (31, (.aload_n 0, 1), bL (o_al 0 32)),
  (32, (.sipush 160, 3), bL (o_ii 160 35)),
  (35, (.newarray .int, 2), b_nwa 5 645 37),
  (37, (.putfield 21, 3), b_pwR 1 3 40),
  (40, (.aload_n 0, 1), bL (o_al 0 41)),
  (41, (.iconst 3, 1), bL (o_ii 3 42)),
  (42, (.newarray .int, 2), b_nwa 5 645 44),
  (44, (.putfield 24, 3), b_pwR 1 4 47),
  (47, (.return_, 1), b_mk 1 (b_rv))]
abbrev CX1_init : aC := fun args μ r μ' => bRk r ∧ bCl tX1_init 1 5 645 args μ r μ'
def rmX1_init : Room := { frames := 1, cells := 5, slots := 645, locals := 20 }
set_option maxRecDepth 100000 in
theorem dX1_init : tX1_init.all (fun q => decide (decode cX1_init q.1 = .ok q.2.1)) = true := by decide +kernel
set_option maxRecDepth 100000 in
theorem kX1_init : bKl tX1_init := by
  unfold tX1_init
  refine bK_c (bl_L lin_al) ?_
  refine bK_c bl_obj ?_
  refine bK_c (bl_L lin_al) ?_
  refine bK_c (bl_L lin_ii) ?_
  refine bK_c bl_nwa ?_
  refine bK_c bl_pwR ?_
  refine bK_c (bl_L lin_al) ?_
  refine bK_c (bl_L lin_ii) ?_
  refine bK_c bl_nwa ?_
  refine bK_c bl_pwR ?_
  refine bK_c (bl_L lin_al) ?_
  refine bK_c (bl_L lin_ii) ?_
  refine bK_c bl_nwa ?_
  refine bK_c bl_pwR ?_
  refine bK_c (bl_L lin_al) ?_
  refine bK_c (bl_L lin_ii) ?_
  refine bK_c bl_nwa ?_
  refine bK_c bl_pwR ?_
  refine bK_c (bl_L lin_al) ?_
  refine bK_c (bl_L lin_ii) ?_
  refine bK_c bl_nwa ?_
  refine bK_c bl_pwR ?_
  refine bK_c (bl_mk bl_rv) ?_
  exact bK_n
set_option maxRecDepth 100000 in
set_option maxHeartbeats 4000000 in
theorem nX1_init (l : Launch) : bMt l yX1_init (Cond.code yX1_init cX1_init 1 none :: wsL_law) rmX1_init 5 645 CX1_init := by
  refine bMt.of (own := RX1) (cc := cX1_init) (maxL := 1) (ret := none) (by decide +kernel) rfl rfl ?_
  intro p e s m args below meth c Qc D Z ad0 G0 A E hX hnm hr hlk hE
  have up : ∀ w ∈ wsL_law, w ∈ (Cond.code yX1_init cX1_init 1 none :: wsL_law) := fun w h => List.mem_cons_of_mem _ h
  refine bImp_all _ dX1_init ?_
  unfold tX1_init
  refine bI_c (fun hd => t_L hX cls_al (fun ad P G cells slots F hX h => s_al_n hX hd rfl rfl)) ?_
  refine bI_c (fun hd => t_obj hX (up _ mw17) (up _ mw1) (up _ mw2) ⟨by decide, by decide⟩ hd rfl) ?_
  refine bI_c (fun hd => t_L hX cls_al (fun ad P G cells slots F hX h => s_al_n hX hd rfl rfl)) ?_
  refine bI_c (fun hd => t_L hX cls_ii (fun ad P G cells slots F hX h => s_sp hX hd (by decide) rfl)) ?_
  refine bI_c (fun hd => t_nwa hX rfl (up _ mw3) hd rfl) ?_
  refine bI_c (fun hd => t_pwR hX (C := RX1) (T := TX1) (N := 8) (k := 0) rfl rfl (fun w h => up w (inlX1 w h)) (by decide) (by decide) tyX1 tyX1_ok nmX1 (Or.inr ⟨rfl, hnm, rfl⟩) (fun a => ⟨rfl, rfl⟩) rfl (up _ lkX1_9) hd rfl) ?_
  refine bI_c (fun hd => t_L hX cls_al (fun ad P G cells slots F hX h => s_al_n hX hd rfl rfl)) ?_
  refine bI_c (fun hd => t_L hX cls_ii (fun ad P G cells slots F hX h => s_sp hX hd (by decide) rfl)) ?_
  refine bI_c (fun hd => t_nwa hX rfl (up _ mw3) hd rfl) ?_
  refine bI_c (fun hd => t_pwR hX (C := RX1) (T := TX1) (N := 8) (k := 1) rfl rfl (fun w h => up w (inlX1 w h)) (by decide) (by decide) tyX1 tyX1_ok nmX1 (Or.inr ⟨rfl, hnm, rfl⟩) (fun a => ⟨rfl, rfl⟩) rfl (up _ lkX1_15) hd rfl) ?_
  refine bI_c (fun hd => t_L hX cls_al (fun ad P G cells slots F hX h => s_al_n hX hd rfl rfl)) ?_
  refine bI_c (fun hd => t_L hX cls_ii (fun ad P G cells slots F hX h => s_sp hX hd (by decide) rfl)) ?_
  refine bI_c (fun hd => t_nwa hX rfl (up _ mw3) hd rfl) ?_
  refine bI_c (fun hd => t_pwR hX (C := RX1) (T := TX1) (N := 8) (k := 2) rfl rfl (fun w h => up w (inlX1 w h)) (by decide) (by decide) tyX1 tyX1_ok nmX1 (Or.inr ⟨rfl, hnm, rfl⟩) (fun a => ⟨rfl, rfl⟩) rfl (up _ lkX1_18) hd rfl) ?_
  refine bI_c (fun hd => t_L hX cls_al (fun ad P G cells slots F hX h => s_al_n hX hd rfl rfl)) ?_
  refine bI_c (fun hd => t_L hX cls_ii (fun ad P G cells slots F hX h => s_sp hX hd (by decide) rfl)) ?_
  refine bI_c (fun hd => t_nwa hX rfl (up _ mw3) hd rfl) ?_
  refine bI_c (fun hd => t_pwR hX (C := RX1) (T := TX1) (N := 8) (k := 3) rfl rfl (fun w h => up w (inlX1 w h)) (by decide) (by decide) tyX1 tyX1_ok nmX1 (Or.inr ⟨rfl, hnm, rfl⟩) (fun a => ⟨rfl, rfl⟩) rfl (up _ lkX1_21) hd rfl) ?_
  refine bI_c (fun hd => t_L hX cls_al (fun ad P G cells slots F hX h => s_al_n hX hd rfl rfl)) ?_
  refine bI_c (fun hd => t_L hX cls_ii (fun ad P G cells slots F hX h => s_ii hX hd (by decide) rfl)) ?_
  refine bI_c (fun hd => t_nwa hX rfl (up _ mw3) hd rfl) ?_
  refine bI_c (fun hd => t_pwR hX (C := RX1) (T := TX1) (N := 8) (k := 4) rfl rfl (fun w h => up w (inlX1 w h)) (by decide) (by decide) tyX1 tyX1_ok nmX1 (Or.inr ⟨rfl, hnm, rfl⟩) (fun a => ⟨rfl, rfl⟩) rfl (up _ lkX1_24) hd rfl) ?_
  refine bI_c (fun hd => t_mk (t_rv hX hr hlk hE hd)) ?_
  exact trivial
-- <init>()V
def tX2_init : bT := [
  (0, (.aload_n 0, 1), bL (o_al 0 1)),
  (1, (.invokespecial 3, 3), b_obj 4),
  (4, (.aload_n 0, 1), bL (o_al 0 5)),
  (5, (.bipush 40, 2), bL (o_ii 40 7)),
  (7, (.newarray .int, 2), b_nwa 1 40 9),
  (9, (.putfield 9, 3), b_pwR 2 0 12),
  (12, (.aload_n 0, 1), bL (o_al 0 13)),
  (13, (.iconst (-1), 1), bL (o_ii (-1) 14)),
  (14, (.putfield 15, 3), b_pwI 2 1 17),
  (17, (.return_, 1), b_mk 2 (b_rv))]
abbrev CX2_init : aC := fun args μ r μ' => bRk r ∧ bCl tX2_init 1 1 40 args μ r μ'
def rmX2_init : Room := { frames := 1, cells := 1, slots := 40, locals := 20 }
set_option maxRecDepth 100000 in
theorem dX2_init : tX2_init.all (fun q => decide (decode cX2_init q.1 = .ok q.2.1)) = true := by decide +kernel
set_option maxRecDepth 100000 in
theorem kX2_init : bKl tX2_init := by
  unfold tX2_init
  refine bK_c (bl_L lin_al) ?_
  refine bK_c bl_obj ?_
  refine bK_c (bl_L lin_al) ?_
  refine bK_c (bl_L lin_ii) ?_
  refine bK_c bl_nwa ?_
  refine bK_c bl_pwR ?_
  refine bK_c (bl_L lin_al) ?_
  refine bK_c (bl_L lin_ii) ?_
  refine bK_c bl_pwI ?_
  refine bK_c (bl_mk bl_rv) ?_
  exact bK_n
set_option maxRecDepth 100000 in
set_option maxHeartbeats 4000000 in
theorem nX2_init (l : Launch) : bMt l yX2_init (Cond.code yX2_init cX2_init 1 none :: wsL_law) rmX2_init 1 40 CX2_init := by
  refine bMt.of (own := RX2) (cc := cX2_init) (maxL := 1) (ret := none) (by decide +kernel) rfl rfl ?_
  intro p e s m args below meth c Qc D Z ad0 G0 A E hX hnm hr hlk hE
  have up : ∀ w ∈ wsL_law, w ∈ (Cond.code yX2_init cX2_init 1 none :: wsL_law) := fun w h => List.mem_cons_of_mem _ h
  refine bImp_all _ dX2_init ?_
  unfold tX2_init
  refine bI_c (fun hd => t_L hX cls_al (fun ad P G cells slots F hX h => s_al_n hX hd rfl rfl)) ?_
  refine bI_c (fun hd => t_obj hX (up _ mw18) (up _ mw1) (up _ mw2) ⟨by decide, by decide⟩ hd rfl) ?_
  refine bI_c (fun hd => t_L hX cls_al (fun ad P G cells slots F hX h => s_al_n hX hd rfl rfl)) ?_
  refine bI_c (fun hd => t_L hX cls_ii (fun ad P G cells slots F hX h => s_bp hX hd (by decide) rfl)) ?_
  refine bI_c (fun hd => t_nwa hX rfl (up _ mw3) hd rfl) ?_
  refine bI_c (fun hd => t_pwR hX (C := RX2) (T := TX2) (N := 3) (k := 0) rfl rfl (fun w h => up w (inlX2 w h)) (by decide) (by decide) tyX2 tyX2_ok nmX2 (Or.inr ⟨rfl, hnm, rfl⟩) (fun a => ⟨rfl, rfl⟩) rfl (up _ lkX2_9) hd rfl) ?_
  refine bI_c (fun hd => t_L hX cls_al (fun ad P G cells slots F hX h => s_al_n hX hd rfl rfl)) ?_
  refine bI_c (fun hd => t_L hX cls_ii (fun ad P G cells slots F hX h => s_ii hX hd (by decide) rfl)) ?_
  refine bI_c (fun hd => t_pwI hX (C := RX2) (T := TX2) (N := 3) (k := 1) rfl rfl (fun w h => up w (inlX2 w h)) (by decide) rfl tyX2 tyX2_ok nmX2 (Or.inl rfl) rfl rfl (up _ lkX2_15) hd rfl) ?_
  refine bI_c (fun hd => t_mk (t_rv hX hr hlk hE hd)) ?_
  exact trivial
-- text()I
def tX4_text : bT := [
  (0, (.aload_n 0, 1), bL (o_al 0 1)),
  (1, (.getfield 15, 3), bL (o_gI 4 5 4)),
  (4, (.bipush 6, 2), bL (o_ii 6 6)),
  (6, (.if_icmp .lt 6, 3), bL (o_ic (fun x y => x < y) 12 9)),
  (9, (.bipush (-4), 2), bL (o_ii (-4) 11)),
  (11, (.ireturn, 1), b_ri),
  (12, (.aload_n 0, 1), bL (o_al 0 13)),
  (13, (.getfield 22, 3), bL (o_gF 4 31 16)),
  (16, (.invokevirtual 91, 3), bL (o_cV CX1_faultOfTape 1 0 19)),
  (19, (.istore_n 1, 1), bL (o_is 1 20)),
  (20, (.aload_n 0, 1), bL (o_al 0 21)),
  (21, (.getfield 22, 3), bL (o_gF 4 31 24)),
  (24, (.iconst 0, 1), bL (o_ii 0 25)),
  (25, (.putfield 73, 3), bL (o_pI 1 5 28)),
  (28, (.iload_n 1, 1), bL (o_il 1 29)),
  (29, (.iconst (-1), 1), bL (o_ii (-1) 30)),
  (30, (.if_icmp .eq 8, 3), bL (o_ic (fun x y => x = y) 38 33)),
  (33, (.bipush (-100), 2), bL (o_ii (-100) 35)),
  (35, (.iload_n 1, 1), bL (o_il 1 36)),
  (36, (.isub, 1), bL (o_bi (fun x y => x - y) 37)),
  (37, (.ireturn, 1), b_ri),
  (38, (.aload_n 0, 1), bL (o_al 0 39)),
  (39, (.getfield 11, 3), bL (o_gF 4 37 42)),
  (42, (.aload_n 0, 1), bL (o_al 0 43)),
  (43, (.getfield 15, 3), bL (o_gI 4 5 46)),
  (46, (.aload_n 0, 1), bL (o_al 0 47)),
  (47, (.getfield 22, 3), bL (o_gF 4 31 50)),
  (50, (.invokevirtual 95, 3), b_cV CX1_whatWasRead 1 0 4 206 4 206 53),
  (53, (.aastore, 1), b_ast 2 3 54),
  (54, (.aload_n 0, 1), bL (o_al 0 55)),
  (55, (.dup, 1), bL (o_dup 56)),
  (56, (.getfield 15, 3), bL (o_gI 4 5 59)),
  (59, (.iconst 1, 1), bL (o_ii 1 60)),
  (60, (.iadd, 1), bL (o_bi (fun x y => x + y) 61)),
  (61, (.putfield 15, 3), bL (o_pI 4 5 64)),
  (64, (.aload_n 0, 1), bL (o_al 0 65)),
  (65, (.getfield 15, 3), bL (o_gI 4 5 68)),
  (68, (.iconst 1, 1), bL (o_ii 1 69)),
  (69, (.isub, 1), bL (o_bi (fun x y => x - y) 70)),
  (70, (.ireturn, 1), b_ri)]
abbrev CX4_text : aC := fun args μ r μ' => bRk r ∧ bCl tX4_text 2 4 206 args μ r μ'
def rmX4_text : Room := { frames := 65, cells := 4, slots := 206, locals := 1968 }
set_option maxRecDepth 100000 in
theorem dX4_text : tX4_text.all (fun q => decide (decode cX4_text q.1 = .ok q.2.1)) = true := by decide +kernel
set_option maxRecDepth 100000 in
theorem kX4_text : bKl tX4_text := by
  unfold tX4_text
  refine bK_c (bl_L lin_al) ?_
  refine bK_c (bl_L lin_gI) ?_
  refine bK_c (bl_L lin_ii) ?_
  refine bK_c (bl_L lin_ic) ?_
  refine bK_c (bl_L lin_ii) ?_
  refine bK_c bl_ri ?_
  refine bK_c (bl_L lin_al) ?_
  refine bK_c (bl_L lin_gF) ?_
  refine bK_c (bl_L lin_cV) ?_
  refine bK_c (bl_L lin_is) ?_
  refine bK_c (bl_L lin_al) ?_
  refine bK_c (bl_L lin_gF) ?_
  refine bK_c (bl_L lin_ii) ?_
  refine bK_c (bl_L lin_pI) ?_
  refine bK_c (bl_L lin_il) ?_
  refine bK_c (bl_L lin_ii) ?_
  refine bK_c (bl_L lin_ic) ?_
  refine bK_c (bl_L lin_ii) ?_
  refine bK_c (bl_L lin_il) ?_
  refine bK_c (bl_L lin_bi) ?_
  refine bK_c bl_ri ?_
  refine bK_c (bl_L lin_al) ?_
  refine bK_c (bl_L lin_gF) ?_
  refine bK_c (bl_L lin_al) ?_
  refine bK_c (bl_L lin_gI) ?_
  refine bK_c (bl_L lin_al) ?_
  refine bK_c (bl_L lin_gF) ?_
  refine bK_c bl_cV ?_
  refine bK_c bl_ast ?_
  refine bK_c (bl_L lin_al) ?_
  refine bK_c (bl_L lin_dup) ?_
  refine bK_c (bl_L lin_gI) ?_
  refine bK_c (bl_L lin_ii) ?_
  refine bK_c (bl_L lin_bi) ?_
  refine bK_c (bl_L lin_pI) ?_
  refine bK_c (bl_L lin_al) ?_
  refine bK_c (bl_L lin_gI) ?_
  refine bK_c (bl_L lin_ii) ?_
  refine bK_c (bl_L lin_bi) ?_
  refine bK_c bl_ri ?_
  exact bK_n
set_option maxRecDepth 100000 in
set_option maxHeartbeats 4000000 in
theorem nX4_text (l : Launch) : bMt l yX4_text (Cond.code yX4_text cX4_text 2 (some .int) :: wsL_law) rmX4_text 4 206 CX4_text := by
  refine bMt.of (own := RX4) (cc := cX4_text) (maxL := 2) (ret := (some .int)) (by decide +kernel) rfl rfl ?_
  intro p e s m args below meth c Qc D Z ad0 G0 A E hX hnm hr hlk hE
  have up : ∀ w ∈ wsL_law, w ∈ (Cond.code yX4_text cX4_text 2 (some .int) :: wsL_law) := fun w h => List.mem_cons_of_mem _ h
  refine bImp_all _ dX4_text ?_
  unfold tX4_text
  refine bI_c (fun hd => t_L hX cls_al (fun ad P G cells slots F hX h => s_al_n hX hd rfl rfl)) ?_
  refine bI_c (fun hd => t_L hX cls_gI (fun ad P G cells slots F hX h => s_gI hX (C := RX4) (T := TX4) (N := 9) (k := 5) rfl (fun w h => up w (inlX4 w h)) (by decide) rfl rfl rfl (up _ lkX4_15) hd rfl)) ?_
  refine bI_c (fun hd => t_L hX cls_ii (fun ad P G cells slots F hX h => s_bp hX hd (by decide) rfl)) ?_
  refine bI_c (fun hd => t_L hX cls_ic (fun ad P G cells slots F hX h => s_ic_lt hX hd (by decide) rfl)) ?_
  refine bI_c (fun hd => t_L hX cls_ii (fun ad P G cells slots F hX h => s_bp hX hd (by decide) rfl)) ?_
  refine bI_c (fun hd => t_ri hX hr hlk hE hd) ?_
  refine bI_c (fun hd => t_L hX cls_al (fun ad P G cells slots F hX h => s_al_n hX hd rfl rfl)) ?_
  refine bI_c (fun hd => t_L hX (cls_gF 6 rfl (Nat.le_of_ble_eq_true rfl)) (fun ad P G cells slots F hX h => s_gF hX (C := RX4) (T := TX4) (N := 9) (k := 6) rfl (fun w h => up w (inlX4 w h)) (by decide) rfl rfl rfl (up _ lkX4_22) hd rfl)) ?_
  refine bI_c (fun hd => t_L hX (cls_cV zX1_faultOfTape) (fun ad P G cells slots F hX h => s_cV hX (T := TX1) (N := 8) (nX1_faultOfTape l) rfl (wg_V up lmX4_91 loX1_faultOfTape) rfl rfl rfl (by decide +kernel) ⟨by decide, by decide⟩ h hd rfl)) ?_
  refine bI_c (fun hd => t_L hX cls_is (fun ad P G cells slots F hX h => s_is_n hX hd rfl rfl (by decide))) ?_
  refine bI_c (fun hd => t_L hX cls_al (fun ad P G cells slots F hX h => s_al_n hX hd rfl rfl)) ?_
  refine bI_c (fun hd => t_L hX (cls_gF 6 rfl (Nat.le_of_ble_eq_true rfl)) (fun ad P G cells slots F hX h => s_gF hX (C := RX4) (T := TX4) (N := 9) (k := 6) rfl (fun w h => up w (inlX4 w h)) (by decide) rfl rfl rfl (up _ lkX4_22) hd rfl)) ?_
  refine bI_c (fun hd => t_L hX cls_ii (fun ad P G cells slots F hX h => s_ii hX hd (by decide) rfl)) ?_
  refine bI_c (fun hd => t_L hX cls_pI (fun ad P G cells slots F hX h => s_pI hX (C := RX1) (T := TX1) (N := 8) (k := 5) rfl (fun w h => up w (inlX1 w h)) (by decide) rfl rfl tyX1 tyX1_ok nmX1 rfl rfl rfl (up _ lkX4_73) hd rfl)) ?_
  refine bI_c (fun hd => t_L hX cls_il (fun ad P G cells slots F hX h => s_il_n hX hd rfl rfl)) ?_
  refine bI_c (fun hd => t_L hX cls_ii (fun ad P G cells slots F hX h => s_ii hX hd (by decide) rfl)) ?_
  refine bI_c (fun hd => t_L hX cls_ic (fun ad P G cells slots F hX h => s_ic_eq hX hd (by decide) rfl)) ?_
  refine bI_c (fun hd => t_L hX cls_ii (fun ad P G cells slots F hX h => s_bp hX hd (by decide) rfl)) ?_
  refine bI_c (fun hd => t_L hX cls_il (fun ad P G cells slots F hX h => s_il_n hX hd rfl rfl)) ?_
  refine bI_c (fun hd => t_L hX cls_bi (fun ad P G cells slots F hX h => s_isub hX hd rfl)) ?_
  refine bI_c (fun hd => t_ri hX hr hlk hE hd) ?_
  refine bI_c (fun hd => t_L hX cls_al (fun ad P G cells slots F hX h => s_al_n hX hd rfl rfl)) ?_
  refine bI_c (fun hd => t_L hX (cls_gF 4 rfl (Nat.le_of_ble_eq_true rfl)) (fun ad P G cells slots F hX h => s_gF hX (C := RX4) (T := TX4) (N := 9) (k := 4) rfl (fun w h => up w (inlX4 w h)) (by decide) rfl rfl rfl (up _ lkX4_11) hd rfl)) ?_
  refine bI_c (fun hd => t_L hX cls_al (fun ad P G cells slots F hX h => s_al_n hX hd rfl rfl)) ?_
  refine bI_c (fun hd => t_L hX cls_gI (fun ad P G cells slots F hX h => s_gI hX (C := RX4) (T := TX4) (N := 9) (k := 5) rfl (fun w h => up w (inlX4 w h)) (by decide) rfl rfl rfl (up _ lkX4_15) hd rfl)) ?_
  refine bI_c (fun hd => t_L hX cls_al (fun ad P G cells slots F hX h => s_al_n hX hd rfl rfl)) ?_
  refine bI_c (fun hd => t_L hX (cls_gF 6 rfl (Nat.le_of_ble_eq_true rfl)) (fun ad P G cells slots F hX h => s_gF hX (C := RX4) (T := TX4) (N := 9) (k := 6) rfl (fun w h => up w (inlX4 w h)) (by decide) rfl rfl rfl (up _ lkX4_22) hd rfl)) ?_
  refine bI_c (fun hd => t_cV hX (T := TX1) (N := 8) (nX1_whatWasRead l) rfl (wg_V up lmX4_95 ⟨mw19, mw20, mw21, mw22⟩) rfl rfl rfl (by decide +kernel) ⟨by decide, by decide⟩ hd rfl) ?_
  refine bI_c (fun hd => t_ast hX (cn := RX3) (T := TX3) (t0 := 1) rfl rfl (fun ad μ o h => aE_r2 h) (by decide) hd rfl) ?_
  refine bI_c (fun hd => t_L hX cls_al (fun ad P G cells slots F hX h => s_al_n hX hd rfl rfl)) ?_
  refine bI_c (fun hd => t_L hX cls_dup (fun ad P G cells slots F hX h => s_dup hX hd rfl)) ?_
  refine bI_c (fun hd => t_L hX cls_gI (fun ad P G cells slots F hX h => s_gI hX (C := RX4) (T := TX4) (N := 9) (k := 5) rfl (fun w h => up w (inlX4 w h)) (by decide) rfl rfl rfl (up _ lkX4_15) hd rfl)) ?_
  refine bI_c (fun hd => t_L hX cls_ii (fun ad P G cells slots F hX h => s_ii hX hd (by decide) rfl)) ?_
  refine bI_c (fun hd => t_L hX cls_bi (fun ad P G cells slots F hX h => s_iadd hX hd rfl)) ?_
  refine bI_c (fun hd => t_L hX cls_pI (fun ad P G cells slots F hX h => s_pI hX (C := RX4) (T := TX4) (N := 9) (k := 5) rfl (fun w h => up w (inlX4 w h)) (by decide) rfl rfl tyX4 tyX4_ok nmX4 rfl rfl rfl (up _ lkX4_15) hd rfl)) ?_
  refine bI_c (fun hd => t_L hX cls_al (fun ad P G cells slots F hX h => s_al_n hX hd rfl rfl)) ?_
  refine bI_c (fun hd => t_L hX cls_gI (fun ad P G cells slots F hX h => s_gI hX (C := RX4) (T := TX4) (N := 9) (k := 5) rfl (fun w h => up w (inlX4 w h)) (by decide) rfl rfl rfl (up _ lkX4_15) hd rfl)) ?_
  refine bI_c (fun hd => t_L hX cls_ii (fun ad P G cells slots F hX h => s_ii hX hd (by decide) rfl)) ?_
  refine bI_c (fun hd => t_L hX cls_bi (fun ad P G cells slots F hX h => s_isub hX hd rfl)) ?_
  refine bI_c (fun hd => t_ri hX hr hlk hE hd) ?_
  exact trivial
-- <init>()V
def tX4_init : bT := [
  (0, (.aload_n 0, 1), bL (o_al 0 1)),
  (1, (.invokespecial 1, 3), b_obj 4),
  (4, (.aload_n 0, 1), bL (o_al 0 5)),
  (5, (.bipush 6, 2), bL (o_ii 6 7)),
  (7, (.anewarray 9, 3), b_nwq 2 51 1685 10),
  (10, (.putfield 11, 3), b_pwR 4 4 13),
  (13, (.aload_n 0, 1), bL (o_al 0 14)),
  (14, (.iconst 1, 1), bL (o_ii 1 15)),
  (15, (.putfield 15, 3), b_pwI 4 5 18),
  (18, (.aload_n 0, 1), bL (o_al 0 19)),
  (19, (.new 19, 3), b_new 1 8 51 1685 22),
  (22, (.dup, 1), bL (o_dup 23)),
  (23, (.invokespecial 21, 3), b_cI CX1_init 1 0 5 645 51 1685 26),
  (26, (.putfield 22, 3), b_pwR 4 6 29),
  (29, (.aload_n 0, 1), bL (o_al 0 30)),
  (30, (.iconst 4, 1), bL (o_ii 4 31)),
  (31, (.anewarray 26, 3), b_nwq 3 51 1685 34),
  (34, (.putfield 28, 3), b_pwR 4 7 37),
  (37, (.aload_n 0, 1), bL (o_al 0 38)),
  (38, (.sipush 576, 3), bL (o_ii 576 41)),
  (41, (.newarray .int, 2), b_nwa 51 1685 43),
  (43, (.putfield 32, 3), b_pwR 4 8 46),
  (46, (.iconst 3, 1), bL (o_ii 3 47)),
  (47, (.newarray .int, 2), b_nwa 51 1685 49),
  (49, (.dup, 1), bL (o_dup 50)),
  (50, (.iconst 0, 1), bL (o_ii 0 51)),
  (51, (.iconst (-1), 1), bL (o_ii (-1) 52)),
  (52, (.iastore, 1), bL (o_iast 53)),
  (53, (.dup, 1), bL (o_dup 54)),
  (54, (.iconst 1, 1), bL (o_ii 1 55)),
  (55, (.bipush (-2), 2), bL (o_ii (-2) 57)),
  (57, (.iastore, 1), bL (o_iast 58)),
  (58, (.dup, 1), bL (o_dup 59)),
  (59, (.iconst 2, 1), bL (o_ii 2 60)),
  (60, (.bipush (-3), 2), bL (o_ii (-3) 62)),
  (62, (.iastore, 1), bL (o_iast 63)),
  (63, (.astore_n 1, 1), bL (o_as 1 64)),
  (64, (.iconst 3, 1), bL (o_ii 3 65)),
  (65, (.newarray .int, 2), b_nwa 51 1685 67),
  (67, (.dup, 1), bL (o_dup 68)),
  (68, (.iconst 0, 1), bL (o_ii 0 69)),
  (69, (.iconst 1, 1), bL (o_ii 1 70)),
  (70, (.iastore, 1), bL (o_iast 71)),
  (71, (.dup, 1), bL (o_dup 72)),
  (72, (.iconst 1, 1), bL (o_ii 1 73)),
  (73, (.iconst 2, 1), bL (o_ii 2 74)),
  (74, (.iastore, 1), bL (o_iast 75)),
  (75, (.dup, 1), bL (o_dup 76)),
  (76, (.iconst 2, 1), bL (o_ii 2 77)),
  (77, (.iconst 3, 1), bL (o_ii 3 78)),
  (78, (.iastore, 1), bL (o_iast 79)),
  (79, (.astore_n 2, 1), bL (o_as 2 80)),
  (80, (.new 9, 3), b_new 3 3 51 1685 83),
  (83, (.dup, 1), bL (o_dup 84)),
  (84, (.aload_n 1, 1), bL (o_al 1 85)),
  (85, (.aload_n 2, 1), bL (o_al 2 86)),
  (86, (.invokespecial 36, 3), b_cI CX3_init 3 2 1 40 51 1685 89),
  (89, (.astore_n 3, 1), bL (o_as 3 90)),
  (90, (.aload_n 0, 1), bL (o_al 0 91)),
  (91, (.getfield 11, 3), b_gwR 4 4 94),
  (94, (.iconst 0, 1), bL (o_ii 0 95)),
  (95, (.aload_n 3, 1), bL (o_al 3 96)),
  (96, (.aastore, 1), b_ast 2 3 97),
  (97, (.aload_n 0, 1), bL (o_al 0 98)),
  (98, (.new 39, 3), b_new 0 15 51 1685 101),
  (101, (.dup, 1), bL (o_dup 102)),
  (102, (.aload_n 3, 1), bL (o_al 3 103)),
  (103, (.invokespecial 41, 3), b_cI CX0_init 0 1 9 60 51 1685 106),
  (106, (.putfield 44, 3), b_pwR 4 0 109),
  (109, (.aload_n 0, 1), bL (o_al 0 110)),
  (110, (.new 39, 3), b_new 0 15 51 1685 113),
  (113, (.dup, 1), bL (o_dup 114)),
  (114, (.aload_n 3, 1), bL (o_al 3 115)),
  (115, (.invokespecial 41, 3), b_cI CX0_init 0 1 9 60 51 1685 118),
  (118, (.putfield 48, 3), b_pwR 4 1 121),
  (121, (.aload_n 0, 1), bL (o_al 0 122)),
  (122, (.new 39, 3), b_new 0 15 51 1685 125),
  (125, (.dup, 1), bL (o_dup 126)),
  (126, (.aload_n 3, 1), bL (o_al 3 127)),
  (127, (.invokespecial 41, 3), b_cI CX0_init 0 1 9 60 51 1685 130),
  (130, (.putfield 51, 3), b_pwR 4 2 133),
  (133, (.iconst 0, 1), bL (o_ii 0 134)),
  (134, (.istore 4, 2), bL (o_is 4 136)),
  (136, (.iload 4, 2), bL (o_il 4 138)),
  (138, (.iconst 4, 1), bL (o_ii 4 139)),
  (139, (.if_icmp .ge 23, 3), bL (o_ic (fun x y => y ≤ x) 162 142)),
  (142, (.aload_n 0, 1), bL (o_al 0 143)),
  (143, (.getfield 28, 3), b_gwR 4 7 146),
  (146, (.iload 4, 2), bL (o_il 4 148)),
  (148, (.new 26, 3), b_new 2 3 51 1685 151),
  (151, (.dup, 1), bL (o_dup 152)),
  (152, (.invokespecial 54, 3), b_cI CX2_init 2 0 1 40 51 1685 155),
  (155, (.aastore, 1), b_ast 3 2 156),
  (156, (.iinc 4 1, 3), bL (o_inc 4 1 159)),
  (159, (.goto (-23), 3), bL (o_go 136)),
  (162, (.return_, 1), b_mk 4 (b_rv))]
abbrev CX4_init : aC := fun args μ r μ' => bRk r ∧ bCl tX4_init 5 51 1685 args μ r μ'
def rmX4_init : Room := { frames := 2, cells := 51, slots := 1685, locals := 42 }
set_option maxRecDepth 100000 in
theorem dX4_init : tX4_init.all (fun q => decide (decode cX4_init q.1 = .ok q.2.1)) = true := by decide +kernel
set_option maxRecDepth 100000 in
theorem kX4_init : bKl tX4_init := by
  unfold tX4_init
  refine bK_c (bl_L lin_al) ?_
  refine bK_c bl_obj ?_
  refine bK_c (bl_L lin_al) ?_
  refine bK_c (bl_L lin_ii) ?_
  refine bK_c bl_nwq ?_
  refine bK_c bl_pwR ?_
  refine bK_c (bl_L lin_al) ?_
  refine bK_c (bl_L lin_ii) ?_
  refine bK_c bl_pwI ?_
  refine bK_c (bl_L lin_al) ?_
  refine bK_c bl_new ?_
  refine bK_c (bl_L lin_dup) ?_
  refine bK_c bl_cI ?_
  refine bK_c bl_pwR ?_
  refine bK_c (bl_L lin_al) ?_
  refine bK_c (bl_L lin_ii) ?_
  refine bK_c bl_nwq ?_
  refine bK_c bl_pwR ?_
  refine bK_c (bl_L lin_al) ?_
  refine bK_c (bl_L lin_ii) ?_
  refine bK_c bl_nwa ?_
  refine bK_c bl_pwR ?_
  refine bK_c (bl_L lin_ii) ?_
  refine bK_c bl_nwa ?_
  refine bK_c (bl_L lin_dup) ?_
  refine bK_c (bl_L lin_ii) ?_
  refine bK_c (bl_L lin_ii) ?_
  refine bK_c (bl_L lin_iast) ?_
  refine bK_c (bl_L lin_dup) ?_
  refine bK_c (bl_L lin_ii) ?_
  refine bK_c (bl_L lin_ii) ?_
  refine bK_c (bl_L lin_iast) ?_
  refine bK_c (bl_L lin_dup) ?_
  refine bK_c (bl_L lin_ii) ?_
  refine bK_c (bl_L lin_ii) ?_
  refine bK_c (bl_L lin_iast) ?_
  refine bK_c (bl_L lin_as) ?_
  refine bK_c (bl_L lin_ii) ?_
  refine bK_c bl_nwa ?_
  refine bK_c (bl_L lin_dup) ?_
  refine bK_c (bl_L lin_ii) ?_
  refine bK_c (bl_L lin_ii) ?_
  refine bK_c (bl_L lin_iast) ?_
  refine bK_c (bl_L lin_dup) ?_
  refine bK_c (bl_L lin_ii) ?_
  refine bK_c (bl_L lin_ii) ?_
  refine bK_c (bl_L lin_iast) ?_
  refine bK_c (bl_L lin_dup) ?_
  refine bK_c (bl_L lin_ii) ?_
  refine bK_c (bl_L lin_ii) ?_
  refine bK_c (bl_L lin_iast) ?_
  refine bK_c (bl_L lin_as) ?_
  refine bK_c bl_new ?_
  refine bK_c (bl_L lin_dup) ?_
  refine bK_c (bl_L lin_al) ?_
  refine bK_c (bl_L lin_al) ?_
  refine bK_c bl_cI ?_
  refine bK_c (bl_L lin_as) ?_
  refine bK_c (bl_L lin_al) ?_
  refine bK_c bl_gwR ?_
  refine bK_c (bl_L lin_ii) ?_
  refine bK_c (bl_L lin_al) ?_
  refine bK_c bl_ast ?_
  refine bK_c (bl_L lin_al) ?_
  refine bK_c bl_new ?_
  refine bK_c (bl_L lin_dup) ?_
  refine bK_c (bl_L lin_al) ?_
  refine bK_c bl_cI ?_
  refine bK_c bl_pwR ?_
  refine bK_c (bl_L lin_al) ?_
  refine bK_c bl_new ?_
  refine bK_c (bl_L lin_dup) ?_
  refine bK_c (bl_L lin_al) ?_
  refine bK_c bl_cI ?_
  refine bK_c bl_pwR ?_
  refine bK_c (bl_L lin_al) ?_
  refine bK_c bl_new ?_
  refine bK_c (bl_L lin_dup) ?_
  refine bK_c (bl_L lin_al) ?_
  refine bK_c bl_cI ?_
  refine bK_c bl_pwR ?_
  refine bK_c (bl_L lin_ii) ?_
  refine bK_c (bl_L lin_is) ?_
  refine bK_c (bl_L lin_il) ?_
  refine bK_c (bl_L lin_ii) ?_
  refine bK_c (bl_L lin_ic) ?_
  refine bK_c (bl_L lin_al) ?_
  refine bK_c bl_gwR ?_
  refine bK_c (bl_L lin_il) ?_
  refine bK_c bl_new ?_
  refine bK_c (bl_L lin_dup) ?_
  refine bK_c bl_cI ?_
  refine bK_c bl_ast ?_
  refine bK_c (bl_L lin_inc) ?_
  refine bK_c (bl_L lin_go) ?_
  refine bK_c (bl_mk bl_rv) ?_
  exact bK_n
set_option maxRecDepth 100000 in
set_option maxHeartbeats 4000000 in
theorem nX4_init (l : Launch) : bMt l yX4_init (Cond.code yX4_init cX4_init 5 none :: wsL_law) rmX4_init 51 1685 CX4_init := by
  refine bMt.of (own := RX4) (cc := cX4_init) (maxL := 5) (ret := none) (by decide +kernel) rfl rfl ?_
  intro p e s m args below meth c Qc D Z ad0 G0 A E hX hnm hr hlk hE
  have up : ∀ w ∈ wsL_law, w ∈ (Cond.code yX4_init cX4_init 5 none :: wsL_law) := fun w h => List.mem_cons_of_mem _ h
  refine bImp_all _ dX4_init ?_
  unfold tX4_init
  refine bI_c (fun hd => t_L hX cls_al (fun ad P G cells slots F hX h => s_al_n hX hd rfl rfl)) ?_
  refine bI_c (fun hd => t_obj hX (up _ mw23) (up _ mw1) (up _ mw2) ⟨by decide, by decide⟩ hd rfl) ?_
  refine bI_c (fun hd => t_L hX cls_al (fun ad P G cells slots F hX h => s_al_n hX hd rfl rfl)) ?_
  refine bI_c (fun hd => t_L hX cls_ii (fun ad P G cells slots F hX h => s_bp hX hd (by decide) rfl)) ?_
  refine bI_c (fun hd => t_nwq hX (t0 := 1) rfl (fun ad μ o h => aE_r2 h) (by decide) (by decide) (up _ mw24) hX.2.2.2.2.2.2.2.2.2.1 hd rfl) ?_
  refine bI_c (fun hd => t_pwR hX (C := RX4) (T := TX4) (N := 9) (k := 4) rfl rfl (fun w h => up w (inlX4 w h)) (by decide) (by decide) tyX4 tyX4_ok nmX4 (Or.inr ⟨rfl, hnm, rfl⟩) (fun a => ⟨rfl, rfl⟩) rfl (up _ lkX4_11) hd rfl) ?_
  refine bI_c (fun hd => t_L hX cls_al (fun ad P G cells slots F hX h => s_al_n hX hd rfl rfl)) ?_
  refine bI_c (fun hd => t_L hX cls_ii (fun ad P G cells slots F hX h => s_ii hX hd (by decide) rfl)) ?_
  refine bI_c (fun hd => t_pwI hX (C := RX4) (T := TX4) (N := 9) (k := 5) rfl rfl (fun w h => up w (inlX4 w h)) (by decide) rfl tyX4 tyX4_ok nmX4 (Or.inl rfl) rfl rfl (up _ lkX4_15) hd rfl) ?_
  refine bI_c (fun hd => t_L hX cls_al (fun ad P G cells slots F hX h => s_al_n hX hd rfl rfl)) ?_
  refine bI_c (fun hd => t_new hX (C := RX1) (T := TX1) rfl rfl (fun w h => up w (inlX1 w h)) tyX1 tyX1_ok hdfX1 (up _ mw25) (up _ mw26) (up _ mw21) hd rfl) ?_
  refine bI_c (fun hd => t_L hX cls_dup (fun ad P G cells slots F hX h => s_dup hX hd rfl)) ?_
  refine bI_c (fun hd => t_cIN hX (nX1_init l) (wg_I up mw27) (up _ mw21) hX.2.2.2.2.2.2.2.2.2.2.2.1 (up _ mw28) rfl rfl rfl rfl (by decide +kernel) ⟨by decide, by decide⟩ hd rfl) ?_
  refine bI_c (fun hd => t_pwR hX (C := RX4) (T := TX4) (N := 9) (k := 6) rfl rfl (fun w h => up w (inlX4 w h)) (by decide) (by decide) tyX4 tyX4_ok nmX4 (Or.inr ⟨rfl, hnm, rfl⟩) (fun a => ⟨rfl, rfl⟩) rfl (up _ lkX4_22) hd rfl) ?_
  refine bI_c (fun hd => t_L hX cls_al (fun ad P G cells slots F hX h => s_al_n hX hd rfl rfl)) ?_
  refine bI_c (fun hd => t_L hX cls_ii (fun ad P G cells slots F hX h => s_ii hX hd (by decide) rfl)) ?_
  refine bI_c (fun hd => t_nwq hX (t0 := 2) rfl (fun ad μ o h => aE_r3 h) (by decide) (by decide) (up _ mw29) hX.2.2.2.2.2.2.2.2.2.2.1 hd rfl) ?_
  refine bI_c (fun hd => t_pwR hX (C := RX4) (T := TX4) (N := 9) (k := 7) rfl rfl (fun w h => up w (inlX4 w h)) (by decide) (by decide) tyX4 tyX4_ok nmX4 (Or.inr ⟨rfl, hnm, rfl⟩) (fun a => ⟨rfl, rfl⟩) rfl (up _ lkX4_28) hd rfl) ?_
  refine bI_c (fun hd => t_L hX cls_al (fun ad P G cells slots F hX h => s_al_n hX hd rfl rfl)) ?_
  refine bI_c (fun hd => t_L hX cls_ii (fun ad P G cells slots F hX h => s_sp hX hd (by decide) rfl)) ?_
  refine bI_c (fun hd => t_nwa hX rfl (up _ mw3) hd rfl) ?_
  refine bI_c (fun hd => t_pwR hX (C := RX4) (T := TX4) (N := 9) (k := 8) rfl rfl (fun w h => up w (inlX4 w h)) (by decide) (by decide) tyX4 tyX4_ok nmX4 (Or.inr ⟨rfl, hnm, rfl⟩) (fun a => ⟨rfl, rfl⟩) rfl (up _ lkX4_32) hd rfl) ?_
  refine bI_c (fun hd => t_L hX cls_ii (fun ad P G cells slots F hX h => s_ii hX hd (by decide) rfl)) ?_
  refine bI_c (fun hd => t_nwa hX rfl (up _ mw3) hd rfl) ?_
  refine bI_c (fun hd => t_L hX cls_dup (fun ad P G cells slots F hX h => s_dup hX hd rfl)) ?_
  refine bI_c (fun hd => t_L hX cls_ii (fun ad P G cells slots F hX h => s_ii hX hd (by decide) rfl)) ?_
  refine bI_c (fun hd => t_L hX cls_ii (fun ad P G cells slots F hX h => s_ii hX hd (by decide) rfl)) ?_
  refine bI_c (fun hd => t_L hX cls_iast (fun ad P G cells slots F hX h => s_iast hX hd rfl)) ?_
  refine bI_c (fun hd => t_L hX cls_dup (fun ad P G cells slots F hX h => s_dup hX hd rfl)) ?_
  refine bI_c (fun hd => t_L hX cls_ii (fun ad P G cells slots F hX h => s_ii hX hd (by decide) rfl)) ?_
  refine bI_c (fun hd => t_L hX cls_ii (fun ad P G cells slots F hX h => s_bp hX hd (by decide) rfl)) ?_
  refine bI_c (fun hd => t_L hX cls_iast (fun ad P G cells slots F hX h => s_iast hX hd rfl)) ?_
  refine bI_c (fun hd => t_L hX cls_dup (fun ad P G cells slots F hX h => s_dup hX hd rfl)) ?_
  refine bI_c (fun hd => t_L hX cls_ii (fun ad P G cells slots F hX h => s_ii hX hd (by decide) rfl)) ?_
  refine bI_c (fun hd => t_L hX cls_ii (fun ad P G cells slots F hX h => s_bp hX hd (by decide) rfl)) ?_
  refine bI_c (fun hd => t_L hX cls_iast (fun ad P G cells slots F hX h => s_iast hX hd rfl)) ?_
  refine bI_c (fun hd => t_L hX cls_as (fun ad P G cells slots F hX h => s_as_n hX hd rfl rfl (by decide))) ?_
  refine bI_c (fun hd => t_L hX cls_ii (fun ad P G cells slots F hX h => s_ii hX hd (by decide) rfl)) ?_
  refine bI_c (fun hd => t_nwa hX rfl (up _ mw3) hd rfl) ?_
  refine bI_c (fun hd => t_L hX cls_dup (fun ad P G cells slots F hX h => s_dup hX hd rfl)) ?_
  refine bI_c (fun hd => t_L hX cls_ii (fun ad P G cells slots F hX h => s_ii hX hd (by decide) rfl)) ?_
  refine bI_c (fun hd => t_L hX cls_ii (fun ad P G cells slots F hX h => s_ii hX hd (by decide) rfl)) ?_
  refine bI_c (fun hd => t_L hX cls_iast (fun ad P G cells slots F hX h => s_iast hX hd rfl)) ?_
  refine bI_c (fun hd => t_L hX cls_dup (fun ad P G cells slots F hX h => s_dup hX hd rfl)) ?_
  refine bI_c (fun hd => t_L hX cls_ii (fun ad P G cells slots F hX h => s_ii hX hd (by decide) rfl)) ?_
  refine bI_c (fun hd => t_L hX cls_ii (fun ad P G cells slots F hX h => s_ii hX hd (by decide) rfl)) ?_
  refine bI_c (fun hd => t_L hX cls_iast (fun ad P G cells slots F hX h => s_iast hX hd rfl)) ?_
  refine bI_c (fun hd => t_L hX cls_dup (fun ad P G cells slots F hX h => s_dup hX hd rfl)) ?_
  refine bI_c (fun hd => t_L hX cls_ii (fun ad P G cells slots F hX h => s_ii hX hd (by decide) rfl)) ?_
  refine bI_c (fun hd => t_L hX cls_ii (fun ad P G cells slots F hX h => s_ii hX hd (by decide) rfl)) ?_
  refine bI_c (fun hd => t_L hX cls_iast (fun ad P G cells slots F hX h => s_iast hX hd rfl)) ?_
  refine bI_c (fun hd => t_L hX cls_as (fun ad P G cells slots F hX h => s_as_n hX hd rfl rfl (by decide))) ?_
  refine bI_c (fun hd => t_new hX (C := RX3) (T := TX3) rfl rfl (fun w h => up w (inlX3 w h)) tyX3 tyX3_ok hdfX3 (up _ mw24) (up _ mw5) (up _ mw6) hd rfl) ?_
  refine bI_c (fun hd => t_L hX cls_dup (fun ad P G cells slots F hX h => s_dup hX hd rfl)) ?_
  refine bI_c (fun hd => t_L hX cls_al (fun ad P G cells slots F hX h => s_al_n hX hd rfl rfl)) ?_
  refine bI_c (fun hd => t_L hX cls_al (fun ad P G cells slots F hX h => s_al_n hX hd rfl rfl)) ?_
  refine bI_c (fun hd => t_cI hX (nX3_init l) (wg_I up mw13) (up _ mw6) (up _ mw30) (up _ mw15) rfl rfl rfl rfl (by decide +kernel) ⟨by decide, by decide⟩ hd rfl) ?_
  refine bI_c (fun hd => t_L hX cls_as (fun ad P G cells slots F hX h => s_as_n hX hd rfl rfl (by decide))) ?_
  refine bI_c (fun hd => t_L hX cls_al (fun ad P G cells slots F hX h => s_al_n hX hd rfl rfl)) ?_
  refine bI_c (fun hd => t_gwR hX (C := RX4) (T := TX4) (N := 9) (k := 4) rfl (fun w h => up w (inlX4 w h)) (by decide) rfl (by decide) rfl (up _ lkX4_11) hd rfl) ?_
  refine bI_c (fun hd => t_L hX cls_ii (fun ad P G cells slots F hX h => s_ii hX hd (by decide) rfl)) ?_
  refine bI_c (fun hd => t_L hX cls_al (fun ad P G cells slots F hX h => s_al_n hX hd rfl rfl)) ?_
  refine bI_c (fun hd => t_ast hX (cn := RX3) (T := TX3) (t0 := 1) rfl rfl (fun ad μ o h => aE_r2 h) (by decide) hd rfl) ?_
  refine bI_c (fun hd => t_L hX cls_al (fun ad P G cells slots F hX h => s_al_n hX hd rfl rfl)) ?_
  refine bI_c (fun hd => t_new hX (C := RX0) (T := TX0) rfl rfl (fun w h => up w (inlX0 w h)) tyX0 tyX0_ok hdfX0 (up _ mw31) (up _ mw32) (up _ mw33) hd rfl) ?_
  refine bI_c (fun hd => t_L hX cls_dup (fun ad P G cells slots F hX h => s_dup hX hd rfl)) ?_
  refine bI_c (fun hd => t_L hX cls_al (fun ad P G cells slots F hX h => s_al_n hX hd rfl rfl)) ?_
  refine bI_c (fun hd => t_cI hX (nX0_init l) (wg_I up mw34) (up _ mw33) (up _ mw35) (up _ mw36) rfl rfl rfl rfl (by decide +kernel) ⟨by decide, by decide⟩ hd rfl) ?_
  refine bI_c (fun hd => t_pwR hX (C := RX4) (T := TX4) (N := 9) (k := 0) rfl rfl (fun w h => up w (inlX4 w h)) (by decide) (by decide) tyX4 tyX4_ok nmX4 (Or.inr ⟨rfl, hnm, rfl⟩) (fun a => ⟨rfl, rfl⟩) rfl (up _ lkX4_44) hd rfl) ?_
  refine bI_c (fun hd => t_L hX cls_al (fun ad P G cells slots F hX h => s_al_n hX hd rfl rfl)) ?_
  refine bI_c (fun hd => t_new hX (C := RX0) (T := TX0) rfl rfl (fun w h => up w (inlX0 w h)) tyX0 tyX0_ok hdfX0 (up _ mw31) (up _ mw32) (up _ mw33) hd rfl) ?_
  refine bI_c (fun hd => t_L hX cls_dup (fun ad P G cells slots F hX h => s_dup hX hd rfl)) ?_
  refine bI_c (fun hd => t_L hX cls_al (fun ad P G cells slots F hX h => s_al_n hX hd rfl rfl)) ?_
  refine bI_c (fun hd => t_cI hX (nX0_init l) (wg_I up mw34) (up _ mw33) (up _ mw35) (up _ mw36) rfl rfl rfl rfl (by decide +kernel) ⟨by decide, by decide⟩ hd rfl) ?_
  refine bI_c (fun hd => t_pwR hX (C := RX4) (T := TX4) (N := 9) (k := 1) rfl rfl (fun w h => up w (inlX4 w h)) (by decide) (by decide) tyX4 tyX4_ok nmX4 (Or.inr ⟨rfl, hnm, rfl⟩) (fun a => ⟨rfl, rfl⟩) rfl (up _ lkX4_48) hd rfl) ?_
  refine bI_c (fun hd => t_L hX cls_al (fun ad P G cells slots F hX h => s_al_n hX hd rfl rfl)) ?_
  refine bI_c (fun hd => t_new hX (C := RX0) (T := TX0) rfl rfl (fun w h => up w (inlX0 w h)) tyX0 tyX0_ok hdfX0 (up _ mw31) (up _ mw32) (up _ mw33) hd rfl) ?_
  refine bI_c (fun hd => t_L hX cls_dup (fun ad P G cells slots F hX h => s_dup hX hd rfl)) ?_
  refine bI_c (fun hd => t_L hX cls_al (fun ad P G cells slots F hX h => s_al_n hX hd rfl rfl)) ?_
  refine bI_c (fun hd => t_cI hX (nX0_init l) (wg_I up mw34) (up _ mw33) (up _ mw35) (up _ mw36) rfl rfl rfl rfl (by decide +kernel) ⟨by decide, by decide⟩ hd rfl) ?_
  refine bI_c (fun hd => t_pwR hX (C := RX4) (T := TX4) (N := 9) (k := 2) rfl rfl (fun w h => up w (inlX4 w h)) (by decide) (by decide) tyX4 tyX4_ok nmX4 (Or.inr ⟨rfl, hnm, rfl⟩) (fun a => ⟨rfl, rfl⟩) rfl (up _ lkX4_51) hd rfl) ?_
  refine bI_c (fun hd => t_L hX cls_ii (fun ad P G cells slots F hX h => s_ii hX hd (by decide) rfl)) ?_
  refine bI_c (fun hd => t_L hX cls_is (fun ad P G cells slots F hX h => s_is hX hd rfl (by decide))) ?_
  refine bI_c (fun hd => t_L hX cls_il (fun ad P G cells slots F hX h => s_il hX hd rfl)) ?_
  refine bI_c (fun hd => t_L hX cls_ii (fun ad P G cells slots F hX h => s_ii hX hd (by decide) rfl)) ?_
  refine bI_c (fun hd => t_L hX cls_ic (fun ad P G cells slots F hX h => s_ic_ge hX hd (by decide) rfl)) ?_
  refine bI_c (fun hd => t_L hX cls_al (fun ad P G cells slots F hX h => s_al_n hX hd rfl rfl)) ?_
  refine bI_c (fun hd => t_gwR hX (C := RX4) (T := TX4) (N := 9) (k := 7) rfl (fun w h => up w (inlX4 w h)) (by decide) rfl (by decide) rfl (up _ lkX4_28) hd rfl) ?_
  refine bI_c (fun hd => t_L hX cls_il (fun ad P G cells slots F hX h => s_il hX hd rfl)) ?_
  refine bI_c (fun hd => t_new hX (C := RX2) (T := TX2) rfl rfl (fun w h => up w (inlX2 w h)) tyX2 tyX2_ok hdfX2 (up _ mw29) (up _ mw37) (up _ mw38) hd rfl) ?_
  refine bI_c (fun hd => t_L hX cls_dup (fun ad P G cells slots F hX h => s_dup hX hd rfl)) ?_
  refine bI_c (fun hd => t_cIN hX (nX2_init l) (wg_I up mw39) (up _ mw38) hX.2.2.2.2.2.2.2.2.2.2.2.2 (up _ mw40) rfl rfl rfl rfl (by decide +kernel) ⟨by decide, by decide⟩ hd rfl) ?_
  refine bI_c (fun hd => t_ast hX (cn := RX2) (T := TX2) (t0 := 2) rfl rfl (fun ad μ o h => aE_r3 h) (by decide) hd rfl) ?_
  refine bI_c (fun hd => t_L hX cls_inc (fun ad P G cells slots F hX h => s_inc hX hd (by decide) rfl (by decide))) ?_
  refine bI_c (fun hd => t_L hX cls_go (fun ad P G cells slots F hX h => s_go hX hd (by decide))) ?_
  refine bI_c (fun hd => t_mk (t_rv hX hr hlk hE hd)) ?_
  exact trivial
-- <init>()V
def tX5_init : bT := [
  (0, (.aload_n 0, 1), bL (o_al 0 1)),
  (1, (.invokespecial 1, 3), b_obj 4),
  (4, (.aload_n 0, 1), bL (o_al 0 5)),
  (5, (.bipush 6, 2), bL (o_ii 6 7)),
  (7, (.newarray .int, 2), b_nwa 20 2823 9),
  (9, (.putfield 7, 3), b_pwR 5 1 12),
  (12, (.aload_n 0, 1), bL (o_al 0 13)),
  (13, (.bipush 6, 2), bL (o_ii 6 15)),
  (15, (.newarray .int, 2), b_nwa 20 2823 17),
  (17, (.putfield 13, 3), b_pwR 5 2 20),
  (20, (.aload_n 0, 1), bL (o_al 0 21)),
  (21, (.bipush 18, 2), bL (o_ii 18 23)),
  (23, (.newarray .int, 2), b_nwa 20 2823 25),
  (25, (.putfield 16, 3), b_pwR 5 3 28),
  (28, (.aload_n 0, 1), bL (o_al 0 29)),
  (29, (.bipush 24, 2), bL (o_ii 24 31)),
  (31, (.newarray .int, 2), b_nwa 20 2823 33),
  (33, (.putfield 19, 3), b_pwR 5 4 36),
  (36, (.aload_n 0, 1), bL (o_al 0 37)),
  (37, (.sipush 160, 3), bL (o_ii 160 40)),
  (40, (.newarray .int, 2), b_nwa 20 2823 42),
  (42, (.putfield 22, 3), b_pwR 5 7 45),
  (45, (.aload_n 0, 1), bL (o_al 0 46)),
  (46, (.sipush 1200, 3), bL (o_ii 1200 49)),
  (49, (.newarray .int, 2), b_nwa 20 2823 51),
  (51, (.putfield 25, 3), b_pwR 5 9 54),
  (54, (.aload_n 0, 1), bL (o_al 0 55)),
  (55, (.bipush 24, 2), bL (o_ii 24 57)),
  (57, (.newarray .int, 2), b_nwa 20 2823 59),
  (59, (.putfield 28, 3), b_pwR 5 10 62),
  (62, (.aload_n 0, 1), bL (o_al 0 63)),
  (63, (.bipush 42, 2), bL (o_ii 42 65)),
  (65, (.newarray .int, 2), b_nwa 20 2823 67),
  (67, (.putfield 31, 3), b_pwR 5 14 70),
  (70, (.aload_n 0, 1), bL (o_al 0 71)),
  (71, (.iconst 4, 1), bL (o_ii 4 72)),
  (72, (.newarray .int, 2), b_nwa 20 2823 74),
  (74, (.putfield 34, 3), b_pwR 5 15 77),
  (77, (.aload_n 0, 1), bL (o_al 0 78)),
  (78, (.iconst 4, 1), bL (o_ii 4 79)),
  (79, (.newarray .int, 2), b_nwa 20 2823 81),
  (81, (.dup, 1), bL (o_dup 82)),
  (82, (.iconst 0, 1), bL (o_ii 0 83)),
  (83, (.iconst (-1), 1), bL (o_ii (-1) 84)),
  (84, (.iastore, 1), bL (o_iast 85)),
  (85, (.dup, 1), bL (o_dup 86)),
  (86, (.iconst 1, 1), bL (o_ii 1 87)),
  (87, (.iconst (-1), 1), bL (o_ii (-1) 88)),
  (88, (.iastore, 1), bL (o_iast 89)),
  (89, (.dup, 1), bL (o_dup 90)),
  (90, (.iconst 2, 1), bL (o_ii 2 91)),
  (91, (.iconst (-1), 1), bL (o_ii (-1) 92)),
  (92, (.iastore, 1), bL (o_iast 93)),
  (93, (.dup, 1), bL (o_dup 94)),
  (94, (.iconst 3, 1), bL (o_ii 3 95)),
  (95, (.iconst (-1), 1), bL (o_ii (-1) 96)),
  (96, (.iastore, 1), bL (o_iast 97)),
  (97, (.putfield 37, 3), b_pwR 5 16 100),
  (100, (.aload_n 0, 1), bL (o_al 0 101)),
  (101, (.iconst 4, 1), bL (o_ii 4 102)),
  (102, (.newarray .int, 2), b_nwa 20 2823 104),
  (104, (.putfield 40, 3), b_pwR 5 17 107),
  (107, (.aload_n 0, 1), bL (o_al 0 108)),
  (108, (.sipush 160, 3), bL (o_ii 160 111)),
  (111, (.newarray .int, 2), b_nwa 20 2823 113),
  (113, (.putfield 43, 3), b_pwR 5 18 116),
  (116, (.aload_n 0, 1), bL (o_al 0 117)),
  (117, (.bipush 41, 2), bL (o_ii 41 119)),
  (119, (.newarray .int, 2), b_nwa 20 2823 121),
  (121, (.dup, 1), bL (o_dup 122)),
  (122, (.iconst 0, 1), bL (o_ii 0 123)),
  (123, (.bipush 110, 2), bL (o_ii 110 125)),
  (125, (.iastore, 1), bL (o_iast 126)),
  (126, (.dup, 1), bL (o_dup 127)),
  (127, (.iconst 1, 1), bL (o_ii 1 128)),
  (128, (.bipush 101, 2), bL (o_ii 101 130)),
  (130, (.iastore, 1), bL (o_iast 131)),
  (131, (.dup, 1), bL (o_dup 132)),
  (132, (.iconst 2, 1), bL (o_ii 2 133)),
  (133, (.bipush 101, 2), bL (o_ii 101 135)),
  (135, (.iastore, 1), bL (o_iast 136)),
  (136, (.dup, 1), bL (o_dup 137)),
  (137, (.iconst 3, 1), bL (o_ii 3 138)),
  (138, (.bipush 100, 2), bL (o_ii 100 140)),
  (140, (.iastore, 1), bL (o_iast 141)),
  (141, (.dup, 1), bL (o_dup 142)),
  (142, (.iconst 4, 1), bL (o_ii 4 143)),
  (143, (.bipush 115, 2), bL (o_ii 115 145)),
  (145, (.iastore, 1), bL (o_iast 146)),
  (146, (.dup, 1), bL (o_dup 147)),
  (147, (.iconst 5, 1), bL (o_ii 5 148)),
  (148, (.bipush 32, 2), bL (o_ii 32 150)),
  (150, (.iastore, 1), bL (o_iast 151)),
  (151, (.dup, 1), bL (o_dup 152)),
  (152, (.bipush 6, 2), bL (o_ii 6 154)),
  (154, (.bipush 104, 2), bL (o_ii 104 156)),
  (156, (.iastore, 1), bL (o_iast 157)),
  (157, (.dup, 1), bL (o_dup 158)),
  (158, (.bipush 7, 2), bL (o_ii 7 160)),
  (160, (.bipush 97, 2), bL (o_ii 97 162)),
  (162, (.iastore, 1), bL (o_iast 163)),
  (163, (.dup, 1), bL (o_dup 164)),
  (164, (.bipush 8, 2), bL (o_ii 8 166)),
  (166, (.bipush 114, 2), bL (o_ii 114 168)),
  (168, (.iastore, 1), bL (o_iast 169)),
  (169, (.dup, 1), bL (o_dup 170)),
  (170, (.bipush 9, 2), bL (o_ii 9 172)),
  (172, (.bipush 100, 2), bL (o_ii 100 174)),
  (174, (.iastore, 1), bL (o_iast 175)),
  (175, (.dup, 1), bL (o_dup 176)),
  (176, (.bipush 10, 2), bL (o_ii 10 178)),
  (178, (.bipush 32, 2), bL (o_ii 32 180)),
  (180, (.iastore, 1), bL (o_iast 181)),
  (181, (.dup, 1), bL (o_dup 182)),
  (182, (.bipush 11, 2), bL (o_ii 11 184)),
  (184, (.bipush 59, 2), bL (o_ii 59 186)),
  (186, (.iastore, 1), bL (o_iast 187)),
  (187, (.dup, 1), bL (o_dup 188)),
  (188, (.bipush 12, 2), bL (o_ii 12 190)),
  (190, (.bipush 32, 2), bL (o_ii 32 192)),
  (192, (.iastore, 1), bL (o_iast 193)),
  (193, (.dup, 1), bL (o_dup 194)),
  (194, (.bipush 13, 2), bL (o_ii 13 196)),
  (196, (.bipush 116, 2), bL (o_ii 116 198)),
  (198, (.iastore, 1), bL (o_iast 199)),
  (199, (.dup, 1), bL (o_dup 200)),
  (200, (.bipush 14, 2), bL (o_ii 14 202)),
  (202, (.bipush 97, 2), bL (o_ii 97 204)),
  (204, (.iastore, 1), bL (o_iast 205)),
  (205, (.dup, 1), bL (o_dup 206)),
  (206, (.bipush 15, 2), bL (o_ii 15 208)),
  (208, (.bipush 107, 2), bL (o_ii 107 210)),
  (210, (.iastore, 1), bL (o_iast 211)),
  (211, (.dup, 1), bL (o_dup 212)),
  (212, (.bipush 16, 2), bL (o_ii 16 214)),
  (214, (.bipush 101, 2), bL (o_ii 101 216)),
  (216, (.iastore, 1), bL (o_iast 217)),
  (217, (.dup, 1), bL (o_dup 218)),
  (218, (.bipush 17, 2), bL (o_ii 17 220)),
  (220, (.bipush 115, 2), bL (o_ii 115 222)),
  (222, (.iastore, 1), bL (o_iast 223)),
  (223, (.dup, 1), bL (o_dup 224)),
  (224, (.bipush 18, 2), bL (o_ii 18 226)),
  (226, (.bipush 32, 2), bL (o_ii 32 228)),
  (228, (.iastore, 1), bL (o_iast 229)),
  (229, (.dup, 1), bL (o_dup 230)),
  (230, (.bipush 19, 2), bL (o_ii 19 232)),
  (232, (.bipush 116, 2), bL (o_ii 116 234)),
  (234, (.iastore, 1), bL (o_iast 235)),
  (235, (.dup, 1), bL (o_dup 236)),
  (236, (.bipush 20, 2), bL (o_ii 20 238)),
  (238, (.bipush 104, 2), bL (o_ii 104 240)),
  (240, (.iastore, 1), bL (o_iast 241)),
  (241, (.dup, 1), bL (o_dup 242)),
  (242, (.bipush 21, 2), bL (o_ii 21 244)),
  (244, (.bipush 105, 2), bL (o_ii 105 246)),
  (246, (.iastore, 1), bL (o_iast 247)),
  (247, (.dup, 1), bL (o_dup 248)),
  (248, (.bipush 22, 2), bL (o_ii 22 250)),
  (250, (.bipush 110, 2), bL (o_ii 110 252)),
  (252, (.iastore, 1), bL (o_iast 253)),
  (253, (.dup, 1), bL (o_dup 254)),
  (254, (.bipush 23, 2), bL (o_ii 23 256)),
  (256, (.bipush 103, 2), bL (o_ii 103 258)),
  (258, (.iastore, 1), bL (o_iast 259)),
  (259, (.dup, 1), bL (o_dup 260)),
  (260, (.bipush 24, 2), bL (o_ii 24 262)),
  (262, (.bipush 115, 2), bL (o_ii 115 264)),
  (264, (.iastore, 1), bL (o_iast 265)),
  (265, (.dup, 1), bL (o_dup 266)),
  (266, (.bipush 25, 2), bL (o_ii 25 268)),
  (268, (.bipush 32, 2), bL (o_ii 32 270)),
  (270, (.iastore, 1), bL (o_iast 271)),
  (271, (.dup, 1), bL (o_dup 272)),
  (272, (.bipush 26, 2), bL (o_ii 26 274)),
  (274, (.bipush 59, 2), bL (o_ii 59 276)),
  (276, (.iastore, 1), bL (o_iast 277)),
  (277, (.dup, 1), bL (o_dup 278)),
  (278, (.bipush 27, 2), bL (o_ii 27 280)),
  (280, (.bipush 32, 2), bL (o_ii 32 282)),
  (282, (.iastore, 1), bL (o_iast 283)),
  (283, (.dup, 1), bL (o_dup 284)),
  (284, (.bipush 28, 2), bL (o_ii 28 286)),
  (286, (.bipush 106, 2), bL (o_ii 106 288)),
  (288, (.iastore, 1), bL (o_iast 289)),
  (289, (.dup, 1), bL (o_dup 290)),
  (290, (.bipush 29, 2), bL (o_ii 29 292)),
  (292, (.bipush 117, 2), bL (o_ii 117 294)),
  (294, (.iastore, 1), bL (o_iast 295)),
  (295, (.dup, 1), bL (o_dup 296)),
  (296, (.bipush 30, 2), bL (o_ii 30 298)),
  (298, (.bipush 100, 2), bL (o_ii 100 300)),
  (300, (.iastore, 1), bL (o_iast 301)),
  (301, (.dup, 1), bL (o_dup 302)),
  (302, (.bipush 31, 2), bL (o_ii 31 304)),
  (304, (.bipush 103, 2), bL (o_ii 103 306)),
  (306, (.iastore, 1), bL (o_iast 307)),
  (307, (.dup, 1), bL (o_dup 308)),
  (308, (.bipush 32, 2), bL (o_ii 32 310)),
  (310, (.bipush 101, 2), bL (o_ii 101 312)),
  (312, (.iastore, 1), bL (o_iast 313)),
  (313, (.dup, 1), bL (o_dup 314)),
  (314, (.bipush 33, 2), bL (o_ii 33 316)),
  (316, (.bipush 115, 2), bL (o_ii 115 318)),
  (318, (.iastore, 1), bL (o_iast 319)),
  (319, (.dup, 1), bL (o_dup 320)),
  (320, (.bipush 34, 2), bL (o_ii 34 322)),
  (322, (.bipush 32, 2), bL (o_ii 32 324)),
  (324, (.iastore, 1), bL (o_iast 325)),
  (325, (.dup, 1), bL (o_dup 326)),
  (326, (.bipush 35, 2), bL (o_ii 35 328)),
  (328, (.bipush 109, 2), bL (o_ii 109 330)),
  (330, (.iastore, 1), bL (o_iast 331)),
  (331, (.dup, 1), bL (o_dup 332)),
  (332, (.bipush 36, 2), bL (o_ii 36 334)),
  (334, (.bipush 105, 2), bL (o_ii 105 336)),
  (336, (.iastore, 1), bL (o_iast 337)),
  (337, (.dup, 1), bL (o_dup 338)),
  (338, (.bipush 37, 2), bL (o_ii 37 340)),
  (340, (.bipush 110, 2), bL (o_ii 110 342)),
  (342, (.iastore, 1), bL (o_iast 343)),
  (343, (.dup, 1), bL (o_dup 344)),
  (344, (.bipush 38, 2), bL (o_ii 38 346)),
  (346, (.bipush 100, 2), bL (o_ii 100 348)),
  (348, (.iastore, 1), bL (o_iast 349)),
  (349, (.dup, 1), bL (o_dup 350)),
  (350, (.bipush 39, 2), bL (o_ii 39 352)),
  (352, (.bipush 32, 2), bL (o_ii 32 354)),
  (354, (.iastore, 1), bL (o_iast 355)),
  (355, (.dup, 1), bL (o_dup 356)),
  (356, (.bipush 40, 2), bL (o_ii 40 358)),
  (358, (.bipush 59, 2), bL (o_ii 59 360)),
  (360, (.iastore, 1), bL (o_iast 361)),
  (361, (.putfield 46, 3), b_pwR 5 19 364),
  (364, (.aload_n 0, 1), bL (o_al 0 365)),
  (365, (.bipush 96, 2), bL (o_ii 96 367)),
  (367, (.newarray .int, 2), b_nwa 20 2823 369),
  (369, (.dup, 1), bL (o_dup 370)),
  (370, (.iconst 0, 1), bL (o_ii 0 371)),
  (371, (.bipush 110, 2), bL (o_ii 110 373)),
  (373, (.iastore, 1), bL (o_iast 374)),
  (374, (.dup, 1), bL (o_dup 375)),
  (375, (.iconst 1, 1), bL (o_ii 1 376)),
  (376, (.bipush 101, 2), bL (o_ii 101 378)),
  (378, (.iastore, 1), bL (o_iast 379)),
  (379, (.dup, 1), bL (o_dup 380)),
  (380, (.iconst 2, 1), bL (o_ii 2 381)),
  (381, (.bipush 101, 2), bL (o_ii 101 383)),
  (383, (.iastore, 1), bL (o_iast 384)),
  (384, (.dup, 1), bL (o_dup 385)),
  (385, (.iconst 3, 1), bL (o_ii 3 386)),
  (386, (.bipush 100, 2), bL (o_ii 100 388)),
  (388, (.iastore, 1), bL (o_iast 389)),
  (389, (.dup, 1), bL (o_dup 390)),
  (390, (.iconst 4, 1), bL (o_ii 4 391)),
  (391, (.bipush 115, 2), bL (o_ii 115 393)),
  (393, (.iastore, 1), bL (o_iast 394)),
  (394, (.dup, 1), bL (o_dup 395)),
  (395, (.iconst 5, 1), bL (o_ii 5 396)),
  (396, (.bipush 32, 2), bL (o_ii 32 398)),
  (398, (.iastore, 1), bL (o_iast 399)),
  (399, (.dup, 1), bL (o_dup 400)),
  (400, (.bipush 6, 2), bL (o_ii 6 402)),
  (402, (.bipush 32, 2), bL (o_ii 32 404)),
  (404, (.iastore, 1), bL (o_iast 405)),
  (405, (.dup, 1), bL (o_dup 406)),
  (406, (.bipush 7, 2), bL (o_ii 7 408)),
  (408, (.bipush 32, 2), bL (o_ii 32 410)),
  (410, (.iastore, 1), bL (o_iast 411)),
  (411, (.dup, 1), bL (o_dup 412)),
  (412, (.bipush 8, 2), bL (o_ii 8 414)),
  (414, (.bipush 116, 2), bL (o_ii 116 416)),
  (416, (.iastore, 1), bL (o_iast 417)),
  (417, (.dup, 1), bL (o_dup 418)),
  (418, (.bipush 9, 2), bL (o_ii 9 420)),
  (420, (.bipush 97, 2), bL (o_ii 97 422)),
  (422, (.iastore, 1), bL (o_iast 423)),
  (423, (.dup, 1), bL (o_dup 424)),
  (424, (.bipush 10, 2), bL (o_ii 10 426)),
  (426, (.bipush 107, 2), bL (o_ii 107 428)),
  (428, (.iastore, 1), bL (o_iast 429)),
  (429, (.dup, 1), bL (o_dup 430)),
  (430, (.bipush 11, 2), bL (o_ii 11 432)),
  (432, (.bipush 101, 2), bL (o_ii 101 434)),
  (434, (.iastore, 1), bL (o_iast 435)),
  (435, (.dup, 1), bL (o_dup 436)),
  (436, (.bipush 12, 2), bL (o_ii 12 438)),
  (438, (.bipush 115, 2), bL (o_ii 115 440)),
  (440, (.iastore, 1), bL (o_iast 441)),
  (441, (.dup, 1), bL (o_dup 442)),
  (442, (.bipush 13, 2), bL (o_ii 13 444)),
  (444, (.bipush 32, 2), bL (o_ii 32 446)),
  (446, (.iastore, 1), bL (o_iast 447)),
  (447, (.dup, 1), bL (o_dup 448)),
  (448, (.bipush 14, 2), bL (o_ii 14 450)),
  (450, (.bipush 32, 2), bL (o_ii 32 452)),
  (452, (.iastore, 1), bL (o_iast 453)),
  (453, (.dup, 1), bL (o_dup 454)),
  (454, (.bipush 15, 2), bL (o_ii 15 456)),
  (456, (.bipush 32, 2), bL (o_ii 32 458)),
  (458, (.iastore, 1), bL (o_iast 459)),
  (459, (.dup, 1), bL (o_dup 460)),
  (460, (.bipush 16, 2), bL (o_ii 16 462)),
  (462, (.bipush 106, 2), bL (o_ii 106 464)),
  (464, (.iastore, 1), bL (o_iast 465)),
  (465, (.dup, 1), bL (o_dup 466)),
  (466, (.bipush 17, 2), bL (o_ii 17 468)),
  (468, (.bipush 117, 2), bL (o_ii 117 470)),
  (470, (.iastore, 1), bL (o_iast 471)),
  (471, (.dup, 1), bL (o_dup 472)),
  (472, (.bipush 18, 2), bL (o_ii 18 474)),
  (474, (.bipush 100, 2), bL (o_ii 100 476)),
  (476, (.iastore, 1), bL (o_iast 477)),
  (477, (.dup, 1), bL (o_dup 478)),
  (478, (.bipush 19, 2), bL (o_ii 19 480)),
  (480, (.bipush 103, 2), bL (o_ii 103 482)),
  (482, (.iastore, 1), bL (o_iast 483)),
  (483, (.dup, 1), bL (o_dup 484)),
  (484, (.bipush 20, 2), bL (o_ii 20 486)),
  (486, (.bipush 101, 2), bL (o_ii 101 488)),
  (488, (.iastore, 1), bL (o_iast 489)),
  (489, (.dup, 1), bL (o_dup 490)),
  (490, (.bipush 21, 2), bL (o_ii 21 492)),
  (492, (.bipush 115, 2), bL (o_ii 115 494)),
  (494, (.iastore, 1), bL (o_iast 495)),
  (495, (.dup, 1), bL (o_dup 496)),
  (496, (.bipush 22, 2), bL (o_ii 22 498)),
  (498, (.bipush 32, 2), bL (o_ii 32 500)),
  (500, (.iastore, 1), bL (o_iast 501)),
  (501, (.dup, 1), bL (o_dup 502)),
  (502, (.bipush 23, 2), bL (o_ii 23 504)),
  (504, (.bipush 32, 2), bL (o_ii 32 506)),
  (506, (.iastore, 1), bL (o_iast 507)),
  (507, (.dup, 1), bL (o_dup 508)),
  (508, (.bipush 24, 2), bL (o_ii 24 510)),
  (510, (.bipush 104, 2), bL (o_ii 104 512)),
  (512, (.iastore, 1), bL (o_iast 513)),
  (513, (.dup, 1), bL (o_dup 514)),
  (514, (.bipush 25, 2), bL (o_ii 25 516)),
  (516, (.bipush 97, 2), bL (o_ii 97 518)),
  (518, (.iastore, 1), bL (o_iast 519)),
  (519, (.dup, 1), bL (o_dup 520)),
  (520, (.bipush 26, 2), bL (o_ii 26 522)),
  (522, (.bipush 114, 2), bL (o_ii 114 524)),
  (524, (.iastore, 1), bL (o_iast 525)),
  (525, (.dup, 1), bL (o_dup 526)),
  (526, (.bipush 27, 2), bL (o_ii 27 528)),
  (528, (.bipush 100, 2), bL (o_ii 100 530)),
  (530, (.iastore, 1), bL (o_iast 531)),
  (531, (.dup, 1), bL (o_dup 532)),
  (532, (.bipush 28, 2), bL (o_ii 28 534)),
  (534, (.bipush 32, 2), bL (o_ii 32 536)),
  (536, (.iastore, 1), bL (o_iast 537)),
  (537, (.dup, 1), bL (o_dup 538)),
  (538, (.bipush 29, 2), bL (o_ii 29 540)),
  (540, (.bipush 32, 2), bL (o_ii 32 542)),
  (542, (.iastore, 1), bL (o_iast 543)),
  (543, (.dup, 1), bL (o_dup 544)),
  (544, (.bipush 30, 2), bL (o_ii 30 546)),
  (546, (.bipush 32, 2), bL (o_ii 32 548)),
  (548, (.iastore, 1), bL (o_iast 549)),
  (549, (.dup, 1), bL (o_dup 550)),
  (550, (.bipush 31, 2), bL (o_ii 31 552)),
  (552, (.bipush 32, 2), bL (o_ii 32 554)),
  (554, (.iastore, 1), bL (o_iast 555)),
  (555, (.dup, 1), bL (o_dup 556)),
  (556, (.bipush 32, 2), bL (o_ii 32 558)),
  (558, (.bipush 116, 2), bL (o_ii 116 560)),
  (560, (.iastore, 1), bL (o_iast 561)),
  (561, (.dup, 1), bL (o_dup 562)),
  (562, (.bipush 33, 2), bL (o_ii 33 564)),
  (564, (.bipush 104, 2), bL (o_ii 104 566)),
  (566, (.iastore, 1), bL (o_iast 567)),
  (567, (.dup, 1), bL (o_dup 568)),
  (568, (.bipush 34, 2), bL (o_ii 34 570)),
  (570, (.bipush 105, 2), bL (o_ii 105 572)),
  (572, (.iastore, 1), bL (o_iast 573)),
  (573, (.dup, 1), bL (o_dup 574)),
  (574, (.bipush 35, 2), bL (o_ii 35 576)),
  (576, (.bipush 110, 2), bL (o_ii 110 578)),
  (578, (.iastore, 1), bL (o_iast 579)),
  (579, (.dup, 1), bL (o_dup 580)),
  (580, (.bipush 36, 2), bL (o_ii 36 582)),
  (582, (.bipush 103, 2), bL (o_ii 103 584)),
  (584, (.iastore, 1), bL (o_iast 585)),
  (585, (.dup, 1), bL (o_dup 586)),
  (586, (.bipush 37, 2), bL (o_ii 37 588)),
  (588, (.bipush 115, 2), bL (o_ii 115 590)),
  (590, (.iastore, 1), bL (o_iast 591)),
  (591, (.dup, 1), bL (o_dup 592)),
  (592, (.bipush 38, 2), bL (o_ii 38 594)),
  (594, (.bipush 32, 2), bL (o_ii 32 596)),
  (596, (.iastore, 1), bL (o_iast 597)),
  (597, (.dup, 1), bL (o_dup 598)),
  (598, (.bipush 39, 2), bL (o_ii 39 600)),
  (600, (.bipush 32, 2), bL (o_ii 32 602)),
  (602, (.iastore, 1), bL (o_iast 603)),
  (603, (.dup, 1), bL (o_dup 604)),
  (604, (.bipush 40, 2), bL (o_ii 40 606)),
  (606, (.bipush 109, 2), bL (o_ii 109 608)),
  (608, (.iastore, 1), bL (o_iast 609)),
  (609, (.dup, 1), bL (o_dup 610)),
  (610, (.bipush 41, 2), bL (o_ii 41 612)),
  (612, (.bipush 105, 2), bL (o_ii 105 614)),
  (614, (.iastore, 1), bL (o_iast 615)),
  (615, (.dup, 1), bL (o_dup 616)),
  (616, (.bipush 42, 2), bL (o_ii 42 618)),
  (618, (.bipush 110, 2), bL (o_ii 110 620)),
  (620, (.iastore, 1), bL (o_iast 621)),
  (621, (.dup, 1), bL (o_dup 622)),
  (622, (.bipush 43, 2), bL (o_ii 43 624)),
  (624, (.bipush 100, 2), bL (o_ii 100 626)),
  (626, (.iastore, 1), bL (o_iast 627)),
  (627, (.dup, 1), bL (o_dup 628)),
  (628, (.bipush 44, 2), bL (o_ii 44 630)),
  (630, (.bipush 32, 2), bL (o_ii 32 632)),
  (632, (.iastore, 1), bL (o_iast 633)),
  (633, (.dup, 1), bL (o_dup 634)),
  (634, (.bipush 45, 2), bL (o_ii 45 636)),
  (636, (.bipush 32, 2), bL (o_ii 32 638)),
  (638, (.iastore, 1), bL (o_iast 639)),
  (639, (.dup, 1), bL (o_dup 640)),
  (640, (.bipush 46, 2), bL (o_ii 46 642)),
  (642, (.bipush 32, 2), bL (o_ii 32 644)),
  (644, (.iastore, 1), bL (o_iast 645)),
  (645, (.dup, 1), bL (o_dup 646)),
  (646, (.bipush 47, 2), bL (o_ii 47 648)),
  (648, (.bipush 32, 2), bL (o_ii 32 650)),
  (650, (.iastore, 1), bL (o_iast 651)),
  (651, (.dup, 1), bL (o_dup 652)),
  (652, (.bipush 48, 2), bL (o_ii 48 654)),
  (654, (.bipush 108, 2), bL (o_ii 108 656)),
  (656, (.iastore, 1), bL (o_iast 657)),
  (657, (.dup, 1), bL (o_dup 658)),
  (658, (.bipush 49, 2), bL (o_ii 49 660)),
  (660, (.bipush 111, 2), bL (o_ii 111 662)),
  (662, (.iastore, 1), bL (o_iast 663)),
  (663, (.dup, 1), bL (o_dup 664)),
  (664, (.bipush 50, 2), bL (o_ii 50 666)),
  (666, (.bipush 115, 2), bL (o_ii 115 668)),
  (668, (.iastore, 1), bL (o_iast 669)),
  (669, (.dup, 1), bL (o_dup 670)),
  (670, (.bipush 51, 2), bL (o_ii 51 672)),
  (672, (.bipush 116, 2), bL (o_ii 116 674)),
  (674, (.iastore, 1), bL (o_iast 675)),
  (675, (.dup, 1), bL (o_dup 676)),
  (676, (.bipush 52, 2), bL (o_ii 52 678)),
  (678, (.bipush 32, 2), bL (o_ii 32 680)),
  (680, (.iastore, 1), bL (o_iast 681)),
  (681, (.dup, 1), bL (o_dup 682)),
  (682, (.bipush 53, 2), bL (o_ii 53 684)),
  (684, (.bipush 32, 2), bL (o_ii 32 686)),
  (686, (.iastore, 1), bL (o_iast 687)),
  (687, (.dup, 1), bL (o_dup 688)),
  (688, (.bipush 54, 2), bL (o_ii 54 690)),
  (690, (.bipush 32, 2), bL (o_ii 32 692)),
  (692, (.iastore, 1), bL (o_iast 693)),
  (693, (.dup, 1), bL (o_dup 694)),
  (694, (.bipush 55, 2), bL (o_ii 55 696)),
  (696, (.bipush 32, 2), bL (o_ii 32 698)),
  (698, (.iastore, 1), bL (o_iast 699)),
  (699, (.dup, 1), bL (o_dup 700)),
  (700, (.bipush 56, 2), bL (o_ii 56 702)),
  (702, (.bipush 100, 2), bL (o_ii 100 704)),
  (704, (.iastore, 1), bL (o_iast 705)),
  (705, (.dup, 1), bL (o_dup 706)),
  (706, (.bipush 57, 2), bL (o_ii 57 708)),
  (708, (.bipush 97, 2), bL (o_ii 97 710)),
  (710, (.iastore, 1), bL (o_iast 711)),
  (711, (.dup, 1), bL (o_dup 712)),
  (712, (.bipush 58, 2), bL (o_ii 58 714)),
  (714, (.bipush 121, 2), bL (o_ii 121 716)),
  (716, (.iastore, 1), bL (o_iast 717)),
  (717, (.dup, 1), bL (o_dup 718)),
  (718, (.bipush 59, 2), bL (o_ii 59 720)),
  (720, (.bipush 32, 2), bL (o_ii 32 722)),
  (722, (.iastore, 1), bL (o_iast 723)),
  (723, (.dup, 1), bL (o_dup 724)),
  (724, (.bipush 60, 2), bL (o_ii 60 726)),
  (726, (.bipush 32, 2), bL (o_ii 32 728)),
  (728, (.iastore, 1), bL (o_iast 729)),
  (729, (.dup, 1), bL (o_dup 730)),
  (730, (.bipush 61, 2), bL (o_ii 61 732)),
  (732, (.bipush 32, 2), bL (o_ii 32 734)),
  (734, (.iastore, 1), bL (o_iast 735)),
  (735, (.dup, 1), bL (o_dup 736)),
  (736, (.bipush 62, 2), bL (o_ii 62 738)),
  (738, (.bipush 32, 2), bL (o_ii 32 740)),
  (740, (.iastore, 1), bL (o_iast 741)),
  (741, (.dup, 1), bL (o_dup 742)),
  (742, (.bipush 63, 2), bL (o_ii 63 744)),
  (744, (.bipush 32, 2), bL (o_ii 32 746)),
  (746, (.iastore, 1), bL (o_iast 747)),
  (747, (.dup, 1), bL (o_dup 748)),
  (748, (.bipush 64, 2), bL (o_ii 64 750)),
  (750, (.bipush 109, 2), bL (o_ii 109 752)),
  (752, (.iastore, 1), bL (o_iast 753)),
  (753, (.dup, 1), bL (o_dup 754)),
  (754, (.bipush 65, 2), bL (o_ii 65 756)),
  (756, (.bipush 111, 2), bL (o_ii 111 758)),
  (758, (.iastore, 1), bL (o_iast 759)),
  (759, (.dup, 1), bL (o_dup 760)),
  (760, (.bipush 66, 2), bL (o_ii 66 762)),
  (762, (.bipush 114, 2), bL (o_ii 114 764)),
  (764, (.iastore, 1), bL (o_iast 765)),
  (765, (.dup, 1), bL (o_dup 766)),
  (766, (.bipush 67, 2), bL (o_ii 67 768)),
  (768, (.bipush 101, 2), bL (o_ii 101 770)),
  (770, (.iastore, 1), bL (o_iast 771)),
  (771, (.dup, 1), bL (o_dup 772)),
  (772, (.bipush 68, 2), bL (o_ii 68 774)),
  (774, (.bipush 32, 2), bL (o_ii 32 776)),
  (776, (.iastore, 1), bL (o_iast 777)),
  (777, (.dup, 1), bL (o_dup 778)),
  (778, (.bipush 69, 2), bL (o_ii 69 780)),
  (780, (.bipush 32, 2), bL (o_ii 32 782)),
  (782, (.iastore, 1), bL (o_iast 783)),
  (783, (.dup, 1), bL (o_dup 784)),
  (784, (.bipush 70, 2), bL (o_ii 70 786)),
  (786, (.bipush 32, 2), bL (o_ii 32 788)),
  (788, (.iastore, 1), bL (o_iast 789)),
  (789, (.dup, 1), bL (o_dup 790)),
  (790, (.bipush 71, 2), bL (o_ii 71 792)),
  (792, (.bipush 32, 2), bL (o_ii 32 794)),
  (794, (.iastore, 1), bL (o_iast 795)),
  (795, (.dup, 1), bL (o_dup 796)),
  (796, (.bipush 72, 2), bL (o_ii 72 798)),
  (798, (.bipush 111, 2), bL (o_ii 111 800)),
  (800, (.iastore, 1), bL (o_iast 801)),
  (801, (.dup, 1), bL (o_dup 802)),
  (802, (.bipush 73, 2), bL (o_ii 73 804)),
  (804, (.bipush 114, 2), bL (o_ii 114 806)),
  (806, (.iastore, 1), bL (o_iast 807)),
  (807, (.dup, 1), bL (o_dup 808)),
  (808, (.bipush 74, 2), bL (o_ii 74 810)),
  (810, (.bipush 32, 2), bL (o_ii 32 812)),
  (812, (.iastore, 1), bL (o_iast 813)),
  (813, (.dup, 1), bL (o_dup 814)),
  (814, (.bipush 75, 2), bL (o_ii 75 816)),
  (816, (.bipush 32, 2), bL (o_ii 32 818)),
  (818, (.iastore, 1), bL (o_iast 819)),
  (819, (.dup, 1), bL (o_dup 820)),
  (820, (.bipush 76, 2), bL (o_ii 76 822)),
  (822, (.bipush 32, 2), bL (o_ii 32 824)),
  (824, (.iastore, 1), bL (o_iast 825)),
  (825, (.dup, 1), bL (o_dup 826)),
  (826, (.bipush 77, 2), bL (o_ii 77 828)),
  (828, (.bipush 32, 2), bL (o_ii 32 830)),
  (830, (.iastore, 1), bL (o_iast 831)),
  (831, (.dup, 1), bL (o_dup 832)),
  (832, (.bipush 78, 2), bL (o_ii 78 834)),
  (834, (.bipush 32, 2), bL (o_ii 32 836)),
  (836, (.iastore, 1), bL (o_iast 837)),
  (837, (.dup, 1), bL (o_dup 838)),
  (838, (.bipush 79, 2), bL (o_ii 79 840)),
  (840, (.bipush 32, 2), bL (o_ii 32 842)),
  (842, (.iastore, 1), bL (o_iast 843)),
  (843, (.dup, 1), bL (o_dup 844)),
  (844, (.bipush 80, 2), bL (o_ii 80 846)),
  (846, (.bipush 97, 2), bL (o_ii 97 848)),
  (848, (.iastore, 1), bL (o_iast 849)),
  (849, (.dup, 1), bL (o_dup 850)),
  (850, (.bipush 81, 2), bL (o_ii 81 852)),
  (852, (.bipush 110, 2), bL (o_ii 110 854)),
  (854, (.iastore, 1), bL (o_iast 855)),
  (855, (.dup, 1), bL (o_dup 856)),
  (856, (.bipush 82, 2), bL (o_ii 82 858)),
  (858, (.bipush 100, 2), bL (o_ii 100 860)),
  (860, (.iastore, 1), bL (o_iast 861)),
  (861, (.dup, 1), bL (o_dup 862)),
  (862, (.bipush 83, 2), bL (o_ii 83 864)),
  (864, (.bipush 32, 2), bL (o_ii 32 866)),
  (866, (.iastore, 1), bL (o_iast 867)),
  (867, (.dup, 1), bL (o_dup 868)),
  (868, (.bipush 84, 2), bL (o_ii 84 870)),
  (870, (.bipush 32, 2), bL (o_ii 32 872)),
  (872, (.iastore, 1), bL (o_iast 873)),
  (873, (.dup, 1), bL (o_dup 874)),
  (874, (.bipush 85, 2), bL (o_ii 85 876)),
  (876, (.bipush 32, 2), bL (o_ii 32 878)),
  (878, (.iastore, 1), bL (o_iast 879)),
  (879, (.dup, 1), bL (o_dup 880)),
  (880, (.bipush 86, 2), bL (o_ii 86 882)),
  (882, (.bipush 32, 2), bL (o_ii 32 884)),
  (884, (.iastore, 1), bL (o_iast 885)),
  (885, (.dup, 1), bL (o_dup 886)),
  (886, (.bipush 87, 2), bL (o_ii 87 888)),
  (888, (.bipush 32, 2), bL (o_ii 32 890)),
  (890, (.iastore, 1), bL (o_iast 891)),
  (891, (.dup, 1), bL (o_dup 892)),
  (892, (.bipush 88, 2), bL (o_ii 88 894)),
  (894, (.bipush 110, 2), bL (o_ii 110 896)),
  (896, (.iastore, 1), bL (o_iast 897)),
  (897, (.dup, 1), bL (o_dup 898)),
  (898, (.bipush 89, 2), bL (o_ii 89 900)),
  (900, (.bipush 111, 2), bL (o_ii 111 902)),
  (902, (.iastore, 1), bL (o_iast 903)),
  (903, (.dup, 1), bL (o_dup 904)),
  (904, (.bipush 90, 2), bL (o_ii 90 906)),
  (906, (.bipush 116, 2), bL (o_ii 116 908)),
  (908, (.iastore, 1), bL (o_iast 909)),
  (909, (.dup, 1), bL (o_dup 910)),
  (910, (.bipush 91, 2), bL (o_ii 91 912)),
  (912, (.bipush 32, 2), bL (o_ii 32 914)),
  (914, (.iastore, 1), bL (o_iast 915)),
  (915, (.dup, 1), bL (o_dup 916)),
  (916, (.bipush 92, 2), bL (o_ii 92 918)),
  (918, (.bipush 32, 2), bL (o_ii 32 920)),
  (920, (.iastore, 1), bL (o_iast 921)),
  (921, (.dup, 1), bL (o_dup 922)),
  (922, (.bipush 93, 2), bL (o_ii 93 924)),
  (924, (.bipush 32, 2), bL (o_ii 32 926)),
  (926, (.iastore, 1), bL (o_iast 927)),
  (927, (.dup, 1), bL (o_dup 928)),
  (928, (.bipush 94, 2), bL (o_ii 94 930)),
  (930, (.bipush 32, 2), bL (o_ii 32 932)),
  (932, (.iastore, 1), bL (o_iast 933)),
  (933, (.dup, 1), bL (o_dup 934)),
  (934, (.bipush 95, 2), bL (o_ii 95 936)),
  (936, (.bipush 32, 2), bL (o_ii 32 938)),
  (938, (.iastore, 1), bL (o_iast 939)),
  (939, (.putfield 49, 3), b_pwR 5 24 942),
  (942, (.aload_n 0, 1), bL (o_al 0 943)),
  (943, (.sipush 200, 3), bL (o_ii 200 946)),
  (946, (.newarray .int, 2), b_nwa 20 2823 948),
  (948, (.putfield 52, 3), b_pwR 5 25 951),
  (951, (.aload_n 0, 1), bL (o_al 0 952)),
  (952, (.sipush 200, 3), bL (o_ii 200 955)),
  (955, (.newarray .int, 2), b_nwa 20 2823 957),
  (957, (.putfield 55, 3), b_pwR 5 29 960),
  (960, (.aload_n 0, 1), bL (o_al 0 961)),
  (961, (.bipush 6, 2), bL (o_ii 6 963)),
  (963, (.newarray .int, 2), b_nwa 20 2823 965),
  (965, (.putfield 58, 3), b_pwR 5 30 968),
  (968, (.aload_n 0, 1), bL (o_al 0 969)),
  (969, (.bipush 44, 2), bL (o_ii 44 971)),
  (971, (.newarray .int, 2), b_nwa 20 2823 973),
  (973, (.putfield 61, 3), b_pwR 5 31 976),
  (976, (.aload_n 0, 1), bL (o_al 0 977)),
  (977, (.sipush 576, 3), bL (o_ii 576 980)),
  (980, (.newarray .int, 2), b_nwa 20 2823 982),
  (982, (.putfield 64, 3), b_pwR 5 32 985),
  (985, (.aload_n 0, 1), bL (o_al 0 986)),
  (986, (.bipush 8, 2), bL (o_ii 8 988)),
  (988, (.newarray .int, 2), b_nwa 20 2823 990),
  (990, (.putfield 67, 3), b_pwR 5 33 993),
  (993, (.iconst 0, 1), b_mk 5 (bL (o_ii 0 994))),
  (994, (.istore_n 1, 1), bL (o_is 1 995)),
  (995, (.iload_n 1, 1), bL (o_il 1 996)),
  (996, (.bipush 41, 2), bL (o_ii 41 998)),
  (998, (.if_icmp .ge 21, 3), bL (o_ic (fun x y => y ≤ x) 1019 1001)),
  (1001, (.aload_n 0, 1), bL (o_al 0 1002)),
  (1002, (.getfield 22, 3), bL (o_gF 5 5 1005)),
  (1005, (.iload_n 1, 1), bL (o_il 1 1006)),
  (1006, (.aload_n 0, 1), bL (o_al 0 1007)),
  (1007, (.getfield 46, 3), bL (o_gF 5 13 1010)),
  (1010, (.iload_n 1, 1), bL (o_il 1 1011)),
  (1011, (.iaload, 1), bL (o_iald 1012)),
  (1012, (.iastore, 1), bL (o_iast 1013)),
  (1013, (.iinc 1 1, 3), bL (o_inc 1 1 1016)),
  (1016, (.goto (-21), 3), bL (o_go 995)),
  (1019, (.aload_n 0, 1), bL (o_al 0 1020)),
  (1020, (.bipush 41, 2), bL (o_ii 41 1022)),
  (1022, (.putfield 70, 3), bL (o_pI 5 8 1025)),
  (1025, (.aload_n 0, 1), bL (o_al 0 1026)),
  (1026, (.invokevirtual 74, 3), bL (o_cV CX5_text 5 0 1029)),
  (1029, (.pop, 1), bL (o_pop 1030)),
  (1030, (.return_, 1), b_rv)]
abbrev CX5_init : aC := fun args μ r μ' => bRk r ∧ bCl tX5_init 2 20 2823 args μ r μ'
def rmX5_init : Room := { frames := 6, cells := 20, slots := 2823, locals := 110 }
def eX5_init_0 : List (Nat × (Instr × Nat)) := [(0, (.aload_n 0, 1)), (1, (.invokespecial 1, 3)), (4, (.aload_n 0, 1)), (5, (.bipush 6, 2)), (7, (.newarray .int, 2)), (9, (.putfield 7, 3)), (12, (.aload_n 0, 1)), (13, (.bipush 6, 2)), (15, (.newarray .int, 2)), (17, (.putfield 13, 3)), (20, (.aload_n 0, 1)), (21, (.bipush 18, 2)), (23, (.newarray .int, 2)), (25, (.putfield 16, 3)), (28, (.aload_n 0, 1)), (29, (.bipush 24, 2)), (31, (.newarray .int, 2)), (33, (.putfield 19, 3)), (36, (.aload_n 0, 1)), (37, (.sipush 160, 3)), (40, (.newarray .int, 2)), (42, (.putfield 22, 3)), (45, (.aload_n 0, 1)), (46, (.sipush 1200, 3)), (49, (.newarray .int, 2)), (51, (.putfield 25, 3)), (54, (.aload_n 0, 1)), (55, (.bipush 24, 2)), (57, (.newarray .int, 2)), (59, (.putfield 28, 3)), (62, (.aload_n 0, 1)), (63, (.bipush 42, 2)), (65, (.newarray .int, 2)), (67, (.putfield 31, 3)), (70, (.aload_n 0, 1)), (71, (.iconst 4, 1)), (72, (.newarray .int, 2)), (74, (.putfield 34, 3)), (77, (.aload_n 0, 1)), (78, (.iconst 4, 1))]
set_option maxRecDepth 100000 in
theorem dX5_init_0 : eX5_init_0.all (fun q => decide (decode cX5_init q.1 = .ok q.2)) = true := by decide +kernel
def eX5_init_1 : List (Nat × (Instr × Nat)) := [(79, (.newarray .int, 2)), (81, (.dup, 1)), (82, (.iconst 0, 1)), (83, (.iconst (-1), 1)), (84, (.iastore, 1)), (85, (.dup, 1)), (86, (.iconst 1, 1)), (87, (.iconst (-1), 1)), (88, (.iastore, 1)), (89, (.dup, 1)), (90, (.iconst 2, 1)), (91, (.iconst (-1), 1)), (92, (.iastore, 1)), (93, (.dup, 1)), (94, (.iconst 3, 1)), (95, (.iconst (-1), 1)), (96, (.iastore, 1)), (97, (.putfield 37, 3)), (100, (.aload_n 0, 1)), (101, (.iconst 4, 1)), (102, (.newarray .int, 2)), (104, (.putfield 40, 3)), (107, (.aload_n 0, 1)), (108, (.sipush 160, 3)), (111, (.newarray .int, 2)), (113, (.putfield 43, 3)), (116, (.aload_n 0, 1)), (117, (.bipush 41, 2)), (119, (.newarray .int, 2)), (121, (.dup, 1)), (122, (.iconst 0, 1)), (123, (.bipush 110, 2)), (125, (.iastore, 1)), (126, (.dup, 1)), (127, (.iconst 1, 1)), (128, (.bipush 101, 2)), (130, (.iastore, 1)), (131, (.dup, 1)), (132, (.iconst 2, 1)), (133, (.bipush 101, 2))]
set_option maxRecDepth 100000 in
theorem dX5_init_1 : eX5_init_1.all (fun q => decide (decode cX5_init q.1 = .ok q.2)) = true := by decide +kernel
def eX5_init_2 : List (Nat × (Instr × Nat)) := [(135, (.iastore, 1)), (136, (.dup, 1)), (137, (.iconst 3, 1)), (138, (.bipush 100, 2)), (140, (.iastore, 1)), (141, (.dup, 1)), (142, (.iconst 4, 1)), (143, (.bipush 115, 2)), (145, (.iastore, 1)), (146, (.dup, 1)), (147, (.iconst 5, 1)), (148, (.bipush 32, 2)), (150, (.iastore, 1)), (151, (.dup, 1)), (152, (.bipush 6, 2)), (154, (.bipush 104, 2)), (156, (.iastore, 1)), (157, (.dup, 1)), (158, (.bipush 7, 2)), (160, (.bipush 97, 2)), (162, (.iastore, 1)), (163, (.dup, 1)), (164, (.bipush 8, 2)), (166, (.bipush 114, 2)), (168, (.iastore, 1)), (169, (.dup, 1)), (170, (.bipush 9, 2)), (172, (.bipush 100, 2)), (174, (.iastore, 1)), (175, (.dup, 1)), (176, (.bipush 10, 2)), (178, (.bipush 32, 2)), (180, (.iastore, 1)), (181, (.dup, 1)), (182, (.bipush 11, 2)), (184, (.bipush 59, 2)), (186, (.iastore, 1)), (187, (.dup, 1)), (188, (.bipush 12, 2)), (190, (.bipush 32, 2))]
set_option maxRecDepth 100000 in
theorem dX5_init_2 : eX5_init_2.all (fun q => decide (decode cX5_init q.1 = .ok q.2)) = true := by decide +kernel
def eX5_init_3 : List (Nat × (Instr × Nat)) := [(192, (.iastore, 1)), (193, (.dup, 1)), (194, (.bipush 13, 2)), (196, (.bipush 116, 2)), (198, (.iastore, 1)), (199, (.dup, 1)), (200, (.bipush 14, 2)), (202, (.bipush 97, 2)), (204, (.iastore, 1)), (205, (.dup, 1)), (206, (.bipush 15, 2)), (208, (.bipush 107, 2)), (210, (.iastore, 1)), (211, (.dup, 1)), (212, (.bipush 16, 2)), (214, (.bipush 101, 2)), (216, (.iastore, 1)), (217, (.dup, 1)), (218, (.bipush 17, 2)), (220, (.bipush 115, 2)), (222, (.iastore, 1)), (223, (.dup, 1)), (224, (.bipush 18, 2)), (226, (.bipush 32, 2)), (228, (.iastore, 1)), (229, (.dup, 1)), (230, (.bipush 19, 2)), (232, (.bipush 116, 2)), (234, (.iastore, 1)), (235, (.dup, 1)), (236, (.bipush 20, 2)), (238, (.bipush 104, 2)), (240, (.iastore, 1)), (241, (.dup, 1)), (242, (.bipush 21, 2)), (244, (.bipush 105, 2)), (246, (.iastore, 1)), (247, (.dup, 1)), (248, (.bipush 22, 2)), (250, (.bipush 110, 2))]
set_option maxRecDepth 100000 in
theorem dX5_init_3 : eX5_init_3.all (fun q => decide (decode cX5_init q.1 = .ok q.2)) = true := by decide +kernel
def eX5_init_4 : List (Nat × (Instr × Nat)) := [(252, (.iastore, 1)), (253, (.dup, 1)), (254, (.bipush 23, 2)), (256, (.bipush 103, 2)), (258, (.iastore, 1)), (259, (.dup, 1)), (260, (.bipush 24, 2)), (262, (.bipush 115, 2)), (264, (.iastore, 1)), (265, (.dup, 1)), (266, (.bipush 25, 2)), (268, (.bipush 32, 2)), (270, (.iastore, 1)), (271, (.dup, 1)), (272, (.bipush 26, 2)), (274, (.bipush 59, 2)), (276, (.iastore, 1)), (277, (.dup, 1)), (278, (.bipush 27, 2)), (280, (.bipush 32, 2)), (282, (.iastore, 1)), (283, (.dup, 1)), (284, (.bipush 28, 2)), (286, (.bipush 106, 2)), (288, (.iastore, 1)), (289, (.dup, 1)), (290, (.bipush 29, 2)), (292, (.bipush 117, 2)), (294, (.iastore, 1)), (295, (.dup, 1)), (296, (.bipush 30, 2)), (298, (.bipush 100, 2)), (300, (.iastore, 1)), (301, (.dup, 1)), (302, (.bipush 31, 2)), (304, (.bipush 103, 2)), (306, (.iastore, 1)), (307, (.dup, 1)), (308, (.bipush 32, 2)), (310, (.bipush 101, 2))]
set_option maxRecDepth 100000 in
theorem dX5_init_4 : eX5_init_4.all (fun q => decide (decode cX5_init q.1 = .ok q.2)) = true := by decide +kernel
def eX5_init_5 : List (Nat × (Instr × Nat)) := [(312, (.iastore, 1)), (313, (.dup, 1)), (314, (.bipush 33, 2)), (316, (.bipush 115, 2)), (318, (.iastore, 1)), (319, (.dup, 1)), (320, (.bipush 34, 2)), (322, (.bipush 32, 2)), (324, (.iastore, 1)), (325, (.dup, 1)), (326, (.bipush 35, 2)), (328, (.bipush 109, 2)), (330, (.iastore, 1)), (331, (.dup, 1)), (332, (.bipush 36, 2)), (334, (.bipush 105, 2)), (336, (.iastore, 1)), (337, (.dup, 1)), (338, (.bipush 37, 2)), (340, (.bipush 110, 2)), (342, (.iastore, 1)), (343, (.dup, 1)), (344, (.bipush 38, 2)), (346, (.bipush 100, 2)), (348, (.iastore, 1)), (349, (.dup, 1)), (350, (.bipush 39, 2)), (352, (.bipush 32, 2)), (354, (.iastore, 1)), (355, (.dup, 1)), (356, (.bipush 40, 2)), (358, (.bipush 59, 2)), (360, (.iastore, 1)), (361, (.putfield 46, 3)), (364, (.aload_n 0, 1)), (365, (.bipush 96, 2)), (367, (.newarray .int, 2)), (369, (.dup, 1)), (370, (.iconst 0, 1)), (371, (.bipush 110, 2))]
set_option maxRecDepth 100000 in
theorem dX5_init_5 : eX5_init_5.all (fun q => decide (decode cX5_init q.1 = .ok q.2)) = true := by decide +kernel
def eX5_init_6 : List (Nat × (Instr × Nat)) := [(373, (.iastore, 1)), (374, (.dup, 1)), (375, (.iconst 1, 1)), (376, (.bipush 101, 2)), (378, (.iastore, 1)), (379, (.dup, 1)), (380, (.iconst 2, 1)), (381, (.bipush 101, 2)), (383, (.iastore, 1)), (384, (.dup, 1)), (385, (.iconst 3, 1)), (386, (.bipush 100, 2)), (388, (.iastore, 1)), (389, (.dup, 1)), (390, (.iconst 4, 1)), (391, (.bipush 115, 2)), (393, (.iastore, 1)), (394, (.dup, 1)), (395, (.iconst 5, 1)), (396, (.bipush 32, 2)), (398, (.iastore, 1)), (399, (.dup, 1)), (400, (.bipush 6, 2)), (402, (.bipush 32, 2)), (404, (.iastore, 1)), (405, (.dup, 1)), (406, (.bipush 7, 2)), (408, (.bipush 32, 2)), (410, (.iastore, 1)), (411, (.dup, 1)), (412, (.bipush 8, 2)), (414, (.bipush 116, 2)), (416, (.iastore, 1)), (417, (.dup, 1)), (418, (.bipush 9, 2)), (420, (.bipush 97, 2)), (422, (.iastore, 1)), (423, (.dup, 1)), (424, (.bipush 10, 2)), (426, (.bipush 107, 2))]
set_option maxRecDepth 100000 in
theorem dX5_init_6 : eX5_init_6.all (fun q => decide (decode cX5_init q.1 = .ok q.2)) = true := by decide +kernel
def eX5_init_7 : List (Nat × (Instr × Nat)) := [(428, (.iastore, 1)), (429, (.dup, 1)), (430, (.bipush 11, 2)), (432, (.bipush 101, 2)), (434, (.iastore, 1)), (435, (.dup, 1)), (436, (.bipush 12, 2)), (438, (.bipush 115, 2)), (440, (.iastore, 1)), (441, (.dup, 1)), (442, (.bipush 13, 2)), (444, (.bipush 32, 2)), (446, (.iastore, 1)), (447, (.dup, 1)), (448, (.bipush 14, 2)), (450, (.bipush 32, 2)), (452, (.iastore, 1)), (453, (.dup, 1)), (454, (.bipush 15, 2)), (456, (.bipush 32, 2)), (458, (.iastore, 1)), (459, (.dup, 1)), (460, (.bipush 16, 2)), (462, (.bipush 106, 2)), (464, (.iastore, 1)), (465, (.dup, 1)), (466, (.bipush 17, 2)), (468, (.bipush 117, 2)), (470, (.iastore, 1)), (471, (.dup, 1)), (472, (.bipush 18, 2)), (474, (.bipush 100, 2)), (476, (.iastore, 1)), (477, (.dup, 1)), (478, (.bipush 19, 2)), (480, (.bipush 103, 2)), (482, (.iastore, 1)), (483, (.dup, 1)), (484, (.bipush 20, 2)), (486, (.bipush 101, 2))]
set_option maxRecDepth 100000 in
theorem dX5_init_7 : eX5_init_7.all (fun q => decide (decode cX5_init q.1 = .ok q.2)) = true := by decide +kernel
def eX5_init_8 : List (Nat × (Instr × Nat)) := [(488, (.iastore, 1)), (489, (.dup, 1)), (490, (.bipush 21, 2)), (492, (.bipush 115, 2)), (494, (.iastore, 1)), (495, (.dup, 1)), (496, (.bipush 22, 2)), (498, (.bipush 32, 2)), (500, (.iastore, 1)), (501, (.dup, 1)), (502, (.bipush 23, 2)), (504, (.bipush 32, 2)), (506, (.iastore, 1)), (507, (.dup, 1)), (508, (.bipush 24, 2)), (510, (.bipush 104, 2)), (512, (.iastore, 1)), (513, (.dup, 1)), (514, (.bipush 25, 2)), (516, (.bipush 97, 2)), (518, (.iastore, 1)), (519, (.dup, 1)), (520, (.bipush 26, 2)), (522, (.bipush 114, 2)), (524, (.iastore, 1)), (525, (.dup, 1)), (526, (.bipush 27, 2)), (528, (.bipush 100, 2)), (530, (.iastore, 1)), (531, (.dup, 1)), (532, (.bipush 28, 2)), (534, (.bipush 32, 2)), (536, (.iastore, 1)), (537, (.dup, 1)), (538, (.bipush 29, 2)), (540, (.bipush 32, 2)), (542, (.iastore, 1)), (543, (.dup, 1)), (544, (.bipush 30, 2)), (546, (.bipush 32, 2))]
set_option maxRecDepth 100000 in
theorem dX5_init_8 : eX5_init_8.all (fun q => decide (decode cX5_init q.1 = .ok q.2)) = true := by decide +kernel
def eX5_init_9 : List (Nat × (Instr × Nat)) := [(548, (.iastore, 1)), (549, (.dup, 1)), (550, (.bipush 31, 2)), (552, (.bipush 32, 2)), (554, (.iastore, 1)), (555, (.dup, 1)), (556, (.bipush 32, 2)), (558, (.bipush 116, 2)), (560, (.iastore, 1)), (561, (.dup, 1)), (562, (.bipush 33, 2)), (564, (.bipush 104, 2)), (566, (.iastore, 1)), (567, (.dup, 1)), (568, (.bipush 34, 2)), (570, (.bipush 105, 2)), (572, (.iastore, 1)), (573, (.dup, 1)), (574, (.bipush 35, 2)), (576, (.bipush 110, 2)), (578, (.iastore, 1)), (579, (.dup, 1)), (580, (.bipush 36, 2)), (582, (.bipush 103, 2)), (584, (.iastore, 1)), (585, (.dup, 1)), (586, (.bipush 37, 2)), (588, (.bipush 115, 2)), (590, (.iastore, 1)), (591, (.dup, 1)), (592, (.bipush 38, 2)), (594, (.bipush 32, 2)), (596, (.iastore, 1)), (597, (.dup, 1)), (598, (.bipush 39, 2)), (600, (.bipush 32, 2)), (602, (.iastore, 1)), (603, (.dup, 1)), (604, (.bipush 40, 2)), (606, (.bipush 109, 2))]
set_option maxRecDepth 100000 in
theorem dX5_init_9 : eX5_init_9.all (fun q => decide (decode cX5_init q.1 = .ok q.2)) = true := by decide +kernel
def eX5_init_10 : List (Nat × (Instr × Nat)) := [(608, (.iastore, 1)), (609, (.dup, 1)), (610, (.bipush 41, 2)), (612, (.bipush 105, 2)), (614, (.iastore, 1)), (615, (.dup, 1)), (616, (.bipush 42, 2)), (618, (.bipush 110, 2)), (620, (.iastore, 1)), (621, (.dup, 1)), (622, (.bipush 43, 2)), (624, (.bipush 100, 2)), (626, (.iastore, 1)), (627, (.dup, 1)), (628, (.bipush 44, 2)), (630, (.bipush 32, 2)), (632, (.iastore, 1)), (633, (.dup, 1)), (634, (.bipush 45, 2)), (636, (.bipush 32, 2)), (638, (.iastore, 1)), (639, (.dup, 1)), (640, (.bipush 46, 2)), (642, (.bipush 32, 2)), (644, (.iastore, 1)), (645, (.dup, 1)), (646, (.bipush 47, 2)), (648, (.bipush 32, 2)), (650, (.iastore, 1)), (651, (.dup, 1)), (652, (.bipush 48, 2)), (654, (.bipush 108, 2)), (656, (.iastore, 1)), (657, (.dup, 1)), (658, (.bipush 49, 2)), (660, (.bipush 111, 2)), (662, (.iastore, 1)), (663, (.dup, 1)), (664, (.bipush 50, 2)), (666, (.bipush 115, 2))]
set_option maxRecDepth 100000 in
theorem dX5_init_10 : eX5_init_10.all (fun q => decide (decode cX5_init q.1 = .ok q.2)) = true := by decide +kernel
def eX5_init_11 : List (Nat × (Instr × Nat)) := [(668, (.iastore, 1)), (669, (.dup, 1)), (670, (.bipush 51, 2)), (672, (.bipush 116, 2)), (674, (.iastore, 1)), (675, (.dup, 1)), (676, (.bipush 52, 2)), (678, (.bipush 32, 2)), (680, (.iastore, 1)), (681, (.dup, 1)), (682, (.bipush 53, 2)), (684, (.bipush 32, 2)), (686, (.iastore, 1)), (687, (.dup, 1)), (688, (.bipush 54, 2)), (690, (.bipush 32, 2)), (692, (.iastore, 1)), (693, (.dup, 1)), (694, (.bipush 55, 2)), (696, (.bipush 32, 2)), (698, (.iastore, 1)), (699, (.dup, 1)), (700, (.bipush 56, 2)), (702, (.bipush 100, 2)), (704, (.iastore, 1)), (705, (.dup, 1)), (706, (.bipush 57, 2)), (708, (.bipush 97, 2)), (710, (.iastore, 1)), (711, (.dup, 1)), (712, (.bipush 58, 2)), (714, (.bipush 121, 2)), (716, (.iastore, 1)), (717, (.dup, 1)), (718, (.bipush 59, 2)), (720, (.bipush 32, 2)), (722, (.iastore, 1)), (723, (.dup, 1)), (724, (.bipush 60, 2)), (726, (.bipush 32, 2))]
set_option maxRecDepth 100000 in
theorem dX5_init_11 : eX5_init_11.all (fun q => decide (decode cX5_init q.1 = .ok q.2)) = true := by decide +kernel
def eX5_init_12 : List (Nat × (Instr × Nat)) := [(728, (.iastore, 1)), (729, (.dup, 1)), (730, (.bipush 61, 2)), (732, (.bipush 32, 2)), (734, (.iastore, 1)), (735, (.dup, 1)), (736, (.bipush 62, 2)), (738, (.bipush 32, 2)), (740, (.iastore, 1)), (741, (.dup, 1)), (742, (.bipush 63, 2)), (744, (.bipush 32, 2)), (746, (.iastore, 1)), (747, (.dup, 1)), (748, (.bipush 64, 2)), (750, (.bipush 109, 2)), (752, (.iastore, 1)), (753, (.dup, 1)), (754, (.bipush 65, 2)), (756, (.bipush 111, 2)), (758, (.iastore, 1)), (759, (.dup, 1)), (760, (.bipush 66, 2)), (762, (.bipush 114, 2)), (764, (.iastore, 1)), (765, (.dup, 1)), (766, (.bipush 67, 2)), (768, (.bipush 101, 2)), (770, (.iastore, 1)), (771, (.dup, 1)), (772, (.bipush 68, 2)), (774, (.bipush 32, 2)), (776, (.iastore, 1)), (777, (.dup, 1)), (778, (.bipush 69, 2)), (780, (.bipush 32, 2)), (782, (.iastore, 1)), (783, (.dup, 1)), (784, (.bipush 70, 2)), (786, (.bipush 32, 2))]
set_option maxRecDepth 100000 in
theorem dX5_init_12 : eX5_init_12.all (fun q => decide (decode cX5_init q.1 = .ok q.2)) = true := by decide +kernel
def eX5_init_13 : List (Nat × (Instr × Nat)) := [(788, (.iastore, 1)), (789, (.dup, 1)), (790, (.bipush 71, 2)), (792, (.bipush 32, 2)), (794, (.iastore, 1)), (795, (.dup, 1)), (796, (.bipush 72, 2)), (798, (.bipush 111, 2)), (800, (.iastore, 1)), (801, (.dup, 1)), (802, (.bipush 73, 2)), (804, (.bipush 114, 2)), (806, (.iastore, 1)), (807, (.dup, 1)), (808, (.bipush 74, 2)), (810, (.bipush 32, 2)), (812, (.iastore, 1)), (813, (.dup, 1)), (814, (.bipush 75, 2)), (816, (.bipush 32, 2)), (818, (.iastore, 1)), (819, (.dup, 1)), (820, (.bipush 76, 2)), (822, (.bipush 32, 2)), (824, (.iastore, 1)), (825, (.dup, 1)), (826, (.bipush 77, 2)), (828, (.bipush 32, 2)), (830, (.iastore, 1)), (831, (.dup, 1)), (832, (.bipush 78, 2)), (834, (.bipush 32, 2)), (836, (.iastore, 1)), (837, (.dup, 1)), (838, (.bipush 79, 2)), (840, (.bipush 32, 2)), (842, (.iastore, 1)), (843, (.dup, 1)), (844, (.bipush 80, 2)), (846, (.bipush 97, 2))]
set_option maxRecDepth 100000 in
theorem dX5_init_13 : eX5_init_13.all (fun q => decide (decode cX5_init q.1 = .ok q.2)) = true := by decide +kernel
def eX5_init_14 : List (Nat × (Instr × Nat)) := [(848, (.iastore, 1)), (849, (.dup, 1)), (850, (.bipush 81, 2)), (852, (.bipush 110, 2)), (854, (.iastore, 1)), (855, (.dup, 1)), (856, (.bipush 82, 2)), (858, (.bipush 100, 2)), (860, (.iastore, 1)), (861, (.dup, 1)), (862, (.bipush 83, 2)), (864, (.bipush 32, 2)), (866, (.iastore, 1)), (867, (.dup, 1)), (868, (.bipush 84, 2)), (870, (.bipush 32, 2)), (872, (.iastore, 1)), (873, (.dup, 1)), (874, (.bipush 85, 2)), (876, (.bipush 32, 2)), (878, (.iastore, 1)), (879, (.dup, 1)), (880, (.bipush 86, 2)), (882, (.bipush 32, 2)), (884, (.iastore, 1)), (885, (.dup, 1)), (886, (.bipush 87, 2)), (888, (.bipush 32, 2)), (890, (.iastore, 1)), (891, (.dup, 1)), (892, (.bipush 88, 2)), (894, (.bipush 110, 2)), (896, (.iastore, 1)), (897, (.dup, 1)), (898, (.bipush 89, 2)), (900, (.bipush 111, 2)), (902, (.iastore, 1)), (903, (.dup, 1)), (904, (.bipush 90, 2)), (906, (.bipush 116, 2))]
set_option maxRecDepth 100000 in
theorem dX5_init_14 : eX5_init_14.all (fun q => decide (decode cX5_init q.1 = .ok q.2)) = true := by decide +kernel
def eX5_init_15 : List (Nat × (Instr × Nat)) := [(908, (.iastore, 1)), (909, (.dup, 1)), (910, (.bipush 91, 2)), (912, (.bipush 32, 2)), (914, (.iastore, 1)), (915, (.dup, 1)), (916, (.bipush 92, 2)), (918, (.bipush 32, 2)), (920, (.iastore, 1)), (921, (.dup, 1)), (922, (.bipush 93, 2)), (924, (.bipush 32, 2)), (926, (.iastore, 1)), (927, (.dup, 1)), (928, (.bipush 94, 2)), (930, (.bipush 32, 2)), (932, (.iastore, 1)), (933, (.dup, 1)), (934, (.bipush 95, 2)), (936, (.bipush 32, 2)), (938, (.iastore, 1)), (939, (.putfield 49, 3)), (942, (.aload_n 0, 1)), (943, (.sipush 200, 3)), (946, (.newarray .int, 2)), (948, (.putfield 52, 3)), (951, (.aload_n 0, 1)), (952, (.sipush 200, 3)), (955, (.newarray .int, 2)), (957, (.putfield 55, 3)), (960, (.aload_n 0, 1)), (961, (.bipush 6, 2)), (963, (.newarray .int, 2)), (965, (.putfield 58, 3)), (968, (.aload_n 0, 1)), (969, (.bipush 44, 2)), (971, (.newarray .int, 2)), (973, (.putfield 61, 3)), (976, (.aload_n 0, 1)), (977, (.sipush 576, 3))]
set_option maxRecDepth 100000 in
theorem dX5_init_15 : eX5_init_15.all (fun q => decide (decode cX5_init q.1 = .ok q.2)) = true := by decide +kernel
def eX5_init_16 : List (Nat × (Instr × Nat)) := [(980, (.newarray .int, 2)), (982, (.putfield 64, 3)), (985, (.aload_n 0, 1)), (986, (.bipush 8, 2)), (988, (.newarray .int, 2)), (990, (.putfield 67, 3)), (993, (.iconst 0, 1)), (994, (.istore_n 1, 1)), (995, (.iload_n 1, 1)), (996, (.bipush 41, 2)), (998, (.if_icmp .ge 21, 3)), (1001, (.aload_n 0, 1)), (1002, (.getfield 22, 3)), (1005, (.iload_n 1, 1)), (1006, (.aload_n 0, 1)), (1007, (.getfield 46, 3)), (1010, (.iload_n 1, 1)), (1011, (.iaload, 1)), (1012, (.iastore, 1)), (1013, (.iinc 1 1, 3)), (1016, (.goto (-21), 3)), (1019, (.aload_n 0, 1)), (1020, (.bipush 41, 2)), (1022, (.putfield 70, 3)), (1025, (.aload_n 0, 1)), (1026, (.invokevirtual 74, 3)), (1029, (.pop, 1)), (1030, (.return_, 1))]
set_option maxRecDepth 100000 in
theorem dX5_init_16 : eX5_init_16.all (fun q => decide (decode cX5_init q.1 = .ok q.2)) = true := by decide +kernel
set_option maxRecDepth 100000 in
theorem dX5_init  : (tX5_init).all (fun q => decide (decode cX5_init q.1 = .ok q.2.1)) = true := by
  have h : (tX5_init).map (fun q => (q.1, q.2.1)) = eX5_init_0 ++ (eX5_init_1 ++ (eX5_init_2 ++ (eX5_init_3 ++ (eX5_init_4 ++ (eX5_init_5 ++ (eX5_init_6 ++ (eX5_init_7 ++ (eX5_init_8 ++ (eX5_init_9 ++ (eX5_init_10 ++ (eX5_init_11 ++ (eX5_init_12 ++ (eX5_init_13 ++ (eX5_init_14 ++ (eX5_init_15 ++ (eX5_init_16)))))))))))))))) := rfl
  have k : (eX5_init_0 ++ (eX5_init_1 ++ (eX5_init_2 ++ (eX5_init_3 ++ (eX5_init_4 ++ (eX5_init_5 ++ (eX5_init_6 ++ (eX5_init_7 ++ (eX5_init_8 ++ (eX5_init_9 ++ (eX5_init_10 ++ (eX5_init_11 ++ (eX5_init_12 ++ (eX5_init_13 ++ (eX5_init_14 ++ (eX5_init_15 ++ (eX5_init_16))))))))))))))))).all (fun q => decide (decode cX5_init q.1 = .ok q.2)) = true := by simp only [List.all_append, Bool.and_true, dX5_init_0, dX5_init_1, dX5_init_2, dX5_init_3, dX5_init_4, dX5_init_5, dX5_init_6, dX5_init_7, dX5_init_8, dX5_init_9, dX5_init_10, dX5_init_11, dX5_init_12, dX5_init_13, dX5_init_14, dX5_init_15, dX5_init_16]
  rw [← h, List.all_map] at k
  exact k
set_option maxRecDepth 100000 in
theorem kX5_init : bKl tX5_init := by
  unfold tX5_init
  refine bK_c (bl_L lin_al) ?_
  refine bK_c bl_obj ?_
  refine bK_c (bl_L lin_al) ?_
  refine bK_c (bl_L lin_ii) ?_
  refine bK_c bl_nwa ?_
  refine bK_c bl_pwR ?_
  refine bK_c (bl_L lin_al) ?_
  refine bK_c (bl_L lin_ii) ?_
  refine bK_c bl_nwa ?_
  refine bK_c bl_pwR ?_
  refine bK_c (bl_L lin_al) ?_
  refine bK_c (bl_L lin_ii) ?_
  refine bK_c bl_nwa ?_
  refine bK_c bl_pwR ?_
  refine bK_c (bl_L lin_al) ?_
  refine bK_c (bl_L lin_ii) ?_
  refine bK_c bl_nwa ?_
  refine bK_c bl_pwR ?_
  refine bK_c (bl_L lin_al) ?_
  refine bK_c (bl_L lin_ii) ?_
  refine bK_c bl_nwa ?_
  refine bK_c bl_pwR ?_
  refine bK_c (bl_L lin_al) ?_
  refine bK_c (bl_L lin_ii) ?_
  refine bK_c bl_nwa ?_
  refine bK_c bl_pwR ?_
  refine bK_c (bl_L lin_al) ?_
  refine bK_c (bl_L lin_ii) ?_
  refine bK_c bl_nwa ?_
  refine bK_c bl_pwR ?_
  refine bK_c (bl_L lin_al) ?_
  refine bK_c (bl_L lin_ii) ?_
  refine bK_c bl_nwa ?_
  refine bK_c bl_pwR ?_
  refine bK_c (bl_L lin_al) ?_
  refine bK_c (bl_L lin_ii) ?_
  refine bK_c bl_nwa ?_
  refine bK_c bl_pwR ?_
  refine bK_c (bl_L lin_al) ?_
  refine bK_c (bl_L lin_ii) ?_
  refine bK_c bl_nwa ?_
  refine bK_c (bl_L lin_dup) ?_
  refine bK_c (bl_L lin_ii) ?_
  refine bK_c (bl_L lin_ii) ?_
  refine bK_c (bl_L lin_iast) ?_
  refine bK_c (bl_L lin_dup) ?_
  refine bK_c (bl_L lin_ii) ?_
  refine bK_c (bl_L lin_ii) ?_
  refine bK_c (bl_L lin_iast) ?_
  refine bK_c (bl_L lin_dup) ?_
  refine bK_c (bl_L lin_ii) ?_
  refine bK_c (bl_L lin_ii) ?_
  refine bK_c (bl_L lin_iast) ?_
  refine bK_c (bl_L lin_dup) ?_
  refine bK_c (bl_L lin_ii) ?_
  refine bK_c (bl_L lin_ii) ?_
  refine bK_c (bl_L lin_iast) ?_
  refine bK_c bl_pwR ?_
  refine bK_c (bl_L lin_al) ?_
  refine bK_c (bl_L lin_ii) ?_
  refine bK_c bl_nwa ?_
  refine bK_c bl_pwR ?_
  refine bK_c (bl_L lin_al) ?_
  refine bK_c (bl_L lin_ii) ?_
  refine bK_c bl_nwa ?_
  refine bK_c bl_pwR ?_
  refine bK_c (bl_L lin_al) ?_
  refine bK_c (bl_L lin_ii) ?_
  refine bK_c bl_nwa ?_
  refine bK_c (bl_L lin_dup) ?_
  refine bK_c (bl_L lin_ii) ?_
  refine bK_c (bl_L lin_ii) ?_
  refine bK_c (bl_L lin_iast) ?_
  refine bK_c (bl_L lin_dup) ?_
  refine bK_c (bl_L lin_ii) ?_
  refine bK_c (bl_L lin_ii) ?_
  refine bK_c (bl_L lin_iast) ?_
  refine bK_c (bl_L lin_dup) ?_
  refine bK_c (bl_L lin_ii) ?_
  refine bK_c (bl_L lin_ii) ?_
  refine bK_c (bl_L lin_iast) ?_
  refine bK_c (bl_L lin_dup) ?_
  refine bK_c (bl_L lin_ii) ?_
  refine bK_c (bl_L lin_ii) ?_
  refine bK_c (bl_L lin_iast) ?_
  refine bK_c (bl_L lin_dup) ?_
  refine bK_c (bl_L lin_ii) ?_
  refine bK_c (bl_L lin_ii) ?_
  refine bK_c (bl_L lin_iast) ?_
  refine bK_c (bl_L lin_dup) ?_
  refine bK_c (bl_L lin_ii) ?_
  refine bK_c (bl_L lin_ii) ?_
  refine bK_c (bl_L lin_iast) ?_
  refine bK_c (bl_L lin_dup) ?_
  refine bK_c (bl_L lin_ii) ?_
  refine bK_c (bl_L lin_ii) ?_
  refine bK_c (bl_L lin_iast) ?_
  refine bK_c (bl_L lin_dup) ?_
  refine bK_c (bl_L lin_ii) ?_
  refine bK_c (bl_L lin_ii) ?_
  refine bK_c (bl_L lin_iast) ?_
  refine bK_c (bl_L lin_dup) ?_
  refine bK_c (bl_L lin_ii) ?_
  refine bK_c (bl_L lin_ii) ?_
  refine bK_c (bl_L lin_iast) ?_
  refine bK_c (bl_L lin_dup) ?_
  refine bK_c (bl_L lin_ii) ?_
  refine bK_c (bl_L lin_ii) ?_
  refine bK_c (bl_L lin_iast) ?_
  refine bK_c (bl_L lin_dup) ?_
  refine bK_c (bl_L lin_ii) ?_
  refine bK_c (bl_L lin_ii) ?_
  refine bK_c (bl_L lin_iast) ?_
  refine bK_c (bl_L lin_dup) ?_
  refine bK_c (bl_L lin_ii) ?_
  refine bK_c (bl_L lin_ii) ?_
  refine bK_c (bl_L lin_iast) ?_
  refine bK_c (bl_L lin_dup) ?_
  refine bK_c (bl_L lin_ii) ?_
  refine bK_c (bl_L lin_ii) ?_
  refine bK_c (bl_L lin_iast) ?_
  refine bK_c (bl_L lin_dup) ?_
  refine bK_c (bl_L lin_ii) ?_
  refine bK_c (bl_L lin_ii) ?_
  refine bK_c (bl_L lin_iast) ?_
  refine bK_c (bl_L lin_dup) ?_
  refine bK_c (bl_L lin_ii) ?_
  refine bK_c (bl_L lin_ii) ?_
  refine bK_c (bl_L lin_iast) ?_
  refine bK_c (bl_L lin_dup) ?_
  refine bK_c (bl_L lin_ii) ?_
  refine bK_c (bl_L lin_ii) ?_
  refine bK_c (bl_L lin_iast) ?_
  refine bK_c (bl_L lin_dup) ?_
  refine bK_c (bl_L lin_ii) ?_
  refine bK_c (bl_L lin_ii) ?_
  refine bK_c (bl_L lin_iast) ?_
  refine bK_c (bl_L lin_dup) ?_
  refine bK_c (bl_L lin_ii) ?_
  refine bK_c (bl_L lin_ii) ?_
  refine bK_c (bl_L lin_iast) ?_
  refine bK_c (bl_L lin_dup) ?_
  refine bK_c (bl_L lin_ii) ?_
  refine bK_c (bl_L lin_ii) ?_
  refine bK_c (bl_L lin_iast) ?_
  refine bK_c (bl_L lin_dup) ?_
  refine bK_c (bl_L lin_ii) ?_
  refine bK_c (bl_L lin_ii) ?_
  refine bK_c (bl_L lin_iast) ?_
  refine bK_c (bl_L lin_dup) ?_
  refine bK_c (bl_L lin_ii) ?_
  refine bK_c (bl_L lin_ii) ?_
  refine bK_c (bl_L lin_iast) ?_
  refine bK_c (bl_L lin_dup) ?_
  refine bK_c (bl_L lin_ii) ?_
  refine bK_c (bl_L lin_ii) ?_
  refine bK_c (bl_L lin_iast) ?_
  refine bK_c (bl_L lin_dup) ?_
  refine bK_c (bl_L lin_ii) ?_
  refine bK_c (bl_L lin_ii) ?_
  refine bK_c (bl_L lin_iast) ?_
  refine bK_c (bl_L lin_dup) ?_
  refine bK_c (bl_L lin_ii) ?_
  refine bK_c (bl_L lin_ii) ?_
  refine bK_c (bl_L lin_iast) ?_
  refine bK_c (bl_L lin_dup) ?_
  refine bK_c (bl_L lin_ii) ?_
  refine bK_c (bl_L lin_ii) ?_
  refine bK_c (bl_L lin_iast) ?_
  refine bK_c (bl_L lin_dup) ?_
  refine bK_c (bl_L lin_ii) ?_
  refine bK_c (bl_L lin_ii) ?_
  refine bK_c (bl_L lin_iast) ?_
  refine bK_c (bl_L lin_dup) ?_
  refine bK_c (bl_L lin_ii) ?_
  refine bK_c (bl_L lin_ii) ?_
  refine bK_c (bl_L lin_iast) ?_
  refine bK_c (bl_L lin_dup) ?_
  refine bK_c (bl_L lin_ii) ?_
  refine bK_c (bl_L lin_ii) ?_
  refine bK_c (bl_L lin_iast) ?_
  refine bK_c (bl_L lin_dup) ?_
  refine bK_c (bl_L lin_ii) ?_
  refine bK_c (bl_L lin_ii) ?_
  refine bK_c (bl_L lin_iast) ?_
  refine bK_c (bl_L lin_dup) ?_
  refine bK_c (bl_L lin_ii) ?_
  refine bK_c (bl_L lin_ii) ?_
  refine bK_c (bl_L lin_iast) ?_
  refine bK_c (bl_L lin_dup) ?_
  refine bK_c (bl_L lin_ii) ?_
  refine bK_c (bl_L lin_ii) ?_
  refine bK_c (bl_L lin_iast) ?_
  refine bK_c (bl_L lin_dup) ?_
  refine bK_c (bl_L lin_ii) ?_
  refine bK_c (bl_L lin_ii) ?_
  refine bK_c (bl_L lin_iast) ?_
  refine bK_c (bl_L lin_dup) ?_
  refine bK_c (bl_L lin_ii) ?_
  refine bK_c (bl_L lin_ii) ?_
  refine bK_c (bl_L lin_iast) ?_
  refine bK_c (bl_L lin_dup) ?_
  refine bK_c (bl_L lin_ii) ?_
  refine bK_c (bl_L lin_ii) ?_
  refine bK_c (bl_L lin_iast) ?_
  refine bK_c (bl_L lin_dup) ?_
  refine bK_c (bl_L lin_ii) ?_
  refine bK_c (bl_L lin_ii) ?_
  refine bK_c (bl_L lin_iast) ?_
  refine bK_c (bl_L lin_dup) ?_
  refine bK_c (bl_L lin_ii) ?_
  refine bK_c (bl_L lin_ii) ?_
  refine bK_c (bl_L lin_iast) ?_
  refine bK_c (bl_L lin_dup) ?_
  refine bK_c (bl_L lin_ii) ?_
  refine bK_c (bl_L lin_ii) ?_
  refine bK_c (bl_L lin_iast) ?_
  refine bK_c (bl_L lin_dup) ?_
  refine bK_c (bl_L lin_ii) ?_
  refine bK_c (bl_L lin_ii) ?_
  refine bK_c (bl_L lin_iast) ?_
  refine bK_c (bl_L lin_dup) ?_
  refine bK_c (bl_L lin_ii) ?_
  refine bK_c (bl_L lin_ii) ?_
  refine bK_c (bl_L lin_iast) ?_
  refine bK_c (bl_L lin_dup) ?_
  refine bK_c (bl_L lin_ii) ?_
  refine bK_c (bl_L lin_ii) ?_
  refine bK_c (bl_L lin_iast) ?_
  refine bK_c (bl_L lin_dup) ?_
  refine bK_c (bl_L lin_ii) ?_
  refine bK_c (bl_L lin_ii) ?_
  refine bK_c (bl_L lin_iast) ?_
  refine bK_c bl_pwR ?_
  refine bK_c (bl_L lin_al) ?_
  refine bK_c (bl_L lin_ii) ?_
  refine bK_c bl_nwa ?_
  refine bK_c (bl_L lin_dup) ?_
  refine bK_c (bl_L lin_ii) ?_
  refine bK_c (bl_L lin_ii) ?_
  refine bK_c (bl_L lin_iast) ?_
  refine bK_c (bl_L lin_dup) ?_
  refine bK_c (bl_L lin_ii) ?_
  refine bK_c (bl_L lin_ii) ?_
  refine bK_c (bl_L lin_iast) ?_
  refine bK_c (bl_L lin_dup) ?_
  refine bK_c (bl_L lin_ii) ?_
  refine bK_c (bl_L lin_ii) ?_
  refine bK_c (bl_L lin_iast) ?_
  refine bK_c (bl_L lin_dup) ?_
  refine bK_c (bl_L lin_ii) ?_
  refine bK_c (bl_L lin_ii) ?_
  refine bK_c (bl_L lin_iast) ?_
  refine bK_c (bl_L lin_dup) ?_
  refine bK_c (bl_L lin_ii) ?_
  refine bK_c (bl_L lin_ii) ?_
  refine bK_c (bl_L lin_iast) ?_
  refine bK_c (bl_L lin_dup) ?_
  refine bK_c (bl_L lin_ii) ?_
  refine bK_c (bl_L lin_ii) ?_
  refine bK_c (bl_L lin_iast) ?_
  refine bK_c (bl_L lin_dup) ?_
  refine bK_c (bl_L lin_ii) ?_
  refine bK_c (bl_L lin_ii) ?_
  refine bK_c (bl_L lin_iast) ?_
  refine bK_c (bl_L lin_dup) ?_
  refine bK_c (bl_L lin_ii) ?_
  refine bK_c (bl_L lin_ii) ?_
  refine bK_c (bl_L lin_iast) ?_
  refine bK_c (bl_L lin_dup) ?_
  refine bK_c (bl_L lin_ii) ?_
  refine bK_c (bl_L lin_ii) ?_
  refine bK_c (bl_L lin_iast) ?_
  refine bK_c (bl_L lin_dup) ?_
  refine bK_c (bl_L lin_ii) ?_
  refine bK_c (bl_L lin_ii) ?_
  refine bK_c (bl_L lin_iast) ?_
  refine bK_c (bl_L lin_dup) ?_
  refine bK_c (bl_L lin_ii) ?_
  refine bK_c (bl_L lin_ii) ?_
  refine bK_c (bl_L lin_iast) ?_
  refine bK_c (bl_L lin_dup) ?_
  refine bK_c (bl_L lin_ii) ?_
  refine bK_c (bl_L lin_ii) ?_
  refine bK_c (bl_L lin_iast) ?_
  refine bK_c (bl_L lin_dup) ?_
  refine bK_c (bl_L lin_ii) ?_
  refine bK_c (bl_L lin_ii) ?_
  refine bK_c (bl_L lin_iast) ?_
  refine bK_c (bl_L lin_dup) ?_
  refine bK_c (bl_L lin_ii) ?_
  refine bK_c (bl_L lin_ii) ?_
  refine bK_c (bl_L lin_iast) ?_
  refine bK_c (bl_L lin_dup) ?_
  refine bK_c (bl_L lin_ii) ?_
  refine bK_c (bl_L lin_ii) ?_
  refine bK_c (bl_L lin_iast) ?_
  refine bK_c (bl_L lin_dup) ?_
  refine bK_c (bl_L lin_ii) ?_
  refine bK_c (bl_L lin_ii) ?_
  refine bK_c (bl_L lin_iast) ?_
  refine bK_c (bl_L lin_dup) ?_
  refine bK_c (bl_L lin_ii) ?_
  refine bK_c (bl_L lin_ii) ?_
  refine bK_c (bl_L lin_iast) ?_
  refine bK_c (bl_L lin_dup) ?_
  refine bK_c (bl_L lin_ii) ?_
  refine bK_c (bl_L lin_ii) ?_
  refine bK_c (bl_L lin_iast) ?_
  refine bK_c (bl_L lin_dup) ?_
  refine bK_c (bl_L lin_ii) ?_
  refine bK_c (bl_L lin_ii) ?_
  refine bK_c (bl_L lin_iast) ?_
  refine bK_c (bl_L lin_dup) ?_
  refine bK_c (bl_L lin_ii) ?_
  refine bK_c (bl_L lin_ii) ?_
  refine bK_c (bl_L lin_iast) ?_
  refine bK_c (bl_L lin_dup) ?_
  refine bK_c (bl_L lin_ii) ?_
  refine bK_c (bl_L lin_ii) ?_
  refine bK_c (bl_L lin_iast) ?_
  refine bK_c (bl_L lin_dup) ?_
  refine bK_c (bl_L lin_ii) ?_
  refine bK_c (bl_L lin_ii) ?_
  refine bK_c (bl_L lin_iast) ?_
  refine bK_c (bl_L lin_dup) ?_
  refine bK_c (bl_L lin_ii) ?_
  refine bK_c (bl_L lin_ii) ?_
  refine bK_c (bl_L lin_iast) ?_
  refine bK_c (bl_L lin_dup) ?_
  refine bK_c (bl_L lin_ii) ?_
  refine bK_c (bl_L lin_ii) ?_
  refine bK_c (bl_L lin_iast) ?_
  refine bK_c (bl_L lin_dup) ?_
  refine bK_c (bl_L lin_ii) ?_
  refine bK_c (bl_L lin_ii) ?_
  refine bK_c (bl_L lin_iast) ?_
  refine bK_c (bl_L lin_dup) ?_
  refine bK_c (bl_L lin_ii) ?_
  refine bK_c (bl_L lin_ii) ?_
  refine bK_c (bl_L lin_iast) ?_
  refine bK_c (bl_L lin_dup) ?_
  refine bK_c (bl_L lin_ii) ?_
  refine bK_c (bl_L lin_ii) ?_
  refine bK_c (bl_L lin_iast) ?_
  refine bK_c (bl_L lin_dup) ?_
  refine bK_c (bl_L lin_ii) ?_
  refine bK_c (bl_L lin_ii) ?_
  refine bK_c (bl_L lin_iast) ?_
  refine bK_c (bl_L lin_dup) ?_
  refine bK_c (bl_L lin_ii) ?_
  refine bK_c (bl_L lin_ii) ?_
  refine bK_c (bl_L lin_iast) ?_
  refine bK_c (bl_L lin_dup) ?_
  refine bK_c (bl_L lin_ii) ?_
  refine bK_c (bl_L lin_ii) ?_
  refine bK_c (bl_L lin_iast) ?_
  refine bK_c (bl_L lin_dup) ?_
  refine bK_c (bl_L lin_ii) ?_
  refine bK_c (bl_L lin_ii) ?_
  refine bK_c (bl_L lin_iast) ?_
  refine bK_c (bl_L lin_dup) ?_
  refine bK_c (bl_L lin_ii) ?_
  refine bK_c (bl_L lin_ii) ?_
  refine bK_c (bl_L lin_iast) ?_
  refine bK_c (bl_L lin_dup) ?_
  refine bK_c (bl_L lin_ii) ?_
  refine bK_c (bl_L lin_ii) ?_
  refine bK_c (bl_L lin_iast) ?_
  refine bK_c (bl_L lin_dup) ?_
  refine bK_c (bl_L lin_ii) ?_
  refine bK_c (bl_L lin_ii) ?_
  refine bK_c (bl_L lin_iast) ?_
  refine bK_c (bl_L lin_dup) ?_
  refine bK_c (bl_L lin_ii) ?_
  refine bK_c (bl_L lin_ii) ?_
  refine bK_c (bl_L lin_iast) ?_
  refine bK_c (bl_L lin_dup) ?_
  refine bK_c (bl_L lin_ii) ?_
  refine bK_c (bl_L lin_ii) ?_
  refine bK_c (bl_L lin_iast) ?_
  refine bK_c (bl_L lin_dup) ?_
  refine bK_c (bl_L lin_ii) ?_
  refine bK_c (bl_L lin_ii) ?_
  refine bK_c (bl_L lin_iast) ?_
  refine bK_c (bl_L lin_dup) ?_
  refine bK_c (bl_L lin_ii) ?_
  refine bK_c (bl_L lin_ii) ?_
  refine bK_c (bl_L lin_iast) ?_
  refine bK_c (bl_L lin_dup) ?_
  refine bK_c (bl_L lin_ii) ?_
  refine bK_c (bl_L lin_ii) ?_
  refine bK_c (bl_L lin_iast) ?_
  refine bK_c (bl_L lin_dup) ?_
  refine bK_c (bl_L lin_ii) ?_
  refine bK_c (bl_L lin_ii) ?_
  refine bK_c (bl_L lin_iast) ?_
  refine bK_c (bl_L lin_dup) ?_
  refine bK_c (bl_L lin_ii) ?_
  refine bK_c (bl_L lin_ii) ?_
  refine bK_c (bl_L lin_iast) ?_
  refine bK_c (bl_L lin_dup) ?_
  refine bK_c (bl_L lin_ii) ?_
  refine bK_c (bl_L lin_ii) ?_
  refine bK_c (bl_L lin_iast) ?_
  refine bK_c (bl_L lin_dup) ?_
  refine bK_c (bl_L lin_ii) ?_
  refine bK_c (bl_L lin_ii) ?_
  refine bK_c (bl_L lin_iast) ?_
  refine bK_c (bl_L lin_dup) ?_
  refine bK_c (bl_L lin_ii) ?_
  refine bK_c (bl_L lin_ii) ?_
  refine bK_c (bl_L lin_iast) ?_
  refine bK_c (bl_L lin_dup) ?_
  refine bK_c (bl_L lin_ii) ?_
  refine bK_c (bl_L lin_ii) ?_
  refine bK_c (bl_L lin_iast) ?_
  refine bK_c (bl_L lin_dup) ?_
  refine bK_c (bl_L lin_ii) ?_
  refine bK_c (bl_L lin_ii) ?_
  refine bK_c (bl_L lin_iast) ?_
  refine bK_c (bl_L lin_dup) ?_
  refine bK_c (bl_L lin_ii) ?_
  refine bK_c (bl_L lin_ii) ?_
  refine bK_c (bl_L lin_iast) ?_
  refine bK_c (bl_L lin_dup) ?_
  refine bK_c (bl_L lin_ii) ?_
  refine bK_c (bl_L lin_ii) ?_
  refine bK_c (bl_L lin_iast) ?_
  refine bK_c (bl_L lin_dup) ?_
  refine bK_c (bl_L lin_ii) ?_
  refine bK_c (bl_L lin_ii) ?_
  refine bK_c (bl_L lin_iast) ?_
  refine bK_c (bl_L lin_dup) ?_
  refine bK_c (bl_L lin_ii) ?_
  refine bK_c (bl_L lin_ii) ?_
  refine bK_c (bl_L lin_iast) ?_
  refine bK_c (bl_L lin_dup) ?_
  refine bK_c (bl_L lin_ii) ?_
  refine bK_c (bl_L lin_ii) ?_
  refine bK_c (bl_L lin_iast) ?_
  refine bK_c (bl_L lin_dup) ?_
  refine bK_c (bl_L lin_ii) ?_
  refine bK_c (bl_L lin_ii) ?_
  refine bK_c (bl_L lin_iast) ?_
  refine bK_c (bl_L lin_dup) ?_
  refine bK_c (bl_L lin_ii) ?_
  refine bK_c (bl_L lin_ii) ?_
  refine bK_c (bl_L lin_iast) ?_
  refine bK_c (bl_L lin_dup) ?_
  refine bK_c (bl_L lin_ii) ?_
  refine bK_c (bl_L lin_ii) ?_
  refine bK_c (bl_L lin_iast) ?_
  refine bK_c (bl_L lin_dup) ?_
  refine bK_c (bl_L lin_ii) ?_
  refine bK_c (bl_L lin_ii) ?_
  refine bK_c (bl_L lin_iast) ?_
  refine bK_c (bl_L lin_dup) ?_
  refine bK_c (bl_L lin_ii) ?_
  refine bK_c (bl_L lin_ii) ?_
  refine bK_c (bl_L lin_iast) ?_
  refine bK_c (bl_L lin_dup) ?_
  refine bK_c (bl_L lin_ii) ?_
  refine bK_c (bl_L lin_ii) ?_
  refine bK_c (bl_L lin_iast) ?_
  refine bK_c (bl_L lin_dup) ?_
  refine bK_c (bl_L lin_ii) ?_
  refine bK_c (bl_L lin_ii) ?_
  refine bK_c (bl_L lin_iast) ?_
  refine bK_c (bl_L lin_dup) ?_
  refine bK_c (bl_L lin_ii) ?_
  refine bK_c (bl_L lin_ii) ?_
  refine bK_c (bl_L lin_iast) ?_
  refine bK_c (bl_L lin_dup) ?_
  refine bK_c (bl_L lin_ii) ?_
  refine bK_c (bl_L lin_ii) ?_
  refine bK_c (bl_L lin_iast) ?_
  refine bK_c (bl_L lin_dup) ?_
  refine bK_c (bl_L lin_ii) ?_
  refine bK_c (bl_L lin_ii) ?_
  refine bK_c (bl_L lin_iast) ?_
  refine bK_c (bl_L lin_dup) ?_
  refine bK_c (bl_L lin_ii) ?_
  refine bK_c (bl_L lin_ii) ?_
  refine bK_c (bl_L lin_iast) ?_
  refine bK_c (bl_L lin_dup) ?_
  refine bK_c (bl_L lin_ii) ?_
  refine bK_c (bl_L lin_ii) ?_
  refine bK_c (bl_L lin_iast) ?_
  refine bK_c (bl_L lin_dup) ?_
  refine bK_c (bl_L lin_ii) ?_
  refine bK_c (bl_L lin_ii) ?_
  refine bK_c (bl_L lin_iast) ?_
  refine bK_c (bl_L lin_dup) ?_
  refine bK_c (bl_L lin_ii) ?_
  refine bK_c (bl_L lin_ii) ?_
  refine bK_c (bl_L lin_iast) ?_
  refine bK_c (bl_L lin_dup) ?_
  refine bK_c (bl_L lin_ii) ?_
  refine bK_c (bl_L lin_ii) ?_
  refine bK_c (bl_L lin_iast) ?_
  refine bK_c (bl_L lin_dup) ?_
  refine bK_c (bl_L lin_ii) ?_
  refine bK_c (bl_L lin_ii) ?_
  refine bK_c (bl_L lin_iast) ?_
  refine bK_c (bl_L lin_dup) ?_
  refine bK_c (bl_L lin_ii) ?_
  refine bK_c (bl_L lin_ii) ?_
  refine bK_c (bl_L lin_iast) ?_
  refine bK_c (bl_L lin_dup) ?_
  refine bK_c (bl_L lin_ii) ?_
  refine bK_c (bl_L lin_ii) ?_
  refine bK_c (bl_L lin_iast) ?_
  refine bK_c (bl_L lin_dup) ?_
  refine bK_c (bl_L lin_ii) ?_
  refine bK_c (bl_L lin_ii) ?_
  refine bK_c (bl_L lin_iast) ?_
  refine bK_c (bl_L lin_dup) ?_
  refine bK_c (bl_L lin_ii) ?_
  refine bK_c (bl_L lin_ii) ?_
  refine bK_c (bl_L lin_iast) ?_
  refine bK_c (bl_L lin_dup) ?_
  refine bK_c (bl_L lin_ii) ?_
  refine bK_c (bl_L lin_ii) ?_
  refine bK_c (bl_L lin_iast) ?_
  refine bK_c (bl_L lin_dup) ?_
  refine bK_c (bl_L lin_ii) ?_
  refine bK_c (bl_L lin_ii) ?_
  refine bK_c (bl_L lin_iast) ?_
  refine bK_c (bl_L lin_dup) ?_
  refine bK_c (bl_L lin_ii) ?_
  refine bK_c (bl_L lin_ii) ?_
  refine bK_c (bl_L lin_iast) ?_
  refine bK_c (bl_L lin_dup) ?_
  refine bK_c (bl_L lin_ii) ?_
  refine bK_c (bl_L lin_ii) ?_
  refine bK_c (bl_L lin_iast) ?_
  refine bK_c (bl_L lin_dup) ?_
  refine bK_c (bl_L lin_ii) ?_
  refine bK_c (bl_L lin_ii) ?_
  refine bK_c (bl_L lin_iast) ?_
  refine bK_c (bl_L lin_dup) ?_
  refine bK_c (bl_L lin_ii) ?_
  refine bK_c (bl_L lin_ii) ?_
  refine bK_c (bl_L lin_iast) ?_
  refine bK_c (bl_L lin_dup) ?_
  refine bK_c (bl_L lin_ii) ?_
  refine bK_c (bl_L lin_ii) ?_
  refine bK_c (bl_L lin_iast) ?_
  refine bK_c (bl_L lin_dup) ?_
  refine bK_c (bl_L lin_ii) ?_
  refine bK_c (bl_L lin_ii) ?_
  refine bK_c (bl_L lin_iast) ?_
  refine bK_c (bl_L lin_dup) ?_
  refine bK_c (bl_L lin_ii) ?_
  refine bK_c (bl_L lin_ii) ?_
  refine bK_c (bl_L lin_iast) ?_
  refine bK_c (bl_L lin_dup) ?_
  refine bK_c (bl_L lin_ii) ?_
  refine bK_c (bl_L lin_ii) ?_
  refine bK_c (bl_L lin_iast) ?_
  refine bK_c (bl_L lin_dup) ?_
  refine bK_c (bl_L lin_ii) ?_
  refine bK_c (bl_L lin_ii) ?_
  refine bK_c (bl_L lin_iast) ?_
  refine bK_c (bl_L lin_dup) ?_
  refine bK_c (bl_L lin_ii) ?_
  refine bK_c (bl_L lin_ii) ?_
  refine bK_c (bl_L lin_iast) ?_
  refine bK_c (bl_L lin_dup) ?_
  refine bK_c (bl_L lin_ii) ?_
  refine bK_c (bl_L lin_ii) ?_
  refine bK_c (bl_L lin_iast) ?_
  refine bK_c (bl_L lin_dup) ?_
  refine bK_c (bl_L lin_ii) ?_
  refine bK_c (bl_L lin_ii) ?_
  refine bK_c (bl_L lin_iast) ?_
  refine bK_c (bl_L lin_dup) ?_
  refine bK_c (bl_L lin_ii) ?_
  refine bK_c (bl_L lin_ii) ?_
  refine bK_c (bl_L lin_iast) ?_
  refine bK_c (bl_L lin_dup) ?_
  refine bK_c (bl_L lin_ii) ?_
  refine bK_c (bl_L lin_ii) ?_
  refine bK_c (bl_L lin_iast) ?_
  refine bK_c (bl_L lin_dup) ?_
  refine bK_c (bl_L lin_ii) ?_
  refine bK_c (bl_L lin_ii) ?_
  refine bK_c (bl_L lin_iast) ?_
  refine bK_c (bl_L lin_dup) ?_
  refine bK_c (bl_L lin_ii) ?_
  refine bK_c (bl_L lin_ii) ?_
  refine bK_c (bl_L lin_iast) ?_
  refine bK_c (bl_L lin_dup) ?_
  refine bK_c (bl_L lin_ii) ?_
  refine bK_c (bl_L lin_ii) ?_
  refine bK_c (bl_L lin_iast) ?_
  refine bK_c (bl_L lin_dup) ?_
  refine bK_c (bl_L lin_ii) ?_
  refine bK_c (bl_L lin_ii) ?_
  refine bK_c (bl_L lin_iast) ?_
  refine bK_c (bl_L lin_dup) ?_
  refine bK_c (bl_L lin_ii) ?_
  refine bK_c (bl_L lin_ii) ?_
  refine bK_c (bl_L lin_iast) ?_
  refine bK_c (bl_L lin_dup) ?_
  refine bK_c (bl_L lin_ii) ?_
  refine bK_c (bl_L lin_ii) ?_
  refine bK_c (bl_L lin_iast) ?_
  refine bK_c (bl_L lin_dup) ?_
  refine bK_c (bl_L lin_ii) ?_
  refine bK_c (bl_L lin_ii) ?_
  refine bK_c (bl_L lin_iast) ?_
  refine bK_c (bl_L lin_dup) ?_
  refine bK_c (bl_L lin_ii) ?_
  refine bK_c (bl_L lin_ii) ?_
  refine bK_c (bl_L lin_iast) ?_
  refine bK_c (bl_L lin_dup) ?_
  refine bK_c (bl_L lin_ii) ?_
  refine bK_c (bl_L lin_ii) ?_
  refine bK_c (bl_L lin_iast) ?_
  refine bK_c bl_pwR ?_
  refine bK_c (bl_L lin_al) ?_
  refine bK_c (bl_L lin_ii) ?_
  refine bK_c bl_nwa ?_
  refine bK_c bl_pwR ?_
  refine bK_c (bl_L lin_al) ?_
  refine bK_c (bl_L lin_ii) ?_
  refine bK_c bl_nwa ?_
  refine bK_c bl_pwR ?_
  refine bK_c (bl_L lin_al) ?_
  refine bK_c (bl_L lin_ii) ?_
  refine bK_c bl_nwa ?_
  refine bK_c bl_pwR ?_
  refine bK_c (bl_L lin_al) ?_
  refine bK_c (bl_L lin_ii) ?_
  refine bK_c bl_nwa ?_
  refine bK_c bl_pwR ?_
  refine bK_c (bl_L lin_al) ?_
  refine bK_c (bl_L lin_ii) ?_
  refine bK_c bl_nwa ?_
  refine bK_c bl_pwR ?_
  refine bK_c (bl_L lin_al) ?_
  refine bK_c (bl_L lin_ii) ?_
  refine bK_c bl_nwa ?_
  refine bK_c bl_pwR ?_
  refine bK_c (bl_mk (bl_L lin_ii)) ?_
  refine bK_c (bl_L lin_is) ?_
  refine bK_c (bl_L lin_il) ?_
  refine bK_c (bl_L lin_ii) ?_
  refine bK_c (bl_L lin_ic) ?_
  refine bK_c (bl_L lin_al) ?_
  refine bK_c (bl_L lin_gF) ?_
  refine bK_c (bl_L lin_il) ?_
  refine bK_c (bl_L lin_al) ?_
  refine bK_c (bl_L lin_gF) ?_
  refine bK_c (bl_L lin_il) ?_
  refine bK_c (bl_L lin_iald) ?_
  refine bK_c (bl_L lin_iast) ?_
  refine bK_c (bl_L lin_inc) ?_
  refine bK_c (bl_L lin_go) ?_
  refine bK_c (bl_L lin_al) ?_
  refine bK_c (bl_L lin_ii) ?_
  refine bK_c (bl_L lin_pI) ?_
  refine bK_c (bl_L lin_al) ?_
  refine bK_c (bl_L lin_cV) ?_
  refine bK_c (bl_L lin_pop) ?_
  refine bK_c bl_rv ?_
  exact bK_n
set_option maxRecDepth 100000 in
set_option maxHeartbeats 4000000 in
theorem nX5_init (l : Launch) : bMt l yX5_init (Cond.code yX5_init cX5_init 2 none :: wsL_law) rmX5_init 20 2823 CX5_init := by
  refine bMt.of (own := RX5) (cc := cX5_init) (maxL := 2) (ret := none) (by decide +kernel) rfl rfl ?_
  intro p e s m args below meth c Qc D Z ad0 G0 A E hX hnm hr hlk hE
  have up : ∀ w ∈ wsL_law, w ∈ (Cond.code yX5_init cX5_init 2 none :: wsL_law) := fun w h => List.mem_cons_of_mem _ h
  refine bImp_all _ dX5_init ?_
  unfold tX5_init
  refine bI_c (fun hd => t_L hX cls_al (fun ad P G cells slots F hX h => s_al_n hX hd rfl rfl)) ?_
  refine bI_c (fun hd => t_obj hX (up _ mw41) (up _ mw1) (up _ mw2) ⟨by decide, by decide⟩ hd rfl) ?_
  refine bI_c (fun hd => t_L hX cls_al (fun ad P G cells slots F hX h => s_al_n hX hd rfl rfl)) ?_
  refine bI_c (fun hd => t_L hX cls_ii (fun ad P G cells slots F hX h => s_bp hX hd (by decide) rfl)) ?_
  refine bI_c (fun hd => t_nwa hX rfl (up _ mw3) hd rfl) ?_
  refine bI_c (fun hd => t_pwR hX (C := RX5) (T := TX5) (N := 35) (k := 1) rfl rfl (fun w h => up w (inlX5 w h)) (by decide) (by decide) tyX5 tyX5_ok nmX5 (Or.inr ⟨rfl, hnm, rfl⟩) (fun a => ⟨rfl, rfl⟩) rfl (up _ lkX5_7) hd rfl) ?_
  refine bI_c (fun hd => t_L hX cls_al (fun ad P G cells slots F hX h => s_al_n hX hd rfl rfl)) ?_
  refine bI_c (fun hd => t_L hX cls_ii (fun ad P G cells slots F hX h => s_bp hX hd (by decide) rfl)) ?_
  refine bI_c (fun hd => t_nwa hX rfl (up _ mw3) hd rfl) ?_
  refine bI_c (fun hd => t_pwR hX (C := RX5) (T := TX5) (N := 35) (k := 2) rfl rfl (fun w h => up w (inlX5 w h)) (by decide) (by decide) tyX5 tyX5_ok nmX5 (Or.inr ⟨rfl, hnm, rfl⟩) (fun a => ⟨rfl, rfl⟩) rfl (up _ lkX5_13) hd rfl) ?_
  refine bI_c (fun hd => t_L hX cls_al (fun ad P G cells slots F hX h => s_al_n hX hd rfl rfl)) ?_
  refine bI_c (fun hd => t_L hX cls_ii (fun ad P G cells slots F hX h => s_bp hX hd (by decide) rfl)) ?_
  refine bI_c (fun hd => t_nwa hX rfl (up _ mw3) hd rfl) ?_
  refine bI_c (fun hd => t_pwR hX (C := RX5) (T := TX5) (N := 35) (k := 3) rfl rfl (fun w h => up w (inlX5 w h)) (by decide) (by decide) tyX5 tyX5_ok nmX5 (Or.inr ⟨rfl, hnm, rfl⟩) (fun a => ⟨rfl, rfl⟩) rfl (up _ lkX5_16) hd rfl) ?_
  refine bI_c (fun hd => t_L hX cls_al (fun ad P G cells slots F hX h => s_al_n hX hd rfl rfl)) ?_
  refine bI_c (fun hd => t_L hX cls_ii (fun ad P G cells slots F hX h => s_bp hX hd (by decide) rfl)) ?_
  refine bI_c (fun hd => t_nwa hX rfl (up _ mw3) hd rfl) ?_
  refine bI_c (fun hd => t_pwR hX (C := RX5) (T := TX5) (N := 35) (k := 4) rfl rfl (fun w h => up w (inlX5 w h)) (by decide) (by decide) tyX5 tyX5_ok nmX5 (Or.inr ⟨rfl, hnm, rfl⟩) (fun a => ⟨rfl, rfl⟩) rfl (up _ lkX5_19) hd rfl) ?_
  refine bI_c (fun hd => t_L hX cls_al (fun ad P G cells slots F hX h => s_al_n hX hd rfl rfl)) ?_
  refine bI_c (fun hd => t_L hX cls_ii (fun ad P G cells slots F hX h => s_sp hX hd (by decide) rfl)) ?_
  refine bI_c (fun hd => t_nwa hX rfl (up _ mw3) hd rfl) ?_
  refine bI_c (fun hd => t_pwR hX (C := RX5) (T := TX5) (N := 35) (k := 7) rfl rfl (fun w h => up w (inlX5 w h)) (by decide) (by decide) tyX5 tyX5_ok nmX5 (Or.inr ⟨rfl, hnm, rfl⟩) (fun a => ⟨rfl, rfl⟩) rfl (up _ lkX5_22) hd rfl) ?_
  refine bI_c (fun hd => t_L hX cls_al (fun ad P G cells slots F hX h => s_al_n hX hd rfl rfl)) ?_
  refine bI_c (fun hd => t_L hX cls_ii (fun ad P G cells slots F hX h => s_sp hX hd (by decide) rfl)) ?_
  refine bI_c (fun hd => t_nwa hX rfl (up _ mw3) hd rfl) ?_
  refine bI_c (fun hd => t_pwR hX (C := RX5) (T := TX5) (N := 35) (k := 9) rfl rfl (fun w h => up w (inlX5 w h)) (by decide) (by decide) tyX5 tyX5_ok nmX5 (Or.inr ⟨rfl, hnm, rfl⟩) (fun a => ⟨rfl, rfl⟩) rfl (up _ lkX5_25) hd rfl) ?_
  refine bI_c (fun hd => t_L hX cls_al (fun ad P G cells slots F hX h => s_al_n hX hd rfl rfl)) ?_
  refine bI_c (fun hd => t_L hX cls_ii (fun ad P G cells slots F hX h => s_bp hX hd (by decide) rfl)) ?_
  refine bI_c (fun hd => t_nwa hX rfl (up _ mw3) hd rfl) ?_
  refine bI_c (fun hd => t_pwR hX (C := RX5) (T := TX5) (N := 35) (k := 10) rfl rfl (fun w h => up w (inlX5 w h)) (by decide) (by decide) tyX5 tyX5_ok nmX5 (Or.inr ⟨rfl, hnm, rfl⟩) (fun a => ⟨rfl, rfl⟩) rfl (up _ lkX5_28) hd rfl) ?_
  refine bI_c (fun hd => t_L hX cls_al (fun ad P G cells slots F hX h => s_al_n hX hd rfl rfl)) ?_
  refine bI_c (fun hd => t_L hX cls_ii (fun ad P G cells slots F hX h => s_bp hX hd (by decide) rfl)) ?_
  refine bI_c (fun hd => t_nwa hX rfl (up _ mw3) hd rfl) ?_
  refine bI_c (fun hd => t_pwR hX (C := RX5) (T := TX5) (N := 35) (k := 14) rfl rfl (fun w h => up w (inlX5 w h)) (by decide) (by decide) tyX5 tyX5_ok nmX5 (Or.inr ⟨rfl, hnm, rfl⟩) (fun a => ⟨rfl, rfl⟩) rfl (up _ lkX5_31) hd rfl) ?_
  refine bI_c (fun hd => t_L hX cls_al (fun ad P G cells slots F hX h => s_al_n hX hd rfl rfl)) ?_
  refine bI_c (fun hd => t_L hX cls_ii (fun ad P G cells slots F hX h => s_ii hX hd (by decide) rfl)) ?_
  refine bI_c (fun hd => t_nwa hX rfl (up _ mw3) hd rfl) ?_
  refine bI_c (fun hd => t_pwR hX (C := RX5) (T := TX5) (N := 35) (k := 15) rfl rfl (fun w h => up w (inlX5 w h)) (by decide) (by decide) tyX5 tyX5_ok nmX5 (Or.inr ⟨rfl, hnm, rfl⟩) (fun a => ⟨rfl, rfl⟩) rfl (up _ lkX5_34) hd rfl) ?_
  refine bI_c (fun hd => t_L hX cls_al (fun ad P G cells slots F hX h => s_al_n hX hd rfl rfl)) ?_
  refine bI_c (fun hd => t_L hX cls_ii (fun ad P G cells slots F hX h => s_ii hX hd (by decide) rfl)) ?_
  refine bI_c (fun hd => t_nwa hX rfl (up _ mw3) hd rfl) ?_
  refine bI_c (fun hd => t_L hX cls_dup (fun ad P G cells slots F hX h => s_dup hX hd rfl)) ?_
  refine bI_c (fun hd => t_L hX cls_ii (fun ad P G cells slots F hX h => s_ii hX hd (by decide) rfl)) ?_
  refine bI_c (fun hd => t_L hX cls_ii (fun ad P G cells slots F hX h => s_ii hX hd (by decide) rfl)) ?_
  refine bI_c (fun hd => t_L hX cls_iast (fun ad P G cells slots F hX h => s_iast hX hd rfl)) ?_
  refine bI_c (fun hd => t_L hX cls_dup (fun ad P G cells slots F hX h => s_dup hX hd rfl)) ?_
  refine bI_c (fun hd => t_L hX cls_ii (fun ad P G cells slots F hX h => s_ii hX hd (by decide) rfl)) ?_
  refine bI_c (fun hd => t_L hX cls_ii (fun ad P G cells slots F hX h => s_ii hX hd (by decide) rfl)) ?_
  refine bI_c (fun hd => t_L hX cls_iast (fun ad P G cells slots F hX h => s_iast hX hd rfl)) ?_
  refine bI_c (fun hd => t_L hX cls_dup (fun ad P G cells slots F hX h => s_dup hX hd rfl)) ?_
  refine bI_c (fun hd => t_L hX cls_ii (fun ad P G cells slots F hX h => s_ii hX hd (by decide) rfl)) ?_
  refine bI_c (fun hd => t_L hX cls_ii (fun ad P G cells slots F hX h => s_ii hX hd (by decide) rfl)) ?_
  refine bI_c (fun hd => t_L hX cls_iast (fun ad P G cells slots F hX h => s_iast hX hd rfl)) ?_
  refine bI_c (fun hd => t_L hX cls_dup (fun ad P G cells slots F hX h => s_dup hX hd rfl)) ?_
  refine bI_c (fun hd => t_L hX cls_ii (fun ad P G cells slots F hX h => s_ii hX hd (by decide) rfl)) ?_
  refine bI_c (fun hd => t_L hX cls_ii (fun ad P G cells slots F hX h => s_ii hX hd (by decide) rfl)) ?_
  refine bI_c (fun hd => t_L hX cls_iast (fun ad P G cells slots F hX h => s_iast hX hd rfl)) ?_
  refine bI_c (fun hd => t_pwR hX (C := RX5) (T := TX5) (N := 35) (k := 16) rfl rfl (fun w h => up w (inlX5 w h)) (by decide) (by decide) tyX5 tyX5_ok nmX5 (Or.inr ⟨rfl, hnm, rfl⟩) (fun a => ⟨rfl, rfl⟩) rfl (up _ lkX5_37) hd rfl) ?_
  refine bI_c (fun hd => t_L hX cls_al (fun ad P G cells slots F hX h => s_al_n hX hd rfl rfl)) ?_
  refine bI_c (fun hd => t_L hX cls_ii (fun ad P G cells slots F hX h => s_ii hX hd (by decide) rfl)) ?_
  refine bI_c (fun hd => t_nwa hX rfl (up _ mw3) hd rfl) ?_
  refine bI_c (fun hd => t_pwR hX (C := RX5) (T := TX5) (N := 35) (k := 17) rfl rfl (fun w h => up w (inlX5 w h)) (by decide) (by decide) tyX5 tyX5_ok nmX5 (Or.inr ⟨rfl, hnm, rfl⟩) (fun a => ⟨rfl, rfl⟩) rfl (up _ lkX5_40) hd rfl) ?_
  refine bI_c (fun hd => t_L hX cls_al (fun ad P G cells slots F hX h => s_al_n hX hd rfl rfl)) ?_
  refine bI_c (fun hd => t_L hX cls_ii (fun ad P G cells slots F hX h => s_sp hX hd (by decide) rfl)) ?_
  refine bI_c (fun hd => t_nwa hX rfl (up _ mw3) hd rfl) ?_
  refine bI_c (fun hd => t_pwR hX (C := RX5) (T := TX5) (N := 35) (k := 18) rfl rfl (fun w h => up w (inlX5 w h)) (by decide) (by decide) tyX5 tyX5_ok nmX5 (Or.inr ⟨rfl, hnm, rfl⟩) (fun a => ⟨rfl, rfl⟩) rfl (up _ lkX5_43) hd rfl) ?_
  refine bI_c (fun hd => t_L hX cls_al (fun ad P G cells slots F hX h => s_al_n hX hd rfl rfl)) ?_
  refine bI_c (fun hd => t_L hX cls_ii (fun ad P G cells slots F hX h => s_bp hX hd (by decide) rfl)) ?_
  refine bI_c (fun hd => t_nwa hX rfl (up _ mw3) hd rfl) ?_
  refine bI_c (fun hd => t_L hX cls_dup (fun ad P G cells slots F hX h => s_dup hX hd rfl)) ?_
  refine bI_c (fun hd => t_L hX cls_ii (fun ad P G cells slots F hX h => s_ii hX hd (by decide) rfl)) ?_
  refine bI_c (fun hd => t_L hX cls_ii (fun ad P G cells slots F hX h => s_bp hX hd (by decide) rfl)) ?_
  refine bI_c (fun hd => t_L hX cls_iast (fun ad P G cells slots F hX h => s_iast hX hd rfl)) ?_
  refine bI_c (fun hd => t_L hX cls_dup (fun ad P G cells slots F hX h => s_dup hX hd rfl)) ?_
  refine bI_c (fun hd => t_L hX cls_ii (fun ad P G cells slots F hX h => s_ii hX hd (by decide) rfl)) ?_
  refine bI_c (fun hd => t_L hX cls_ii (fun ad P G cells slots F hX h => s_bp hX hd (by decide) rfl)) ?_
  refine bI_c (fun hd => t_L hX cls_iast (fun ad P G cells slots F hX h => s_iast hX hd rfl)) ?_
  refine bI_c (fun hd => t_L hX cls_dup (fun ad P G cells slots F hX h => s_dup hX hd rfl)) ?_
  refine bI_c (fun hd => t_L hX cls_ii (fun ad P G cells slots F hX h => s_ii hX hd (by decide) rfl)) ?_
  refine bI_c (fun hd => t_L hX cls_ii (fun ad P G cells slots F hX h => s_bp hX hd (by decide) rfl)) ?_
  refine bI_c (fun hd => t_L hX cls_iast (fun ad P G cells slots F hX h => s_iast hX hd rfl)) ?_
  refine bI_c (fun hd => t_L hX cls_dup (fun ad P G cells slots F hX h => s_dup hX hd rfl)) ?_
  refine bI_c (fun hd => t_L hX cls_ii (fun ad P G cells slots F hX h => s_ii hX hd (by decide) rfl)) ?_
  refine bI_c (fun hd => t_L hX cls_ii (fun ad P G cells slots F hX h => s_bp hX hd (by decide) rfl)) ?_
  refine bI_c (fun hd => t_L hX cls_iast (fun ad P G cells slots F hX h => s_iast hX hd rfl)) ?_
  refine bI_c (fun hd => t_L hX cls_dup (fun ad P G cells slots F hX h => s_dup hX hd rfl)) ?_
  refine bI_c (fun hd => t_L hX cls_ii (fun ad P G cells slots F hX h => s_ii hX hd (by decide) rfl)) ?_
  refine bI_c (fun hd => t_L hX cls_ii (fun ad P G cells slots F hX h => s_bp hX hd (by decide) rfl)) ?_
  refine bI_c (fun hd => t_L hX cls_iast (fun ad P G cells slots F hX h => s_iast hX hd rfl)) ?_
  refine bI_c (fun hd => t_L hX cls_dup (fun ad P G cells slots F hX h => s_dup hX hd rfl)) ?_
  refine bI_c (fun hd => t_L hX cls_ii (fun ad P G cells slots F hX h => s_ii hX hd (by decide) rfl)) ?_
  refine bI_c (fun hd => t_L hX cls_ii (fun ad P G cells slots F hX h => s_bp hX hd (by decide) rfl)) ?_
  refine bI_c (fun hd => t_L hX cls_iast (fun ad P G cells slots F hX h => s_iast hX hd rfl)) ?_
  refine bI_c (fun hd => t_L hX cls_dup (fun ad P G cells slots F hX h => s_dup hX hd rfl)) ?_
  refine bI_c (fun hd => t_L hX cls_ii (fun ad P G cells slots F hX h => s_bp hX hd (by decide) rfl)) ?_
  refine bI_c (fun hd => t_L hX cls_ii (fun ad P G cells slots F hX h => s_bp hX hd (by decide) rfl)) ?_
  refine bI_c (fun hd => t_L hX cls_iast (fun ad P G cells slots F hX h => s_iast hX hd rfl)) ?_
  refine bI_c (fun hd => t_L hX cls_dup (fun ad P G cells slots F hX h => s_dup hX hd rfl)) ?_
  refine bI_c (fun hd => t_L hX cls_ii (fun ad P G cells slots F hX h => s_bp hX hd (by decide) rfl)) ?_
  refine bI_c (fun hd => t_L hX cls_ii (fun ad P G cells slots F hX h => s_bp hX hd (by decide) rfl)) ?_
  refine bI_c (fun hd => t_L hX cls_iast (fun ad P G cells slots F hX h => s_iast hX hd rfl)) ?_
  refine bI_c (fun hd => t_L hX cls_dup (fun ad P G cells slots F hX h => s_dup hX hd rfl)) ?_
  refine bI_c (fun hd => t_L hX cls_ii (fun ad P G cells slots F hX h => s_bp hX hd (by decide) rfl)) ?_
  refine bI_c (fun hd => t_L hX cls_ii (fun ad P G cells slots F hX h => s_bp hX hd (by decide) rfl)) ?_
  refine bI_c (fun hd => t_L hX cls_iast (fun ad P G cells slots F hX h => s_iast hX hd rfl)) ?_
  refine bI_c (fun hd => t_L hX cls_dup (fun ad P G cells slots F hX h => s_dup hX hd rfl)) ?_
  refine bI_c (fun hd => t_L hX cls_ii (fun ad P G cells slots F hX h => s_bp hX hd (by decide) rfl)) ?_
  refine bI_c (fun hd => t_L hX cls_ii (fun ad P G cells slots F hX h => s_bp hX hd (by decide) rfl)) ?_
  refine bI_c (fun hd => t_L hX cls_iast (fun ad P G cells slots F hX h => s_iast hX hd rfl)) ?_
  refine bI_c (fun hd => t_L hX cls_dup (fun ad P G cells slots F hX h => s_dup hX hd rfl)) ?_
  refine bI_c (fun hd => t_L hX cls_ii (fun ad P G cells slots F hX h => s_bp hX hd (by decide) rfl)) ?_
  refine bI_c (fun hd => t_L hX cls_ii (fun ad P G cells slots F hX h => s_bp hX hd (by decide) rfl)) ?_
  refine bI_c (fun hd => t_L hX cls_iast (fun ad P G cells slots F hX h => s_iast hX hd rfl)) ?_
  refine bI_c (fun hd => t_L hX cls_dup (fun ad P G cells slots F hX h => s_dup hX hd rfl)) ?_
  refine bI_c (fun hd => t_L hX cls_ii (fun ad P G cells slots F hX h => s_bp hX hd (by decide) rfl)) ?_
  refine bI_c (fun hd => t_L hX cls_ii (fun ad P G cells slots F hX h => s_bp hX hd (by decide) rfl)) ?_
  refine bI_c (fun hd => t_L hX cls_iast (fun ad P G cells slots F hX h => s_iast hX hd rfl)) ?_
  refine bI_c (fun hd => t_L hX cls_dup (fun ad P G cells slots F hX h => s_dup hX hd rfl)) ?_
  refine bI_c (fun hd => t_L hX cls_ii (fun ad P G cells slots F hX h => s_bp hX hd (by decide) rfl)) ?_
  refine bI_c (fun hd => t_L hX cls_ii (fun ad P G cells slots F hX h => s_bp hX hd (by decide) rfl)) ?_
  refine bI_c (fun hd => t_L hX cls_iast (fun ad P G cells slots F hX h => s_iast hX hd rfl)) ?_
  refine bI_c (fun hd => t_L hX cls_dup (fun ad P G cells slots F hX h => s_dup hX hd rfl)) ?_
  refine bI_c (fun hd => t_L hX cls_ii (fun ad P G cells slots F hX h => s_bp hX hd (by decide) rfl)) ?_
  refine bI_c (fun hd => t_L hX cls_ii (fun ad P G cells slots F hX h => s_bp hX hd (by decide) rfl)) ?_
  refine bI_c (fun hd => t_L hX cls_iast (fun ad P G cells slots F hX h => s_iast hX hd rfl)) ?_
  refine bI_c (fun hd => t_L hX cls_dup (fun ad P G cells slots F hX h => s_dup hX hd rfl)) ?_
  refine bI_c (fun hd => t_L hX cls_ii (fun ad P G cells slots F hX h => s_bp hX hd (by decide) rfl)) ?_
  refine bI_c (fun hd => t_L hX cls_ii (fun ad P G cells slots F hX h => s_bp hX hd (by decide) rfl)) ?_
  refine bI_c (fun hd => t_L hX cls_iast (fun ad P G cells slots F hX h => s_iast hX hd rfl)) ?_
  refine bI_c (fun hd => t_L hX cls_dup (fun ad P G cells slots F hX h => s_dup hX hd rfl)) ?_
  refine bI_c (fun hd => t_L hX cls_ii (fun ad P G cells slots F hX h => s_bp hX hd (by decide) rfl)) ?_
  refine bI_c (fun hd => t_L hX cls_ii (fun ad P G cells slots F hX h => s_bp hX hd (by decide) rfl)) ?_
  refine bI_c (fun hd => t_L hX cls_iast (fun ad P G cells slots F hX h => s_iast hX hd rfl)) ?_
  refine bI_c (fun hd => t_L hX cls_dup (fun ad P G cells slots F hX h => s_dup hX hd rfl)) ?_
  refine bI_c (fun hd => t_L hX cls_ii (fun ad P G cells slots F hX h => s_bp hX hd (by decide) rfl)) ?_
  refine bI_c (fun hd => t_L hX cls_ii (fun ad P G cells slots F hX h => s_bp hX hd (by decide) rfl)) ?_
  refine bI_c (fun hd => t_L hX cls_iast (fun ad P G cells slots F hX h => s_iast hX hd rfl)) ?_
  refine bI_c (fun hd => t_L hX cls_dup (fun ad P G cells slots F hX h => s_dup hX hd rfl)) ?_
  refine bI_c (fun hd => t_L hX cls_ii (fun ad P G cells slots F hX h => s_bp hX hd (by decide) rfl)) ?_
  refine bI_c (fun hd => t_L hX cls_ii (fun ad P G cells slots F hX h => s_bp hX hd (by decide) rfl)) ?_
  refine bI_c (fun hd => t_L hX cls_iast (fun ad P G cells slots F hX h => s_iast hX hd rfl)) ?_
  refine bI_c (fun hd => t_L hX cls_dup (fun ad P G cells slots F hX h => s_dup hX hd rfl)) ?_
  refine bI_c (fun hd => t_L hX cls_ii (fun ad P G cells slots F hX h => s_bp hX hd (by decide) rfl)) ?_
  refine bI_c (fun hd => t_L hX cls_ii (fun ad P G cells slots F hX h => s_bp hX hd (by decide) rfl)) ?_
  refine bI_c (fun hd => t_L hX cls_iast (fun ad P G cells slots F hX h => s_iast hX hd rfl)) ?_
  refine bI_c (fun hd => t_L hX cls_dup (fun ad P G cells slots F hX h => s_dup hX hd rfl)) ?_
  refine bI_c (fun hd => t_L hX cls_ii (fun ad P G cells slots F hX h => s_bp hX hd (by decide) rfl)) ?_
  refine bI_c (fun hd => t_L hX cls_ii (fun ad P G cells slots F hX h => s_bp hX hd (by decide) rfl)) ?_
  refine bI_c (fun hd => t_L hX cls_iast (fun ad P G cells slots F hX h => s_iast hX hd rfl)) ?_
  refine bI_c (fun hd => t_L hX cls_dup (fun ad P G cells slots F hX h => s_dup hX hd rfl)) ?_
  refine bI_c (fun hd => t_L hX cls_ii (fun ad P G cells slots F hX h => s_bp hX hd (by decide) rfl)) ?_
  refine bI_c (fun hd => t_L hX cls_ii (fun ad P G cells slots F hX h => s_bp hX hd (by decide) rfl)) ?_
  refine bI_c (fun hd => t_L hX cls_iast (fun ad P G cells slots F hX h => s_iast hX hd rfl)) ?_
  refine bI_c (fun hd => t_L hX cls_dup (fun ad P G cells slots F hX h => s_dup hX hd rfl)) ?_
  refine bI_c (fun hd => t_L hX cls_ii (fun ad P G cells slots F hX h => s_bp hX hd (by decide) rfl)) ?_
  refine bI_c (fun hd => t_L hX cls_ii (fun ad P G cells slots F hX h => s_bp hX hd (by decide) rfl)) ?_
  refine bI_c (fun hd => t_L hX cls_iast (fun ad P G cells slots F hX h => s_iast hX hd rfl)) ?_
  refine bI_c (fun hd => t_L hX cls_dup (fun ad P G cells slots F hX h => s_dup hX hd rfl)) ?_
  refine bI_c (fun hd => t_L hX cls_ii (fun ad P G cells slots F hX h => s_bp hX hd (by decide) rfl)) ?_
  refine bI_c (fun hd => t_L hX cls_ii (fun ad P G cells slots F hX h => s_bp hX hd (by decide) rfl)) ?_
  refine bI_c (fun hd => t_L hX cls_iast (fun ad P G cells slots F hX h => s_iast hX hd rfl)) ?_
  refine bI_c (fun hd => t_L hX cls_dup (fun ad P G cells slots F hX h => s_dup hX hd rfl)) ?_
  refine bI_c (fun hd => t_L hX cls_ii (fun ad P G cells slots F hX h => s_bp hX hd (by decide) rfl)) ?_
  refine bI_c (fun hd => t_L hX cls_ii (fun ad P G cells slots F hX h => s_bp hX hd (by decide) rfl)) ?_
  refine bI_c (fun hd => t_L hX cls_iast (fun ad P G cells slots F hX h => s_iast hX hd rfl)) ?_
  refine bI_c (fun hd => t_L hX cls_dup (fun ad P G cells slots F hX h => s_dup hX hd rfl)) ?_
  refine bI_c (fun hd => t_L hX cls_ii (fun ad P G cells slots F hX h => s_bp hX hd (by decide) rfl)) ?_
  refine bI_c (fun hd => t_L hX cls_ii (fun ad P G cells slots F hX h => s_bp hX hd (by decide) rfl)) ?_
  refine bI_c (fun hd => t_L hX cls_iast (fun ad P G cells slots F hX h => s_iast hX hd rfl)) ?_
  refine bI_c (fun hd => t_L hX cls_dup (fun ad P G cells slots F hX h => s_dup hX hd rfl)) ?_
  refine bI_c (fun hd => t_L hX cls_ii (fun ad P G cells slots F hX h => s_bp hX hd (by decide) rfl)) ?_
  refine bI_c (fun hd => t_L hX cls_ii (fun ad P G cells slots F hX h => s_bp hX hd (by decide) rfl)) ?_
  refine bI_c (fun hd => t_L hX cls_iast (fun ad P G cells slots F hX h => s_iast hX hd rfl)) ?_
  refine bI_c (fun hd => t_L hX cls_dup (fun ad P G cells slots F hX h => s_dup hX hd rfl)) ?_
  refine bI_c (fun hd => t_L hX cls_ii (fun ad P G cells slots F hX h => s_bp hX hd (by decide) rfl)) ?_
  refine bI_c (fun hd => t_L hX cls_ii (fun ad P G cells slots F hX h => s_bp hX hd (by decide) rfl)) ?_
  refine bI_c (fun hd => t_L hX cls_iast (fun ad P G cells slots F hX h => s_iast hX hd rfl)) ?_
  refine bI_c (fun hd => t_L hX cls_dup (fun ad P G cells slots F hX h => s_dup hX hd rfl)) ?_
  refine bI_c (fun hd => t_L hX cls_ii (fun ad P G cells slots F hX h => s_bp hX hd (by decide) rfl)) ?_
  refine bI_c (fun hd => t_L hX cls_ii (fun ad P G cells slots F hX h => s_bp hX hd (by decide) rfl)) ?_
  refine bI_c (fun hd => t_L hX cls_iast (fun ad P G cells slots F hX h => s_iast hX hd rfl)) ?_
  refine bI_c (fun hd => t_L hX cls_dup (fun ad P G cells slots F hX h => s_dup hX hd rfl)) ?_
  refine bI_c (fun hd => t_L hX cls_ii (fun ad P G cells slots F hX h => s_bp hX hd (by decide) rfl)) ?_
  refine bI_c (fun hd => t_L hX cls_ii (fun ad P G cells slots F hX h => s_bp hX hd (by decide) rfl)) ?_
  refine bI_c (fun hd => t_L hX cls_iast (fun ad P G cells slots F hX h => s_iast hX hd rfl)) ?_
  refine bI_c (fun hd => t_L hX cls_dup (fun ad P G cells slots F hX h => s_dup hX hd rfl)) ?_
  refine bI_c (fun hd => t_L hX cls_ii (fun ad P G cells slots F hX h => s_bp hX hd (by decide) rfl)) ?_
  refine bI_c (fun hd => t_L hX cls_ii (fun ad P G cells slots F hX h => s_bp hX hd (by decide) rfl)) ?_
  refine bI_c (fun hd => t_L hX cls_iast (fun ad P G cells slots F hX h => s_iast hX hd rfl)) ?_
  refine bI_c (fun hd => t_L hX cls_dup (fun ad P G cells slots F hX h => s_dup hX hd rfl)) ?_
  refine bI_c (fun hd => t_L hX cls_ii (fun ad P G cells slots F hX h => s_bp hX hd (by decide) rfl)) ?_
  refine bI_c (fun hd => t_L hX cls_ii (fun ad P G cells slots F hX h => s_bp hX hd (by decide) rfl)) ?_
  refine bI_c (fun hd => t_L hX cls_iast (fun ad P G cells slots F hX h => s_iast hX hd rfl)) ?_
  refine bI_c (fun hd => t_L hX cls_dup (fun ad P G cells slots F hX h => s_dup hX hd rfl)) ?_
  refine bI_c (fun hd => t_L hX cls_ii (fun ad P G cells slots F hX h => s_bp hX hd (by decide) rfl)) ?_
  refine bI_c (fun hd => t_L hX cls_ii (fun ad P G cells slots F hX h => s_bp hX hd (by decide) rfl)) ?_
  refine bI_c (fun hd => t_L hX cls_iast (fun ad P G cells slots F hX h => s_iast hX hd rfl)) ?_
  refine bI_c (fun hd => t_L hX cls_dup (fun ad P G cells slots F hX h => s_dup hX hd rfl)) ?_
  refine bI_c (fun hd => t_L hX cls_ii (fun ad P G cells slots F hX h => s_bp hX hd (by decide) rfl)) ?_
  refine bI_c (fun hd => t_L hX cls_ii (fun ad P G cells slots F hX h => s_bp hX hd (by decide) rfl)) ?_
  refine bI_c (fun hd => t_L hX cls_iast (fun ad P G cells slots F hX h => s_iast hX hd rfl)) ?_
  refine bI_c (fun hd => t_L hX cls_dup (fun ad P G cells slots F hX h => s_dup hX hd rfl)) ?_
  refine bI_c (fun hd => t_L hX cls_ii (fun ad P G cells slots F hX h => s_bp hX hd (by decide) rfl)) ?_
  refine bI_c (fun hd => t_L hX cls_ii (fun ad P G cells slots F hX h => s_bp hX hd (by decide) rfl)) ?_
  refine bI_c (fun hd => t_L hX cls_iast (fun ad P G cells slots F hX h => s_iast hX hd rfl)) ?_
  refine bI_c (fun hd => t_L hX cls_dup (fun ad P G cells slots F hX h => s_dup hX hd rfl)) ?_
  refine bI_c (fun hd => t_L hX cls_ii (fun ad P G cells slots F hX h => s_bp hX hd (by decide) rfl)) ?_
  refine bI_c (fun hd => t_L hX cls_ii (fun ad P G cells slots F hX h => s_bp hX hd (by decide) rfl)) ?_
  refine bI_c (fun hd => t_L hX cls_iast (fun ad P G cells slots F hX h => s_iast hX hd rfl)) ?_
  refine bI_c (fun hd => t_L hX cls_dup (fun ad P G cells slots F hX h => s_dup hX hd rfl)) ?_
  refine bI_c (fun hd => t_L hX cls_ii (fun ad P G cells slots F hX h => s_bp hX hd (by decide) rfl)) ?_
  refine bI_c (fun hd => t_L hX cls_ii (fun ad P G cells slots F hX h => s_bp hX hd (by decide) rfl)) ?_
  refine bI_c (fun hd => t_L hX cls_iast (fun ad P G cells slots F hX h => s_iast hX hd rfl)) ?_
  refine bI_c (fun hd => t_L hX cls_dup (fun ad P G cells slots F hX h => s_dup hX hd rfl)) ?_
  refine bI_c (fun hd => t_L hX cls_ii (fun ad P G cells slots F hX h => s_bp hX hd (by decide) rfl)) ?_
  refine bI_c (fun hd => t_L hX cls_ii (fun ad P G cells slots F hX h => s_bp hX hd (by decide) rfl)) ?_
  refine bI_c (fun hd => t_L hX cls_iast (fun ad P G cells slots F hX h => s_iast hX hd rfl)) ?_
  refine bI_c (fun hd => t_L hX cls_dup (fun ad P G cells slots F hX h => s_dup hX hd rfl)) ?_
  refine bI_c (fun hd => t_L hX cls_ii (fun ad P G cells slots F hX h => s_bp hX hd (by decide) rfl)) ?_
  refine bI_c (fun hd => t_L hX cls_ii (fun ad P G cells slots F hX h => s_bp hX hd (by decide) rfl)) ?_
  refine bI_c (fun hd => t_L hX cls_iast (fun ad P G cells slots F hX h => s_iast hX hd rfl)) ?_
  refine bI_c (fun hd => t_L hX cls_dup (fun ad P G cells slots F hX h => s_dup hX hd rfl)) ?_
  refine bI_c (fun hd => t_L hX cls_ii (fun ad P G cells slots F hX h => s_bp hX hd (by decide) rfl)) ?_
  refine bI_c (fun hd => t_L hX cls_ii (fun ad P G cells slots F hX h => s_bp hX hd (by decide) rfl)) ?_
  refine bI_c (fun hd => t_L hX cls_iast (fun ad P G cells slots F hX h => s_iast hX hd rfl)) ?_
  refine bI_c (fun hd => t_L hX cls_dup (fun ad P G cells slots F hX h => s_dup hX hd rfl)) ?_
  refine bI_c (fun hd => t_L hX cls_ii (fun ad P G cells slots F hX h => s_bp hX hd (by decide) rfl)) ?_
  refine bI_c (fun hd => t_L hX cls_ii (fun ad P G cells slots F hX h => s_bp hX hd (by decide) rfl)) ?_
  refine bI_c (fun hd => t_L hX cls_iast (fun ad P G cells slots F hX h => s_iast hX hd rfl)) ?_
  refine bI_c (fun hd => t_L hX cls_dup (fun ad P G cells slots F hX h => s_dup hX hd rfl)) ?_
  refine bI_c (fun hd => t_L hX cls_ii (fun ad P G cells slots F hX h => s_bp hX hd (by decide) rfl)) ?_
  refine bI_c (fun hd => t_L hX cls_ii (fun ad P G cells slots F hX h => s_bp hX hd (by decide) rfl)) ?_
  refine bI_c (fun hd => t_L hX cls_iast (fun ad P G cells slots F hX h => s_iast hX hd rfl)) ?_
  refine bI_c (fun hd => t_pwR hX (C := RX5) (T := TX5) (N := 35) (k := 19) rfl rfl (fun w h => up w (inlX5 w h)) (by decide) (by decide) tyX5 tyX5_ok nmX5 (Or.inr ⟨rfl, hnm, rfl⟩) (fun a => ⟨rfl, rfl⟩) rfl (up _ lkX5_46) hd rfl) ?_
  refine bI_c (fun hd => t_L hX cls_al (fun ad P G cells slots F hX h => s_al_n hX hd rfl rfl)) ?_
  refine bI_c (fun hd => t_L hX cls_ii (fun ad P G cells slots F hX h => s_bp hX hd (by decide) rfl)) ?_
  refine bI_c (fun hd => t_nwa hX rfl (up _ mw3) hd rfl) ?_
  refine bI_c (fun hd => t_L hX cls_dup (fun ad P G cells slots F hX h => s_dup hX hd rfl)) ?_
  refine bI_c (fun hd => t_L hX cls_ii (fun ad P G cells slots F hX h => s_ii hX hd (by decide) rfl)) ?_
  refine bI_c (fun hd => t_L hX cls_ii (fun ad P G cells slots F hX h => s_bp hX hd (by decide) rfl)) ?_
  refine bI_c (fun hd => t_L hX cls_iast (fun ad P G cells slots F hX h => s_iast hX hd rfl)) ?_
  refine bI_c (fun hd => t_L hX cls_dup (fun ad P G cells slots F hX h => s_dup hX hd rfl)) ?_
  refine bI_c (fun hd => t_L hX cls_ii (fun ad P G cells slots F hX h => s_ii hX hd (by decide) rfl)) ?_
  refine bI_c (fun hd => t_L hX cls_ii (fun ad P G cells slots F hX h => s_bp hX hd (by decide) rfl)) ?_
  refine bI_c (fun hd => t_L hX cls_iast (fun ad P G cells slots F hX h => s_iast hX hd rfl)) ?_
  refine bI_c (fun hd => t_L hX cls_dup (fun ad P G cells slots F hX h => s_dup hX hd rfl)) ?_
  refine bI_c (fun hd => t_L hX cls_ii (fun ad P G cells slots F hX h => s_ii hX hd (by decide) rfl)) ?_
  refine bI_c (fun hd => t_L hX cls_ii (fun ad P G cells slots F hX h => s_bp hX hd (by decide) rfl)) ?_
  refine bI_c (fun hd => t_L hX cls_iast (fun ad P G cells slots F hX h => s_iast hX hd rfl)) ?_
  refine bI_c (fun hd => t_L hX cls_dup (fun ad P G cells slots F hX h => s_dup hX hd rfl)) ?_
  refine bI_c (fun hd => t_L hX cls_ii (fun ad P G cells slots F hX h => s_ii hX hd (by decide) rfl)) ?_
  refine bI_c (fun hd => t_L hX cls_ii (fun ad P G cells slots F hX h => s_bp hX hd (by decide) rfl)) ?_
  refine bI_c (fun hd => t_L hX cls_iast (fun ad P G cells slots F hX h => s_iast hX hd rfl)) ?_
  refine bI_c (fun hd => t_L hX cls_dup (fun ad P G cells slots F hX h => s_dup hX hd rfl)) ?_
  refine bI_c (fun hd => t_L hX cls_ii (fun ad P G cells slots F hX h => s_ii hX hd (by decide) rfl)) ?_
  refine bI_c (fun hd => t_L hX cls_ii (fun ad P G cells slots F hX h => s_bp hX hd (by decide) rfl)) ?_
  refine bI_c (fun hd => t_L hX cls_iast (fun ad P G cells slots F hX h => s_iast hX hd rfl)) ?_
  refine bI_c (fun hd => t_L hX cls_dup (fun ad P G cells slots F hX h => s_dup hX hd rfl)) ?_
  refine bI_c (fun hd => t_L hX cls_ii (fun ad P G cells slots F hX h => s_ii hX hd (by decide) rfl)) ?_
  refine bI_c (fun hd => t_L hX cls_ii (fun ad P G cells slots F hX h => s_bp hX hd (by decide) rfl)) ?_
  refine bI_c (fun hd => t_L hX cls_iast (fun ad P G cells slots F hX h => s_iast hX hd rfl)) ?_
  refine bI_c (fun hd => t_L hX cls_dup (fun ad P G cells slots F hX h => s_dup hX hd rfl)) ?_
  refine bI_c (fun hd => t_L hX cls_ii (fun ad P G cells slots F hX h => s_bp hX hd (by decide) rfl)) ?_
  refine bI_c (fun hd => t_L hX cls_ii (fun ad P G cells slots F hX h => s_bp hX hd (by decide) rfl)) ?_
  refine bI_c (fun hd => t_L hX cls_iast (fun ad P G cells slots F hX h => s_iast hX hd rfl)) ?_
  refine bI_c (fun hd => t_L hX cls_dup (fun ad P G cells slots F hX h => s_dup hX hd rfl)) ?_
  refine bI_c (fun hd => t_L hX cls_ii (fun ad P G cells slots F hX h => s_bp hX hd (by decide) rfl)) ?_
  refine bI_c (fun hd => t_L hX cls_ii (fun ad P G cells slots F hX h => s_bp hX hd (by decide) rfl)) ?_
  refine bI_c (fun hd => t_L hX cls_iast (fun ad P G cells slots F hX h => s_iast hX hd rfl)) ?_
  refine bI_c (fun hd => t_L hX cls_dup (fun ad P G cells slots F hX h => s_dup hX hd rfl)) ?_
  refine bI_c (fun hd => t_L hX cls_ii (fun ad P G cells slots F hX h => s_bp hX hd (by decide) rfl)) ?_
  refine bI_c (fun hd => t_L hX cls_ii (fun ad P G cells slots F hX h => s_bp hX hd (by decide) rfl)) ?_
  refine bI_c (fun hd => t_L hX cls_iast (fun ad P G cells slots F hX h => s_iast hX hd rfl)) ?_
  refine bI_c (fun hd => t_L hX cls_dup (fun ad P G cells slots F hX h => s_dup hX hd rfl)) ?_
  refine bI_c (fun hd => t_L hX cls_ii (fun ad P G cells slots F hX h => s_bp hX hd (by decide) rfl)) ?_
  refine bI_c (fun hd => t_L hX cls_ii (fun ad P G cells slots F hX h => s_bp hX hd (by decide) rfl)) ?_
  refine bI_c (fun hd => t_L hX cls_iast (fun ad P G cells slots F hX h => s_iast hX hd rfl)) ?_
  refine bI_c (fun hd => t_L hX cls_dup (fun ad P G cells slots F hX h => s_dup hX hd rfl)) ?_
  refine bI_c (fun hd => t_L hX cls_ii (fun ad P G cells slots F hX h => s_bp hX hd (by decide) rfl)) ?_
  refine bI_c (fun hd => t_L hX cls_ii (fun ad P G cells slots F hX h => s_bp hX hd (by decide) rfl)) ?_
  refine bI_c (fun hd => t_L hX cls_iast (fun ad P G cells slots F hX h => s_iast hX hd rfl)) ?_
  refine bI_c (fun hd => t_L hX cls_dup (fun ad P G cells slots F hX h => s_dup hX hd rfl)) ?_
  refine bI_c (fun hd => t_L hX cls_ii (fun ad P G cells slots F hX h => s_bp hX hd (by decide) rfl)) ?_
  refine bI_c (fun hd => t_L hX cls_ii (fun ad P G cells slots F hX h => s_bp hX hd (by decide) rfl)) ?_
  refine bI_c (fun hd => t_L hX cls_iast (fun ad P G cells slots F hX h => s_iast hX hd rfl)) ?_
  refine bI_c (fun hd => t_L hX cls_dup (fun ad P G cells slots F hX h => s_dup hX hd rfl)) ?_
  refine bI_c (fun hd => t_L hX cls_ii (fun ad P G cells slots F hX h => s_bp hX hd (by decide) rfl)) ?_
  refine bI_c (fun hd => t_L hX cls_ii (fun ad P G cells slots F hX h => s_bp hX hd (by decide) rfl)) ?_
  refine bI_c (fun hd => t_L hX cls_iast (fun ad P G cells slots F hX h => s_iast hX hd rfl)) ?_
  refine bI_c (fun hd => t_L hX cls_dup (fun ad P G cells slots F hX h => s_dup hX hd rfl)) ?_
  refine bI_c (fun hd => t_L hX cls_ii (fun ad P G cells slots F hX h => s_bp hX hd (by decide) rfl)) ?_
  refine bI_c (fun hd => t_L hX cls_ii (fun ad P G cells slots F hX h => s_bp hX hd (by decide) rfl)) ?_
  refine bI_c (fun hd => t_L hX cls_iast (fun ad P G cells slots F hX h => s_iast hX hd rfl)) ?_
  refine bI_c (fun hd => t_L hX cls_dup (fun ad P G cells slots F hX h => s_dup hX hd rfl)) ?_
  refine bI_c (fun hd => t_L hX cls_ii (fun ad P G cells slots F hX h => s_bp hX hd (by decide) rfl)) ?_
  refine bI_c (fun hd => t_L hX cls_ii (fun ad P G cells slots F hX h => s_bp hX hd (by decide) rfl)) ?_
  refine bI_c (fun hd => t_L hX cls_iast (fun ad P G cells slots F hX h => s_iast hX hd rfl)) ?_
  refine bI_c (fun hd => t_L hX cls_dup (fun ad P G cells slots F hX h => s_dup hX hd rfl)) ?_
  refine bI_c (fun hd => t_L hX cls_ii (fun ad P G cells slots F hX h => s_bp hX hd (by decide) rfl)) ?_
  refine bI_c (fun hd => t_L hX cls_ii (fun ad P G cells slots F hX h => s_bp hX hd (by decide) rfl)) ?_
  refine bI_c (fun hd => t_L hX cls_iast (fun ad P G cells slots F hX h => s_iast hX hd rfl)) ?_
  refine bI_c (fun hd => t_L hX cls_dup (fun ad P G cells slots F hX h => s_dup hX hd rfl)) ?_
  refine bI_c (fun hd => t_L hX cls_ii (fun ad P G cells slots F hX h => s_bp hX hd (by decide) rfl)) ?_
  refine bI_c (fun hd => t_L hX cls_ii (fun ad P G cells slots F hX h => s_bp hX hd (by decide) rfl)) ?_
  refine bI_c (fun hd => t_L hX cls_iast (fun ad P G cells slots F hX h => s_iast hX hd rfl)) ?_
  refine bI_c (fun hd => t_L hX cls_dup (fun ad P G cells slots F hX h => s_dup hX hd rfl)) ?_
  refine bI_c (fun hd => t_L hX cls_ii (fun ad P G cells slots F hX h => s_bp hX hd (by decide) rfl)) ?_
  refine bI_c (fun hd => t_L hX cls_ii (fun ad P G cells slots F hX h => s_bp hX hd (by decide) rfl)) ?_
  refine bI_c (fun hd => t_L hX cls_iast (fun ad P G cells slots F hX h => s_iast hX hd rfl)) ?_
  refine bI_c (fun hd => t_L hX cls_dup (fun ad P G cells slots F hX h => s_dup hX hd rfl)) ?_
  refine bI_c (fun hd => t_L hX cls_ii (fun ad P G cells slots F hX h => s_bp hX hd (by decide) rfl)) ?_
  refine bI_c (fun hd => t_L hX cls_ii (fun ad P G cells slots F hX h => s_bp hX hd (by decide) rfl)) ?_
  refine bI_c (fun hd => t_L hX cls_iast (fun ad P G cells slots F hX h => s_iast hX hd rfl)) ?_
  refine bI_c (fun hd => t_L hX cls_dup (fun ad P G cells slots F hX h => s_dup hX hd rfl)) ?_
  refine bI_c (fun hd => t_L hX cls_ii (fun ad P G cells slots F hX h => s_bp hX hd (by decide) rfl)) ?_
  refine bI_c (fun hd => t_L hX cls_ii (fun ad P G cells slots F hX h => s_bp hX hd (by decide) rfl)) ?_
  refine bI_c (fun hd => t_L hX cls_iast (fun ad P G cells slots F hX h => s_iast hX hd rfl)) ?_
  refine bI_c (fun hd => t_L hX cls_dup (fun ad P G cells slots F hX h => s_dup hX hd rfl)) ?_
  refine bI_c (fun hd => t_L hX cls_ii (fun ad P G cells slots F hX h => s_bp hX hd (by decide) rfl)) ?_
  refine bI_c (fun hd => t_L hX cls_ii (fun ad P G cells slots F hX h => s_bp hX hd (by decide) rfl)) ?_
  refine bI_c (fun hd => t_L hX cls_iast (fun ad P G cells slots F hX h => s_iast hX hd rfl)) ?_
  refine bI_c (fun hd => t_L hX cls_dup (fun ad P G cells slots F hX h => s_dup hX hd rfl)) ?_
  refine bI_c (fun hd => t_L hX cls_ii (fun ad P G cells slots F hX h => s_bp hX hd (by decide) rfl)) ?_
  refine bI_c (fun hd => t_L hX cls_ii (fun ad P G cells slots F hX h => s_bp hX hd (by decide) rfl)) ?_
  refine bI_c (fun hd => t_L hX cls_iast (fun ad P G cells slots F hX h => s_iast hX hd rfl)) ?_
  refine bI_c (fun hd => t_L hX cls_dup (fun ad P G cells slots F hX h => s_dup hX hd rfl)) ?_
  refine bI_c (fun hd => t_L hX cls_ii (fun ad P G cells slots F hX h => s_bp hX hd (by decide) rfl)) ?_
  refine bI_c (fun hd => t_L hX cls_ii (fun ad P G cells slots F hX h => s_bp hX hd (by decide) rfl)) ?_
  refine bI_c (fun hd => t_L hX cls_iast (fun ad P G cells slots F hX h => s_iast hX hd rfl)) ?_
  refine bI_c (fun hd => t_L hX cls_dup (fun ad P G cells slots F hX h => s_dup hX hd rfl)) ?_
  refine bI_c (fun hd => t_L hX cls_ii (fun ad P G cells slots F hX h => s_bp hX hd (by decide) rfl)) ?_
  refine bI_c (fun hd => t_L hX cls_ii (fun ad P G cells slots F hX h => s_bp hX hd (by decide) rfl)) ?_
  refine bI_c (fun hd => t_L hX cls_iast (fun ad P G cells slots F hX h => s_iast hX hd rfl)) ?_
  refine bI_c (fun hd => t_L hX cls_dup (fun ad P G cells slots F hX h => s_dup hX hd rfl)) ?_
  refine bI_c (fun hd => t_L hX cls_ii (fun ad P G cells slots F hX h => s_bp hX hd (by decide) rfl)) ?_
  refine bI_c (fun hd => t_L hX cls_ii (fun ad P G cells slots F hX h => s_bp hX hd (by decide) rfl)) ?_
  refine bI_c (fun hd => t_L hX cls_iast (fun ad P G cells slots F hX h => s_iast hX hd rfl)) ?_
  refine bI_c (fun hd => t_L hX cls_dup (fun ad P G cells slots F hX h => s_dup hX hd rfl)) ?_
  refine bI_c (fun hd => t_L hX cls_ii (fun ad P G cells slots F hX h => s_bp hX hd (by decide) rfl)) ?_
  refine bI_c (fun hd => t_L hX cls_ii (fun ad P G cells slots F hX h => s_bp hX hd (by decide) rfl)) ?_
  refine bI_c (fun hd => t_L hX cls_iast (fun ad P G cells slots F hX h => s_iast hX hd rfl)) ?_
  refine bI_c (fun hd => t_L hX cls_dup (fun ad P G cells slots F hX h => s_dup hX hd rfl)) ?_
  refine bI_c (fun hd => t_L hX cls_ii (fun ad P G cells slots F hX h => s_bp hX hd (by decide) rfl)) ?_
  refine bI_c (fun hd => t_L hX cls_ii (fun ad P G cells slots F hX h => s_bp hX hd (by decide) rfl)) ?_
  refine bI_c (fun hd => t_L hX cls_iast (fun ad P G cells slots F hX h => s_iast hX hd rfl)) ?_
  refine bI_c (fun hd => t_L hX cls_dup (fun ad P G cells slots F hX h => s_dup hX hd rfl)) ?_
  refine bI_c (fun hd => t_L hX cls_ii (fun ad P G cells slots F hX h => s_bp hX hd (by decide) rfl)) ?_
  refine bI_c (fun hd => t_L hX cls_ii (fun ad P G cells slots F hX h => s_bp hX hd (by decide) rfl)) ?_
  refine bI_c (fun hd => t_L hX cls_iast (fun ad P G cells slots F hX h => s_iast hX hd rfl)) ?_
  refine bI_c (fun hd => t_L hX cls_dup (fun ad P G cells slots F hX h => s_dup hX hd rfl)) ?_
  refine bI_c (fun hd => t_L hX cls_ii (fun ad P G cells slots F hX h => s_bp hX hd (by decide) rfl)) ?_
  refine bI_c (fun hd => t_L hX cls_ii (fun ad P G cells slots F hX h => s_bp hX hd (by decide) rfl)) ?_
  refine bI_c (fun hd => t_L hX cls_iast (fun ad P G cells slots F hX h => s_iast hX hd rfl)) ?_
  refine bI_c (fun hd => t_L hX cls_dup (fun ad P G cells slots F hX h => s_dup hX hd rfl)) ?_
  refine bI_c (fun hd => t_L hX cls_ii (fun ad P G cells slots F hX h => s_bp hX hd (by decide) rfl)) ?_
  refine bI_c (fun hd => t_L hX cls_ii (fun ad P G cells slots F hX h => s_bp hX hd (by decide) rfl)) ?_
  refine bI_c (fun hd => t_L hX cls_iast (fun ad P G cells slots F hX h => s_iast hX hd rfl)) ?_
  refine bI_c (fun hd => t_L hX cls_dup (fun ad P G cells slots F hX h => s_dup hX hd rfl)) ?_
  refine bI_c (fun hd => t_L hX cls_ii (fun ad P G cells slots F hX h => s_bp hX hd (by decide) rfl)) ?_
  refine bI_c (fun hd => t_L hX cls_ii (fun ad P G cells slots F hX h => s_bp hX hd (by decide) rfl)) ?_
  refine bI_c (fun hd => t_L hX cls_iast (fun ad P G cells slots F hX h => s_iast hX hd rfl)) ?_
  refine bI_c (fun hd => t_L hX cls_dup (fun ad P G cells slots F hX h => s_dup hX hd rfl)) ?_
  refine bI_c (fun hd => t_L hX cls_ii (fun ad P G cells slots F hX h => s_bp hX hd (by decide) rfl)) ?_
  refine bI_c (fun hd => t_L hX cls_ii (fun ad P G cells slots F hX h => s_bp hX hd (by decide) rfl)) ?_
  refine bI_c (fun hd => t_L hX cls_iast (fun ad P G cells slots F hX h => s_iast hX hd rfl)) ?_
  refine bI_c (fun hd => t_L hX cls_dup (fun ad P G cells slots F hX h => s_dup hX hd rfl)) ?_
  refine bI_c (fun hd => t_L hX cls_ii (fun ad P G cells slots F hX h => s_bp hX hd (by decide) rfl)) ?_
  refine bI_c (fun hd => t_L hX cls_ii (fun ad P G cells slots F hX h => s_bp hX hd (by decide) rfl)) ?_
  refine bI_c (fun hd => t_L hX cls_iast (fun ad P G cells slots F hX h => s_iast hX hd rfl)) ?_
  refine bI_c (fun hd => t_L hX cls_dup (fun ad P G cells slots F hX h => s_dup hX hd rfl)) ?_
  refine bI_c (fun hd => t_L hX cls_ii (fun ad P G cells slots F hX h => s_bp hX hd (by decide) rfl)) ?_
  refine bI_c (fun hd => t_L hX cls_ii (fun ad P G cells slots F hX h => s_bp hX hd (by decide) rfl)) ?_
  refine bI_c (fun hd => t_L hX cls_iast (fun ad P G cells slots F hX h => s_iast hX hd rfl)) ?_
  refine bI_c (fun hd => t_L hX cls_dup (fun ad P G cells slots F hX h => s_dup hX hd rfl)) ?_
  refine bI_c (fun hd => t_L hX cls_ii (fun ad P G cells slots F hX h => s_bp hX hd (by decide) rfl)) ?_
  refine bI_c (fun hd => t_L hX cls_ii (fun ad P G cells slots F hX h => s_bp hX hd (by decide) rfl)) ?_
  refine bI_c (fun hd => t_L hX cls_iast (fun ad P G cells slots F hX h => s_iast hX hd rfl)) ?_
  refine bI_c (fun hd => t_L hX cls_dup (fun ad P G cells slots F hX h => s_dup hX hd rfl)) ?_
  refine bI_c (fun hd => t_L hX cls_ii (fun ad P G cells slots F hX h => s_bp hX hd (by decide) rfl)) ?_
  refine bI_c (fun hd => t_L hX cls_ii (fun ad P G cells slots F hX h => s_bp hX hd (by decide) rfl)) ?_
  refine bI_c (fun hd => t_L hX cls_iast (fun ad P G cells slots F hX h => s_iast hX hd rfl)) ?_
  refine bI_c (fun hd => t_L hX cls_dup (fun ad P G cells slots F hX h => s_dup hX hd rfl)) ?_
  refine bI_c (fun hd => t_L hX cls_ii (fun ad P G cells slots F hX h => s_bp hX hd (by decide) rfl)) ?_
  refine bI_c (fun hd => t_L hX cls_ii (fun ad P G cells slots F hX h => s_bp hX hd (by decide) rfl)) ?_
  refine bI_c (fun hd => t_L hX cls_iast (fun ad P G cells slots F hX h => s_iast hX hd rfl)) ?_
  refine bI_c (fun hd => t_L hX cls_dup (fun ad P G cells slots F hX h => s_dup hX hd rfl)) ?_
  refine bI_c (fun hd => t_L hX cls_ii (fun ad P G cells slots F hX h => s_bp hX hd (by decide) rfl)) ?_
  refine bI_c (fun hd => t_L hX cls_ii (fun ad P G cells slots F hX h => s_bp hX hd (by decide) rfl)) ?_
  refine bI_c (fun hd => t_L hX cls_iast (fun ad P G cells slots F hX h => s_iast hX hd rfl)) ?_
  refine bI_c (fun hd => t_L hX cls_dup (fun ad P G cells slots F hX h => s_dup hX hd rfl)) ?_
  refine bI_c (fun hd => t_L hX cls_ii (fun ad P G cells slots F hX h => s_bp hX hd (by decide) rfl)) ?_
  refine bI_c (fun hd => t_L hX cls_ii (fun ad P G cells slots F hX h => s_bp hX hd (by decide) rfl)) ?_
  refine bI_c (fun hd => t_L hX cls_iast (fun ad P G cells slots F hX h => s_iast hX hd rfl)) ?_
  refine bI_c (fun hd => t_L hX cls_dup (fun ad P G cells slots F hX h => s_dup hX hd rfl)) ?_
  refine bI_c (fun hd => t_L hX cls_ii (fun ad P G cells slots F hX h => s_bp hX hd (by decide) rfl)) ?_
  refine bI_c (fun hd => t_L hX cls_ii (fun ad P G cells slots F hX h => s_bp hX hd (by decide) rfl)) ?_
  refine bI_c (fun hd => t_L hX cls_iast (fun ad P G cells slots F hX h => s_iast hX hd rfl)) ?_
  refine bI_c (fun hd => t_L hX cls_dup (fun ad P G cells slots F hX h => s_dup hX hd rfl)) ?_
  refine bI_c (fun hd => t_L hX cls_ii (fun ad P G cells slots F hX h => s_bp hX hd (by decide) rfl)) ?_
  refine bI_c (fun hd => t_L hX cls_ii (fun ad P G cells slots F hX h => s_bp hX hd (by decide) rfl)) ?_
  refine bI_c (fun hd => t_L hX cls_iast (fun ad P G cells slots F hX h => s_iast hX hd rfl)) ?_
  refine bI_c (fun hd => t_L hX cls_dup (fun ad P G cells slots F hX h => s_dup hX hd rfl)) ?_
  refine bI_c (fun hd => t_L hX cls_ii (fun ad P G cells slots F hX h => s_bp hX hd (by decide) rfl)) ?_
  refine bI_c (fun hd => t_L hX cls_ii (fun ad P G cells slots F hX h => s_bp hX hd (by decide) rfl)) ?_
  refine bI_c (fun hd => t_L hX cls_iast (fun ad P G cells slots F hX h => s_iast hX hd rfl)) ?_
  refine bI_c (fun hd => t_L hX cls_dup (fun ad P G cells slots F hX h => s_dup hX hd rfl)) ?_
  refine bI_c (fun hd => t_L hX cls_ii (fun ad P G cells slots F hX h => s_bp hX hd (by decide) rfl)) ?_
  refine bI_c (fun hd => t_L hX cls_ii (fun ad P G cells slots F hX h => s_bp hX hd (by decide) rfl)) ?_
  refine bI_c (fun hd => t_L hX cls_iast (fun ad P G cells slots F hX h => s_iast hX hd rfl)) ?_
  refine bI_c (fun hd => t_L hX cls_dup (fun ad P G cells slots F hX h => s_dup hX hd rfl)) ?_
  refine bI_c (fun hd => t_L hX cls_ii (fun ad P G cells slots F hX h => s_bp hX hd (by decide) rfl)) ?_
  refine bI_c (fun hd => t_L hX cls_ii (fun ad P G cells slots F hX h => s_bp hX hd (by decide) rfl)) ?_
  refine bI_c (fun hd => t_L hX cls_iast (fun ad P G cells slots F hX h => s_iast hX hd rfl)) ?_
  refine bI_c (fun hd => t_L hX cls_dup (fun ad P G cells slots F hX h => s_dup hX hd rfl)) ?_
  refine bI_c (fun hd => t_L hX cls_ii (fun ad P G cells slots F hX h => s_bp hX hd (by decide) rfl)) ?_
  refine bI_c (fun hd => t_L hX cls_ii (fun ad P G cells slots F hX h => s_bp hX hd (by decide) rfl)) ?_
  refine bI_c (fun hd => t_L hX cls_iast (fun ad P G cells slots F hX h => s_iast hX hd rfl)) ?_
  refine bI_c (fun hd => t_L hX cls_dup (fun ad P G cells slots F hX h => s_dup hX hd rfl)) ?_
  refine bI_c (fun hd => t_L hX cls_ii (fun ad P G cells slots F hX h => s_bp hX hd (by decide) rfl)) ?_
  refine bI_c (fun hd => t_L hX cls_ii (fun ad P G cells slots F hX h => s_bp hX hd (by decide) rfl)) ?_
  refine bI_c (fun hd => t_L hX cls_iast (fun ad P G cells slots F hX h => s_iast hX hd rfl)) ?_
  refine bI_c (fun hd => t_L hX cls_dup (fun ad P G cells slots F hX h => s_dup hX hd rfl)) ?_
  refine bI_c (fun hd => t_L hX cls_ii (fun ad P G cells slots F hX h => s_bp hX hd (by decide) rfl)) ?_
  refine bI_c (fun hd => t_L hX cls_ii (fun ad P G cells slots F hX h => s_bp hX hd (by decide) rfl)) ?_
  refine bI_c (fun hd => t_L hX cls_iast (fun ad P G cells slots F hX h => s_iast hX hd rfl)) ?_
  refine bI_c (fun hd => t_L hX cls_dup (fun ad P G cells slots F hX h => s_dup hX hd rfl)) ?_
  refine bI_c (fun hd => t_L hX cls_ii (fun ad P G cells slots F hX h => s_bp hX hd (by decide) rfl)) ?_
  refine bI_c (fun hd => t_L hX cls_ii (fun ad P G cells slots F hX h => s_bp hX hd (by decide) rfl)) ?_
  refine bI_c (fun hd => t_L hX cls_iast (fun ad P G cells slots F hX h => s_iast hX hd rfl)) ?_
  refine bI_c (fun hd => t_L hX cls_dup (fun ad P G cells slots F hX h => s_dup hX hd rfl)) ?_
  refine bI_c (fun hd => t_L hX cls_ii (fun ad P G cells slots F hX h => s_bp hX hd (by decide) rfl)) ?_
  refine bI_c (fun hd => t_L hX cls_ii (fun ad P G cells slots F hX h => s_bp hX hd (by decide) rfl)) ?_
  refine bI_c (fun hd => t_L hX cls_iast (fun ad P G cells slots F hX h => s_iast hX hd rfl)) ?_
  refine bI_c (fun hd => t_L hX cls_dup (fun ad P G cells slots F hX h => s_dup hX hd rfl)) ?_
  refine bI_c (fun hd => t_L hX cls_ii (fun ad P G cells slots F hX h => s_bp hX hd (by decide) rfl)) ?_
  refine bI_c (fun hd => t_L hX cls_ii (fun ad P G cells slots F hX h => s_bp hX hd (by decide) rfl)) ?_
  refine bI_c (fun hd => t_L hX cls_iast (fun ad P G cells slots F hX h => s_iast hX hd rfl)) ?_
  refine bI_c (fun hd => t_L hX cls_dup (fun ad P G cells slots F hX h => s_dup hX hd rfl)) ?_
  refine bI_c (fun hd => t_L hX cls_ii (fun ad P G cells slots F hX h => s_bp hX hd (by decide) rfl)) ?_
  refine bI_c (fun hd => t_L hX cls_ii (fun ad P G cells slots F hX h => s_bp hX hd (by decide) rfl)) ?_
  refine bI_c (fun hd => t_L hX cls_iast (fun ad P G cells slots F hX h => s_iast hX hd rfl)) ?_
  refine bI_c (fun hd => t_L hX cls_dup (fun ad P G cells slots F hX h => s_dup hX hd rfl)) ?_
  refine bI_c (fun hd => t_L hX cls_ii (fun ad P G cells slots F hX h => s_bp hX hd (by decide) rfl)) ?_
  refine bI_c (fun hd => t_L hX cls_ii (fun ad P G cells slots F hX h => s_bp hX hd (by decide) rfl)) ?_
  refine bI_c (fun hd => t_L hX cls_iast (fun ad P G cells slots F hX h => s_iast hX hd rfl)) ?_
  refine bI_c (fun hd => t_L hX cls_dup (fun ad P G cells slots F hX h => s_dup hX hd rfl)) ?_
  refine bI_c (fun hd => t_L hX cls_ii (fun ad P G cells slots F hX h => s_bp hX hd (by decide) rfl)) ?_
  refine bI_c (fun hd => t_L hX cls_ii (fun ad P G cells slots F hX h => s_bp hX hd (by decide) rfl)) ?_
  refine bI_c (fun hd => t_L hX cls_iast (fun ad P G cells slots F hX h => s_iast hX hd rfl)) ?_
  refine bI_c (fun hd => t_L hX cls_dup (fun ad P G cells slots F hX h => s_dup hX hd rfl)) ?_
  refine bI_c (fun hd => t_L hX cls_ii (fun ad P G cells slots F hX h => s_bp hX hd (by decide) rfl)) ?_
  refine bI_c (fun hd => t_L hX cls_ii (fun ad P G cells slots F hX h => s_bp hX hd (by decide) rfl)) ?_
  refine bI_c (fun hd => t_L hX cls_iast (fun ad P G cells slots F hX h => s_iast hX hd rfl)) ?_
  refine bI_c (fun hd => t_L hX cls_dup (fun ad P G cells slots F hX h => s_dup hX hd rfl)) ?_
  refine bI_c (fun hd => t_L hX cls_ii (fun ad P G cells slots F hX h => s_bp hX hd (by decide) rfl)) ?_
  refine bI_c (fun hd => t_L hX cls_ii (fun ad P G cells slots F hX h => s_bp hX hd (by decide) rfl)) ?_
  refine bI_c (fun hd => t_L hX cls_iast (fun ad P G cells slots F hX h => s_iast hX hd rfl)) ?_
  refine bI_c (fun hd => t_L hX cls_dup (fun ad P G cells slots F hX h => s_dup hX hd rfl)) ?_
  refine bI_c (fun hd => t_L hX cls_ii (fun ad P G cells slots F hX h => s_bp hX hd (by decide) rfl)) ?_
  refine bI_c (fun hd => t_L hX cls_ii (fun ad P G cells slots F hX h => s_bp hX hd (by decide) rfl)) ?_
  refine bI_c (fun hd => t_L hX cls_iast (fun ad P G cells slots F hX h => s_iast hX hd rfl)) ?_
  refine bI_c (fun hd => t_L hX cls_dup (fun ad P G cells slots F hX h => s_dup hX hd rfl)) ?_
  refine bI_c (fun hd => t_L hX cls_ii (fun ad P G cells slots F hX h => s_bp hX hd (by decide) rfl)) ?_
  refine bI_c (fun hd => t_L hX cls_ii (fun ad P G cells slots F hX h => s_bp hX hd (by decide) rfl)) ?_
  refine bI_c (fun hd => t_L hX cls_iast (fun ad P G cells slots F hX h => s_iast hX hd rfl)) ?_
  refine bI_c (fun hd => t_L hX cls_dup (fun ad P G cells slots F hX h => s_dup hX hd rfl)) ?_
  refine bI_c (fun hd => t_L hX cls_ii (fun ad P G cells slots F hX h => s_bp hX hd (by decide) rfl)) ?_
  refine bI_c (fun hd => t_L hX cls_ii (fun ad P G cells slots F hX h => s_bp hX hd (by decide) rfl)) ?_
  refine bI_c (fun hd => t_L hX cls_iast (fun ad P G cells slots F hX h => s_iast hX hd rfl)) ?_
  refine bI_c (fun hd => t_L hX cls_dup (fun ad P G cells slots F hX h => s_dup hX hd rfl)) ?_
  refine bI_c (fun hd => t_L hX cls_ii (fun ad P G cells slots F hX h => s_bp hX hd (by decide) rfl)) ?_
  refine bI_c (fun hd => t_L hX cls_ii (fun ad P G cells slots F hX h => s_bp hX hd (by decide) rfl)) ?_
  refine bI_c (fun hd => t_L hX cls_iast (fun ad P G cells slots F hX h => s_iast hX hd rfl)) ?_
  refine bI_c (fun hd => t_L hX cls_dup (fun ad P G cells slots F hX h => s_dup hX hd rfl)) ?_
  refine bI_c (fun hd => t_L hX cls_ii (fun ad P G cells slots F hX h => s_bp hX hd (by decide) rfl)) ?_
  refine bI_c (fun hd => t_L hX cls_ii (fun ad P G cells slots F hX h => s_bp hX hd (by decide) rfl)) ?_
  refine bI_c (fun hd => t_L hX cls_iast (fun ad P G cells slots F hX h => s_iast hX hd rfl)) ?_
  refine bI_c (fun hd => t_L hX cls_dup (fun ad P G cells slots F hX h => s_dup hX hd rfl)) ?_
  refine bI_c (fun hd => t_L hX cls_ii (fun ad P G cells slots F hX h => s_bp hX hd (by decide) rfl)) ?_
  refine bI_c (fun hd => t_L hX cls_ii (fun ad P G cells slots F hX h => s_bp hX hd (by decide) rfl)) ?_
  refine bI_c (fun hd => t_L hX cls_iast (fun ad P G cells slots F hX h => s_iast hX hd rfl)) ?_
  refine bI_c (fun hd => t_L hX cls_dup (fun ad P G cells slots F hX h => s_dup hX hd rfl)) ?_
  refine bI_c (fun hd => t_L hX cls_ii (fun ad P G cells slots F hX h => s_bp hX hd (by decide) rfl)) ?_
  refine bI_c (fun hd => t_L hX cls_ii (fun ad P G cells slots F hX h => s_bp hX hd (by decide) rfl)) ?_
  refine bI_c (fun hd => t_L hX cls_iast (fun ad P G cells slots F hX h => s_iast hX hd rfl)) ?_
  refine bI_c (fun hd => t_L hX cls_dup (fun ad P G cells slots F hX h => s_dup hX hd rfl)) ?_
  refine bI_c (fun hd => t_L hX cls_ii (fun ad P G cells slots F hX h => s_bp hX hd (by decide) rfl)) ?_
  refine bI_c (fun hd => t_L hX cls_ii (fun ad P G cells slots F hX h => s_bp hX hd (by decide) rfl)) ?_
  refine bI_c (fun hd => t_L hX cls_iast (fun ad P G cells slots F hX h => s_iast hX hd rfl)) ?_
  refine bI_c (fun hd => t_L hX cls_dup (fun ad P G cells slots F hX h => s_dup hX hd rfl)) ?_
  refine bI_c (fun hd => t_L hX cls_ii (fun ad P G cells slots F hX h => s_bp hX hd (by decide) rfl)) ?_
  refine bI_c (fun hd => t_L hX cls_ii (fun ad P G cells slots F hX h => s_bp hX hd (by decide) rfl)) ?_
  refine bI_c (fun hd => t_L hX cls_iast (fun ad P G cells slots F hX h => s_iast hX hd rfl)) ?_
  refine bI_c (fun hd => t_L hX cls_dup (fun ad P G cells slots F hX h => s_dup hX hd rfl)) ?_
  refine bI_c (fun hd => t_L hX cls_ii (fun ad P G cells slots F hX h => s_bp hX hd (by decide) rfl)) ?_
  refine bI_c (fun hd => t_L hX cls_ii (fun ad P G cells slots F hX h => s_bp hX hd (by decide) rfl)) ?_
  refine bI_c (fun hd => t_L hX cls_iast (fun ad P G cells slots F hX h => s_iast hX hd rfl)) ?_
  refine bI_c (fun hd => t_L hX cls_dup (fun ad P G cells slots F hX h => s_dup hX hd rfl)) ?_
  refine bI_c (fun hd => t_L hX cls_ii (fun ad P G cells slots F hX h => s_bp hX hd (by decide) rfl)) ?_
  refine bI_c (fun hd => t_L hX cls_ii (fun ad P G cells slots F hX h => s_bp hX hd (by decide) rfl)) ?_
  refine bI_c (fun hd => t_L hX cls_iast (fun ad P G cells slots F hX h => s_iast hX hd rfl)) ?_
  refine bI_c (fun hd => t_L hX cls_dup (fun ad P G cells slots F hX h => s_dup hX hd rfl)) ?_
  refine bI_c (fun hd => t_L hX cls_ii (fun ad P G cells slots F hX h => s_bp hX hd (by decide) rfl)) ?_
  refine bI_c (fun hd => t_L hX cls_ii (fun ad P G cells slots F hX h => s_bp hX hd (by decide) rfl)) ?_
  refine bI_c (fun hd => t_L hX cls_iast (fun ad P G cells slots F hX h => s_iast hX hd rfl)) ?_
  refine bI_c (fun hd => t_L hX cls_dup (fun ad P G cells slots F hX h => s_dup hX hd rfl)) ?_
  refine bI_c (fun hd => t_L hX cls_ii (fun ad P G cells slots F hX h => s_bp hX hd (by decide) rfl)) ?_
  refine bI_c (fun hd => t_L hX cls_ii (fun ad P G cells slots F hX h => s_bp hX hd (by decide) rfl)) ?_
  refine bI_c (fun hd => t_L hX cls_iast (fun ad P G cells slots F hX h => s_iast hX hd rfl)) ?_
  refine bI_c (fun hd => t_L hX cls_dup (fun ad P G cells slots F hX h => s_dup hX hd rfl)) ?_
  refine bI_c (fun hd => t_L hX cls_ii (fun ad P G cells slots F hX h => s_bp hX hd (by decide) rfl)) ?_
  refine bI_c (fun hd => t_L hX cls_ii (fun ad P G cells slots F hX h => s_bp hX hd (by decide) rfl)) ?_
  refine bI_c (fun hd => t_L hX cls_iast (fun ad P G cells slots F hX h => s_iast hX hd rfl)) ?_
  refine bI_c (fun hd => t_L hX cls_dup (fun ad P G cells slots F hX h => s_dup hX hd rfl)) ?_
  refine bI_c (fun hd => t_L hX cls_ii (fun ad P G cells slots F hX h => s_bp hX hd (by decide) rfl)) ?_
  refine bI_c (fun hd => t_L hX cls_ii (fun ad P G cells slots F hX h => s_bp hX hd (by decide) rfl)) ?_
  refine bI_c (fun hd => t_L hX cls_iast (fun ad P G cells slots F hX h => s_iast hX hd rfl)) ?_
  refine bI_c (fun hd => t_L hX cls_dup (fun ad P G cells slots F hX h => s_dup hX hd rfl)) ?_
  refine bI_c (fun hd => t_L hX cls_ii (fun ad P G cells slots F hX h => s_bp hX hd (by decide) rfl)) ?_
  refine bI_c (fun hd => t_L hX cls_ii (fun ad P G cells slots F hX h => s_bp hX hd (by decide) rfl)) ?_
  refine bI_c (fun hd => t_L hX cls_iast (fun ad P G cells slots F hX h => s_iast hX hd rfl)) ?_
  refine bI_c (fun hd => t_L hX cls_dup (fun ad P G cells slots F hX h => s_dup hX hd rfl)) ?_
  refine bI_c (fun hd => t_L hX cls_ii (fun ad P G cells slots F hX h => s_bp hX hd (by decide) rfl)) ?_
  refine bI_c (fun hd => t_L hX cls_ii (fun ad P G cells slots F hX h => s_bp hX hd (by decide) rfl)) ?_
  refine bI_c (fun hd => t_L hX cls_iast (fun ad P G cells slots F hX h => s_iast hX hd rfl)) ?_
  refine bI_c (fun hd => t_L hX cls_dup (fun ad P G cells slots F hX h => s_dup hX hd rfl)) ?_
  refine bI_c (fun hd => t_L hX cls_ii (fun ad P G cells slots F hX h => s_bp hX hd (by decide) rfl)) ?_
  refine bI_c (fun hd => t_L hX cls_ii (fun ad P G cells slots F hX h => s_bp hX hd (by decide) rfl)) ?_
  refine bI_c (fun hd => t_L hX cls_iast (fun ad P G cells slots F hX h => s_iast hX hd rfl)) ?_
  refine bI_c (fun hd => t_L hX cls_dup (fun ad P G cells slots F hX h => s_dup hX hd rfl)) ?_
  refine bI_c (fun hd => t_L hX cls_ii (fun ad P G cells slots F hX h => s_bp hX hd (by decide) rfl)) ?_
  refine bI_c (fun hd => t_L hX cls_ii (fun ad P G cells slots F hX h => s_bp hX hd (by decide) rfl)) ?_
  refine bI_c (fun hd => t_L hX cls_iast (fun ad P G cells slots F hX h => s_iast hX hd rfl)) ?_
  refine bI_c (fun hd => t_L hX cls_dup (fun ad P G cells slots F hX h => s_dup hX hd rfl)) ?_
  refine bI_c (fun hd => t_L hX cls_ii (fun ad P G cells slots F hX h => s_bp hX hd (by decide) rfl)) ?_
  refine bI_c (fun hd => t_L hX cls_ii (fun ad P G cells slots F hX h => s_bp hX hd (by decide) rfl)) ?_
  refine bI_c (fun hd => t_L hX cls_iast (fun ad P G cells slots F hX h => s_iast hX hd rfl)) ?_
  refine bI_c (fun hd => t_L hX cls_dup (fun ad P G cells slots F hX h => s_dup hX hd rfl)) ?_
  refine bI_c (fun hd => t_L hX cls_ii (fun ad P G cells slots F hX h => s_bp hX hd (by decide) rfl)) ?_
  refine bI_c (fun hd => t_L hX cls_ii (fun ad P G cells slots F hX h => s_bp hX hd (by decide) rfl)) ?_
  refine bI_c (fun hd => t_L hX cls_iast (fun ad P G cells slots F hX h => s_iast hX hd rfl)) ?_
  refine bI_c (fun hd => t_L hX cls_dup (fun ad P G cells slots F hX h => s_dup hX hd rfl)) ?_
  refine bI_c (fun hd => t_L hX cls_ii (fun ad P G cells slots F hX h => s_bp hX hd (by decide) rfl)) ?_
  refine bI_c (fun hd => t_L hX cls_ii (fun ad P G cells slots F hX h => s_bp hX hd (by decide) rfl)) ?_
  refine bI_c (fun hd => t_L hX cls_iast (fun ad P G cells slots F hX h => s_iast hX hd rfl)) ?_
  refine bI_c (fun hd => t_L hX cls_dup (fun ad P G cells slots F hX h => s_dup hX hd rfl)) ?_
  refine bI_c (fun hd => t_L hX cls_ii (fun ad P G cells slots F hX h => s_bp hX hd (by decide) rfl)) ?_
  refine bI_c (fun hd => t_L hX cls_ii (fun ad P G cells slots F hX h => s_bp hX hd (by decide) rfl)) ?_
  refine bI_c (fun hd => t_L hX cls_iast (fun ad P G cells slots F hX h => s_iast hX hd rfl)) ?_
  refine bI_c (fun hd => t_L hX cls_dup (fun ad P G cells slots F hX h => s_dup hX hd rfl)) ?_
  refine bI_c (fun hd => t_L hX cls_ii (fun ad P G cells slots F hX h => s_bp hX hd (by decide) rfl)) ?_
  refine bI_c (fun hd => t_L hX cls_ii (fun ad P G cells slots F hX h => s_bp hX hd (by decide) rfl)) ?_
  refine bI_c (fun hd => t_L hX cls_iast (fun ad P G cells slots F hX h => s_iast hX hd rfl)) ?_
  refine bI_c (fun hd => t_L hX cls_dup (fun ad P G cells slots F hX h => s_dup hX hd rfl)) ?_
  refine bI_c (fun hd => t_L hX cls_ii (fun ad P G cells slots F hX h => s_bp hX hd (by decide) rfl)) ?_
  refine bI_c (fun hd => t_L hX cls_ii (fun ad P G cells slots F hX h => s_bp hX hd (by decide) rfl)) ?_
  refine bI_c (fun hd => t_L hX cls_iast (fun ad P G cells slots F hX h => s_iast hX hd rfl)) ?_
  refine bI_c (fun hd => t_L hX cls_dup (fun ad P G cells slots F hX h => s_dup hX hd rfl)) ?_
  refine bI_c (fun hd => t_L hX cls_ii (fun ad P G cells slots F hX h => s_bp hX hd (by decide) rfl)) ?_
  refine bI_c (fun hd => t_L hX cls_ii (fun ad P G cells slots F hX h => s_bp hX hd (by decide) rfl)) ?_
  refine bI_c (fun hd => t_L hX cls_iast (fun ad P G cells slots F hX h => s_iast hX hd rfl)) ?_
  refine bI_c (fun hd => t_L hX cls_dup (fun ad P G cells slots F hX h => s_dup hX hd rfl)) ?_
  refine bI_c (fun hd => t_L hX cls_ii (fun ad P G cells slots F hX h => s_bp hX hd (by decide) rfl)) ?_
  refine bI_c (fun hd => t_L hX cls_ii (fun ad P G cells slots F hX h => s_bp hX hd (by decide) rfl)) ?_
  refine bI_c (fun hd => t_L hX cls_iast (fun ad P G cells slots F hX h => s_iast hX hd rfl)) ?_
  refine bI_c (fun hd => t_L hX cls_dup (fun ad P G cells slots F hX h => s_dup hX hd rfl)) ?_
  refine bI_c (fun hd => t_L hX cls_ii (fun ad P G cells slots F hX h => s_bp hX hd (by decide) rfl)) ?_
  refine bI_c (fun hd => t_L hX cls_ii (fun ad P G cells slots F hX h => s_bp hX hd (by decide) rfl)) ?_
  refine bI_c (fun hd => t_L hX cls_iast (fun ad P G cells slots F hX h => s_iast hX hd rfl)) ?_
  refine bI_c (fun hd => t_L hX cls_dup (fun ad P G cells slots F hX h => s_dup hX hd rfl)) ?_
  refine bI_c (fun hd => t_L hX cls_ii (fun ad P G cells slots F hX h => s_bp hX hd (by decide) rfl)) ?_
  refine bI_c (fun hd => t_L hX cls_ii (fun ad P G cells slots F hX h => s_bp hX hd (by decide) rfl)) ?_
  refine bI_c (fun hd => t_L hX cls_iast (fun ad P G cells slots F hX h => s_iast hX hd rfl)) ?_
  refine bI_c (fun hd => t_L hX cls_dup (fun ad P G cells slots F hX h => s_dup hX hd rfl)) ?_
  refine bI_c (fun hd => t_L hX cls_ii (fun ad P G cells slots F hX h => s_bp hX hd (by decide) rfl)) ?_
  refine bI_c (fun hd => t_L hX cls_ii (fun ad P G cells slots F hX h => s_bp hX hd (by decide) rfl)) ?_
  refine bI_c (fun hd => t_L hX cls_iast (fun ad P G cells slots F hX h => s_iast hX hd rfl)) ?_
  refine bI_c (fun hd => t_L hX cls_dup (fun ad P G cells slots F hX h => s_dup hX hd rfl)) ?_
  refine bI_c (fun hd => t_L hX cls_ii (fun ad P G cells slots F hX h => s_bp hX hd (by decide) rfl)) ?_
  refine bI_c (fun hd => t_L hX cls_ii (fun ad P G cells slots F hX h => s_bp hX hd (by decide) rfl)) ?_
  refine bI_c (fun hd => t_L hX cls_iast (fun ad P G cells slots F hX h => s_iast hX hd rfl)) ?_
  refine bI_c (fun hd => t_L hX cls_dup (fun ad P G cells slots F hX h => s_dup hX hd rfl)) ?_
  refine bI_c (fun hd => t_L hX cls_ii (fun ad P G cells slots F hX h => s_bp hX hd (by decide) rfl)) ?_
  refine bI_c (fun hd => t_L hX cls_ii (fun ad P G cells slots F hX h => s_bp hX hd (by decide) rfl)) ?_
  refine bI_c (fun hd => t_L hX cls_iast (fun ad P G cells slots F hX h => s_iast hX hd rfl)) ?_
  refine bI_c (fun hd => t_L hX cls_dup (fun ad P G cells slots F hX h => s_dup hX hd rfl)) ?_
  refine bI_c (fun hd => t_L hX cls_ii (fun ad P G cells slots F hX h => s_bp hX hd (by decide) rfl)) ?_
  refine bI_c (fun hd => t_L hX cls_ii (fun ad P G cells slots F hX h => s_bp hX hd (by decide) rfl)) ?_
  refine bI_c (fun hd => t_L hX cls_iast (fun ad P G cells slots F hX h => s_iast hX hd rfl)) ?_
  refine bI_c (fun hd => t_L hX cls_dup (fun ad P G cells slots F hX h => s_dup hX hd rfl)) ?_
  refine bI_c (fun hd => t_L hX cls_ii (fun ad P G cells slots F hX h => s_bp hX hd (by decide) rfl)) ?_
  refine bI_c (fun hd => t_L hX cls_ii (fun ad P G cells slots F hX h => s_bp hX hd (by decide) rfl)) ?_
  refine bI_c (fun hd => t_L hX cls_iast (fun ad P G cells slots F hX h => s_iast hX hd rfl)) ?_
  refine bI_c (fun hd => t_L hX cls_dup (fun ad P G cells slots F hX h => s_dup hX hd rfl)) ?_
  refine bI_c (fun hd => t_L hX cls_ii (fun ad P G cells slots F hX h => s_bp hX hd (by decide) rfl)) ?_
  refine bI_c (fun hd => t_L hX cls_ii (fun ad P G cells slots F hX h => s_bp hX hd (by decide) rfl)) ?_
  refine bI_c (fun hd => t_L hX cls_iast (fun ad P G cells slots F hX h => s_iast hX hd rfl)) ?_
  refine bI_c (fun hd => t_L hX cls_dup (fun ad P G cells slots F hX h => s_dup hX hd rfl)) ?_
  refine bI_c (fun hd => t_L hX cls_ii (fun ad P G cells slots F hX h => s_bp hX hd (by decide) rfl)) ?_
  refine bI_c (fun hd => t_L hX cls_ii (fun ad P G cells slots F hX h => s_bp hX hd (by decide) rfl)) ?_
  refine bI_c (fun hd => t_L hX cls_iast (fun ad P G cells slots F hX h => s_iast hX hd rfl)) ?_
  refine bI_c (fun hd => t_L hX cls_dup (fun ad P G cells slots F hX h => s_dup hX hd rfl)) ?_
  refine bI_c (fun hd => t_L hX cls_ii (fun ad P G cells slots F hX h => s_bp hX hd (by decide) rfl)) ?_
  refine bI_c (fun hd => t_L hX cls_ii (fun ad P G cells slots F hX h => s_bp hX hd (by decide) rfl)) ?_
  refine bI_c (fun hd => t_L hX cls_iast (fun ad P G cells slots F hX h => s_iast hX hd rfl)) ?_
  refine bI_c (fun hd => t_L hX cls_dup (fun ad P G cells slots F hX h => s_dup hX hd rfl)) ?_
  refine bI_c (fun hd => t_L hX cls_ii (fun ad P G cells slots F hX h => s_bp hX hd (by decide) rfl)) ?_
  refine bI_c (fun hd => t_L hX cls_ii (fun ad P G cells slots F hX h => s_bp hX hd (by decide) rfl)) ?_
  refine bI_c (fun hd => t_L hX cls_iast (fun ad P G cells slots F hX h => s_iast hX hd rfl)) ?_
  refine bI_c (fun hd => t_L hX cls_dup (fun ad P G cells slots F hX h => s_dup hX hd rfl)) ?_
  refine bI_c (fun hd => t_L hX cls_ii (fun ad P G cells slots F hX h => s_bp hX hd (by decide) rfl)) ?_
  refine bI_c (fun hd => t_L hX cls_ii (fun ad P G cells slots F hX h => s_bp hX hd (by decide) rfl)) ?_
  refine bI_c (fun hd => t_L hX cls_iast (fun ad P G cells slots F hX h => s_iast hX hd rfl)) ?_
  refine bI_c (fun hd => t_L hX cls_dup (fun ad P G cells slots F hX h => s_dup hX hd rfl)) ?_
  refine bI_c (fun hd => t_L hX cls_ii (fun ad P G cells slots F hX h => s_bp hX hd (by decide) rfl)) ?_
  refine bI_c (fun hd => t_L hX cls_ii (fun ad P G cells slots F hX h => s_bp hX hd (by decide) rfl)) ?_
  refine bI_c (fun hd => t_L hX cls_iast (fun ad P G cells slots F hX h => s_iast hX hd rfl)) ?_
  refine bI_c (fun hd => t_L hX cls_dup (fun ad P G cells slots F hX h => s_dup hX hd rfl)) ?_
  refine bI_c (fun hd => t_L hX cls_ii (fun ad P G cells slots F hX h => s_bp hX hd (by decide) rfl)) ?_
  refine bI_c (fun hd => t_L hX cls_ii (fun ad P G cells slots F hX h => s_bp hX hd (by decide) rfl)) ?_
  refine bI_c (fun hd => t_L hX cls_iast (fun ad P G cells slots F hX h => s_iast hX hd rfl)) ?_
  refine bI_c (fun hd => t_pwR hX (C := RX5) (T := TX5) (N := 35) (k := 24) rfl rfl (fun w h => up w (inlX5 w h)) (by decide) (by decide) tyX5 tyX5_ok nmX5 (Or.inr ⟨rfl, hnm, rfl⟩) (fun a => ⟨rfl, rfl⟩) rfl (up _ lkX5_49) hd rfl) ?_
  refine bI_c (fun hd => t_L hX cls_al (fun ad P G cells slots F hX h => s_al_n hX hd rfl rfl)) ?_
  refine bI_c (fun hd => t_L hX cls_ii (fun ad P G cells slots F hX h => s_sp hX hd (by decide) rfl)) ?_
  refine bI_c (fun hd => t_nwa hX rfl (up _ mw3) hd rfl) ?_
  refine bI_c (fun hd => t_pwR hX (C := RX5) (T := TX5) (N := 35) (k := 25) rfl rfl (fun w h => up w (inlX5 w h)) (by decide) (by decide) tyX5 tyX5_ok nmX5 (Or.inr ⟨rfl, hnm, rfl⟩) (fun a => ⟨rfl, rfl⟩) rfl (up _ lkX5_52) hd rfl) ?_
  refine bI_c (fun hd => t_L hX cls_al (fun ad P G cells slots F hX h => s_al_n hX hd rfl rfl)) ?_
  refine bI_c (fun hd => t_L hX cls_ii (fun ad P G cells slots F hX h => s_sp hX hd (by decide) rfl)) ?_
  refine bI_c (fun hd => t_nwa hX rfl (up _ mw3) hd rfl) ?_
  refine bI_c (fun hd => t_pwR hX (C := RX5) (T := TX5) (N := 35) (k := 29) rfl rfl (fun w h => up w (inlX5 w h)) (by decide) (by decide) tyX5 tyX5_ok nmX5 (Or.inr ⟨rfl, hnm, rfl⟩) (fun a => ⟨rfl, rfl⟩) rfl (up _ lkX5_55) hd rfl) ?_
  refine bI_c (fun hd => t_L hX cls_al (fun ad P G cells slots F hX h => s_al_n hX hd rfl rfl)) ?_
  refine bI_c (fun hd => t_L hX cls_ii (fun ad P G cells slots F hX h => s_bp hX hd (by decide) rfl)) ?_
  refine bI_c (fun hd => t_nwa hX rfl (up _ mw3) hd rfl) ?_
  refine bI_c (fun hd => t_pwR hX (C := RX5) (T := TX5) (N := 35) (k := 30) rfl rfl (fun w h => up w (inlX5 w h)) (by decide) (by decide) tyX5 tyX5_ok nmX5 (Or.inr ⟨rfl, hnm, rfl⟩) (fun a => ⟨rfl, rfl⟩) rfl (up _ lkX5_58) hd rfl) ?_
  refine bI_c (fun hd => t_L hX cls_al (fun ad P G cells slots F hX h => s_al_n hX hd rfl rfl)) ?_
  refine bI_c (fun hd => t_L hX cls_ii (fun ad P G cells slots F hX h => s_bp hX hd (by decide) rfl)) ?_
  refine bI_c (fun hd => t_nwa hX rfl (up _ mw3) hd rfl) ?_
  refine bI_c (fun hd => t_pwR hX (C := RX5) (T := TX5) (N := 35) (k := 31) rfl rfl (fun w h => up w (inlX5 w h)) (by decide) (by decide) tyX5 tyX5_ok nmX5 (Or.inr ⟨rfl, hnm, rfl⟩) (fun a => ⟨rfl, rfl⟩) rfl (up _ lkX5_61) hd rfl) ?_
  refine bI_c (fun hd => t_L hX cls_al (fun ad P G cells slots F hX h => s_al_n hX hd rfl rfl)) ?_
  refine bI_c (fun hd => t_L hX cls_ii (fun ad P G cells slots F hX h => s_sp hX hd (by decide) rfl)) ?_
  refine bI_c (fun hd => t_nwa hX rfl (up _ mw3) hd rfl) ?_
  refine bI_c (fun hd => t_pwR hX (C := RX5) (T := TX5) (N := 35) (k := 32) rfl rfl (fun w h => up w (inlX5 w h)) (by decide) (by decide) tyX5 tyX5_ok nmX5 (Or.inr ⟨rfl, hnm, rfl⟩) (fun a => ⟨rfl, rfl⟩) rfl (up _ lkX5_64) hd rfl) ?_
  refine bI_c (fun hd => t_L hX cls_al (fun ad P G cells slots F hX h => s_al_n hX hd rfl rfl)) ?_
  refine bI_c (fun hd => t_L hX cls_ii (fun ad P G cells slots F hX h => s_bp hX hd (by decide) rfl)) ?_
  refine bI_c (fun hd => t_nwa hX rfl (up _ mw3) hd rfl) ?_
  refine bI_c (fun hd => t_pwR hX (C := RX5) (T := TX5) (N := 35) (k := 33) rfl rfl (fun w h => up w (inlX5 w h)) (by decide) (by decide) tyX5 tyX5_ok nmX5 (Or.inr ⟨rfl, hnm, rfl⟩) (fun a => ⟨rfl, rfl⟩) rfl (up _ lkX5_67) hd rfl) ?_
  refine bI_c (fun hd => t_mk (t_L hX cls_ii (fun ad P G cells slots F hX h => s_ii hX hd (by decide) rfl))) ?_
  refine bI_c (fun hd => t_L hX cls_is (fun ad P G cells slots F hX h => s_is_n hX hd rfl rfl (by decide))) ?_
  refine bI_c (fun hd => t_L hX cls_il (fun ad P G cells slots F hX h => s_il_n hX hd rfl rfl)) ?_
  refine bI_c (fun hd => t_L hX cls_ii (fun ad P G cells slots F hX h => s_bp hX hd (by decide) rfl)) ?_
  refine bI_c (fun hd => t_L hX cls_ic (fun ad P G cells slots F hX h => s_ic_ge hX hd (by decide) rfl)) ?_
  refine bI_c (fun hd => t_L hX cls_al (fun ad P G cells slots F hX h => s_al_n hX hd rfl rfl)) ?_
  refine bI_c (fun hd => t_L hX (cls_gF 7 rfl (Nat.le_of_ble_eq_true rfl)) (fun ad P G cells slots F hX h => s_gF hX (C := RX5) (T := TX5) (N := 35) (k := 7) rfl (fun w h => up w (inlX5 w h)) (by decide) rfl rfl rfl (up _ lkX5_22) hd rfl)) ?_
  refine bI_c (fun hd => t_L hX cls_il (fun ad P G cells slots F hX h => s_il_n hX hd rfl rfl)) ?_
  refine bI_c (fun hd => t_L hX cls_al (fun ad P G cells slots F hX h => s_al_n hX hd rfl rfl)) ?_
  refine bI_c (fun hd => t_L hX (cls_gF 19 rfl (Nat.le_of_ble_eq_true rfl)) (fun ad P G cells slots F hX h => s_gF hX (C := RX5) (T := TX5) (N := 35) (k := 19) rfl (fun w h => up w (inlX5 w h)) (by decide) rfl rfl rfl (up _ lkX5_46) hd rfl)) ?_
  refine bI_c (fun hd => t_L hX cls_il (fun ad P G cells slots F hX h => s_il_n hX hd rfl rfl)) ?_
  refine bI_c (fun hd => t_L hX cls_iald (fun ad P G cells slots F hX h => s_iald hX hd rfl)) ?_
  refine bI_c (fun hd => t_L hX cls_iast (fun ad P G cells slots F hX h => s_iast hX hd rfl)) ?_
  refine bI_c (fun hd => t_L hX cls_inc (fun ad P G cells slots F hX h => s_inc hX hd (by decide) rfl (by decide))) ?_
  refine bI_c (fun hd => t_L hX cls_go (fun ad P G cells slots F hX h => s_go hX hd (by decide))) ?_
  refine bI_c (fun hd => t_L hX cls_al (fun ad P G cells slots F hX h => s_al_n hX hd rfl rfl)) ?_
  refine bI_c (fun hd => t_L hX cls_ii (fun ad P G cells slots F hX h => s_bp hX hd (by decide) rfl)) ?_
  refine bI_c (fun hd => t_L hX cls_pI (fun ad P G cells slots F hX h => s_pI hX (C := RX5) (T := TX5) (N := 35) (k := 8) rfl (fun w h => up w (inlX5 w h)) (by decide) rfl rfl tyX5 tyX5_ok nmX5 rfl rfl rfl (up _ lkX5_70) hd rfl)) ?_
  refine bI_c (fun hd => t_L hX cls_al (fun ad P G cells slots F hX h => s_al_n hX hd rfl rfl)) ?_
  refine bI_c (fun hd => t_L hX (cls_cV zX5_text) (fun ad P G cells slots F hX h => s_cV hX (T := TX5) (N := 35) (nX5_text l) rfl (wg_V up lmX5_74 loX5_text) rfl rfl rfl (by decide +kernel) ⟨by decide, by decide⟩ h hd rfl)) ?_
  refine bI_c (fun hd => t_L hX cls_pop (fun ad P G cells slots F hX h => s_pop hX hd rfl)) ?_
  refine bI_c (fun hd => t_rv hX hr hlk hE hd) ?_
  exact trivial
