/-! soundness: arithmetic, branches -/
section AS2
variable {p : Program} {l : Launch} {e : Env} {R : Room} {s : State} {m : MethodId} {args : Array Value} {below : List Frame} {meth : Method} {c : Code} {cells slots : Nat} {Q : State → Prop} {cc : ByteArray} {own : String} {Ts : List Cond} {nL : Nat} {D : va_G} {Z : aZ} {ad : Nat → Nat} {P : List Nat} {G : Nat → Nat × Nat} {A : Nat → Prop} {E : aR} {pc nx : Nat}
theorem s_iadd (hX : aX p s m args c cc own Ts nL D Z ad P G A) (hd : decode cc pc = .ok (.iadd, 1)) (hn : pc + 1 = nx) : aSd p l e R s m args below meth c cells slots Q nL D Z ad P G A E (o_bi (fun x y => x + y) nx) pc := by
  subst hn
  intro L st μ K h hK H locs ls hL hG hl hP hS
  unfold o_bi at h
  split at h
  · exact lv_iadd hX.1 hX.2.1 hd (hK _ _ _ _ h H locs ls hL hG hl hP hS)
  · exact h.elim
theorem s_isub (hX : aX p s m args c cc own Ts nL D Z ad P G A) (hd : decode cc pc = .ok (.isub, 1)) (hn : pc + 1 = nx) : aSd p l e R s m args below meth c cells slots Q nL D Z ad P G A E (o_bi (fun x y => x - y) nx) pc := by
  subst hn
  intro L st μ K h hK H locs ls hL hG hl hP hS
  unfold o_bi at h
  split at h
  · exact lv_isub hX.1 hX.2.1 hd (hK _ _ _ _ h H locs ls hL hG hl hP hS)
  · exact h.elim
theorem s_imul (hX : aX p s m args c cc own Ts nL D Z ad P G A) (hd : decode cc pc = .ok (.imul, 1)) (hn : pc + 1 = nx) : aSd p l e R s m args below meth c cells slots Q nL D Z ad P G A E (o_bi (fun x y => x * y) nx) pc := by
  subst hn
  intro L st μ K h hK H locs ls hL hG hl hP hS
  unfold o_bi at h
  split at h
  · exact lv_imul hX.1 hX.2.1 hd (hK _ _ _ _ h H locs ls hL hG hl hP hS)
  · exact h.elim
theorem s_iand (hX : aX p s m args c cc own Ts nL D Z ad P G A) (hd : decode cc pc = .ok (.iand, 1)) (hn : pc + 1 = nx) : aSd p l e R s m args below meth c cells slots Q nL D Z ad P G A E (o_bi (fun x y => x &&& y) nx) pc := by
  subst hn
  intro L st μ K h hK H locs ls hL hG hl hP hS
  unfold o_bi at h
  split at h
  · exact lv_iand hX.1 hX.2.1 hd (hK _ _ _ _ h H locs ls hL hG hl hP hS)
  · exact h.elim
theorem s_ior (hX : aX p s m args c cc own Ts nL D Z ad P G A) (hd : decode cc pc = .ok (.ior, 1)) (hn : pc + 1 = nx) : aSd p l e R s m args below meth c cells slots Q nL D Z ad P G A E (o_bi (fun x y => x ||| y) nx) pc := by
  subst hn
  intro L st μ K h hK H locs ls hL hG hl hP hS
  unfold o_bi at h
  split at h
  · exact lv_ior hX.1 hX.2.1 hd (hK _ _ _ _ h H locs ls hL hG hl hP hS)
  · exact h.elim
theorem s_ixor (hX : aX p s m args c cc own Ts nL D Z ad P G A) (hd : decode cc pc = .ok (.ixor, 1)) (hn : pc + 1 = nx) : aSd p l e R s m args below meth c cells slots Q nL D Z ad P G A E (o_bi (fun x y => x ^^^ y) nx) pc := by
  subst hn
  intro L st μ K h hK H locs ls hL hG hl hP hS
  unfold o_bi at h
  split at h
  · exact lv_ixor hX.1 hX.2.1 hd (hK _ _ _ _ h H locs ls hL hG hl hP hS)
  · exact h.elim
theorem s_ishl (hX : aX p s m args c cc own Ts nL D Z ad P G A) (hd : decode cc pc = .ok (.ishl, 1)) (hn : pc + 1 = nx) : aSd p l e R s m args below meth c cells slots Q nL D Z ad P G A E (o_bi (fun x y => x <<< (y &&& 31)) nx) pc := by
  subst hn
  intro L st μ K h hK H locs ls hL hG hl hP hS
  unfold o_bi at h
  split at h
  · exact lv_ishl hX.1 hX.2.1 hd (hK _ _ _ _ h H locs ls hL hG hl hP hS)
  · exact h.elim
theorem s_ishr (hX : aX p s m args c cc own Ts nL D Z ad P G A) (hd : decode cc pc = .ok (.ishr, 1)) (hn : pc + 1 = nx) : aSd p l e R s m args below meth c cells slots Q nL D Z ad P G A E (o_bi (fun x y => x >>> (y &&& 31)) nx) pc := by
  subst hn
  intro L st μ K h hK H locs ls hL hG hl hP hS
  unfold o_bi at h
  split at h
  · exact lv_ishr hX.1 hX.2.1 hd (hK _ _ _ _ h H locs ls hL hG hl hP hS)
  · exact h.elim
theorem s_iushr (hX : aX p s m args c cc own Ts nL D Z ad P G A) (hd : decode cc pc = .ok (.iushr, 1)) (hn : pc + 1 = nx) : aSd p l e R s m args below meth c cells slots Q nL D Z ad P G A E (o_bi (fun x y => (x.toUInt32 >>> (y.toUInt32 &&& Int32.toUInt32 31)).toInt32) nx) pc := by
  subst hn
  intro L st μ K h hK H locs ls hL hG hl hP hS
  unfold o_bi at h
  split at h
  · exact lv_iushr hX.1 hX.2.1 hd rfl (hK _ _ _ _ h H locs ls hL hG hl hP hS)
  · exact h.elim
theorem s_ineg (hX : aX p s m args c cc own Ts nL D Z ad P G A) (hd : decode cc pc = .ok (.ineg, 1)) (hn : pc + 1 = nx) : aSd p l e R s m args below meth c cells slots Q nL D Z ad P G A E (o_ui (fun x => -x) nx) pc := by
  subst hn
  intro L st μ K h hK H locs ls hL hG hl hP hS
  unfold o_ui at h
  split at h
  · exact lv_ineg hX.1 hX.2.1 hd (hK _ _ _ _ h H locs ls hL hG hl hP hS)
  · exact h.elim
theorem s_i2b (hX : aX p s m args c cc own Ts nL D Z ad P G A) (hd : decode cc pc = .ok (.i2b, 1)) (hn : pc + 1 = nx) : aSd p l e R s m args below meth c cells slots Q nL D Z ad P G A E (o_ui (fun x => x.toInt8.toInt32) nx) pc := by
  subst hn
  intro L st μ K h hK H locs ls hL hG hl hP hS
  unfold o_ui at h
  split at h
  · exact lv_i2b hX.1 hX.2.1 hd rfl (hK _ _ _ _ h H locs ls hL hG hl hP hS)
  · exact h.elim
theorem s_i2s (hX : aX p s m args c cc own Ts nL D Z ad P G A) (hd : decode cc pc = .ok (.i2s, 1)) (hn : pc + 1 = nx) : aSd p l e R s m args below meth c cells slots Q nL D Z ad P G A E (o_ui (fun x => x.toInt16.toInt32) nx) pc := by
  subst hn
  intro L st μ K h hK H locs ls hL hG hl hP hS
  unfold o_ui at h
  split at h
  · exact lv_i2s hX.1 hX.2.1 hd rfl (hK _ _ _ _ h H locs ls hL hG hl hP hS)
  · exact h.elim
theorem s_idiv (hX : aX p s m args c cc own Ts nL D Z ad P G A) (hd : decode cc pc = .ok (.idiv, 1)) (hn : pc + 1 = nx) : aSd p l e R s m args below meth c cells slots Q nL D Z ad P G A E (o_dv nx) pc := by
  subst hn
  intro L st μ K h hK H locs ls hL hG hl hP hS
  unfold o_dv at h
  split at h
  · obtain ⟨h0, h⟩ := h
    exact lv_idiv hX.1 hX.2.1 hd h0 (hK _ _ _ _ h H locs ls hL hG hl hP hS)
  · exact h.elim
theorem s_irem (hX : aX p s m args c cc own Ts nL D Z ad P G A) (hd : decode cc pc = .ok (.irem, 1)) (hn : pc + 1 = nx) : aSd p l e R s m args below meth c cells slots Q nL D Z ad P G A E (o_rm nx) pc := by
  subst hn
  intro L st μ K h hK H locs ls hL hG hl hP hS
  unfold o_rm at h
  split at h
  · obtain ⟨h0, h⟩ := h
    exact lv_irem hX.1 hX.2.1 hd h0 (hK _ _ _ _ h H locs ls hL hG hl hP hS)
  · exact h.elim
theorem s_ldiv (hX : aX p s m args c cc own Ts nL D Z ad P G A) (hd : decode cc pc = .ok (.ldiv, 1)) (hn : pc + 1 = nx) : aSd p l e R s m args below meth c cells slots Q nL D Z ad P G A E (o_ldv nx) pc := by
  subst hn
  intro L st μ K h hK H locs ls hL hG hl hP hS
  unfold o_ldv at h
  split at h
  · obtain ⟨h0, h⟩ := h
    exact lv_ldiv hX.1 hX.2.1 hd h0 (hK _ _ _ _ h H locs ls hL hG hl hP hS)
  · exact h.elim
theorem s_lrem (hX : aX p s m args c cc own Ts nL D Z ad P G A) (hd : decode cc pc = .ok (.lrem, 1)) (hn : pc + 1 = nx) : aSd p l e R s m args below meth c cells slots Q nL D Z ad P G A E (o_lrm nx) pc := by
  subst hn
  intro L st μ K h hK H locs ls hL hG hl hP hS
  unfold o_lrm at h
  split at h
  · obtain ⟨h0, h⟩ := h
    exact lv_lrem hX.1 hX.2.1 hd h0 (hK _ _ _ _ h H locs ls hL hG hl hP hS)
  · exact h.elim
theorem s_ladd (hX : aX p s m args c cc own Ts nL D Z ad P G A) (hd : decode cc pc = .ok (.ladd, 1)) (hn : pc + 1 = nx) : aSd p l e R s m args below meth c cells slots Q nL D Z ad P G A E (o_bl (fun x y => x + y) nx) pc := by
  subst hn
  intro L st μ K h hK H locs ls hL hG hl hP hS
  unfold o_bl at h
  split at h
  · exact lv_ladd hX.1 hX.2.1 hd (hK _ _ _ _ h H locs ls hL hG hl hP hS)
  · exact h.elim
theorem s_lmul (hX : aX p s m args c cc own Ts nL D Z ad P G A) (hd : decode cc pc = .ok (.lmul, 1)) (hn : pc + 1 = nx) : aSd p l e R s m args below meth c cells slots Q nL D Z ad P G A E (o_bl (fun x y => x * y) nx) pc := by
  subst hn
  intro L st μ K h hK H locs ls hL hG hl hP hS
  unfold o_bl at h
  split at h
  · exact lv_lmul hX.1 hX.2.1 hd (hK _ _ _ _ h H locs ls hL hG hl hP hS)
  · exact h.elim
theorem s_i2l (hX : aX p s m args c cc own Ts nL D Z ad P G A) (hd : decode cc pc = .ok (.i2l, 1)) (hn : pc + 1 = nx) : aSd p l e R s m args below meth c cells slots Q nL D Z ad P G A E (o_tl (fun x => x.toInt64) nx) pc := by
  subst hn
  intro L st μ K h hK H locs ls hL hG hl hP hS
  unfold o_tl at h
  split at h
  · exact lv_i2l hX.1 hX.2.1 hd rfl (hK _ _ _ _ h H locs ls hL hG hl hP hS)
  · exact h.elim
theorem s_l2i (hX : aX p s m args c cc own Ts nL D Z ad P G A) (hd : decode cc pc = .ok (.l2i, 1)) (hn : pc + 1 = nx) : aSd p l e R s m args below meth c cells slots Q nL D Z ad P G A E (o_ti (fun x => x.toInt32) nx) pc := by
  subst hn
  intro L st μ K h hK H locs ls hL hG hl hP hS
  unfold o_ti at h
  split at h
  · exact lv_l2i hX.1 hX.2.1 hd rfl (hK _ _ _ _ h H locs ls hL hG hl hP hS)
  · exact h.elim
theorem s_lcmp (hX : aX p s m args c cc own Ts nL D Z ad P G A) (hd : decode cc pc = .ok (.lcmp, 1)) (hn : pc + 1 = nx) : aSd p l e R s m args below meth c cells slots Q nL D Z ad P G A E (o_lcm nx) pc := by
  subst hn
  intro L st μ K h hK H locs ls hL hG hl hP hS
  unfold o_lcm at h
  split at h
  · exact W.lcmp hX.1 hX.2.1 hd (hK _ _ _ _ h H locs ls hL hG hl hP hS)
  · exact h.elim
theorem s_dup (hX : aX p s m args c cc own Ts nL D Z ad P G A) (hd : decode cc pc = .ok (.dup, 1)) (hn : pc + 1 = nx) : aSd p l e R s m args below meth c cells slots Q nL D Z ad P G A E (o_dup nx) pc := by
  subst hn
  intro L st μ K h hK H locs ls hL hG hl hP hS
  unfold o_dup at h
  split at h
  · obtain ⟨h0, h⟩ := h
    exact lv_dup hX.1 hX.2.1 hd (by rw [cv_cat]; exact h0) (hK _ _ _ _ h H locs ls hL hG hl hP hS)
  · exact h.elim
theorem s_dup2 (hX : aX p s m args c cc own Ts nL D Z ad P G A) (hd : decode cc pc = .ok (.dup2, 1)) (hn : pc + 1 = nx) : aSd p l e R s m args below meth c cells slots Q nL D Z ad P G A E (o_dup2 nx) pc := by
  subst hn
  intro L st μ K h hK H locs ls hL hG hl hP hS
  unfold o_dup2 at h
  split at h
  · obtain ⟨h0, h1, h⟩ := h
    exact lv_dup2_11 hX.1 hX.2.1 hd (by rw [cv_cat]; exact h0) (by rw [cv_cat]; exact h1) (hK _ _ _ _ h H locs ls hL hG hl hP hS)
  · exact h.elim
theorem s_pop (hX : aX p s m args c cc own Ts nL D Z ad P G A) (hd : decode cc pc = .ok (.pop, 1)) (hn : pc + 1 = nx) : aSd p l e R s m args below meth c cells slots Q nL D Z ad P G A E (o_pop nx) pc := by
  subst hn
  intro L st μ K h hK H locs ls hL hG hl hP hS
  unfold o_pop at h
  split at h
  · obtain ⟨h0, h⟩ := h
    exact lv_pop hX.1 hX.2.1 hd (by rw [cv_cat]; exact h0) (hK _ _ _ _ h H locs ls hL hG hl hP hS)
  · exact h.elim
theorem s_if_eq (hX : aX p s m args c cc own Ts nL D Z ad P G A) {off : Int} {tg : Nat} (hd : decode cc pc = .ok (.ifCond .eq off, 3)) (ht : (pc : Int) + off = (tg : Int)) (hn : pc + 3 = nx) : aSd p l e R s m args below meth c cells slots Q nL D Z ad P G A E (o_if (fun x => x = 0) tg nx) pc := by
  subst hn
  intro L st μ K h hK H locs ls hL hG hl hP hS
  unfold o_if at h
  split at h
  · rcases h with ⟨h0, h⟩ | ⟨h0, h⟩
    · exact lv_if_eq hX.1 hX.2.1 hd ht (fun _ => (hK _ _ _ _ h H locs ls hL hG hl hP hS)) (fun z => absurd h0 z)
    · exact lv_if_eq hX.1 hX.2.1 hd ht (fun z => absurd z h0) (fun _ => (hK _ _ _ _ h H locs ls hL hG hl hP hS))
  · exact h.elim
theorem s_if_ne (hX : aX p s m args c cc own Ts nL D Z ad P G A) {off : Int} {tg : Nat} (hd : decode cc pc = .ok (.ifCond .ne off, 3)) (ht : (pc : Int) + off = (tg : Int)) (hn : pc + 3 = nx) : aSd p l e R s m args below meth c cells slots Q nL D Z ad P G A E (o_if (fun x => ¬ x = 0) tg nx) pc := by
  subst hn
  intro L st μ K h hK H locs ls hL hG hl hP hS
  unfold o_if at h
  split at h
  · rcases h with ⟨h0, h⟩ | ⟨h0, h⟩
    · exact lv_if_ne hX.1 hX.2.1 hd ht (fun _ => (hK _ _ _ _ h H locs ls hL hG hl hP hS)) (fun z => absurd z h0)
    · exact lv_if_ne hX.1 hX.2.1 hd ht (fun z => absurd z h0) (fun _ => (hK _ _ _ _ h H locs ls hL hG hl hP hS))
  · exact h.elim
theorem s_if_lt (hX : aX p s m args c cc own Ts nL D Z ad P G A) {off : Int} {tg : Nat} (hd : decode cc pc = .ok (.ifCond .lt off, 3)) (ht : (pc : Int) + off = (tg : Int)) (hn : pc + 3 = nx) : aSd p l e R s m args below meth c cells slots Q nL D Z ad P G A E (o_if (fun x => x < 0) tg nx) pc := by
  subst hn
  intro L st μ K h hK H locs ls hL hG hl hP hS
  unfold o_if at h
  split at h
  · rcases h with ⟨h0, h⟩ | ⟨h0, h⟩
    · exact lv_if_lt hX.1 hX.2.1 hd ht (fun _ => (hK _ _ _ _ h H locs ls hL hG hl hP hS)) (fun z => absurd h0 z)
    · exact lv_if_lt hX.1 hX.2.1 hd ht (fun z => absurd z h0) (fun _ => (hK _ _ _ _ h H locs ls hL hG hl hP hS))
  · exact h.elim
theorem s_if_ge (hX : aX p s m args c cc own Ts nL D Z ad P G A) {off : Int} {tg : Nat} (hd : decode cc pc = .ok (.ifCond .ge off, 3)) (ht : (pc : Int) + off = (tg : Int)) (hn : pc + 3 = nx) : aSd p l e R s m args below meth c cells slots Q nL D Z ad P G A E (o_if (fun x => 0 ≤ x) tg nx) pc := by
  subst hn
  intro L st μ K h hK H locs ls hL hG hl hP hS
  unfold o_if at h
  split at h
  · rcases h with ⟨h0, h⟩ | ⟨h0, h⟩
    · exact lv_if_ge hX.1 hX.2.1 hd ht (fun _ => (hK _ _ _ _ h H locs ls hL hG hl hP hS)) (fun z => absurd h0 z)
    · exact lv_if_ge hX.1 hX.2.1 hd ht (fun z => absurd z h0) (fun _ => (hK _ _ _ _ h H locs ls hL hG hl hP hS))
  · exact h.elim
theorem s_if_gt (hX : aX p s m args c cc own Ts nL D Z ad P G A) {off : Int} {tg : Nat} (hd : decode cc pc = .ok (.ifCond .gt off, 3)) (ht : (pc : Int) + off = (tg : Int)) (hn : pc + 3 = nx) : aSd p l e R s m args below meth c cells slots Q nL D Z ad P G A E (o_if (fun x => 0 < x) tg nx) pc := by
  subst hn
  intro L st μ K h hK H locs ls hL hG hl hP hS
  unfold o_if at h
  split at h
  · rcases h with ⟨h0, h⟩ | ⟨h0, h⟩
    · exact lv_if_gt hX.1 hX.2.1 hd ht (fun _ => (hK _ _ _ _ h H locs ls hL hG hl hP hS)) (fun z => absurd h0 z)
    · exact lv_if_gt hX.1 hX.2.1 hd ht (fun z => absurd z h0) (fun _ => (hK _ _ _ _ h H locs ls hL hG hl hP hS))
  · exact h.elim
theorem s_if_le (hX : aX p s m args c cc own Ts nL D Z ad P G A) {off : Int} {tg : Nat} (hd : decode cc pc = .ok (.ifCond .le off, 3)) (ht : (pc : Int) + off = (tg : Int)) (hn : pc + 3 = nx) : aSd p l e R s m args below meth c cells slots Q nL D Z ad P G A E (o_if (fun x => x ≤ 0) tg nx) pc := by
  subst hn
  intro L st μ K h hK H locs ls hL hG hl hP hS
  unfold o_if at h
  split at h
  · rcases h with ⟨h0, h⟩ | ⟨h0, h⟩
    · exact lv_if_le hX.1 hX.2.1 hd ht (fun _ => (hK _ _ _ _ h H locs ls hL hG hl hP hS)) (fun z => absurd h0 z)
    · exact lv_if_le hX.1 hX.2.1 hd ht (fun z => absurd z h0) (fun _ => (hK _ _ _ _ h H locs ls hL hG hl hP hS))
  · exact h.elim
theorem s_ic_eq (hX : aX p s m args c cc own Ts nL D Z ad P G A) {off : Int} {tg : Nat} (hd : decode cc pc = .ok (.if_icmp .eq off, 3)) (ht : (pc : Int) + off = (tg : Int)) (hn : pc + 3 = nx) : aSd p l e R s m args below meth c cells slots Q nL D Z ad P G A E (o_ic (fun x y => x = y) tg nx) pc := by
  subst hn
  intro L st μ K h hK H locs ls hL hG hl hP hS
  unfold o_ic at h
  split at h
  · rcases h with ⟨h0, h⟩ | ⟨h0, h⟩
    · exact lv_icmp_eq hX.1 hX.2.1 hd ht (fun _ => (hK _ _ _ _ h H locs ls hL hG hl hP hS)) (fun z => absurd h0 z)
    · exact lv_icmp_eq hX.1 hX.2.1 hd ht (fun z => absurd z h0) (fun _ => (hK _ _ _ _ h H locs ls hL hG hl hP hS))
  · exact h.elim
theorem s_ic_ne (hX : aX p s m args c cc own Ts nL D Z ad P G A) {off : Int} {tg : Nat} (hd : decode cc pc = .ok (.if_icmp .ne off, 3)) (ht : (pc : Int) + off = (tg : Int)) (hn : pc + 3 = nx) : aSd p l e R s m args below meth c cells slots Q nL D Z ad P G A E (o_ic (fun x y => ¬ x = y) tg nx) pc := by
  subst hn
  intro L st μ K h hK H locs ls hL hG hl hP hS
  unfold o_ic at h
  split at h
  · rcases h with ⟨h0, h⟩ | ⟨h0, h⟩
    · exact lv_icmp_ne hX.1 hX.2.1 hd ht (fun _ => (hK _ _ _ _ h H locs ls hL hG hl hP hS)) (fun z => absurd z h0)
    · exact lv_icmp_ne hX.1 hX.2.1 hd ht (fun z => absurd z h0) (fun _ => (hK _ _ _ _ h H locs ls hL hG hl hP hS))
  · exact h.elim
theorem s_ic_lt (hX : aX p s m args c cc own Ts nL D Z ad P G A) {off : Int} {tg : Nat} (hd : decode cc pc = .ok (.if_icmp .lt off, 3)) (ht : (pc : Int) + off = (tg : Int)) (hn : pc + 3 = nx) : aSd p l e R s m args below meth c cells slots Q nL D Z ad P G A E (o_ic (fun x y => x < y) tg nx) pc := by
  subst hn
  intro L st μ K h hK H locs ls hL hG hl hP hS
  unfold o_ic at h
  split at h
  · rcases h with ⟨h0, h⟩ | ⟨h0, h⟩
    · exact lv_icmp_lt hX.1 hX.2.1 hd ht (fun _ => (hK _ _ _ _ h H locs ls hL hG hl hP hS)) (fun z => absurd h0 z)
    · exact lv_icmp_lt hX.1 hX.2.1 hd ht (fun z => absurd z h0) (fun _ => (hK _ _ _ _ h H locs ls hL hG hl hP hS))
  · exact h.elim
theorem s_ic_ge (hX : aX p s m args c cc own Ts nL D Z ad P G A) {off : Int} {tg : Nat} (hd : decode cc pc = .ok (.if_icmp .ge off, 3)) (ht : (pc : Int) + off = (tg : Int)) (hn : pc + 3 = nx) : aSd p l e R s m args below meth c cells slots Q nL D Z ad P G A E (o_ic (fun x y => y ≤ x) tg nx) pc := by
  subst hn
  intro L st μ K h hK H locs ls hL hG hl hP hS
  unfold o_ic at h
  split at h
  · rcases h with ⟨h0, h⟩ | ⟨h0, h⟩
    · exact lv_icmp_ge hX.1 hX.2.1 hd ht (fun _ => (hK _ _ _ _ h H locs ls hL hG hl hP hS)) (fun z => absurd h0 z)
    · exact lv_icmp_ge hX.1 hX.2.1 hd ht (fun z => absurd z h0) (fun _ => (hK _ _ _ _ h H locs ls hL hG hl hP hS))
  · exact h.elim
theorem s_ic_gt (hX : aX p s m args c cc own Ts nL D Z ad P G A) {off : Int} {tg : Nat} (hd : decode cc pc = .ok (.if_icmp .gt off, 3)) (ht : (pc : Int) + off = (tg : Int)) (hn : pc + 3 = nx) : aSd p l e R s m args below meth c cells slots Q nL D Z ad P G A E (o_ic (fun x y => y < x) tg nx) pc := by
  subst hn
  intro L st μ K h hK H locs ls hL hG hl hP hS
  unfold o_ic at h
  split at h
  · rcases h with ⟨h0, h⟩ | ⟨h0, h⟩
    · exact lv_icmp_gt hX.1 hX.2.1 hd ht (fun _ => (hK _ _ _ _ h H locs ls hL hG hl hP hS)) (fun z => absurd h0 z)
    · exact lv_icmp_gt hX.1 hX.2.1 hd ht (fun z => absurd z h0) (fun _ => (hK _ _ _ _ h H locs ls hL hG hl hP hS))
  · exact h.elim
theorem s_ic_le (hX : aX p s m args c cc own Ts nL D Z ad P G A) {off : Int} {tg : Nat} (hd : decode cc pc = .ok (.if_icmp .le off, 3)) (ht : (pc : Int) + off = (tg : Int)) (hn : pc + 3 = nx) : aSd p l e R s m args below meth c cells slots Q nL D Z ad P G A E (o_ic (fun x y => x ≤ y) tg nx) pc := by
  subst hn
  intro L st μ K h hK H locs ls hL hG hl hP hS
  unfold o_ic at h
  split at h
  · rcases h with ⟨h0, h⟩ | ⟨h0, h⟩
    · exact lv_icmp_le hX.1 hX.2.1 hd ht (fun _ => (hK _ _ _ _ h H locs ls hL hG hl hP hS)) (fun z => absurd h0 z)
    · exact lv_icmp_le hX.1 hX.2.1 hd ht (fun z => absurd z h0) (fun _ => (hK _ _ _ _ h H locs ls hL hG hl hP hS))
  · exact h.elim
theorem s_go (hX : aX p s m args c cc own Ts nL D Z ad P G A) {off : Int} {tg : Nat} (hd : decode cc pc = .ok (.goto off, 3)) (ht : (pc : Int) + off = (tg : Int)) : aSd p l e R s m args below meth c cells slots Q nL D Z ad P G A E (o_go tg) pc := by
  intro L st μ K h hK H locs ls hL hG hl hP hS
  exact lv_goto hX.1 hX.2.1 hd ht (hK _ _ _ _ h H locs ls hL hG hl hP hS)
theorem s_nul (hX : aX p s m args c cc own Ts nL D Z ad P G A) {off : Int} {tg : Nat} (hd : decode cc pc = .ok (.ifnull off, 3)) (ht : (pc : Int) + off = (tg : Int)) (hn : pc + 3 = nx) : aSd p l e R s m args below meth c cells slots Q nL D Z ad P G A E (o_nul tg nx) pc := by
  subst hn
  intro L st μ K h hK H locs ls hL hG hl hP hS
  unfold o_nul at h
  split at h
  · exact lv_ifnull hX.1 hX.2.1 hd (hK _ _ _ _ h H locs ls hL hG hl hP hS)
  · exact lv_ifnullN hX.1 hX.2.1 hd ht (hK _ _ _ _ h H locs ls hL hG hl hP hS)
  · exact h.elim
end AS2
