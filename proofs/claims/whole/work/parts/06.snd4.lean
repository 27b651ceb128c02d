/-! soundness: calls, returns, a method whole -/
def aSt (D : va_G) (Z : aZ) (ad : Nat → Nat) (P : List Nat) (μ : aM) (U : State) : Prop := aWd D Z ad P μ U.heap ∧ va_K D vwCl (aTy Z) U ∧ aGl ad (aA ad P U.heap.size) U U.heap
def aOk (ad : Nat → Nat) (P : List Nat) (G : Nat → Nat × Nat) : Prop := P.Nodup ∧ (∀ k, ¬ (G k).1 = 0 → k ∈ P) ∧ (∀ i j, i ∈ P → j ∈ P → ad i = ad j → i = j)
def aB (D : va_G) (Z : aZ) (ad : Nat → Nat) (P : List Nat) (G : Nat → Nat × Nat) (u : aM) (t : State) : Prop := aWd D Z ad P u t.heap ∧ va_K D vwCl (aTy Z) t ∧ u.2.2 = G
def aQc (D : va_G) (Z : aZ) (ad : Nat → Nat) (P : List Nat) (G : Nat → Nat × Nat) (μ' : aM) (B : Nat → Prop) : Option Value → Array Value → State → Outcome → State → Prop
  | some (.int v) => va_Qi (fun (w : Int32) (u : aM) => w = v ∧ u = μ') (aB D Z ad P G) B
  | some (.long v) => va_Ql (fun (w : Int64) (u : aM) => w = v ∧ u = μ') (aB D Z ad P G) B
  | none => va_Qv (fun (u : aM) => u = μ') (aB D Z ad P G) B
  | _ => fun _ _ _ _ => False
def aMt (l : Launch) (y : MethodName) (ws : List Cond) (rm : Room) (C : aC) : Prop := ∀ (D : va_G) (Z : aZ) (ad : Nat → Nat) (P : List Nat) (sz : Nat) (args : List Value) (μ : aM) (r : Option Value) (μ' : aM), C args μ r μ' → aOk ad P μ.2.2 →
  Met l y ws rm (va_Pc (args.map (cv ad)) (fun U => U.heap.size = sz ∧ aSt D Z ad P μ U)) (aQc D Z ad P μ.2.2 μ' (aA ad P sz) r) 0 0 (aA ad P sz)
section AS4
variable {p : Program} {l : Launch} {e : Env} {R : Room} {s : State} {m : MethodId} {args : Array Value} {below : List Frame} {meth : Method} {c : Code} {cells slots : Nat} {Q : State → Prop} {cc : ByteArray} {own : String} {Ts : List Cond} {nL : Nat} {D : va_G} {Z : aZ} {ad : Nat → Nat} {P : List Nat} {G : Nat → Nat × Nat} {A : Nat → Prop} {E : aR} {pc nx : Nat}
theorem aSt.blind {μ : aM} {sz : Nat} {av : List Value} : FrameBlind (va_Pc av (fun U => U.heap.size = sz ∧ aSt D Z ad P μ U)) := by
  intro a U g mk h
  obtain ⟨h1, h2, h3, h4, h5⟩ := h
  exact ⟨h1, h2, h3, va_K.moved (u := U) (U := U.calling g mk a) (Vm.Alike.refl U.vm) h4, h5.go (fun _ _ _ => rfl) (State.WarmedH.refl U) rfl (fun _ q => q)⟩
theorem aX.start (hX : aX p s m args c cc own Ts nL D Z ad P G A) {μ : aM} {H : Heap} {locs : List Loc} (hP : aWd D Z ad P μ H) (hS : va_S A s.heap H locs) (hA : ∀ q, aA ad P H.size q → A q) (U : State) (hU : U.heap = H) (hW : s.WarmedH U.vm) : U.heap.size = H.size ∧ aSt D Z ad P μ U := by
  refine ⟨by rw [hU], by rw [hU]; exact hP, va_K.moved hW.alike hX.2.2.2.2.2.1, ?_⟩
  exact hX.2.2.2.2.2.2.2.2.2.2.2.go (fun a ha hn => hS.2.1 a ha hn) hW hU (fun q hq => hA q (by rw [hU] at hq; exact hq))
theorem aX.sub (hX : aX p s m args c cc own Ts nL D Z ad P G A) {H : Heap} {locs : List Loc} (hS : va_S A s.heap H locs) : ∀ q, aA ad P H.size q → A q := by
  intro q h
  rcases h with ⟨k, h1, rfl⟩ | h
  · exact hX.2.2.2.2.2.2.2.2.2.2.1 k h1
  · exact hX.2.2.2.2.2.2.2.2.1 q (Nat.le_trans hS.1 h)
theorem aX.ok (hX : aX p s m args c cc own Ts nL D Z ad P G A) {μ : aM} (hG : μ.2.2 = G) : aOk ad P μ.2.2 := by
  rw [hG]
  exact ⟨hX.2.2.2.2.2.2.1, hX.2.2.2.2.2.2.2.1, hX.2.2.2.2.2.2.2.2.2.1⟩
theorem cv_rest {t : List Value} (h : aRest t) : ((t.map (cv ad)).map fun v => v.category).sum ≤ 8 := by
  rw [List.map_map]
  have : ((fun v : Value => v.category) ∘ cv ad) = fun v => v.category := funext fun v => cv_cat ad v
  rw [this]
  exact h
/-- behind a call -/
theorem aX.back (hX : aX p s m args c cc own Ts nL D Z ad P G A) {μ μ' : aM} {r : Option Value} {H : Heap} {locs : List Loc} {ls : Array Slot} {L : aL} {K : aK} {t st0 : List Value} {a : Array Value} (hG : μ.2.2 = G) (hS : va_S A s.heap H locs) (hL : L.length = nL) (hl : aLv ad nL ls L)
    (hr : va_Run p l e R s m args below meth c H locs cells slots 0 0 (F0 m pc ls st0) (t.map (cv ad)) (aQc D Z ad P μ.2.2 μ' (aA ad P H.size) r a) (aA ad P H.size)) (hk : K (pc + 3) L (r.toList ++ t) μ')
    (hK : ∀ (pc' : Nat) (L' : aL) (st' : List Value) (μ' : aM), K pc' L' st' μ' → aJ p l e R s m args below meth c cells slots Q nL D Z ad P G A pc' L' st' μ') : W p l e R s m args below meth c H locs cells slots Q (F0 m pc ls st0) := by
  have bad : (∀ st o t, aQc D Z ad P μ.2.2 μ' (aA ad P H.size) r a st o t → False) → W p l e R s m args below meth c H locs cells slots Q (F0 m pc ls st0) := by
    intro hf T hT X
    obtain ⟨v, st₀, t, T', L, h0, X', hL, e1, e2, hQ, st⟩ := hr T hT X
    exact (hf _ _ _ hQ).elim
  cases r with
  | none =>
    refine va_callv (a := a) hr hS (fun q _ h => hX.sub hS q h) (fun q h => hX.sub hS q h) (fun u t H1 locs1 ht hvm hw hB hz1 hk1 hS1 => ?_)
    obtain ⟨b1, b2, b3⟩ := hB
    subst hw
    rw [ht] at b1
    exact hK _ _ _ _ hk H1 locs1 ls hL (b3.trans hG) hl b1 hS1
  | some v =>
    cases v with
    | int x =>
      refine va_calli (a := a) hr hS (fun q _ h => hX.sub hS q h) (fun q h => hX.sub hS q h) (fun w u t H1 locs1 ht hvm hw hB hz1 hk1 hS1 => ?_)
      obtain ⟨b1, b2, b3⟩ := hB
      obtain ⟨rfl, hw⟩ := hw
      subst hw
      rw [ht] at b1
      exact hK _ _ _ _ hk H1 locs1 ls hL (b3.trans hG) hl b1 hS1
    | long x =>
      refine va_calll (a := a) hr hS (fun q _ h => hX.sub hS q h) (fun q h => hX.sub hS q h) (fun w u t H1 locs1 ht hvm hw hB hz1 hk1 hS1 => ?_)
      obtain ⟨b1, b2, b3⟩ := hB
      obtain ⟨rfl, hw⟩ := hw
      subst hw
      rw [ht] at b1
      exact hK _ _ _ _ hk H1 locs1 ls hL (b3.trans hG) hl b1 hS1
    | float x => exact bad fun _ _ _ h => h
    | double x => exact bad fun _ _ _ h => h
    | null => exact bad fun _ _ _ h => h
    | ref x => exact bad fun _ _ _ h => h
    | retAddr x => exact bad fun _ _ _ h => h
theorem s_cV (hX : aX p s m args c cc own Ts nL D Z ad P G A) {C : aC} {g n ix : Nat} {y : MethodName} {cn : String} {T : u_T} {N : Nat} {ws ws' : List Cond} {rm : Room} {bytes : ByteArray} {maxL : Nat} {ret : Option FieldType} (hM : aMt l y ws rm C) (hc : vwCl[g]? = some (cn, T, N)) (hg : GoodIn Ts (wsV own ix cn y ws)) (hw : ws = Cond.code y bytes maxL ret :: ws') (hrc : rm.cells = 0) (hrs : rm.slots = 0)
    (hy : y.cls = cn ∧ y.cls ≠ "java/lang/invoke/MethodHandle" ∧ y.cls ≠ "java/lang/invoke/VarHandle" ∧ (parseMethodDescriptor y.desc).map (fun d => d.parameters.length) = some n) (hR : rm.frames + 1 ≤ R.frames ∧ 8 + (maxL + 11) + rm.locals ≤ R.locals) (hcs : cells ≤ R.cells ∧ slots ≤ R.slots) (hd : decode cc pc = .ok (.invokevirtual ix, 3)) (hn : pc + 3 = nx) : aSd p l e R s m args below meth c cells slots Q nL D Z ad P G A E (o_cV C g n nx) pc := by
  subst hn
  intro L st μ K h hK H locs ls hL hG hl hP hS
  obtain ⟨b, t, r, μ', h1, h2, h3, h4, h5⟩ := h
  have hm : b ∈ P := hX.mem (k := g + 3) (by rw [← hG]; exact h2)
  obtain ⟨q, hq, hwq⟩ := aWs_at (Z := Z) (ad := ad) (μ := μ) hm
  rw [aE_obj h2] at hwq
  have hlen : (st.take n).length = n := by
    have h6 := congrArg List.length h1
    rw [List.length_drop, List.length_cons] at h6
    rw [List.length_take]
    omega
  have hst : st.map (cv ad) = (((st.take n).reverse).map (cv ad)).reverse ++ .ref (ad b) :: t.map (cv ad) := by
    conv => lhs; rw [← List.take_append_drop n st, h1]
    rw [List.map_append, List.map_reverse, List.reverse_reverse]
    rfl
  refine hX.back hG hS hL hl (va_runV (As := ((st.take n).reverse).map (cv ad)) (rest := t.map (cv ad)) ⟨hX.1, hX.2.1, hX.2.2.1, hX.2.2.2.1, hX.2.2.2.2.1⟩ (hM D Z ad P H.size _ μ r μ' h4 (hX.ok hG)) (cwV n hX.2.2.2.2.1 hg hw hrc hrs hy hR) ⟨aSt.blind, va_recv hX.2.2.2.2.2.1 hP hc hwq, fun U hU hW => ⟨rfl, hX.start hP hS (hX.sub hS) U hU hW⟩⟩ rfl ?_ hl.1 hst (lv_room (cv_rest h3)) hd hcs) h5 hK
  rw [List.length_map, List.length_reverse, hlen]
theorem s_cS (hX : aX p s m args c cc own Ts nL D Z ad P G A) {C : aC} {n ix : Nat} {y : MethodName} {ws ws' : List Cond} {rm : Room} {bytes : ByteArray} {maxL : Nat} {ret : Option FieldType} (hM : aMt l y ws rm C) (hg : GoodIn Ts (va_wsS own ix y ws)) (hw : ws = Cond.code y bytes maxL ret :: ws') (hrc : rm.cells = 0) (hrs : rm.slots = 0)
    (hy : y.cls ≠ "java/lang/invoke/MethodHandle" ∧ y.cls ≠ "java/lang/invoke/VarHandle" ∧ (parseMethodDescriptor y.desc).map (fun d => d.parameters.length) = some n) (hR : rm.frames + 1 ≤ R.frames ∧ 8 + (maxL + 11) + rm.locals ≤ R.locals) (hcs : cells ≤ R.cells ∧ slots ≤ R.slots) (hd : decode cc pc = .ok (.invokestatic ix, 3)) (hn : pc + 3 = nx) : aSd p l e R s m args below meth c cells slots Q nL D Z ad P G A E (o_cS C n nx) pc := by
  subst hn
  intro L st μ K h hK H locs ls hL hG hl hP hS
  obtain ⟨r, μ', h1, h3, h4, h5⟩ := h
  have hlen : (st.take n).length = n := by
    rw [List.length_take]
    omega
  have hst : st.map (cv ad) = (((st.take n).reverse).map (cv ad)).reverse ++ (st.drop n).map (cv ad) := by
    conv => lhs; rw [← List.take_append_drop n st]
    rw [List.map_append, List.map_reverse, List.reverse_reverse]
  refine hX.back hG hS hL hl (va_runS (As := ((st.take n).reverse).map (cv ad)) (rest := (st.drop n).map (cv ad)) ⟨hX.1, hX.2.1, hX.2.2.1, hX.2.2.2.1, hX.2.2.2.2.1⟩ (hM D Z ad P H.size _ μ r μ' h4 (hX.ok hG)) (va_cwS n hX.2.2.2.2.1 hg hw hrc hrs hy hR) ⟨aSt.blind, fun U hU hW => ⟨rfl, hX.start hP hS (hX.sub hS) U hU hW⟩⟩ rfl ?_ hl.1 hst (lv_room (cv_rest h3)) hd hcs) h5 hK
  rw [List.length_map, List.length_reverse, hlen]
theorem s_max (hX : aX p s m args c cc own Ts nL D Z ad P G A) {ix : Nat} (h1 : Cond.methodLink own ix Lib.Math.max.name ∈ Ts) (h2 : Cond.static Lib.Math.max.name ∈ Ts) (h3 : Cond.initialized "java/lang/Math" ∈ Ts) (h4 : Cond.code Lib.Math.max.name Lib.Math.max.code 2 (some .int) ∈ Ts) (hf : 1 ≤ R.frames ∧ 21 ≤ R.locals) (hcs : cells ≤ R.cells ∧ slots ≤ R.slots) (hd : decode cc pc = .ok (.invokestatic ix, 3)) (hn : pc + 3 = nx) : aSd p l e R s m args below meth c cells slots Q nL D Z ad P G A E (o_max nx) pc := by
  subst hn
  intro L st μ K h hK H locs ls hL hG hl hP hS
  unfold o_max at h
  split at h
  · obtain ⟨h0, h⟩ := h
    have h9 := cv_rest (ad := ad) h0
    exact va_mmax hX.1 hX.2.1 (hX.2.2.1.trans hl.1.symm) hX.2.2.2.1 (hX.2.2.2.2.1 _ h1) (hX.2.2.2.2.1 _ h2) (hX.2.2.2.2.1 _ h3) (hX.2.2.2.2.1 _ h4) hf.1 (by have := hf.2; omega) hcs.1 hcs.2 hd (hK _ _ _ _ h H locs ls hL hG hl hP hS)
  · exact h.elim
theorem s_min (hX : aX p s m args c cc own Ts nL D Z ad P G A) {ix : Nat} (h1 : Cond.methodLink own ix Lib.Math.min.name ∈ Ts) (h2 : Cond.static Lib.Math.min.name ∈ Ts) (h3 : Cond.initialized "java/lang/Math" ∈ Ts) (h4 : Cond.code Lib.Math.min.name Lib.Math.min.code 2 (some .int) ∈ Ts) (hf : 1 ≤ R.frames ∧ 21 ≤ R.locals) (hcs : cells ≤ R.cells ∧ slots ≤ R.slots) (hd : decode cc pc = .ok (.invokestatic ix, 3)) (hn : pc + 3 = nx) : aSd p l e R s m args below meth c cells slots Q nL D Z ad P G A E (o_min nx) pc := by
  subst hn
  intro L st μ K h hK H locs ls hL hG hl hP hS
  unfold o_min at h
  split at h
  · obtain ⟨h0, h⟩ := h
    have h9 := cv_rest (ad := ad) h0
    exact va_mmin hX.1 hX.2.1 (hX.2.2.1.trans hl.1.symm) hX.2.2.2.1 (hX.2.2.2.2.1 _ h1) (hX.2.2.2.2.1 _ h2) (hX.2.2.2.2.1 _ h3) (hX.2.2.2.2.1 _ h4) hf.1 (by have := hf.2; omega) hcs.1 hcs.2 hd (hK _ _ _ _ h H locs ls hL hG hl hP hS)
  · exact h.elim
theorem s_cpy (hX : aX p s m args c cc own Ts nL D Z ad P G A) {ix : Nat} (w1 : Cond.methodLink own ix arraycopyName ∈ Ts) (w2 : Cond.native arraycopyName ∈ Ts) (w3 : Cond.static arraycopyName ∈ Ts) (w4 : Cond.initialized "java/lang/System" ∈ Ts) (hf : 1 ≤ R.frames ∧ 8 + (nativeFrameWords "java/lang/System" "arraycopy" 5 + 11) ≤ R.locals) (hd : decode cc pc = .ok (.invokestatic ix, 3)) (hn : pc + 3 = nx) : aSd p l e R s m args below meth c cells slots Q nL D Z ad P G A E (o_cpy nx) pc := by
  subst hn
  intro L st μ K h hK H locs ls hL hG hl hP hS
  unfold o_cpy at h
  split at h
  · obtain ⟨h0, ha, hb, h1, h2, h3, h4, h5, h⟩ := h
    rename_i n dp b sp a t
    have h9 := cv_rest (ad := ad) h0
    have hma : a ∈ P := hX.mem (k := 0) (by rw [← hG]; exact ha)
    have hmb : b ∈ P := hX.mem (k := 0) (by rw [← hG]; exact hb)
    obtain ⟨q, hq, hw⟩ := aWs_at (Z := Z) (ad := ad) (μ := μ) hma
    obtain ⟨q', hq', hw'⟩ := aWs_at (Z := Z) (ad := ad) (μ := μ) hmb
    rw [aE_int ha] at hw
    rw [aE_int hb] at hw'
    refine va_copyi hX.1 hX.2.1 (hX.2.2.1.trans hl.1.symm) hX.2.2.2.1 (hX.2.2.2.2.1 _ w1) (hX.2.2.2.2.1 _ w2) (hX.2.2.2.2.1 _ w3) (hX.2.2.2.2.1 _ w4) hX.2.2.2.2.2.1 hP (hX.dd μ) hS q q' 0 0 hw hw' rfl rfl rfl h1 h2 h3 h4 h5 (fun _ _ => rfl) hf.1 (by have := hf.2; omega) hd (fun H1 locs1 hP1 _ hS1 => ?_)
    rw [aWs_int hX.2.2.2.2.2.2.1 hq' hb] at hP1
    exact hK _ _ _ _ h H1 locs1 ls hL hG hl hP1 hS1
  · exact h.elim
def aRk : Option Value → Prop
  | none => True
  | some (.int _) => True
  | some (.long _) => True
  | _ => False
/-- what an end owes -/
def aFin (s : State) (args : Array Value) (D : va_G) (Z : aZ) (ad : Nat → Nat) (P : List Nat) (G : Nat → Nat × Nat) (A : Nat → Prop) (Qc : Array Value → State → Outcome → State → Prop) (E : aR) : Prop :=
  ∀ (r : Option Value) (μ : aM), aRk r → E r μ → ∀ t : State, s.WarmedH t.vm → aWd D Z ad P μ t.heap → μ.2.2 = G → va_F A s t → Qc args s (.returned r) t
theorem s_ri (hX : aX p s m args c cc own Ts nL D Z ad P G A) {Qc : Array Value → State → Outcome → State → Prop} (hr : meth.sig.returnType = some .int) (hlocks : meth.locks = false) (hE : aFin s args D Z ad P G A Qc E) (hd : decode cc pc = .ok (.ireturn, 1)) : aSd p l e R s m args below meth c cells slots (MQ below Qc args s cells slots A) nL D Z ad P G A E o_ri pc := by
  intro L st μ K h hK H locs ls hL hG hl hP hS
  unfold o_ri at h
  split at h
  · exact W.iret hX.1 hX.2.1 hr (fun t ht hW => hE (some (.int _)) _ trivial h t hW (by rw [ht]; exact hP) hG (hS.F ht)) hS.2.2 hd hlocks
  · exact h.elim
theorem s_rz (hX : aX p s m args c cc own Ts nL D Z ad P G A) {Qc : Array Value → State → Outcome → State → Prop} (hr : meth.sig.returnType = some .boolean) (hlocks : meth.locks = false) (hE : aFin s args D Z ad P G A Qc E) (hd : decode cc pc = .ok (.ireturn, 1)) : aSd p l e R s m args below meth c cells slots (MQ below Qc args s cells slots A) nL D Z ad P G A E o_rz pc := by
  intro L st μ K h hK H locs ls hL hG hl hP hS
  unfold o_rz at h
  split at h
  · obtain ⟨h0, h⟩ := h
    refine W.zret hX.1 hX.2.1 hr ?_ (fun t ht hW => hE (some (.int _)) _ trivial h t hW (by rw [ht]; exact hP) hG (hS.F ht)) hS.2.2 hd hlocks
    rcases h0 with rfl | rfl
    · rfl
    · rfl
  · exact h.elim
theorem s_rl (hX : aX p s m args c cc own Ts nL D Z ad P G A) {Qc : Array Value → State → Outcome → State → Prop} (hr : meth.sig.returnType = some .long) (hlocks : meth.locks = false) (hE : aFin s args D Z ad P G A Qc E) (hd : decode cc pc = .ok (.lreturn, 1)) : aSd p l e R s m args below meth c cells slots (MQ below Qc args s cells slots A) nL D Z ad P G A E o_rl pc := by
  intro L st μ K h hK H locs ls hL hG hl hP hS
  unfold o_rl at h
  split at h
  · exact W.lret hX.1 hX.2.1 hr (fun t ht hW => hE (some (.long _)) _ trivial h t hW (by rw [ht]; exact hP) hG (hS.F ht)) hS.2.2 hd hlocks
  · exact h.elim
theorem s_rv (hX : aX p s m args c cc own Ts nL D Z ad P G A) {Qc : Array Value → State → Outcome → State → Prop} (hr : meth.sig.returnType = none) (hlocks : meth.locks = false) (hE : aFin s args D Z ad P G A Qc E) (hd : decode cc pc = .ok (.return_, 1)) : aSd p l e R s m args below meth c cells slots (MQ below Qc args s cells slots A) nL D Z ad P G A E o_rv pc := by
  intro L st μ K h hK H locs ls hL hG hl hP hS
  unfold o_rv at h
  split at h
  · exact W.vret hX.1 hX.2.1 hr (fun t ht hW => hE none _ trivial h t hW (by rw [ht]; exact hP) hG (hS.F ht)) hS.2.2 hd hlocks
  · exact h.elim
theorem alk_mem : ∀ (tb : aT) (pc : Nat), alk tb pc = o_no ∨ ∃ q ∈ tb, q.1 = pc ∧ alk tb pc = q.2.2
  | [], _ => Or.inl rfl
  | q :: tb, pc => by
    unfold alk
    cases h : Nat.beq q.1 pc with
    | true => exact Or.inr ⟨q, List.mem_cons_self, Nat.eq_of_beq_eq_true h, rfl⟩
    | false =>
      rcases alk_mem tb pc with h1 | ⟨q', h1, h2, h3⟩
      · exact Or.inl h1
      · exact Or.inr ⟨q', List.mem_cons_of_mem _ h1, h2, h3⟩
theorem arun_snd {tb : aT} (hs : ∀ q ∈ tb, aSd p l e R s m args below meth c cells slots Q nL D Z ad P G A E q.2.2 q.1) : ∀ (n pc : Nat) (L : aL) (st : List Value) (μ : aM), arun tb E n pc L st μ → aJ p l e R s m args below meth c cells slots Q nL D Z ad P G A pc L st μ
  | 0, _, _, _, _, h => h.elim
  | n + 1, pc, L, st, μ, h => by
    have h9 : alk tb pc L st μ (arun tb E n) E := h
    rcases alk_mem tb pc with h1 | ⟨q, h1, h2, h3⟩
    · rw [h1] at h9
      exact h9.elim
    · rw [h3] at h9
      subst h2
      exact hs q h1 L st μ _ h9 (fun pc' L' st' μ' h' => arun_snd hs n pc' L' st' μ' h')
def aImp (cc : ByteArray) (S : aO → Nat → Prop) : aT → Prop
  | [] => True
  | q :: l => (decode cc q.1 = .ok q.2.1 → S q.2.2 q.1) ∧ aImp cc S l
theorem aImp_all {S : aO → Nat → Prop} : ∀ (tb : aT), tb.all (fun q => decide (decode cc q.1 = .ok q.2.1)) = true → aImp cc S tb → ∀ q ∈ tb, S q.2.2 q.1
  | [], _, _, _, h => (List.not_mem_nil h).elim
  | q :: tb, h, hi, q', hq => by
    rw [List.all_cons, Bool.and_eq_true] at h
    rcases List.mem_cons.mp hq with rfl | hq
    · exact hi.1 (of_decide_eq_true h.1)
    · exact aImp_all tb h.2 hi.2 q' hq
theorem aI_c {S : aO → Nat → Prop} {q : Nat × (Instr × Nat) × aO} {tb : aT} (h : decode cc q.1 = .ok q.2.1 → S q.2.2 q.1) (k : aImp cc S tb) : aImp cc S (q :: tb) := ⟨h, k⟩
/-- the ops of a method's table are sound -/
def aTS (l : Launch) (cc : ByteArray) (own : String) (Ts : List Cond) (rm : Room) (maxL : Nat) (ret : Option FieldType) (tb : aT) : Prop :=
  ∀ (p : Program) (e : Env) (s : State) (m : MethodId) (args : Array Value) (below : List Frame) (meth : Method) (c : Code) (Qc : Array Value → State → Outcome → State → Prop) (D : va_G) (Z : aZ) (ad : Nat → Nat) (P : List Nat) (G : Nat → Nat × Nat) (A : Nat → Prop) (E : aR),
    aX p s m args c cc own Ts maxL D Z ad P G A → meth.sig.returnType = ret → meth.locks = false → aFin s args D Z ad P G A Qc E → ∀ q ∈ tb, aSd p l e rm s m args below meth c 0 0 (MQ below Qc args s 0 0 A) maxL D Z ad P G A E q.2.2 q.1
end AS4
def aFit (args : List Value) (n : Nat) : Prop := (args.map fun v => v.category).sum ≤ n
/-- a method, as its table runs -/
def aCl (tb : aT) (n : Nat) : aC := fun args μ r μ' => aFit args n ∧ aw tb (fun r1 μ1 => r1 = r ∧ μ1 = μ') 0 (aent args n) [] μ
theorem aent_len : ∀ (args : List Value) (n : Nat), aFit args n → (aent args n).length = n
  | [], n, _ => by simp [aent]
  | v :: l, n, h => by
    unfold aFit at h
    rw [List.map_cons, List.sum_cons] at h
    have hc : v.category = 1 ∨ v.category = 2 := lv_cat v
    unfold aent
    rcases hc with hc | hc
    · rw [hc] at h ⊢
      have := aent_len l (n - 1) (show (l.map _).sum ≤ n - 1 by omega)
      show (aent l (n - 1)).length + 1 = n
      omega
    · rw [hc] at h ⊢
      have := aent_len l (n - 2) (show (l.map _).sum ≤ n - 2 by omega)
      show (aent l (n - 2)).length + 1 + 1 = n
      omega
theorem ag_rep (n k : Nat) (v : Value) : ¬ ag (List.replicate n none) k = some v := by
  induction n generalizing k with
  | zero => intro h; cases h
  | succ n ih =>
    cases k with
    | zero => intro h; cases h
    | succ k => exact ih k
theorem aent_at (ad : Nat → Nat) : ∀ (args : List Value) (n i k : Nat) (v : Value), ag (aent args n) k = some v → (i + k, cv ad v) ∈ lv_args i (args.map (cv ad))
  | [], n, i, k, v, h => (ag_rep n k v h).elim
  | w :: l, n, i, k, v, h => by
    have hc : w.category = 1 ∨ w.category = 2 := lv_cat w
    show (i + k, cv ad v) ∈ (i, cv ad w) :: lv_args (if (cv ad w).category = 2 then i + 2 else i + 1) (l.map (cv ad))
    rw [cv_cat]
    unfold aent at h
    rcases hc with hc | hc
    · rw [hc] at h ⊢
      rw [if_neg (by decide)]
      cases k with
      | zero =>
        have h2 : some w = some v := h
        cases h2
        exact List.mem_cons_self
      | succ k =>
        have h2 : ag (aent l (n - 1)) k = some v := h
        have := aent_at ad l (n - 1) (i + 1) k v h2
        rw [show i + 1 + k = i + (k + 1) by omega] at this
        exact List.mem_cons_of_mem _ this
    · rw [hc] at h ⊢
      rw [if_pos rfl]
      cases k with
      | zero =>
        have h2 : some w = some v := h
        cases h2
        exact List.mem_cons_self
      | succ k =>
        cases k with
        | zero => cases h
        | succ k =>
          have h2 : ag (aent l (n - 2)) k = some v := h
          have := aent_at ad l (n - 2) (i + 2) k v h2
          rw [show i + 2 + k = i + (k + 1 + 1) by omega] at this
          exact List.mem_cons_of_mem _ this
theorem lg_len : ∀ (vs : List Value), (lg_sl vs).length = (vs.map fun v => v.category).sum
  | [] => rfl
  | v :: vs => by
    have ih := lg_len vs
    rcases lv_cat v with h | h
    · have e : lg_sl (v :: vs) = .val v :: lg_sl vs := by simp [lg_sl, h]
      rw [e, List.length_cons, ih, List.map_cons, List.sum_cons, h]
      omega
    · have e : lg_sl (v :: vs) = .val v :: .second :: lg_sl vs := by simp [lg_sl, h]
      rw [e, List.length_cons, List.length_cons, ih, List.map_cons, List.sum_cons, h]
      omega
theorem aMt.of {l : Launch} {y : MethodName} {ws ws' : List Cond} {rm : Room} {cc : ByteArray} {maxL : Nat} {ret : Option FieldType} {own : String} {tb : aT} (hy : plainName y.cls = true) (hyo : y.cls = own) (hw : ws = Cond.code y cc maxL ret :: ws') (hs : aTS l cc own ws rm maxL ret tb) : aMt l y ws rm (aCl tb maxL) := by
  intro D Z ad P sz as μ r μ' hC hok
  obtain ⟨hfit, n, hrun⟩ := hC
  refine Met.ofW (cc := cc) (maxL := maxL) (ret := ret) hy hw ?_
  intro p e s m args below meth c s₁ B hml hv
  obtain ⟨rfl, hsz, hP, hK, hGl⟩ := hv
  have hts := atoms_spec (ws := ws) B.pre
  have hown : s.vm.findClass own = some m.cls := hyo ▸ findClass_of_methodNamed B.named
  subst hsz
  have hX : aX p s m (as.map (cv ad)).toArray c cc own ws maxL D Z ad P μ.2.2 (aA ad P s.heap.size) := ⟨B.exec, B.bytes, hml, hown, hts, hK, hok.1, hok.2.1, fun q h => Or.inr h, hok.2.2, fun k hk => Or.inl ⟨k, hk, rfl⟩, hGl⟩
  have hfin : aFin s (as.map (cv ad)).toArray D Z ad P μ.2.2 (aA ad P s.heap.size) (aQc D Z ad P μ.2.2 μ' (aA ad P s.heap.size) r) (fun r1 μ1 => r1 = r ∧ μ1 = μ') := by
    intro r1 μ1 hk h t hW hP1 hG1 hF
    obtain ⟨rfl, rfl⟩ := h
    have hB : aB D Z ad P μ.2.2 μ1 t := ⟨hP1, va_K.moved hW.alike hK, hG1⟩
    cases r1 with
    | none => exact ⟨⟨_, rfl, rfl, hB⟩, hF⟩
    | some v =>
      cases v with
      | int x => exact ⟨⟨_, _, rfl, ⟨rfl, rfl⟩, hB⟩, hF⟩
      | long x => exact ⟨⟨_, _, rfl, ⟨rfl, rfl⟩, hB⟩, hF⟩
      | float x => exact hk.elim
      | double x => exact hk.elim
      | null => exact hk.elim
      | ref x => exact hk.elim
      | retAddr x => exact hk.elim
  have hfit2 : (lg_sl (as.map (cv ad))).length ≤ maxL := by
    rw [lg_len, List.map_map]
    have : ((fun v : Value => v.category) ∘ cv ad) = fun v => v.category := funext fun v => cv_cat ad v
    rw [this]
    exact hfit
  have hl := lv_entry (as.map (cv ad)) (n := maxL) hfit2
  rw [lg_entry_eq]
  generalize (lg_sl (as.map (cv ad)) ++ List.replicate (maxL - (lg_sl (as.map (cv ad))).length) Slot.unset).toArray = ls at hl ⊢
  have hlv : aLv ad maxL ls (aent as maxL) := ⟨hl.1, hl.2.1, fun k v hk => by
    have := aent_at ad as maxL 0 k v hk
    rw [Nat.zero_add] at this
    exact hl.2.2 (k, cv ad v) this⟩
  exact arun_snd (hs p e s m _ below meth c _ D Z ad P μ.2.2 _ _ hX B.returns B.notSynchronized hfin) n 0 (aent as maxL) [] μ hrun s.heap [] ls (aent_len as maxL hfit) rfl hlv hP va_S.rf
