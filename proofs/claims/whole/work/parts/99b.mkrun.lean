/-! calls of methods that make things -/
def b_cV (C : aC) (g n mc ms rc rs nx : Nat) : bO := fun L st μ c K _ => ∃ (b : Nat) (t : List Value) (r : Option Value) (μ' : aM), st.drop n = .ref b :: t ∧ (μ.2.2 b).1 = g + 4 ∧ aRest t ∧ bRk r ∧ C (.ref b :: (st.take n).reverse) μ r μ' ∧ c.1 + mc ≤ rc ∧ c.2 + ms ≤ rs ∧ K (c.1 + mc, c.2 + ms) nx L (r.toList ++ t) μ'
/-- a constructor's call: the thing is in the making -/
def b_cI (C : aC) (g n mc ms rc rs nx : Nat) : bO := fun L st μ c K _ => ∃ (b : Nat) (t : List Value) (μ' : aM), st.drop n = .ref b :: t ∧ μ.2.2 b = (0, g + 1) ∧ aRest t ∧ C (.ref b :: (st.take n).reverse) μ none μ' ∧ c.1 + mc ≤ rc ∧ c.2 + ms ≤ rs ∧ K (c.1 + mc, c.2 + ms) nx L t μ'
section MR
variable {p : Program} {l : Launch} {e : Env} {R : Room} {s : State} {m : MethodId} {args : Array Value} {below : List Frame} {meth : Method} {c : Code} {cells slots : Nat} {Q : State → Prop} {cc : ByteArray} {own : String} {Ts : List Cond} {nL : Nat} {D : va_G} {Z : aZ} {ad ad0 ad' : Nat → Nat} {P : List Nat} {G G0 : Nat → Nat × Nat} {A : Nat → Prop} {E : bR} {pc nx mc ms : Nat}
theorem bSt.blind {μ : aM} {sz : Nat} {av : List Value} : FrameBlind (va_Pc av (fun U => U.heap.size = sz ∧ bSt D Z ad P μ U)) := by
  intro a U g mk h
  obtain ⟨h1, h2, ⟨h3, h4, h5⟩, h6⟩ := h
  exact ⟨h1, h2, ⟨h3, va_K.moved (u := U) (U := U.calling g mk a) (Vm.Alike.refl U.vm) h4, h5.go (fun _ _ _ => rfl) (State.WarmedH.refl U) rfl (fun _ q => q)⟩, h6.same rfl⟩
theorem bA.pl (h : bA s ad0 G0 A ad P G) : bPl ad P G := ⟨h.1, h.2.1, h.2.2.1, h.2.2.2.1⟩
theorem bX.sub (hX : bX p s m args c cc own Ts nL D Z A) (hA : bA s ad0 G0 A ad P G) {H : Heap} {locs : List Loc} (hS : va_S A s.heap H locs) : ∀ q, aA ad P H.size q → A q := (hX.aX hA).sub hS
theorem bX.start (hX : bX p s m args c cc own Ts nL D Z A) (hA : bA s ad0 G0 A ad P G) {μ : aM} {H : Heap} {locs : List Loc} (hP : aWd D Z ad P μ H) (hS : va_S A s.heap H locs) (U : State) (hU : U.heap = H) (hW : s.WarmedH U.vm) : U.heap.size = H.size ∧ bSt D Z ad P μ U := by
  obtain ⟨h1, h2⟩ := (hX.aX hA).start hP hS ((hX.aX hA).sub hS) U hU hW
  exact ⟨h1, h2, hX.2.2.2.2.2.2.2.warm hW⟩
/-- the places behind a call -/
theorem bA.back (hA : bA s ad0 G0 A ad P G) {P' : List Nat} {G' : Nat → Nat × Nat} {sz : Nat} (hsub : ∀ q, aA ad P sz q → A q) (h : bPl ad' P' G') (h1 : ∀ k, lvP G k → ad' k = ad k) (h2 : ∀ k, lvP G k → lvP G' k) (h3 : ∀ k ∈ P', aA ad P sz (ad' k)) : bA s ad0 G0 A ad' P' G' := by
  obtain ⟨a1, a2, a3, a4, a5, a6, a7, a8⟩ := hA
  exact ⟨h.1, h.2.1, h.2.2.1, h.2.2.2, fun k hk => hsub _ (h3 k hk), fun k hk => (h1 k (a7 k hk)).trans (a6 k hk), fun k hk => h2 k (a7 k hk), a8.mv fun k hk => h1 k (Or.inr hk)⟩
theorem lvV.mono {G' : Nat → Nat × Nat} (h2 : ∀ k, lvP G k → lvP G' k) {v : Option Value} (h : lvV G v) : lvV G' v := by
  unfold lvV at *
  split
  · exact h2 _ h
  · trivial
theorem bX.back (hX : bX p s m args c cc own Ts nL D Z A) {w : Nat × Nat} (hA : bA s ad0 G0 A ad P G) {μ μ' : aM} (hG : μ.2.2 = G) {r : Option Value} {H : Heap} {locs : List Loc} {ls : Array Slot} {L : aL} {K : bK} {t st0 : List Value} {a : Array Value} (hgL : gdL G L) (hgt : gdS G t) (hS : va_S A s.heap H locs) (hL : L.length = nL) (hl : aLv ad nL ls L) (hrk : bRk r)
    (hr : va_Run p l e R s m args below meth c H locs w.1 w.2 mc ms (F0 m pc ls st0) (t.map (cv ad)) (bQc D Z ad P μ.2.2 H.size μ' r a) (aA ad P H.size)) (hw1 : w.1 + mc ≤ R.cells) (hw2 : w.2 + ms ≤ R.slots) (hk : K (w.1 + mc, w.2 + ms) (pc + 3) L (r.toList ++ t) μ')
    (hK : ∀ (w' : Nat × Nat) (pc' : Nat) (L' : aL) (st' : List Value) (μ' : aM), K w' pc' L' st' μ' → bJ p l e R s m args below meth c Q nL D Z ad0 G0 A w' pc' L' st' μ') : W p l e R s m args below meth c H locs w.1 w.2 Q (F0 m pc ls st0) := by
  have hsub := hX.sub hA hS
  subst hG
  have key : ∀ (rv : Option Value) (t1 : State) (H1 : Heap) (locs1 : List Loc), bWd D Z ad P μ.2.2 H.size r rv μ' t1 → t1.heap = H1 → va_S A s.heap H1 locs1 → W p l e R s m args below meth c H1 locs1 (w.1 + mc) (w.2 + ms) Q (F0 m (pc + 3) ls (rv.toList ++ t.map (cv ad))) := by
    intro rv t1 H1 locs1 hB ht hS1
    obtain ⟨ad', P', b1, b2, b3, b4, b5, b6, b7, b8, b9⟩ := hB
    rw [ht] at b8
    have h9 := hK _ _ _ _ _ hk ad' P' H1 locs1 ls (hA.back hsub b1 b2 b3 b4) ⟨fun k v hv => (hgL k v hv).mono b3, gdS_app b6 ((gdS_m _).mpr fun v hv => ((gdS_m _).mp hgt v hv).mono b3), b5⟩ hw1 hw2 hL (hl.mv hgL b2) b8 hS1
    have e1 : (r.toList ++ t).map (cv ad') = rv.toList ++ t.map (cv ad) := by
      rw [List.map_append, cv_ad hgt b2, b7]
      cases r <;> rfl
    rw [e1] at h9
    exact h9
  cases r with
  | none =>
    refine va_callv (a := a) hr hS (fun q _ h => hsub q h) (fun q h => hsub q h) (fun u t1 H1 locs1 ht hvm hw hB hz1 hk1 hS1 => ?_)
    subst hw
    exact key none t1 H1 locs1 hB ht hS1
  | some v =>
    cases v with
    | int x =>
      refine va_calli (a := a) hr hS (fun q _ h => hsub q h) (fun q h => hsub q h) (fun v u t1 H1 locs1 ht hvm hw hB hz1 hk1 hS1 => ?_)
      obtain ⟨rfl, hw⟩ := hw
      subst hw
      exact key (some (.int _)) t1 H1 locs1 hB ht hS1
    | ref x =>
      refine va_callr (a := a) hr hS (fun q _ h => hsub q h) (fun q h => hsub q h) (fun u ra t1 H1 locs1 ht hvm hw hB hz1 hk1 hS1 => ?_)
      subst hw
      exact key (some (.ref ra)) t1 H1 locs1 hB ht hS1
    | long x => exact hrk.elim
    | float x => exact hrk.elim
    | double x => exact hrk.elim
    | null => exact hrk.elim
    | retAddr x => exact hrk.elim
theorem st_split {st : List Value} {n b : Nat} {t : List Value} (h1 : st.drop n = .ref b :: t) : (st.take n).length = n ∧ st.map (cv ad) = (((st.take n).reverse).map (cv ad)).reverse ++ .ref (ad b) :: t.map (cv ad) := by
  constructor
  · have h6 := congrArg List.length h1
    rw [List.length_drop, List.length_cons] at h6
    rw [List.length_take]
    omega
  · conv => lhs; rw [← List.take_append_drop n st, h1]
    rw [List.map_append, List.map_reverse, List.reverse_reverse]
    rfl
theorem t_cV (hX : bX p s m args c cc own Ts nL D Z A) {C : aC} {g n ix : Nat} {y : MethodName} {cn : String} {T : u_T} {N : Nat} {ws ws' : List Cond} {rm : Room} {bytes : ByteArray} {maxL : Nat} {ret : Option FieldType} (hM : bMt l y ws rm mc ms C) (hc : vwCl[g]? = some (cn, T, N)) (hg9 : GoodIn Ts (wsV own ix cn y ws)) (hw : ws = Cond.code y bytes maxL ret :: ws') (hrc : rm.cells = mc) (hrs : rm.slots = ms)
    (hy : y.cls = cn ∧ y.cls ≠ "java/lang/invoke/MethodHandle" ∧ y.cls ≠ "java/lang/invoke/VarHandle" ∧ (parseMethodDescriptor y.desc).map (fun d => d.parameters.length) = some n) (hR : rm.frames + 1 ≤ R.frames ∧ 8 + (maxL + 11) + rm.locals ≤ R.locals) (hd : decode cc pc = .ok (.invokevirtual ix, 3)) (hn : pc + 3 = nx) : bSd p l e R s m args below meth c Q nL D Z ad0 G0 A E (b_cV C g n mc ms R.cells R.slots nx) pc := by
  subst hn
  intro L st μ w K hop hK ad P H locs ls hA hg hc1 hc2 hL hl hP hS
  obtain ⟨b, t, r, μ', h1, h2, h3, hrk, h4, hw1, hw2, h5⟩ := hop
  have hXX := hX.aX hA
  have hm : b ∈ P := hXX.mem (k := g + 3) h2
  obtain ⟨q, hq, hwq⟩ := aWs_at (Z := Z) (ad := ad) (μ := μ) hm
  rw [aE_obj h2] at hwq
  obtain ⟨hlen, hst⟩ := st_split (ad := ad) h1
  have hds := gdS_drop n hg.2.1
  rw [h1] at hds
  have hga : ∀ v ∈ (.ref b :: (st.take n).reverse : List Value), lvV μ.2.2 (some v) := fun v hv => (List.mem_cons.mp hv).elim (fun e => e ▸ hds.1) (fun h => gdS_take n hg.2.1 v h)
  refine hX.back hA rfl hg.1 hds.2 hS hL hl hrk (va_runV (As := ((st.take n).reverse).map (cv ad)) (rest := t.map (cv ad)) ⟨hX.1, hX.2.1, hX.2.2.1, hX.2.2.2.1, hX.2.2.2.2.1⟩ (hM D Z ad P H.size _ μ r μ' h4 hA.pl hg.2.2 hga) (cwV n hX.2.2.2.2.1 hg9 hw hrc hrs hy hR) ⟨bSt.blind, va_recv hX.2.2.2.2.2.1 hP hc hwq, fun U hU hW => ⟨rfl, hX.start hA hP hS U hU hW⟩⟩ rfl ?_ hl.1 hst (lv_room (cv_rest h3)) hd ⟨hw1, hw2⟩) hw1 hw2 h5 hK
  rw [List.length_map, List.length_reverse, hlen]
theorem t_cI (hX : bX p s m args c cc own Ts nL D Z A) {C : aC} {g n ix : Nat} {y : MethodName} {ws ws' : List Cond} {rm : Room} {bytes : ByteArray} {maxL : Nat} (hM : bMt l y ws rm mc ms C) (hg9 : GoodIn Ts ws) (hini : Cond.initialized y.cls ∈ Ts) (hli : Cond.methodLink own ix y ∈ Ts) (hin : Cond.instanceMethod y ∈ Ts) (hy1 : y.name = "<init>") (hw : ws = Cond.code y bytes maxL none :: ws') (hrc : rm.cells = mc) (hrs : rm.slots = ms)
    (hy : y.cls ≠ "java/lang/invoke/MethodHandle" ∧ y.cls ≠ "java/lang/invoke/VarHandle" ∧ (parseMethodDescriptor y.desc).map (fun d => d.parameters.length) = some n) (hR : rm.frames + 1 ≤ R.frames ∧ 8 + (maxL + 11) + rm.locals ≤ R.locals) (hd : decode cc pc = .ok (.invokespecial ix, 3)) (hn : pc + 3 = nx) : bSd p l e R s m args below meth c Q nL D Z ad0 G0 A E (b_cI C g n mc ms R.cells R.slots nx) pc := by
  subst hn
  intro L st μ w K hop hK ad P H locs ls hA hg hc1 hc2 hL hl hP hS
  obtain ⟨b, t, μ', h1, h2, h3, h4, hw1, hw2, h5⟩ := hop
  obtain ⟨hlen, hst⟩ := st_split (ad := ad) h1
  have hds := gdS_drop n hg.2.1
  rw [h1] at hds
  have hga : ∀ v ∈ (.ref b :: (st.take n).reverse : List Value), lvV μ.2.2 (some v) := fun v hv => (List.mem_cons.mp hv).elim (fun e => e ▸ hds.1) (fun h => gdS_take n hg.2.1 v h)
  refine hX.back (r := none) hA rfl hg.1 hds.2 hS hL hl trivial (va_runI (As := ((st.take n).reverse).map (cv ad)) (rest := t.map (cv ad)) ⟨hX.1, hX.2.1, hX.2.2.1, hX.2.2.2.1, hX.2.2.2.2.1⟩ (hM D Z ad P H.size _ μ none μ' h4 hA.pl hg.2.2 hga) (cwI n hX.2.2.2.2.1 hg9 hw hrc hrs (hX.2.2.2.2.1 _ hini) (hX.2.2.2.2.1 _ hli) (hX.2.2.2.2.1 _ hin) hy1 hy hR) ⟨bSt.blind, fun U hU hW => ⟨rfl, hX.start hA hP hS U hU hW⟩⟩ rfl ?_ hl.1 hst (lv_room (cv_rest h3)) hd ⟨hw1, hw2⟩) hw1 hw2 h5 hK
  rw [List.length_map, List.length_reverse, hlen]
theorem t_cIN (hX : bX p s m args c cc own Ts nL D Z A) {C : aC} {g n ix : Nat} {y : MethodName} {host : String} {ws ws' : List Cond} {rm : Room} {bytes : ByteArray} {maxL : Nat} (hM : bMt l y ws rm mc ms C) (hg9 : GoodIn Ts ws) (hini : Cond.initialized y.cls ∈ Ts) (hli : va_Nw (.methodLinkNest own ix y host) s) (hin : Cond.instanceMethod y ∈ Ts) (hy1 : y.name = "<init>") (hw : ws = Cond.code y bytes maxL none :: ws') (hrc : rm.cells = mc) (hrs : rm.slots = ms)
    (hy : y.cls ≠ "java/lang/invoke/MethodHandle" ∧ y.cls ≠ "java/lang/invoke/VarHandle" ∧ (parseMethodDescriptor y.desc).map (fun d => d.parameters.length) = some n) (hR : rm.frames + 1 ≤ R.frames ∧ 8 + (maxL + 11) + rm.locals ≤ R.locals) (hd : decode cc pc = .ok (.invokespecial ix, 3)) (hn : pc + 3 = nx) : bSd p l e R s m args below meth c Q nL D Z ad0 G0 A E (b_cI C g n mc ms R.cells R.slots nx) pc := by
  subst hn
  intro L st μ w K hop hK ad P H locs ls hA hg hc1 hc2 hL hl hP hS
  obtain ⟨b, t, μ', h1, h2, h3, h4, hw1, hw2, h5⟩ := hop
  obtain ⟨hlen, hst⟩ := st_split (ad := ad) h1
  have hds := gdS_drop n hg.2.1
  rw [h1] at hds
  have hga : ∀ v ∈ (.ref b :: (st.take n).reverse : List Value), lvV μ.2.2 (some v) := fun v hv => (List.mem_cons.mp hv).elim (fun e => e ▸ hds.1) (fun h => gdS_take n hg.2.1 v h)
  refine hX.back (r := none) hA rfl hg.1 hds.2 hS hL hl trivial (va_runIN (As := ((st.take n).reverse).map (cv ad)) (rest := t.map (cv ad)) ⟨hX.1, hX.2.1, hX.2.2.1, hX.2.2.2.1, hX.2.2.2.2.1⟩ (hM D Z ad P H.size _ μ none μ' h4 hA.pl hg.2.2 hga) ⟨va_cnB n hX.2.2.2.2.1 hg9 hw hrc hrs hli (hX.2.2.2.2.1 _ hini) hy hR, hy1, hX.2.2.2.2.1 _ hin⟩ ⟨bSt.blind, fun U hU hW => ⟨rfl, hX.start hA hP hS U hU hW⟩⟩ rfl ?_ hl.1 hst (lv_room (cv_rest h3)) hd ⟨hw1, hw2⟩) hw1 hw2 h5 hK
  rw [List.length_map, List.length_reverse, hlen]
end MR
