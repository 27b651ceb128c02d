/-! ===== methods that make things: a machine on top of the machine ===== -/
abbrev bK : Type := Nat × Nat → aK
abbrev bR : Type := Option Value → aM → Nat × Nat → Prop
abbrev bO : Type := aL → List Value → aM → Nat × Nat → bK → bR → Prop
abbrev bT : Type := List (Nat × (Instr × Nat) × bO)
def gu (G : Nat → Nat × Nat) (o : Nat) (x : Nat × Nat) : Nat → Nat × Nat := fun k => if k = o then x else G k
def rp (R : Nat → Nat → Option Nat) (o : Nat) (f : Nat → Option Nat) : Nat → Nat → Option Nat := fun k => if k = o then f else R k
/-- an op of the first machine -/
def bL (op : aO) : bO := fun L st μ c K E => op L st μ (K c) (fun r μ => E r μ c)
/-- a new thing at a free place -/
def bNf (μ : aM) (o : Nat) (f : Nat → Int32) (x : Nat × Nat) : aM := (ap μ.1 o f, rp μ.2.1 o (fun _ => none), gu μ.2.2 o x)
abbrev bNw (μ : aM) (o : Nat) (x : Nat × Nat) : aM := bNf μ o (fun _ => 0) x
def b_new (g N rc rs nx : Nat) : bO := fun L st μ c K _ => ∃ o, o < 1000 ∧ μ.2.2 o = (0, 0) ∧ c.1 + 1 ≤ rc ∧ c.2 + N ≤ rs ∧ K (c.1 + 1, c.2 + N) nx L (.ref o :: st) (bNw μ o (0, g + 1))
def b_nwa (rc rs nx : Nat) : bO := fun L st μ c K _ => match st with
  | .int n :: t => ∃ o N, o < 1000 ∧ μ.2.2 o = (0, 0) ∧ ¬ n < 0 ∧ n.toNatClampNeg = N ∧ N ≤ 100000 ∧ c.1 + 1 ≤ rc ∧ c.2 + N ≤ rs ∧ K (c.1 + 1, c.2 + N) nx L (.ref o :: t) (bNw μ o (1, N))
  | _ => False
section BM
variable {p : Program} {l : Launch} {e : Env} {R : Room} {s : State} {m : MethodId} {args : Array Value} {below : List Frame} {meth : Method} {c : Code} {cells slots : Nat} {Q : State → Prop} {cc : ByteArray} {own : String} {Ts : List Cond} {nL : Nat} {D : va_G} {Z : aZ} {ad ad0 ad' : Nat → Nat} {P : List Nat} {G G0 : Nat → Nat × Nat} {A : Nat → Prop} {E : bR} {pc nx : Nat}
theorem gu_at {o : Nat} {x : Nat × Nat} : gu G o x o = x := if_pos rfl
theorem gu_ne {o k : Nat} {x : Nat × Nat} (h : ¬ k = o) : gu G o x k = G k := if_neg h
theorem aGl.mv {A : Nat → Prop} {U : State} {H : Heap} (h : aGl ad A U H) (e : ∀ k, 1000 ≤ k → ad' k = ad k) : aGl ad' A U H := by
  obtain ⟨h1, h2, h3, h4, h5, h6⟩ := h
  have e1 := e 1000 (Nat.le_refl _)
  have e2 : (fun i => ad' (1001 + i)) = fun i => ad (1001 + i) := funext fun i => e _ (by omega)
  have e3 : (fun i => ad' (1101 + i)) = fun i => ad (1101 + i) := funext fun i => e _ (by omega)
  refine ⟨by rw [e1]; exact h1, by rw [e1]; exact h2, by rw [e2, e3]; exact h3, fun i hi => ?_, h5, by rw [e 1200 (by omega)]; exact h6⟩
  rw [e (1001 + i) (by omega)]
  exact h4 i hi
/-- what holds of places and addresses all along a body -/
def bA (s : State) (ad0 : Nat → Nat) (G0 : Nat → Nat × Nat) (A : Nat → Prop) (ad : Nat → Nat) (P : List Nat) (G : Nat → Nat × Nat) : Prop := P.Nodup ∧ (∀ k, k ∈ P ↔ ¬ G k = (0, 0)) ∧ (∀ k ∈ P, k < 1000) ∧ (∀ i j, i ∈ P → j ∈ P → ad i = ad j → i = j) ∧ (∀ k ∈ P, A (ad k)) ∧ (∀ k, lvP G0 k → ad k = ad0 k) ∧ (∀ k, lvP G0 k → lvP G k) ∧ aGl ad A s s.heap
/-- words that no table of a method carries along -/
def bN (Z : aZ) (s : State) : Prop := s.vm.findClass "[I" = some Z.1 ∧ va_Nw (.castable "[I" "java/lang/Cloneable") s ∧ va_AO RX3 s ∧ va_AO RX2 s ∧ va_Nw (.methodLinkNest RX4 21 yX1_init RX4) s ∧ va_Nw (.methodLinkNest RX4 54 yX2_init RX4) s
theorem bN.same {Z : aZ} {s U : State} (h : s.vm = U.vm) (k : bN Z s) : bN Z U := ⟨by rw [← h]; exact k.1, k.2.1.same rfl h, va_AO.moved (h ▸ Vm.Alike.refl _) k.2.2.1, va_AO.moved (h ▸ Vm.Alike.refl _) k.2.2.2.1, k.2.2.2.2.1.same rfl h, k.2.2.2.2.2.same rfl h⟩
theorem bN.warm {Z : aZ} {s U : State} (hW : s.WarmedH U.vm) (k : bN Z s) : bN Z U := ⟨by rw [hW.alike.findClass]; exact k.1, va_Nw.warmC hW k.2.1, va_AO.moved hW.alike k.2.2.1, va_AO.moved hW.alike k.2.2.2.1, va_Nw.warmM hW k.2.2.2.2.1, va_Nw.warmM hW k.2.2.2.2.2⟩
def bX (p : Program) (s : State) (m : MethodId) (args : Array Value) (c : Code) (cc : ByteArray) (own : String) (Ts : List Cond) (nL : Nat) (D : va_G) (Z : aZ) (A : Nat → Prop) : Prop :=
  p.tables.exec = Jvm.exec ∧ c.code = cc ∧ c.maxLocals = nL ∧ s.vm.findClass own = some m.cls ∧ (∀ w ∈ Ts, w.before args s = true) ∧ va_K D vwCl (aTy Z) s ∧ (∀ q, s.heap.size ≤ q → A q) ∧ bN Z s
theorem bX.aX (h : bX p s m args c cc own Ts nL D Z A) (k : bA s ad0 G0 A ad P G) : aX p s m args c cc own Ts nL D Z ad P G A := by
  obtain ⟨h1, h2, h3, h4, h5, h6, h7, h8⟩ := h
  obtain ⟨k1, k2, k3, k4, k5, k6, k7, k8⟩ := k
  exact ⟨h1, h2, h3, h4, h5, h6, k1, fun k hk => (k2 k).mpr fun e => hk (by rw [e]), h7, k4, k5, k8⟩
def bJ (p : Program) (l : Launch) (e : Env) (R : Room) (s : State) (m : MethodId) (args : Array Value) (below : List Frame) (meth : Method) (c : Code) (Q : State → Prop) (nL : Nat) (D : va_G) (Z : aZ) (ad0 : Nat → Nat) (G0 : Nat → Nat × Nat) (A : Nat → Prop) (w : Nat × Nat) (pc : Nat) (L : aL) (st : List Value) (μ : aM) : Prop :=
  ∀ (ad : Nat → Nat) (P : List Nat) (H : Heap) (locs : List Loc) (ls : Array Slot), bA s ad0 G0 A ad P μ.2.2 → gd μ.2.2 L st μ → w.1 ≤ R.cells → w.2 ≤ R.slots → L.length = nL → aLv ad nL ls L → aWd D Z ad P μ H → va_S A s.heap H locs → W p l e R s m args below meth c H locs w.1 w.2 Q (F0 m pc ls (st.map (cv ad)))
def bSd (p : Program) (l : Launch) (e : Env) (R : Room) (s : State) (m : MethodId) (args : Array Value) (below : List Frame) (meth : Method) (c : Code) (Q : State → Prop) (nL : Nat) (D : va_G) (Z : aZ) (ad0 : Nat → Nat) (G0 : Nat → Nat × Nat) (A : Nat → Prop) (E : bR) (op : bO) (pc : Nat) : Prop :=
  ∀ (L : aL) (st : List Value) (μ : aM) (w : Nat × Nat) (K : bK), op L st μ w K E → (∀ (w' : Nat × Nat) (pc' : Nat) (L' : aL) (st' : List Value) (μ' : aM), K w' pc' L' st' μ' → bJ p l e R s m args below meth c Q nL D Z ad0 G0 A w' pc' L' st' μ') → bJ p l e R s m args below meth c Q nL D Z ad0 G0 A w pc L st μ
/-- the first machine's ops are ops here -/
theorem t_L (hX : bX p s m args c cc own Ts nL D Z A) {op : aO} (hk : aKls op) (h : ∀ (ad : Nat → Nat) (P : List Nat) (G : Nat → Nat × Nat) (cells slots : Nat) (F : aR), aX p s m args c cc own Ts nL D Z ad P G A → cells ≤ R.cells ∧ slots ≤ R.slots → aSd p l e R s m args below meth c cells slots Q nL D Z ad P G A F op pc) : bSd p l e R s m args below meth c Q nL D Z ad0 G0 A E (bL op) pc := by
  intro L st μ w K hop hK ad P H locs ls hA hg hc1 hc2 hL hl hP hS
  have h1 := hk _ L st μ _ _ hg hop
  refine h ad P μ.2.2 w.1 w.2 _ (hX.aX hA) ⟨hc1, hc2⟩ L st μ _ h1 (fun pc' L' st' μ' hk' H locs ls hL hG hl hP hS => ?_) H locs ls hL rfl hl hP hS
  obtain ⟨g1, g2⟩ := hk'
  exact hK w pc' L' st' μ' g2 ad P H locs ls (by rw [hG]; exact hA) (by rw [hG]; exact g1) hc1 hc2 hL hl hP hS
/-! a place more -/
theorem aE_ad {μ : aM} {f : Nat → Int32} {o q k : Nat} {x : Nat × Nat} (hm : gdM G μ) (ho : ¬ lvP G o) (hk : lvP G k) : aE Z (fun j => if j = o then q else ad j) (bNf μ o f x) k = aE Z ad μ k := by
  have hko : ¬ k = o := fun e => ho (e ▸ hk)
  have hG : (bNf μ o f x).2.2 k = μ.2.2 k := gu_ne hko
  have hA : (bNf μ o f x).1 k = μ.1 k := ap_ne hko
  have hR : (bNf μ o f x).2.1 k = μ.2.1 k := if_neg hko
  have hM : ∀ i, (μ.2.1 k i).map (fun j => if j = o then q else ad j) = (μ.2.1 k i).map ad := fun i => by
    cases h : μ.2.1 k i with
    | none => rfl
    | some y =>
      have : ¬ y = o := fun e => ho (e ▸ hm.2.1 k i y h)
      show some (if y = o then q else ad y) = some (ad y)
      rw [if_neg this]
  have e0 : ∀ g, aRv (fun j => if j = o then q else ad j) (bNf μ o f x) g k = aRv ad μ g k := fun g => funext fun i => by
    unfold aRv
    rw [hA, hR, hM]
  have e1 : aE0 (fun j => if j = o then q else ad j) (bNf μ o f x) k = aE0 ad μ k := by
    unfold aE0 aRw
    rw [hG]
    simp only [e0]
  unfold aE
  rw [hG, hA, hR, e1]
  have hG2 : μ.2.2 k = G k := by rw [hm.1]
  split
  · rfl
  · rfl
  · simp only [hM]
  · simp only [hM]
  · rename_i g hg
    unfold aF
    refine congrArg (fun z => (Sum.inr (g, z) : va_E)) (List.map_congr_left fun i hi => ?_)
    unfold aFv
    rw [hA, hR, hM]
    split
    · rfl
    · rfl
    · rename_i j hj
      have : ¬ k + j = o := fun e => ho (e ▸ hm.2.2 k g i j (hG2 ▸ hg) (List.mem_range.mp hi) hj)
      show Value.ref (if k + j = o then q else ad (k + j)) = _
      rw [if_neg this]
theorem aWs_new {μ : aM} {f : Nat → Int32} {o q : Nat} {x : Nat × Nat} (hm : gdM G μ) (ho : ¬ lvP G o) (hP : ∀ k ∈ P, lvP G k) : aWs Z (fun j => if j = o then q else ad j) (P ++ [o]) (bNf μ o f x) = aWs Z ad P μ ++ [(q, aE Z (fun j => if j = o then q else ad j) (bNf μ o f x) o)] := by
  unfold aWs
  rw [List.map_append]
  refine congr (congrArg _ (List.map_congr_left fun k hk => ?_)) ?_
  · have hko : ¬ k = o := fun e => ho (e ▸ hP k hk)
    rw [aE_ad hm ho (hP k hk)]
    show ((if k = o then q else ad k), _) = _
    rw [if_neg hko]
  · show [((if o = o then q else ad o), _)] = _
    rw [if_pos rfl]
theorem bA.new (h : bA s ad0 G0 A ad P G) {o q : Nat} {x : Nat × Nat} (ho : o < 1000) (hG : G o = (0, 0)) (hx : ¬ x = (0, 0)) (hq : ∀ k ∈ P, ¬ ad k = q) (hA : A q) : bA s ad0 G0 A (fun j => if j = o then q else ad j) (P ++ [o]) (gu G o x) := by
  obtain ⟨h1, h2, h3, h4, h5, h6, h7, h8⟩ := h
  have hoP : ¬ o ∈ P := fun w => (h2 o).mp w hG
  have hne : ∀ k ∈ P, ¬ k = o := fun k hk e => hoP (e ▸ hk)
  have ho0 : ¬ lvP G0 o := fun w => (h7 o w).elim (fun z => z hG) (fun z => by omega)
  refine ⟨List.nodup_append.mpr ⟨h1, by simp, fun a ha b hb => ?_⟩, fun k => ?_, fun k hk => ?_, fun i j hi hj e => ?_, fun k hk => ?_, fun k hk => ?_, fun k hk => ?_, h8.mv fun k hk => if_neg (by omega)⟩
  · rw [List.mem_singleton] at hb
    subst hb
    exact hne a ha
  · rw [List.mem_append, List.mem_singleton]
    by_cases e : k = o
    · subst e
      rw [gu_at]
      exact ⟨fun _ => hx, fun _ => Or.inr rfl⟩
    · rw [gu_ne e, h2 k]
      exact ⟨fun w => w.elim id (fun z => absurd z e), Or.inl⟩
  · rcases List.mem_append.mp hk with w | w
    · exact h3 k w
    · rw [List.mem_singleton.mp w]; exact ho
  · have key : ∀ k, k ∈ P ++ [o] → (k = o ∧ (if k = o then q else ad k) = q) ∨ (k ∈ P ∧ (if k = o then q else ad k) = ad k) := fun k hk => by
      rcases List.mem_append.mp hk with w | w
      · exact Or.inr ⟨w, if_neg (hne k w)⟩
      · have := List.mem_singleton.mp w
        exact Or.inl ⟨this, if_pos this⟩
    have e : (if i = o then q else ad i) = (if j = o then q else ad j) := e
    rcases key i hi with ⟨a1, a2⟩ | ⟨a1, a2⟩
    · rcases key j hj with ⟨b1, b2⟩ | ⟨b1, b2⟩
      · rw [a1, b1]
      · rw [a2, b2] at e
        exact absurd e.symm (hq j b1)
    · rcases key j hj with ⟨b1, b2⟩ | ⟨b1, b2⟩
      · rw [a2, b2] at e
        exact absurd e (hq i a1)
      · rw [a2, b2] at e
        exact h4 i j a1 b1 e
  · rcases List.mem_append.mp hk with w | w
    · show A (if k = o then q else ad k)
      rw [if_neg (hne k w)]; exact h5 k w
    · show A (if k = o then q else ad k)
      rw [if_pos (List.mem_singleton.mp w)]; exact hA
  · show (if k = o then q else ad k) = ad0 k
    have hko : ¬ k = o := fun e => ho0 (e ▸ hk)
    rw [if_neg hko]
    exact h6 k hk
  · rcases h7 k hk with w | w
    · refine Or.inl ?_
      have hko : ¬ k = o := fun e => ho0 (e ▸ hk)
      rw [gu_ne hko]
      exact w
    · exact Or.inr w
theorem lvP.new {o k : Nat} {x : Nat × Nat} (hx : ¬ x = (0, 0)) (h : lvP G k) : lvP (gu G o x) k := by
  rcases h with h | h
  · refine Or.inl ?_
    by_cases e : k = o
    · rw [e, gu_at]; exact hx
    · rw [gu_ne e]; exact h
  · exact Or.inr h
theorem lvV.new {o : Nat} {x : Nat × Nat} (hx : ¬ x = (0, 0)) {v : Option Value} (h : lvV G v) : lvV (gu G o x) v := by
  unfold lvV at *
  split
  · exact lvP.new hx h
  · trivial
theorem gd.new {L : aL} {st t : List Value} {μ : aM} {f : Nat → Int32} {o : Nat} {x : Nat × Nat} (h : gd μ.2.2 L st μ) (ht : ∀ v ∈ t, v ∈ st) (hG : μ.2.2 o = (0, 0)) (hx : ¬ x = (0, 0)) (hx4 : x.1 < 4) : gd (gu μ.2.2 o x) L (.ref o :: t) (bNf μ o f x) := by
  obtain ⟨h1, h2, h3, h4, h5⟩ := h
  refine ⟨fun k v hk => (h1 k v hk).new hx, ⟨Or.inl (by rw [gu_at]; exact hx), (gdS_m _).mpr fun v hv => ((gdS_m _).mp h2 v (ht v hv)).new hx⟩, rfl, fun k i y hy => ?_, fun k g j i hg hn hj => ?_⟩
  · have hy : (if k = o then fun _ => none else μ.2.1 k) i = some y := hy
    by_cases e : k = o
    · rw [if_pos e] at hy; cases hy
    · rw [if_neg e] at hy; exact (h4 k i y hy).new hx
  · by_cases e : k = o
    · rw [e, gu_at] at hg; omega
    · rw [gu_ne e] at hg; exact (h5 k g j i hg hn hj).new hx
theorem bA.lv (h : bA s ad0 G0 A ad P G) : ∀ k ∈ P, lvP G k := fun k hk => Or.inl ((h.2.1 k).mp hk)
theorem aLv.mv {n : Nat} {ls : Array Slot} {L : aL} (h : aLv ad n ls L) (hg : gdL G L) (e : ∀ k, lvP G k → ad' k = ad k) : aLv ad' n ls L := ⟨h.1, h.2.1, fun k v hk => by
  have h1 := h.2.2 k v hk
  have h2 := hg k v hk
  have : cv ad' v = cv ad v := by
    cases v with
    | ref x => show Value.ref (ad' x) = Value.ref (ad x); rw [e x h2]
    | _ => rfl
  rw [this]; exact h1⟩
theorem cv_ad {st : List Value} (hg : gdS G st) (e : ∀ k, lvP G k → ad' k = ad k) : st.map (cv ad') = st.map (cv ad) := List.map_congr_left fun v hv => by
  have h2 := (gdS_m _).mp hg v hv
  cases v with
  | ref x => show Value.ref (ad' x) = Value.ref (ad x); rw [e x h2]
  | _ => rfl
end BM
