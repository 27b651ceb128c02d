/-! a table gives a contract; calls of methods that make things -/
def bRk : Option Value → Prop
  | none => True
  | some (.int _) => True
  | some (.ref _) => True
  | _ => False
def bTS (l : Launch) (y : MethodName) (cc : ByteArray) (own : String) (Ts : List Cond) (rm : Room) (maxL : Nat) (ret : Option FieldType) (mc ms : Nat) (tb : bT) : Prop :=
  ∀ (p : Program) (e : Env) (s : State) (m : MethodId) (args : Array Value) (below : List Frame) (meth : Method) (c : Code) (Qc : Array Value → State → Outcome → State → Prop) (D : va_G) (Z : aZ) (ad0 : Nat → Nat) (G0 : Nat → Nat × Nat) (A : Nat → Prop) (E : bR),
    bX p s m args c cc own Ts maxL D Z A → meth.name = y.name → meth.sig.returnType = ret → meth.locks = false → bFin s args D Z ad0 G0 A mc ms Qc E → ∀ q ∈ tb, bSd p l e rm s m args below meth c (MQ below Qc args s mc ms A) maxL D Z ad0 G0 A E q.2.2 q.1
theorem gdL.ent {G : Nat → Nat × Nat} {args : List Value} {n : Nat} (ha : ∀ v ∈ args, lvV G (some v)) : gdL G (aent args n) := by
  intro i v hi
  have h2 := aent_at id args n 0 i v hi
  have h3 : ∀ (vs : List Value) (b : Nat) (q : Nat × Value), q ∈ lv_args b vs → q.2 ∈ vs := by
    intro vs
    induction vs with
    | nil => intro b q hq; cases hq
    | cons v vs ih =>
      intro b q hq
      rcases List.mem_cons.mp hq with e | e
      · rw [e]; exact List.mem_cons_self
      · exact List.mem_cons_of_mem _ (ih _ q e)
  have h4 := h3 _ _ _ h2
  have h5 : (cv id v) ∈ args.map (cv id) := h4
  have h6 : ∀ w : Value, cv id w = w := fun w => by cases w <;> rfl
  have h7 : args.map (cv id) = args := by
    have : cv id = id := funext h6
    rw [this, List.map_id]
  rw [h7, h6] at h5
  exact ha v h5
theorem bMt.of {l : Launch} {y : MethodName} {ws ws' : List Cond} {rm : Room} {cc : ByteArray} {maxL mc ms : Nat} {ret : Option FieldType} {own : String} {tb : bT} (hy : plainName y.cls = true) (hyo : y.cls = own) (hw : ws = Cond.code y cc maxL ret :: ws') (hs : bTS l y cc own ws rm maxL ret mc ms tb) : bMt l y ws rm mc ms (fun args μ r μ' => bRk r ∧ bCl tb maxL mc ms args μ r μ') := by
  intro D Z ad P sz as μ r μ' hC hok hgm hga
  obtain ⟨hrk, hC⟩ := hC
  obtain ⟨hfit, n, hrun⟩ := hC
  refine Met.ofW (cc := cc) (maxL := maxL) (ret := ret) hy hw ?_
  intro p e s m args below meth c s₁ B hml hv
  obtain ⟨rfl, hsz, ⟨hP, hK, hGl⟩, hZ⟩ := hv
  have hts := atoms_spec (ws := ws) B.pre
  have hown : s.vm.findClass own = some m.cls := hyo ▸ findClass_of_methodNamed B.named
  have hnm : meth.name = y.name := (name_of_methodNamed B.named B.method).1
  subst hsz
  have hX : bX p s m (as.map (cv ad)).toArray c cc own ws maxL D Z (aA ad P s.heap.size) := ⟨B.exec, B.bytes, hml, hown, hts, hK, fun q h => Or.inr h, hZ⟩
  have hA0 : bA s ad μ.2.2 (aA ad P s.heap.size) ad P μ.2.2 := ⟨hok.1, hok.2.1, hok.2.2.1, hok.2.2.2, fun k hk => Or.inl ⟨k, hk, rfl⟩, fun _ _ => rfl, fun _ h => h, hGl⟩
  have hfin : bFin s (as.map (cv ad)).toArray D Z ad μ.2.2 (aA ad P s.heap.size) mc ms (bQc D Z ad P μ.2.2 s.heap.size μ' r) (fun r1 μ1 c1 => r1 = r ∧ μ1 = μ' ∧ c1.1 ≤ mc ∧ c1.2 ≤ ms) := by
    intro r1 μ1 w h
    obtain ⟨rfl, rfl, w1, w2⟩ := h
    refine ⟨w1, w2, fun ad' P' t hA hg hr hW hP1 hF => ?_⟩
    obtain ⟨a1, a2, a3, a4, a5, a6, a7, a8⟩ := hA
    have hB : ∀ r rv, lvV μ1.2.2 r → rv = r.map (cv ad') → bWd D Z ad P μ.2.2 s.heap.size r rv μ1 t := fun r rv h1 h2 => ⟨ad', P', ⟨a1, a2, a3, a4⟩, a6, a7, a5, hg, h1, h2, hP1, va_K.moved hW.alike hK⟩
    cases r1 with
    | none => exact ⟨⟨_, rfl, rfl, hB none none trivial rfl⟩, hF⟩
    | some v =>
      cases v with
      | int x => exact ⟨⟨_, _, rfl, ⟨rfl, rfl⟩, hB (some (.int x)) (some (.int x)) trivial rfl⟩, hF⟩
      | ref x => exact ⟨⟨_, _, rfl, rfl, hB (some (.ref x)) (some (.ref (ad' x))) hr rfl⟩, hF⟩
      | long x => exact hrk.elim
      | float x => exact hrk.elim
      | double x => exact hrk.elim
      | null => exact hrk.elim
      | retAddr x => exact hrk.elim
  have hfit2 : (lg_sl (as.map (cv ad))).length ≤ maxL := by
    rw [lg_len, List.map_map]
    have : ((fun v : Value => v.category) ∘ cv ad) = fun v => v.category := funext fun v => cv_cat ad v
    rw [this]
    exact hfit
  have hl := lv_entry (as.map (cv ad)) (n := maxL) hfit2
  rw [lg_entry_eq]
  generalize (lg_sl (as.map (cv ad)) ++ List.replicate (maxL - (lg_sl (as.map (cv ad))).length) Slot.unset).toArray = ls at hl ⊢
  have hlv : aLv ad maxL ls (aent as maxL) := ⟨hl.1, hl.2.1, fun k v hk => by
    have := aent_at ad as maxL 0 k v hk
    rw [Nat.zero_add] at this
    exact hl.2.2 (k, cv ad v) this⟩
  have hgd : gd μ.2.2 (aent as maxL) [] μ := ⟨gdL.ent hga, trivial, hgm⟩
  exact brun_snd (hs p e s m _ below meth c _ D Z ad μ.2.2 _ _ hX hnm B.returns B.notSynchronized hfin) n (0, 0) 0 (aent as maxL) [] μ hrun ad P s.heap [] ls hA0 hgd (Nat.zero_le _) (Nat.zero_le _) (aent_len as maxL hfit) hlv hP va_S.rf
