/-! a method that makes things, whole -/
def bPl (ad : Nat → Nat) (P : List Nat) (G : Nat → Nat × Nat) : Prop := P.Nodup ∧ (∀ k, k ∈ P ↔ ¬ G k = (0, 0)) ∧ (∀ k ∈ P, k < 1000) ∧ ∀ i j, i ∈ P → j ∈ P → ad i = ad j → i = j
/-- the world behind it: more places, the old ones where they were -/
def bWd (D : va_G) (Z : aZ) (ad : Nat → Nat) (P : List Nat) (G : Nat → Nat × Nat) (sz : Nat) (r : Option Value) (rv : Option Value) (u : aM) (t : State) : Prop :=
  ∃ (ad' : Nat → Nat) (P' : List Nat), bPl ad' P' u.2.2 ∧ (∀ k, lvP G k → ad' k = ad k) ∧ (∀ k, lvP G k → lvP u.2.2 k) ∧ (∀ k ∈ P', aA ad P sz (ad' k)) ∧ gdM u.2.2 u ∧ lvV u.2.2 r ∧ rv = r.map (cv ad') ∧ aWd D Z ad' P' u t.heap ∧ va_K D vwCl (aTy Z) t
def bQc (D : va_G) (Z : aZ) (ad : Nat → Nat) (P : List Nat) (G : Nat → Nat × Nat) (sz : Nat) (μ' : aM) : Option Value → Array Value → State → Outcome → State → Prop
  | some (.int v) => va_Qi (fun (w : Int32) (u : aM) => w = v ∧ u = μ') (fun u t => bWd D Z ad P G sz (some (.int v)) (some (.int v)) u t) (aA ad P sz)
  | some (.ref x) => va_Qr (fun (u : aM) => u = μ') (fun u a t => bWd D Z ad P G sz (some (.ref x)) (some (.ref a)) u t) (aA ad P sz)
  | none => va_Qv (fun (u : aM) => u = μ') (fun u t => bWd D Z ad P G sz none none u t) (aA ad P sz)
  | _ => fun _ _ _ _ => False
def bSt (D : va_G) (Z : aZ) (ad : Nat → Nat) (P : List Nat) (μ : aM) (U : State) : Prop := aSt D Z ad P μ U ∧ bN Z U
def bMt (l : Launch) (y : MethodName) (ws : List Cond) (rm : Room) (mc ms : Nat) (C : aC) : Prop := ∀ (D : va_G) (Z : aZ) (ad : Nat → Nat) (P : List Nat) (sz : Nat) (args : List Value) (μ : aM) (r : Option Value) (μ' : aM), C args μ r μ' → bPl ad P μ.2.2 → gdM μ.2.2 μ → (∀ v ∈ args, lvV μ.2.2 (some v)) →
  Met l y ws rm (va_Pc (args.map (cv ad)) (fun U => U.heap.size = sz ∧ bSt D Z ad P μ U)) (bQc D Z ad P μ.2.2 sz μ' r) mc ms (aA ad P sz)
def b_ri : bO := fun _ st μ c _ E => match st with
  | [.int v] => E (some (.int v)) μ c
  | _ => False
def b_rv : bO := fun _ st μ c _ E => match st with
  | [] => E none μ c
  | _ => False
def b_rr : bO := fun _ st μ c _ E => match st with
  | [.ref x] => E (some (.ref x)) μ c
  | _ => False
/-- the same world under other words: a thing that is made is one -/
def b_as (op : bO) : bO := fun L st μ c K E => ∃ μ1 : aM, (∀ (Z : aZ) (ad : Nat → Nat) (k : Nat), aE Z ad μ1 k = aE Z ad μ k) ∧ (∀ k, μ1.2.2 k = (0, 0) ↔ μ.2.2 k = (0, 0)) ∧ (∀ G L st, gd G L st μ → G = μ.2.2 → gd μ1.2.2 L st μ1) ∧ op L st μ1 c K E
def blk : bT → Nat → bO
  | [], _ => fun _ _ _ _ _ _ => False
  | q :: l, pc => bif Nat.beq q.1 pc then q.2.2 else blk l pc
def brun (tb : bT) (E : bR) : Nat → bK
  | 0 => fun _ _ _ _ _ => False
  | n + 1 => fun c pc L st μ => blk tb pc L st μ c (brun tb E n) E
def bw (tb : bT) (E : bR) (c : Nat × Nat) (pc : Nat) (L : aL) (st : List Value) (μ : aM) : Prop := ∃ n, brun tb E n c pc L st μ
def bCl (tb : bT) (n mc ms : Nat) : aC := fun args μ r μ' => aFit args n ∧ bw tb (fun r1 μ1 c1 => r1 = r ∧ μ1 = μ' ∧ c1.1 ≤ mc ∧ c1.2 ≤ ms) (0, 0) 0 (aent args n) [] μ
section MM
variable {p : Program} {l : Launch} {e : Env} {R : Room} {s : State} {m : MethodId} {args : Array Value} {below : List Frame} {meth : Method} {c : Code} {cells slots : Nat} {Q : State → Prop} {cc : ByteArray} {own : String} {Ts : List Cond} {nL : Nat} {D : va_G} {Z : aZ} {ad ad0 ad' : Nat → Nat} {P : List Nat} {G G0 : Nat → Nat × Nat} {A : Nat → Prop} {E : bR} {pc nx mc ms : Nat}
/-- what an end owes -/
def bFin (s : State) (args : Array Value) (D : va_G) (Z : aZ) (ad0 : Nat → Nat) (G0 : Nat → Nat × Nat) (A : Nat → Prop) (mc ms : Nat) (Qc : Array Value → State → Outcome → State → Prop) (E : bR) : Prop :=
  ∀ (r : Option Value) (μ : aM) (w : Nat × Nat), E r μ w → w.1 ≤ mc ∧ w.2 ≤ ms ∧ ∀ (ad : Nat → Nat) (P : List Nat) (t : State), bA s ad0 G0 A ad P μ.2.2 → gdM μ.2.2 μ → lvV μ.2.2 r → s.WarmedH t.vm → aWd D Z ad P μ t.heap → va_F A s t → Qc args s (.returned (r.map (cv ad))) t
theorem t_ri (hX : bX p s m args c cc own Ts nL D Z A) {Qc : Array Value → State → Outcome → State → Prop} (hr : meth.sig.returnType = some .int) (hlocks : meth.locks = false) (hE : bFin s args D Z ad0 G0 A mc ms Qc E) (hd : decode cc pc = .ok (.ireturn, 1)) : bSd p l e R s m args below meth c (MQ below Qc args s mc ms A) nL D Z ad0 G0 A E b_ri pc := by
  intro L st μ w K hop hK ad P H locs ls hA hg hc1 hc2 hL hl hP hS
  unfold b_ri at hop
  split at hop
  · obtain ⟨h1, h2, h3⟩ := hE _ _ _ hop
    exact W.widen h1 h2 (W.iret hX.1 hX.2.1 hr (fun t ht hW => h3 ad P t hA hg.2.2 trivial hW (by rw [ht]; exact hP) (hS.F ht)) hS.2.2 hd hlocks)
  · exact hop.elim
theorem t_rv (hX : bX p s m args c cc own Ts nL D Z A) {Qc : Array Value → State → Outcome → State → Prop} (hr : meth.sig.returnType = none) (hlocks : meth.locks = false) (hE : bFin s args D Z ad0 G0 A mc ms Qc E) (hd : decode cc pc = .ok (.return_, 1)) : bSd p l e R s m args below meth c (MQ below Qc args s mc ms A) nL D Z ad0 G0 A E b_rv pc := by
  intro L st μ w K hop hK ad P H locs ls hA hg hc1 hc2 hL hl hP hS
  unfold b_rv at hop
  split at hop
  · obtain ⟨h1, h2, h3⟩ := hE _ _ _ hop
    exact W.widen h1 h2 (W.vret hX.1 hX.2.1 hr (fun t ht hW => h3 ad P t hA hg.2.2 trivial hW (by rw [ht]; exact hP) (hS.F ht)) hS.2.2 hd hlocks)
  · exact hop.elim
theorem t_rr (hX : bX p s m args c cc own Ts nL D Z A) {Qc : Array Value → State → Outcome → State → Prop} {cn : String} (hr : meth.sig.returnType = some (.object cn)) (hlocks : meth.locks = false) (hE : bFin s args D Z ad0 G0 A mc ms Qc E) (hd : decode cc pc = .ok (.areturn, 1)) : bSd p l e R s m args below meth c (MQ below Qc args s mc ms A) nL D Z ad0 G0 A E b_rr pc := by
  intro L st μ w K hop hK ad P H locs ls hA hg hc1 hc2 hL hl hP hS
  unfold b_rr at hop
  split at hop
  · rename_i x
    obtain ⟨h1, h2, h3⟩ := hE _ _ _ hop
    exact W.widen h1 h2 (W.aret (rt := .object cn) hX.1 hX.2.1 hr (Or.inl ⟨cn, rfl⟩) (Or.inr ⟨ad x, rfl⟩) (fun t ht hW => h3 ad P t hA hg.2.2 hg.2.1.1 hW (by rw [ht]; exact hP) (hS.F ht)) hS.2.2 hd hlocks)
  · exact hop.elim
theorem t_as {op : bO} (h : bSd p l e R s m args below meth c Q nL D Z ad0 G0 A E op pc) : bSd p l e R s m args below meth c Q nL D Z ad0 G0 A E (b_as op) pc := by
  intro L st μ w K hop hK ad P H locs ls hA hg hc1 hc2 hL hl hP hS
  obtain ⟨μ1, a1, a2, a3, a4⟩ := hop
  have hw : aWs Z ad P μ1 = aWs Z ad P μ := by
    unfold aWs
    exact List.map_congr_left fun k _ => by rw [a1]
  obtain ⟨h1, h2, h3, h4, h5, h6, h7, h8⟩ := hA
  refine h L st μ1 w K a4 hK ad P H locs ls ⟨h1, fun k => (h2 k).trans (not_congr (a2 k).symm), h3, h4, h5, h6, fun k hk => ?_, h8⟩ (a3 _ L st hg rfl) hc1 hc2 hL hl (by unfold aWd; rw [hw]; exact hP) hS
  rcases h7 k hk with w | w
  · exact Or.inl fun z => w ((a2 k).mp z)
  · exact Or.inr w
theorem blk_mem : ∀ (tb : bT) (pc : Nat), (∀ L st μ c K E, ¬ blk tb pc L st μ c K E) ∨ ∃ q ∈ tb, q.1 = pc ∧ blk tb pc = q.2.2
  | [], _ => Or.inl fun _ _ _ _ _ _ h => h
  | q :: tb, pc => by
    unfold blk
    cases h : Nat.beq q.1 pc with
    | true => exact Or.inr ⟨q, List.mem_cons_self, Nat.eq_of_beq_eq_true h, rfl⟩
    | false =>
      rcases blk_mem tb pc with h1 | ⟨q', h1, h2, h3⟩
      · exact Or.inl h1
      · exact Or.inr ⟨q', List.mem_cons_of_mem _ h1, h2, h3⟩
theorem brun_snd {tb : bT} (hs : ∀ q ∈ tb, bSd p l e R s m args below meth c Q nL D Z ad0 G0 A E q.2.2 q.1) : ∀ (n : Nat) (w : Nat × Nat) (pc : Nat) (L : aL) (st : List Value) (μ : aM), brun tb E n w pc L st μ → bJ p l e R s m args below meth c Q nL D Z ad0 G0 A w pc L st μ
  | 0, _, _, _, _, _, h => h.elim
  | n + 1, w, pc, L, st, μ, h => by
    have h9 : blk tb pc L st μ w (brun tb E n) E := h
    rcases blk_mem tb pc with h1 | ⟨q, h1, h2, h3⟩
    · exact absurd h9 (h1 _ _ _ _ _ _)
    · rw [h3] at h9
      subst h2
      exact hs q h1 L st μ w _ h9 (fun w' pc' L' st' μ' h' => brun_snd hs n w' pc' L' st' μ' h')
end MM
