/-! soundness of the ops: what is run of them, the machine does -/
def aJ (p : Program) (l : Launch) (e : Env) (R : Room) (s : State) (m : MethodId) (args : Array Value) (below : List Frame) (meth : Method) (c : Code) (cells slots : Nat) (Q : State → Prop) (nL : Nat) (D : va_G) (Z : aZ) (ad : Nat → Nat) (P : List Nat) (G : Nat → Nat × Nat) (A : Nat → Prop) (pc : Nat) (L : aL) (st : List Value) (μ : aM) : Prop :=
  ∀ (H : Heap) (locs : List Loc) (ls : Array Slot), L.length = nL → μ.2.2 = G → aLv ad nL ls L → aWd D Z ad P μ H → va_S A s.heap H locs → W p l e R s m args below meth c H locs cells slots Q (F0 m pc ls (st.map (cv ad)))
def aSd (p : Program) (l : Launch) (e : Env) (R : Room) (s : State) (m : MethodId) (args : Array Value) (below : List Frame) (meth : Method) (c : Code) (cells slots : Nat) (Q : State → Prop) (nL : Nat) (D : va_G) (Z : aZ) (ad : Nat → Nat) (P : List Nat) (G : Nat → Nat × Nat) (A : Nat → Prop) (E : aR) (op : aO) (pc : Nat) : Prop :=
  ∀ (L : aL) (st : List Value) (μ : aM) (K : aK), op L st μ K E → (∀ (pc' : Nat) (L' : aL) (st' : List Value) (μ' : aM), K pc' L' st' μ' → aJ p l e R s m args below meth c cells slots Q nL D Z ad P G A pc' L' st' μ') → aJ p l e R s m args below meth c cells slots Q nL D Z ad P G A pc L st μ
/-- what holds all along a method's body -/
def aX (p : Program) (s : State) (m : MethodId) (args : Array Value) (c : Code) (cc : ByteArray) (own : String) (Ts : List Cond) (nL : Nat) (D : va_G) (Z : aZ) (ad : Nat → Nat) (P : List Nat) (G : Nat → Nat × Nat) (A : Nat → Prop) : Prop :=
  p.tables.exec = Jvm.exec ∧ c.code = cc ∧ c.maxLocals = nL ∧ s.vm.findClass own = some m.cls ∧ (∀ w ∈ Ts, w.before args s = true) ∧ va_K D vwCl (aTy Z) s ∧ P.Nodup ∧ (∀ k, ¬ (G k).1 = 0 → k ∈ P) ∧ (∀ q, s.heap.size ≤ q → A q) ∧ (∀ i j, i ∈ P → j ∈ P → ad i = ad j → i = j) ∧ (∀ k ∈ P, A (ad k)) ∧ aGl ad A s s.heap
section AS
variable {p : Program} {l : Launch} {e : Env} {R : Room} {s : State} {m : MethodId} {args : Array Value} {below : List Frame} {meth : Method} {c : Code} {cells slots : Nat} {Q : State → Prop} {cc : ByteArray} {own : String} {Ts : List Cond} {nL : Nat} {D : va_G} {Z : aZ} {ad : Nat → Nat} {P : List Nat} {G : Nat → Nat × Nat} {A : Nat → Prop} {E : aR} {pc nx : Nat}
theorem s_mk {b : List Bool} {op : aO} (h : aSd p l e R s m args below meth c cells slots Q nL D Z ad P G A E op pc) : aSd p l e R s m args below meth c cells slots Q nL D Z ad P G A E (o_mk b op) pc := by
  intro L st μ K h1 hK H locs ls hL hG hl hP hS
  exact h _ st μ K h1 hK H locs ls (by rw [amk_len]; exact hL) hG (hl.mk b) hP hS
theorem s_ii (hX : aX p s m args c cc own Ts nL D Z ad P G A) {n : Int} {v : Int32} (hd : decode cc pc = .ok (.iconst n, 1)) (hv : Int32.ofInt n = v) (hn : pc + 1 = nx) : aSd p l e R s m args below meth c cells slots Q nL D Z ad P G A E (o_ii v nx) pc := by
  subst hn
  intro L st μ K h hK H locs ls hL hG hl hP hS
  exact lv_iconst hX.1 hX.2.1 hd hv (hK _ _ _ _ h H locs ls hL hG hl hP hS)
theorem s_bp (hX : aX p s m args c cc own Ts nL D Z ad P G A) {n : Int} {v : Int32} (hd : decode cc pc = .ok (.bipush n, 2)) (hv : (Int8.ofInt n).toInt32 = v) (hn : pc + 2 = nx) : aSd p l e R s m args below meth c cells slots Q nL D Z ad P G A E (o_ii v nx) pc := by
  subst hn
  intro L st μ K h hK H locs ls hL hG hl hP hS
  exact lv_bipush hX.1 hX.2.1 hd hv (hK _ _ _ _ h H locs ls hL hG hl hP hS)
theorem s_sp (hX : aX p s m args c cc own Ts nL D Z ad P G A) {n : Int} {v : Int32} (hd : decode cc pc = .ok (.sipush n, 3)) (hv : (Int16.ofInt n).toInt32 = v) (hn : pc + 3 = nx) : aSd p l e R s m args below meth c cells slots Q nL D Z ad P G A E (o_ii v nx) pc := by
  subst hn
  intro L st μ K h hK H locs ls hL hG hl hP hS
  exact lv_sipush hX.1 hX.2.1 hd hv (hK _ _ _ _ h H locs ls hL hG hl hP hS)
theorem s_ldc (hX : aX p s m args c cc own Ts nL D Z ad P G A) {ix : Nat} {v : Int32} (hd : decode cc pc = .ok (.ldc ix, 2)) (hc : Cond.constant own ix v ∈ Ts) (hn : pc + 2 = nx) : aSd p l e R s m args below meth c cells slots Q nL D Z ad P G A E (o_ii v nx) pc := by
  subst hn
  intro L st μ K h hK H locs ls hL hG hl hP hS
  exact lv_ldc hX.1 hX.2.1 hX.2.2.2.1 (hX.2.2.2.2.1 _ hc) hd (hK _ _ _ _ h H locs ls hL hG hl hP hS)
theorem s_ldcw (hX : aX p s m args c cc own Ts nL D Z ad P G A) {ix : Nat} {v : Int32} (hd : decode cc pc = .ok (.ldc_w ix, 3)) (hc : Cond.constant own ix v ∈ Ts) (hn : pc + 3 = nx) : aSd p l e R s m args below meth c cells slots Q nL D Z ad P G A E (o_ii v nx) pc := by
  subst hn
  intro L st μ K h hK H locs ls hL hG hl hP hS
  exact lv_ldcw hX.1 hX.2.1 hX.2.2.2.1 (hX.2.2.2.2.1 _ hc) hd (hK _ _ _ _ h H locs ls hL hG hl hP hS)
theorem s_lc (hX : aX p s m args c cc own Ts nL D Z ad P G A) {n : Fin 2} {v : Int64} (hd : decode cc pc = .ok (.lconst n, 1)) (hv : Int64.ofNat (n : Nat) = v) (hn : pc + 1 = nx) : aSd p l e R s m args below meth c cells slots Q nL D Z ad P G A E (o_lc v nx) pc := by
  subst hn
  intro L st μ K h hK H locs ls hL hG hl hP hS
  exact lv_lconst hX.1 hX.2.1 hd hv (hK _ _ _ _ h H locs ls hL hG hl hP hS)
theorem s_ldc2 (hX : aX p s m args c cc own Ts nL D Z ad P G A) {ix : Nat} {v : Int64} (hd : decode cc pc = .ok (.ldc2_w ix, 3)) (hc : Cond.constantLong own ix v ∈ Ts) (hn : pc + 3 = nx) : aSd p l e R s m args below meth c cells slots Q nL D Z ad P G A E (o_lc v nx) pc := by
  subst hn
  intro L st μ K h hK H locs ls hL hG hl hP hS
  exact lv_ldc2 hX.1 hX.2.1 hX.2.2.2.1 (hX.2.2.2.2.1 _ hc) hd (hK _ _ _ _ h H locs ls hL hG hl hP hS)
theorem il_of {α : Prop} {L : aL} {i : Nat} {k : Int32 → Prop} (h : match ag L i with
  | some (.int x) => k x
  | _ => False) (f : ∀ x, ag L i = some (.int x) → k x → α) : α := by
  split at h
  · exact f _ (by assumption) h
  · exact h.elim
theorem s_il_n (hX : aX p s m args c cc own Ts nL D Z ad P G A) {k : Fin 4} {i : Nat} (hd : decode cc pc = .ok (.iload_n k, 1)) (hi : (k : Nat) = i) (hn : pc + 1 = nx) : aSd p l e R s m args below meth c cells slots Q nL D Z ad P G A E (o_il i nx) pc := by
  subst hn
  intro L st μ K h hK H locs ls hL hG hl hP hS
  unfold o_il at h
  split at h
  · rename_i x hx
    exact lv_iload_n hX.1 hX.2.1 hd hi (hl.2.2 _ _ hx) (hK _ _ _ _ h H locs ls hL hG hl hP hS)
  · exact h.elim
theorem s_il (hX : aX p s m args c cc own Ts nL D Z ad P G A) {i : Nat} (hd : decode cc pc = .ok (.iload i, 2)) (hn : pc + 2 = nx) : aSd p l e R s m args below meth c cells slots Q nL D Z ad P G A E (o_il i nx) pc := by
  subst hn
  intro L st μ K h hK H locs ls hL hG hl hP hS
  unfold o_il at h
  split at h
  · rename_i x hx
    exact lv_iload hX.1 hX.2.1 hd (hl.2.2 _ _ hx) (hK _ _ _ _ h H locs ls hL hG hl hP hS)
  · exact h.elim
theorem s_ll_n (hX : aX p s m args c cc own Ts nL D Z ad P G A) {k : Fin 4} {i : Nat} (hd : decode cc pc = .ok (.lload_n k, 1)) (hi : (k : Nat) = i) (hn : pc + 1 = nx) : aSd p l e R s m args below meth c cells slots Q nL D Z ad P G A E (o_ll i nx) pc := by
  subst hn
  intro L st μ K h hK H locs ls hL hG hl hP hS
  unfold o_ll at h
  split at h
  · rename_i x hx
    exact lv_lload_n hX.1 hX.2.1 hd hi (hl.2.2 _ _ hx) (hK _ _ _ _ h H locs ls hL hG hl hP hS)
  · exact h.elim
theorem s_ll (hX : aX p s m args c cc own Ts nL D Z ad P G A) {i : Nat} (hd : decode cc pc = .ok (.lload i, 2)) (hn : pc + 2 = nx) : aSd p l e R s m args below meth c cells slots Q nL D Z ad P G A E (o_ll i nx) pc := by
  subst hn
  intro L st μ K h hK H locs ls hL hG hl hP hS
  unfold o_ll at h
  split at h
  · rename_i x hx
    exact lv_lload hX.1 hX.2.1 hd (hl.2.2 _ _ hx) (hK _ _ _ _ h H locs ls hL hG hl hP hS)
  · exact h.elim
theorem s_al_n (hX : aX p s m args c cc own Ts nL D Z ad P G A) {k : Fin 4} {i : Nat} (hd : decode cc pc = .ok (.aload_n k, 1)) (hi : (k : Nat) = i) (hn : pc + 1 = nx) : aSd p l e R s m args below meth c cells slots Q nL D Z ad P G A E (o_al i nx) pc := by
  subst hn
  intro L st μ K h hK H locs ls hL hG hl hP hS
  unfold o_al at h
  split at h
  · rename_i x hx
    exact lv_aload_n hX.1 hX.2.1 hd hi (hl.2.2 _ _ hx) (hK _ _ _ _ h H locs ls hL hG hl hP hS)
  · rename_i hx
    exact lv_aload_nN hX.1 hX.2.1 hd hi (hl.2.2 _ _ hx) (hK _ _ _ _ h H locs ls hL hG hl hP hS)
  · exact h.elim
theorem s_al (hX : aX p s m args c cc own Ts nL D Z ad P G A) {i : Nat} (hd : decode cc pc = .ok (.aload i, 2)) (hn : pc + 2 = nx) : aSd p l e R s m args below meth c cells slots Q nL D Z ad P G A E (o_al i nx) pc := by
  subst hn
  intro L st μ K h hK H locs ls hL hG hl hP hS
  unfold o_al at h
  split at h
  · rename_i x hx
    exact lv_aload hX.1 hX.2.1 hd (hl.2.2 _ _ hx) (hK _ _ _ _ h H locs ls hL hG hl hP hS)
  · rename_i hx
    exact lv_aloadN hX.1 hX.2.1 hd (hl.2.2 _ _ hx) (hK _ _ _ _ h H locs ls hL hG hl hP hS)
  · exact h.elim
theorem s_is_n (hX : aX p s m args c cc own Ts nL D Z ad P G A) {k : Fin 4} {i : Nat} (hd : decode cc pc = .ok (.istore_n k, 1)) (hi : (k : Nat) = i) (hn : pc + 1 = nx) (hin : i < nL) : aSd p l e R s m args below meth c cells slots Q nL D Z ad P G A E (o_is i nx) pc := by
  subst hn
  intro L st μ K h hK H locs ls hL hG hl hP hS
  unfold o_is at h
  split at h
  · exact lv_istore_n hX.1 hX.2.1 hd hi hl.has hin rfl (fun ls' h' => hK _ _ _ _ h H locs ls' (by rw [as1_len]; exact hL) hG (aLv.st1 h') hP hS)
  · exact h.elim
theorem s_is (hX : aX p s m args c cc own Ts nL D Z ad P G A) {i : Nat} (hd : decode cc pc = .ok (.istore i, 2)) (hn : pc + 2 = nx) (hin : i < nL) : aSd p l e R s m args below meth c cells slots Q nL D Z ad P G A E (o_is i nx) pc := by
  subst hn
  intro L st μ K h hK H locs ls hL hG hl hP hS
  unfold o_is at h
  split at h
  · exact lv_istore hX.1 hX.2.1 hd hl.has hin rfl (fun ls' h' => hK _ _ _ _ h H locs ls' (by rw [as1_len]; exact hL) hG (aLv.st1 h') hP hS)
  · exact h.elim
theorem s_ls_n (hX : aX p s m args c cc own Ts nL D Z ad P G A) {k : Fin 4} {i : Nat} (hd : decode cc pc = .ok (.lstore_n k, 1)) (hi : (k : Nat) = i) (hn : pc + 1 = nx) (hin : i + 1 < nL) : aSd p l e R s m args below meth c cells slots Q nL D Z ad P G A E (o_ls i nx) pc := by
  subst hn
  intro L st μ K h hK H locs ls hL hG hl hP hS
  unfold o_ls at h
  split at h
  · exact lv_lstore_n hX.1 hX.2.1 hd hi hl.has hin rfl (fun ls' h' => hK _ _ _ _ h H locs ls' (by rw [as2_len]; exact hL) hG (aLv.st2 h') hP hS)
  · exact h.elim
theorem s_ls (hX : aX p s m args c cc own Ts nL D Z ad P G A) {i : Nat} (hd : decode cc pc = .ok (.lstore i, 2)) (hn : pc + 2 = nx) (hin : i + 1 < nL) : aSd p l e R s m args below meth c cells slots Q nL D Z ad P G A E (o_ls i nx) pc := by
  subst hn
  intro L st μ K h hK H locs ls hL hG hl hP hS
  unfold o_ls at h
  split at h
  · exact lv_lstore hX.1 hX.2.1 hd hl.has hin rfl (fun ls' h' => hK _ _ _ _ h H locs ls' (by rw [as2_len]; exact hL) hG (aLv.st2 h') hP hS)
  · exact h.elim
theorem s_as_n (hX : aX p s m args c cc own Ts nL D Z ad P G A) {k : Fin 4} {i : Nat} (hd : decode cc pc = .ok (.astore_n k, 1)) (hi : (k : Nat) = i) (hn : pc + 1 = nx) (hin : i < nL) : aSd p l e R s m args below meth c cells slots Q nL D Z ad P G A E (o_as i nx) pc := by
  subst hn
  intro L st μ K h hK H locs ls hL hG hl hP hS
  unfold o_as at h
  split at h
  · exact lv_astore_n hX.1 hX.2.1 hd hi hl.has hin rfl (fun ls' h' => hK _ _ _ _ h H locs ls' (by rw [as1_len]; exact hL) hG (aLv.st1 h') hP hS)
  · exact lv_astore_nN hX.1 hX.2.1 hd hi hl.has hin rfl (fun ls' h' => hK _ _ _ _ h H locs ls' (by rw [as1_len]; exact hL) hG (aLv.st1 h') hP hS)
  · exact h.elim
theorem s_as (hX : aX p s m args c cc own Ts nL D Z ad P G A) {i : Nat} (hd : decode cc pc = .ok (.astore i, 2)) (hn : pc + 2 = nx) (hin : i < nL) : aSd p l e R s m args below meth c cells slots Q nL D Z ad P G A E (o_as i nx) pc := by
  subst hn
  intro L st μ K h hK H locs ls hL hG hl hP hS
  unfold o_as at h
  split at h
  · exact lv_astore hX.1 hX.2.1 hd hl.has hin rfl (fun ls' h' => hK _ _ _ _ h H locs ls' (by rw [as1_len]; exact hL) hG (aLv.st1 h') hP hS)
  · exact lv_astoreN hX.1 hX.2.1 hd hl.has hin rfl (fun ls' h' => hK _ _ _ _ h H locs ls' (by rw [as1_len]; exact hL) hG (aLv.st1 h') hP hS)
  · exact h.elim
theorem s_inc (hX : aX p s m args c cc own Ts nL D Z ad P G A) {i : Nat} {n : Int} {v : Int32} (hd : decode cc pc = .ok (.iinc i n, 3)) (hv : Int32.ofInt n = v) (hn : pc + 3 = nx) (hin : i < nL) : aSd p l e R s m args below meth c cells slots Q nL D Z ad P G A E (o_inc i v nx) pc := by
  subst hn
  subst hv
  intro L st μ K h hK H locs ls hL hG hl hP hS
  unfold o_inc at h
  split at h
  · rename_i x hx
    have hm := asc_of (ad := ad) L 0 i _ hx
    rw [Nat.zero_add] at hm
    obtain ⟨k, hk⟩ := List.getElem?_of_mem hm
    exact lv_iinc hX.1 hX.2.1 hd hl.has hk rfl hin rfl (fun ls' h' => hK _ _ _ _ h H locs ls' (by rw [as1_len]; exact hL) hG (aLv.st1 h') hP hS)
  · exact h.elim
end AS
