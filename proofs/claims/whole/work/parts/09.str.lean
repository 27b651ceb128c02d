/-! soundness: the words (String constants), ends of small types, what is never come to -/
def o_ldS (i nx : Nat) : aO := fun L st μ K _ => K nx L (.ref (1001 + i) :: st) μ
def o_sgv (nx : Nat) : aO := fun L st μ K _ => match st with
  | .ref a :: t => ∃ i, i < 12 ∧ a = 1001 + i ∧ K nx L (.ref (1101 + i) :: t) μ
  | _ => False
def o_sgc (nx : Nat) : aO := fun L st μ K _ => match st with
  | .ref a :: t => ∃ i, i < 12 ∧ a = 1001 + i ∧ K nx L (.int 0 :: t) μ
  | _ => False
def o_cmp (nx : Nat) : aO := fun L st μ K _ => K nx L (.int 1 :: st) μ
def o_gsq (nx : Nat) : aO := fun L st μ K _ => K nx L (.null :: st) μ ∧ K nx L (.ref 1200 :: st) μ
def o_sal (nx : Nat) : aO := fun L st μ K _ => match st with
  | .ref a :: t => ∃ i, i < 12 ∧ a = 1101 + i ∧ K nx L (.int (Int32.ofNat (aSle.getD i 0)) :: t) μ
  | _ => False
def o_sbl (nx : Nat) : aO := fun L st μ K _ => match st with
  | .int k :: .ref a :: t => ∃ i, i < 12 ∧ a = 1101 + i ∧ vp_in k (aSle.getD i 0) ∧ K nx L (.int ((aSby.getD i []).getD k.toNatClampNeg 0) :: t) μ
  | _ => False
def o_cVs (C : aC) (n nx : Nat) : aO := fun L st μ K _ => ∃ (b : Nat) (t : List Value) (r : Option Value) (μ' : aM), st.drop n = .ref b :: t ∧ (∃ i, i < 12 ∧ b = 1001 + i) ∧ aRest t ∧ C (.ref b :: (st.take n).reverse) μ r μ' ∧ K nx L (r.toList ++ t) μ'
def o_rt (ty : FieldType) : aO := fun _ st μ _ E => match st with
  | [.int v] => narrow ty (.int v) = .int v ∧ E (some (.int v)) μ
  | _ => False
section AS6
variable {p : Program} {l : Launch} {e : Env} {R : Room} {s : State} {m : MethodId} {args : Array Value} {below : List Frame} {meth : Method} {c : Code} {cells slots : Nat} {Q : State → Prop} {cc : ByteArray} {own : String} {Ts : List Cond} {nL : Nat} {D : va_G} {Z : aZ} {ad : Nat → Nat} {P : List Nat} {G : Nat → Nat × Nat} {A : Nat → Prop} {E : aR} {pc nx : Nat}
theorem aX.gl (hX : aX p s m args c cc own Ts nL D Z ad P G A) : aGl ad A s s.heap := hX.2.2.2.2.2.2.2.2.2.2.2
theorem s_no : aSd p l e R s m args below meth c cells slots Q nL D Z ad P G A E o_no pc := fun _ _ _ _ h => h.elim
theorem s_ldS (hX : aX p s m args c cc own Ts nL D Z ad P G A) {i ix : Nat} (hi : i < 12) (ho : own = RX1) (hx : aSix.getD i 0 = ix) (hd : decode cc pc = .ok (.ldc ix, 2)) (hn : pc + 2 = nx) : aSd p l e R s m args below meth c cells slots Q nL D Z ad P G A E (o_ldS i nx) pc := by
  subst hn
  subst ho
  subst hx
  intro L st μ K h hK H locs ls hL hG hl hP hS
  exact va_ldcS hX.1 hX.2.1 hX.2.2.2.1 (hX.gl.2.2.2.1 i hi) hd (hK _ _ _ _ h H locs ls hL hG hl hP hS)
theorem s_sgv (hX : aX p s m args c cc own Ts nL D Z ad P G A) {ix : Nat} (hlink : Cond.fieldLink own ix "java/lang/String" "value" "[B" ∈ Ts) (hd : decode cc pc = .ok (.getfield ix, 3)) (hn : pc + 3 = nx) : aSd p l e R s m args below meth c cells slots Q nL D Z ad P G A E (o_sgv nx) pc := by
  subst hn
  intro L st μ K h hK H locs ls hL hG hl hP hS
  unfold o_sgv at h
  split at h
  · obtain ⟨i, hi, ha, h⟩ := h
    subst ha
    exact vk_getf hX.1 hX.2.1 (hX.gl.2.2.1.1 i hi).2.2.1 hS hX.2.2.2.1 (hX.2.2.2.2.1 _ hlink) (fun _ h9 => h9) hd (hK _ _ _ _ h H locs ls hL hG hl hP hS)
  · exact h.elim
theorem s_sgc (hX : aX p s m args c cc own Ts nL D Z ad P G A) {ix : Nat} (hlink : Cond.fieldLink own ix "java/lang/String" "coder" "B" ∈ Ts) (hd : decode cc pc = .ok (.getfield ix, 3)) (hn : pc + 3 = nx) : aSd p l e R s m args below meth c cells slots Q nL D Z ad P G A E (o_sgc nx) pc := by
  subst hn
  intro L st μ K h hK H locs ls hL hG hl hP hS
  unfold o_sgc at h
  split at h
  · obtain ⟨i, hi, ha, h⟩ := h
    subst ha
    exact vk_getf hX.1 hX.2.1 (hX.gl.2.2.1.1 i hi).2.1 hS hX.2.2.2.1 (hX.2.2.2.2.1 _ hlink) (fun _ h9 => h9) hd (hK _ _ _ _ h H locs ls hL hG hl hP hS)
  · exact h.elim
theorem s_cmp (hX : aX p s m args c cc own Ts nL D Z ad P G A) {ix : Nat} (hlink : Cond.fieldLink own ix "java/lang/String" "COMPACT_STRINGS" "Z" ∈ Ts) (hd : decode cc pc = .ok (.getstatic ix, 3)) (hn : pc + 3 = nx) : aSd p l e R s m args below meth c cells slots Q nL D Z ad P G A E (o_cmp nx) pc := by
  subst hn
  intro L st μ K h hK H locs ls hL hG hl hP hS
  exact va_gets hX.1 hX.2.1 hX.gl.2.2.2.2.1 hS hX.2.2.2.1 (hX.2.2.2.2.1 _ hlink) (fun _ h9 => h9) hd (hK _ _ _ _ h H locs ls hL hG hl hP hS)
theorem s_gsq (hX : aX p s m args c cc own Ts nL D Z ad P G A) {ix : Nat} (hlink : Cond.fieldLink own ix "jdk/internal/util/Preconditions" "SIOOBE_FORMATTER" "Ljava/util/function/BiFunction;" ∈ Ts) (hd : decode cc pc = .ok (.getstatic ix, 3)) (hn : pc + 3 = nx) : aSd p l e R s m args below meth c cells slots Q nL D Z ad P G A E (o_gsq nx) pc := by
  subst hn
  intro L st μ K h hK H locs ls hL hG hl hP hS
  rcases hX.gl.2.2.2.2.2 with hz | hz
  · exact va_gets hX.1 hX.2.1 hz hS hX.2.2.2.1 (hX.2.2.2.2.1 _ hlink) (fun _ h9 => h9) hd (hK _ _ _ _ h.1 H locs ls hL hG hl hP hS)
  · exact va_gets hX.1 hX.2.1 hz hS hX.2.2.2.1 (hX.2.2.2.2.1 _ hlink) (fun _ h9 => h9) hd (hK _ _ _ _ h.2 H locs ls hL hG hl hP hS)
theorem s_sal (hX : aX p s m args c cc own Ts nL D Z ad P G A) (hd : decode cc pc = .ok (.arraylength, 1)) (hn : pc + 1 = nx) : aSd p l e R s m args below meth c cells slots Q nL D Z ad P G A E (o_sal nx) pc := by
  subst hn
  intro L st μ K h hK H locs ls hL hG hl hP hS
  unfold o_sal at h
  split at h
  · obtain ⟨i, hi, ha, h⟩ := h
    subst ha
    exact va_tlen hX.1 hX.2.1 (hX.gl.2.2.1.1 i hi).2.2.2 hS rfl hd (hK _ _ _ _ h H locs ls hL hG hl hP hS)
  · exact h.elim
theorem s_sbl (hX : aX p s m args c cc own Ts nL D Z ad P G A) (hd : decode cc pc = .ok (.baload, 1)) (hn : pc + 1 = nx) : aSd p l e R s m args below meth c cells slots Q nL D Z ad P G A E (o_sbl nx) pc := by
  subst hn
  intro L st μ K h hK H locs ls hL hG hl hP hS
  unfold o_sbl at h
  split at h
  · obtain ⟨i, hi, ha, h1, h⟩ := h
    subst ha
    exact va_tb hX.1 hX.2.1 (hX.gl.2.2.1.1 i hi).2.2.2 hS h1 rfl hd (hK _ _ _ _ h H locs ls hL hG hl hP hS)
  · exact h.elim
theorem s_i2c (hX : aX p s m args c cc own Ts nL D Z ad P G A) (hd : decode cc pc = .ok (.i2c, 1)) (hn : pc + 1 = nx) : aSd p l e R s m args below meth c cells slots Q nL D Z ad P G A E (o_ui (fun x => (x.toUInt32 % 65536).toInt32) nx) pc := by
  subst hn
  intro L st μ K h hK H locs ls hL hG hl hP hS
  unfold o_ui at h
  split at h
  · exact lv_i2c hX.1 hX.2.1 hd rfl (hK _ _ _ _ h H locs ls hL hG hl hP hS)
  · exact h.elim
theorem s_rt (hX : aX p s m args c cc own Ts nL D Z ad P G A) {ty : FieldType} {Qc : Array Value → State → Outcome → State → Prop} (hr : meth.sig.returnType = some ty) (hlocks : meth.locks = false) (hE : aFin s args D Z ad P G A Qc E) (hd : decode cc pc = .ok (.ireturn, 1)) : aSd p l e R s m args below meth c cells slots (MQ below Qc args s cells slots A) nL D Z ad P G A E (o_rt ty) pc := by
  intro L st μ K h hK H locs ls hL hG hl hP hS
  unfold o_rt at h
  split at h
  · obtain ⟨h0, h⟩ := h
    exact W.zret hX.1 hX.2.1 hr h0 (fun t ht hW => hE (some (.int _)) _ trivial h t hW (by rw [ht]; exact hP) hG (hS.F ht)) hS.2.2 hd hlocks
  · exact h.elim
theorem s_cVs (hX : aX p s m args c cc own Ts nL D Z ad P G A) {C : aC} {n ix : Nat} {y : MethodName} {ws ws' : List Cond} {rm : Room} {bytes : ByteArray} {maxL : Nat} {ret : Option FieldType} (hM : aMt l y ws rm C) (hg : GoodIn Ts (wsV own ix "java/lang/String" y ws)) (hw : ws = Cond.code y bytes maxL ret :: ws') (hrc : rm.cells = 0) (hrs : rm.slots = 0)
    (hy : y.cls = "java/lang/String" ∧ y.cls ≠ "java/lang/invoke/MethodHandle" ∧ y.cls ≠ "java/lang/invoke/VarHandle" ∧ (parseMethodDescriptor y.desc).map (fun d => d.parameters.length) = some n) (hR : rm.frames + 1 ≤ R.frames ∧ 8 + (maxL + 11) + rm.locals ≤ R.locals) (hcs : cells ≤ R.cells ∧ slots ≤ R.slots) (hd : decode cc pc = .ok (.invokevirtual ix, 3)) (hn : pc + 3 = nx) : aSd p l e R s m args below meth c cells slots Q nL D Z ad P G A E (o_cVs C n nx) pc := by
  subst hn
  intro L st μ K h hK H locs ls hL hG hl hP hS
  obtain ⟨b, t, r, μ', h1, h2, h3, h4, h5⟩ := h
  obtain ⟨i, hi, hb⟩ := h2
  have hlen : (st.take n).length = n := by
    have h6 := congrArg List.length h1
    rw [List.length_drop, List.length_cons] at h6
    rw [List.length_take]
    omega
  have hst : st.map (cv ad) = (((st.take n).reverse).map (cv ad)).reverse ++ .ref (ad b) :: t.map (cv ad) := by
    conv => lhs; rw [← List.take_append_drop n st, h1]
    rw [List.map_append, List.map_reverse, List.reverse_reverse]
    rfl
  have hrv : ∃ cell : Cell, H[ad b]? = some cell ∧ cell.vm.isStatics = false ∧ s.vm.findClass "java/lang/String" = some cell.cls := by
    rw [hb]
    exact vk_recv (adK := fun i => ad (1001 + i)) (i := i) hX.gl.2.2.1 hi hS
  refine hX.back hG hS hL hl (va_runV (As := ((st.take n).reverse).map (cv ad)) (rest := t.map (cv ad)) ⟨hX.1, hX.2.1, hX.2.2.1, hX.2.2.2.1, hX.2.2.2.2.1⟩ (hM D Z ad P H.size _ μ r μ' h4 (hX.ok hG)) (cwV n hX.2.2.2.2.1 hg hw hrc hrs hy hR) ⟨aSt.blind, hrv, fun U hU hW => ⟨rfl, hX.start hP hS (hX.sub hS) U hU hW⟩⟩ rfl ?_ hl.1 hst (lv_room (cv_rest h3)) hd hcs) h5 hK
  rw [List.length_map, List.length_reverse, hlen]
end AS6
