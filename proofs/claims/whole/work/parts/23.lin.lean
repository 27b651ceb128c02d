/-! an op has one way on, or one end -/
def aLin (op : aO) : Prop := ∀ (L : aL) (st : List Value) (μ : aM) (K : aK) (E : aR), op L st μ K E → (∃ (pc' : Nat) (L' : aL) (st' : List Value) (μ' : aM), K pc' L' st' μ' ∧ ∀ (K' : aK) (E' : aR), K' pc' L' st' μ' → op L st μ K' E') ∨ (∃ (r : Option Value) (μ1 : aM), E r μ1 ∧ ∀ (K' : aK) (E' : aR), E' r μ1 → op L st μ K' E')
theorem lin_no : aLin o_no := fun _ _ _ _ _ h => h.elim
theorem lin_mk {b : List Bool} {op : aO} (h : aLin op) : aLin (o_mk b op) := fun L st μ K E h1 => h (amk b L) st μ K E h1
theorem lin_ii {v : Int32} {nx : Nat} : aLin (o_ii v nx) := fun _ _ _ _ _ h => Or.inl ⟨_, _, _, _, h, fun _ _ h' => h'⟩
theorem lin_lc {v : Int64} {nx : Nat} : aLin (o_lc v nx) := fun _ _ _ _ _ h => Or.inl ⟨_, _, _, _, h, fun _ _ h' => h'⟩
theorem lin_go {tg : Nat} : aLin (o_go tg) := fun _ _ _ _ _ h => Or.inl ⟨_, _, _, _, h, fun _ _ h' => h'⟩
theorem lin_gst {nx : Nat} : aLin (o_gst nx) := fun _ _ _ _ _ h => Or.inl ⟨_, _, _, _, h, fun _ _ h' => h'⟩
theorem lin_ldS {i nx : Nat} : aLin (o_ldS i nx) := fun _ _ _ _ _ h => Or.inl ⟨_, _, _, _, h, fun _ _ h' => h'⟩
theorem lin_cmp {nx : Nat} : aLin (o_cmp nx) := fun _ _ _ _ _ h => Or.inl ⟨_, _, _, _, h, fun _ _ h' => h'⟩
theorem lin_il {i nx : Nat} : aLin (o_il i nx) := by
  intro L st μ K E h
  unfold o_il at h
  split at h
  · rename_i x hx
    exact Or.inl ⟨_, _, _, _, h, fun K' E' h' => by unfold o_il; rw [hx]; exact h'⟩
  · exact h.elim
theorem lin_ll {i nx : Nat} : aLin (o_ll i nx) := by
  intro L st μ K E h
  unfold o_ll at h
  split at h
  · rename_i x hx
    exact Or.inl ⟨_, _, _, _, h, fun K' E' h' => by unfold o_ll; rw [hx]; exact h'⟩
  · exact h.elim
theorem lin_al {i nx : Nat} : aLin (o_al i nx) := by
  intro L st μ K E h
  unfold o_al at h
  split at h
  · rename_i x hx
    exact Or.inl ⟨_, _, _, _, h, fun K' E' h' => by unfold o_al; rw [hx]; exact h'⟩
  · rename_i hx
    exact Or.inl ⟨_, _, _, _, h, fun K' E' h' => by unfold o_al; rw [hx]; exact h'⟩
  · exact h.elim
theorem lin_inc {i : Nat} {v : Int32} {nx : Nat} : aLin (o_inc i v nx) := by
  intro L st μ K E h
  unfold o_inc at h
  split at h
  · rename_i x hx
    exact Or.inl ⟨_, _, _, _, h, fun K' E' h' => by unfold o_inc; rw [hx]; exact h'⟩
  · exact h.elim
theorem lin_is {i nx : Nat} : aLin (o_is i nx) := by
  intro L st μ K E h
  unfold o_is at h
  split at h
  · exact Or.inl ⟨_, _, _, _, h, fun _ _ h' => h'⟩
  · exact h.elim
theorem lin_ls {i nx : Nat} : aLin (o_ls i nx) := by
  intro L st μ K E h
  unfold o_ls at h
  split at h
  · exact Or.inl ⟨_, _, _, _, h, fun _ _ h' => h'⟩
  · exact h.elim
theorem lin_as {i nx : Nat} : aLin (o_as i nx) := by
  intro L st μ K E h
  unfold o_as at h
  split at h
  · exact Or.inl ⟨_, _, _, _, h, fun _ _ h' => h'⟩
  · exact Or.inl ⟨_, _, _, _, h, fun _ _ h' => h'⟩
  · exact h.elim
theorem lin_bi {f : Int32 → Int32 → Int32} {nx : Nat} : aLin (o_bi f nx) := by
  intro L st μ K E h
  unfold o_bi at h
  split at h
  · exact Or.inl ⟨_, _, _, _, h, fun _ _ h' => h'⟩
  · exact h.elim
theorem lin_ui {f : Int32 → Int32} {nx : Nat} : aLin (o_ui f nx) := by
  intro L st μ K E h
  unfold o_ui at h
  split at h
  · exact Or.inl ⟨_, _, _, _, h, fun _ _ h' => h'⟩
  · exact h.elim
theorem lin_tl {f : Int32 → Int64} {nx : Nat} : aLin (o_tl f nx) := by
  intro L st μ K E h
  unfold o_tl at h
  split at h
  · exact Or.inl ⟨_, _, _, _, h, fun _ _ h' => h'⟩
  · exact h.elim
theorem lin_ti {f : Int64 → Int32} {nx : Nat} : aLin (o_ti f nx) := by
  intro L st μ K E h
  unfold o_ti at h
  split at h
  · exact Or.inl ⟨_, _, _, _, h, fun _ _ h' => h'⟩
  · exact h.elim
theorem lin_bl {f : Int64 → Int64 → Int64} {nx : Nat} : aLin (o_bl f nx) := by
  intro L st μ K E h
  unfold o_bl at h
  split at h
  · exact Or.inl ⟨_, _, _, _, h, fun _ _ h' => h'⟩
  · exact h.elim
theorem lin_dv {nx : Nat} : aLin (o_dv nx) := by
  intro L st μ K E h
  unfold o_dv at h
  split at h
  · obtain ⟨q0, h⟩ := h
    exact Or.inl ⟨_, _, _, _, h, fun _ _ h' => ⟨q0, h'⟩⟩
  · exact h.elim
theorem lin_rm {nx : Nat} : aLin (o_rm nx) := by
  intro L st μ K E h
  unfold o_rm at h
  split at h
  · obtain ⟨q0, h⟩ := h
    exact Or.inl ⟨_, _, _, _, h, fun _ _ h' => ⟨q0, h'⟩⟩
  · exact h.elim
theorem lin_ldv {nx : Nat} : aLin (o_ldv nx) := by
  intro L st μ K E h
  unfold o_ldv at h
  split at h
  · obtain ⟨q0, h⟩ := h
    exact Or.inl ⟨_, _, _, _, h, fun _ _ h' => ⟨q0, h'⟩⟩
  · exact h.elim
theorem lin_lrm {nx : Nat} : aLin (o_lrm nx) := by
  intro L st μ K E h
  unfold o_lrm at h
  split at h
  · obtain ⟨q0, h⟩ := h
    exact Or.inl ⟨_, _, _, _, h, fun _ _ h' => ⟨q0, h'⟩⟩
  · exact h.elim
theorem lin_lcm {nx : Nat} : aLin (o_lcm nx) := by
  intro L st μ K E h
  unfold o_lcm at h
  split at h
  · exact Or.inl ⟨_, _, _, _, h, fun _ _ h' => h'⟩
  · exact h.elim
theorem lin_dup {nx : Nat} : aLin (o_dup nx) := by
  intro L st μ K E h
  unfold o_dup at h
  split at h
  · obtain ⟨q0, h⟩ := h
    exact Or.inl ⟨_, _, _, _, h, fun _ _ h' => ⟨q0, h'⟩⟩
  · exact h.elim
theorem lin_dup2 {nx : Nat} : aLin (o_dup2 nx) := by
  intro L st μ K E h
  unfold o_dup2 at h
  split at h
  · obtain ⟨q0, q1, h⟩ := h
    exact Or.inl ⟨_, _, _, _, h, fun _ _ h' => ⟨q0, q1, h'⟩⟩
  · exact h.elim
theorem lin_pop {nx : Nat} : aLin (o_pop nx) := by
  intro L st μ K E h
  unfold o_pop at h
  split at h
  · obtain ⟨q0, h⟩ := h
    exact Or.inl ⟨_, _, _, _, h, fun _ _ h' => ⟨q0, h'⟩⟩
  · exact h.elim
theorem lin_if {q : Int32 → Prop} {tg nx : Nat} : aLin (o_if q tg nx) := by
  intro L st μ K E h
  unfold o_if at h
  split at h
  · rcases h with ⟨q, h⟩ | ⟨q, h⟩
    · exact Or.inl ⟨_, _, _, _, h, fun _ _ h' => Or.inl ⟨q, h'⟩⟩
    · exact Or.inl ⟨_, _, _, _, h, fun _ _ h' => Or.inr ⟨q, h'⟩⟩
  · exact h.elim
theorem lin_ic {q : Int32 → Int32 → Prop} {tg nx : Nat} : aLin (o_ic q tg nx) := by
  intro L st μ K E h
  unfold o_ic at h
  split at h
  · rcases h with ⟨q, h⟩ | ⟨q, h⟩
    · exact Or.inl ⟨_, _, _, _, h, fun _ _ h' => Or.inl ⟨q, h'⟩⟩
    · exact Or.inl ⟨_, _, _, _, h, fun _ _ h' => Or.inr ⟨q, h'⟩⟩
  · exact h.elim
theorem lin_nul {tg nx : Nat} : aLin (o_nul tg nx) := by
  intro L st μ K E h
  unfold o_nul at h
  split at h
  · exact Or.inl ⟨_, _, _, _, h, fun _ _ h' => h'⟩
  · exact Or.inl ⟨_, _, _, _, h, fun _ _ h' => h'⟩
  · exact h.elim
theorem lin_gI {g k nx : Nat} : aLin (o_gI g k nx) := by
  intro L st μ K E h
  unfold o_gI at h
  split at h
  · obtain ⟨q0, h⟩ := h
    exact Or.inl ⟨_, _, _, _, h, fun _ _ h' => ⟨q0, h'⟩⟩
  · exact h.elim
theorem lin_gF {g k nx : Nat} : aLin (o_gF g k nx) := by
  intro L st μ K E h
  unfold o_gF at h
  split at h
  · obtain ⟨q0, h⟩ := h
    exact Or.inl ⟨_, _, _, _, h, fun _ _ h' => ⟨q0, h'⟩⟩
  · exact h.elim
theorem lin_gR {g k nx : Nat} : aLin (o_gR g k nx) := by
  intro L st μ K E h
  unfold o_gR at h
  split at h
  · rcases h with ⟨q0, ⟨q, h⟩ | ⟨a, q, h⟩⟩
    · exact Or.inl ⟨_, _, _, _, h, fun _ _ h' => ⟨q0, Or.inl ⟨q, h'⟩⟩⟩
    · exact Or.inl ⟨_, _, _, _, h, fun _ _ h' => ⟨q0, Or.inr ⟨a, q, h'⟩⟩⟩
  · exact h.elim
theorem lin_pI {g k nx : Nat} : aLin (o_pI g k nx) := by
  intro L st μ K E h
  unfold o_pI at h
  split at h
  · obtain ⟨q0, h⟩ := h
    exact Or.inl ⟨_, _, _, _, h, fun _ _ h' => ⟨q0, h'⟩⟩
  · exact h.elim
theorem lin_pZ {g k nx : Nat} : aLin (o_pZ g k nx) := by
  intro L st μ K E h
  unfold o_pZ at h
  split at h
  · obtain ⟨q0, q1, h⟩ := h
    exact Or.inl ⟨_, _, _, _, h, fun _ _ h' => ⟨q0, q1, h'⟩⟩
  · exact h.elim
theorem lin_pR {g k nx : Nat} : aLin (o_pR g k nx) := by
  intro L st μ K E h
  unfold o_pR at h
  split at h
  · obtain ⟨q0, h⟩ := h
    exact Or.inl ⟨_, _, _, _, h, fun _ _ h' => ⟨q0, h'⟩⟩
  · exact h.elim
theorem lin_iald {nx : Nat} : aLin (o_iald nx) := by
  intro L st μ K E h
  unfold o_iald at h
  split at h
  · obtain ⟨q0, q1, h⟩ := h
    exact Or.inl ⟨_, _, _, _, h, fun _ _ h' => ⟨q0, q1, h'⟩⟩
  · exact h.elim
theorem lin_iast {nx : Nat} : aLin (o_iast nx) := by
  intro L st μ K E h
  unfold o_iast at h
  split at h
  · obtain ⟨q0, q1, h⟩ := h
    exact Or.inl ⟨_, _, _, _, h, fun _ _ h' => ⟨q0, q1, h'⟩⟩
  · exact h.elim
theorem lin_aald {g nx : Nat} : aLin (o_aald g nx) := by
  intro L st μ K E h
  unfold o_aald at h
  split at h
  · obtain ⟨q0, q1, b, q2, h⟩ := h
    exact Or.inl ⟨_, _, _, _, h, fun _ _ h' => ⟨q0, q1, b, q2, h'⟩⟩
  · exact h.elim
theorem lin_alen {nx : Nat} : aLin (o_alen nx) := by
  intro L st μ K E h
  unfold o_alen at h
  split at h
  · obtain ⟨q0, h⟩ := h
    exact Or.inl ⟨_, _, _, _, h, fun _ _ h' => ⟨q0, h'⟩⟩
  · exact h.elim
theorem lin_max {nx : Nat} : aLin (o_max nx) := by
  intro L st μ K E h
  unfold o_max at h
  split at h
  · obtain ⟨q0, h⟩ := h
    exact Or.inl ⟨_, _, _, _, h, fun _ _ h' => ⟨q0, h'⟩⟩
  · exact h.elim
theorem lin_min {nx : Nat} : aLin (o_min nx) := by
  intro L st μ K E h
  unfold o_min at h
  split at h
  · obtain ⟨q0, h⟩ := h
    exact Or.inl ⟨_, _, _, _, h, fun _ _ h' => ⟨q0, h'⟩⟩
  · exact h.elim
theorem lin_cpy {nx : Nat} : aLin (o_cpy nx) := by
  intro L st μ K E h
  unfold o_cpy at h
  split at h
  · obtain ⟨q0, q1, q2, q3, q4, q5, q6, q7, h⟩ := h
    exact Or.inl ⟨_, _, _, _, h, fun _ _ h' => ⟨q0, q1, q2, q3, q4, q5, q6, q7, h'⟩⟩
  · exact h.elim
theorem lin_tld {nx : Nat} : aLin (o_tld nx) := by
  intro L st μ K E h
  unfold o_tld at h
  split at h
  · obtain ⟨q0, q1, h⟩ := h
    exact Or.inl ⟨_, _, _, _, h, fun _ _ h' => ⟨q0, q1, h'⟩⟩
  · exact h.elim
theorem lin_sgv {nx : Nat} : aLin (o_sgv nx) := by
  intro L st μ K E h
  unfold o_sgv at h
  split at h
  · obtain ⟨i, q0, q1, h⟩ := h
    exact Or.inl ⟨_, _, _, _, h, fun _ _ h' => ⟨i, q0, q1, h'⟩⟩
  · exact h.elim
theorem lin_sgc {nx : Nat} : aLin (o_sgc nx) := by
  intro L st μ K E h
  unfold o_sgc at h
  split at h
  · obtain ⟨i, q0, q1, h⟩ := h
    exact Or.inl ⟨_, _, _, _, h, fun _ _ h' => ⟨i, q0, q1, h'⟩⟩
  · exact h.elim
theorem lin_sal {nx : Nat} : aLin (o_sal nx) := by
  intro L st μ K E h
  unfold o_sal at h
  split at h
  · obtain ⟨i, q0, q1, h⟩ := h
    exact Or.inl ⟨_, _, _, _, h, fun _ _ h' => ⟨i, q0, q1, h'⟩⟩
  · exact h.elim
theorem lin_sbl {nx : Nat} : aLin (o_sbl nx) := by
  intro L st μ K E h
  unfold o_sbl at h
  split at h
  · obtain ⟨i, q0, q1, q2, h⟩ := h
    exact Or.inl ⟨_, _, _, _, h, fun _ _ h' => ⟨i, q0, q1, q2, h'⟩⟩
  · exact h.elim
theorem lin_ri  : aLin (o_ri) := by
  intro L st μ K E h
  unfold o_ri at h
  split at h
  · exact Or.inr ⟨_, _, h, fun _ _ h' => h'⟩
  · exact h.elim
theorem lin_rz  : aLin (o_rz) := by
  intro L st μ K E h
  unfold o_rz at h
  split at h
  · obtain ⟨q, h⟩ := h
    exact Or.inr ⟨_, _, h, fun _ _ h' => ⟨q, h'⟩⟩
  · exact h.elim
theorem lin_rl  : aLin (o_rl) := by
  intro L st μ K E h
  unfold o_rl at h
  split at h
  · exact Or.inr ⟨_, _, h, fun _ _ h' => h'⟩
  · exact h.elim
theorem lin_rv  : aLin (o_rv) := by
  intro L st μ K E h
  unfold o_rv at h
  split at h
  · exact Or.inr ⟨_, _, h, fun _ _ h' => h'⟩
  · exact h.elim
theorem lin_rt {ty : FieldType} : aLin (o_rt ty) := by
  intro L st μ K E h
  unfold o_rt at h
  split at h
  · obtain ⟨q, h⟩ := h
    exact Or.inr ⟨_, _, h, fun _ _ h' => ⟨q, h'⟩⟩
  · exact h.elim
theorem lin_sw1 {x : Int32} : ∀ (t : List (Int32 × Nat)) (d : Nat) (k : Nat → Prop), aSw x k t d → ∃ pc', k pc' ∧ ∀ k' : Nat → Prop, k' pc' → aSw x k' t d
  | [], d, k, h => ⟨d, h, fun _ h' => h'⟩
  | q :: t, d, k, h => by
    rcases h with ⟨h1, h2⟩ | ⟨h1, h2⟩
    · exact ⟨_, h2, fun _ h' => Or.inl ⟨h1, h'⟩⟩
    · obtain ⟨pc', h3, h4⟩ := lin_sw1 t d k h2
      exact ⟨pc', h3, fun k' h' => Or.inr ⟨h1, h4 k' h'⟩⟩
theorem lin_sw {t : List (Int32 × Nat)} {d : Nat} : aLin (o_sw t d) := by
  intro L st μ K E h
  unfold o_sw at h
  split at h
  · obtain ⟨pc', h1, h2⟩ := lin_sw1 _ _ _ h
    exact Or.inl ⟨pc', _, _, _, h1, fun K' _ h' => h2 _ h'⟩
  · exact h.elim
theorem lin_cS {C : aC} {n nx : Nat} : aLin (o_cS C n nx) := by
  intro L st μ K E h
  obtain ⟨r, μ', h1, h2, h3, h4⟩ := h
  exact Or.inl ⟨_, _, _, _, h4, fun _ _ h' => ⟨r, μ', h1, h2, h3, h'⟩⟩
theorem lin_cV {C : aC} {g n nx : Nat} : aLin (o_cV C g n nx) := by
  intro L st μ K E h
  obtain ⟨b, t, r, μ', h1, h2, h3, h4, h5⟩ := h
  exact Or.inl ⟨_, _, _, _, h5, fun _ _ h' => ⟨b, t, r, μ', h1, h2, h3, h4, h'⟩⟩
theorem lin_cVs {C : aC} {n nx : Nat} : aLin (o_cVs C n nx) := by
  intro L st μ K E h
  obtain ⟨b, t, r, μ', h1, h2, h3, h4, h5⟩ := h
  exact Or.inl ⟨_, _, _, _, h5, fun _ _ h' => ⟨b, t, r, μ', h1, h2, h3, h4, h'⟩⟩
def aVl (tb : aT) : Prop := ∀ q ∈ tb, aLin q.2.2
theorem aV_n : aVl [] := fun _ h => (List.not_mem_nil h).elim
theorem aV_c {q : Nat × (Instr × Nat) × aO} {tb : aT} (h : aLin q.2.2) (k : aVl tb) : aVl (q :: tb) := fun q' hq => (List.mem_cons.mp hq).elim (fun e => e ▸ h) (fun h' => k q' h')
theorem arun_ext {tb : aT} (hl : aVl tb) {E : aR} : ∀ (n pc : Nat) (L : aL) (st : List Value) (μ : aM), arun tb E n pc L st μ → ∃ (r : Option Value) (μ1 : aM), E r μ1 ∧ ∀ E' : aR, E' r μ1 → arun tb E' n pc L st μ
  | 0, _, _, _, _, h => h.elim
  | n + 1, pc, L, st, μ, h => by
    have h9 : alk tb pc L st μ (arun tb E n) E := h
    rcases alk_mem tb pc with h1 | ⟨q, h1, h2, h3⟩
    · rw [h1] at h9
      exact h9.elim
    · rw [h3] at h9
      rcases hl q h1 L st μ _ _ h9 with ⟨pc', L', st', μ', k1, k2⟩ | ⟨r, μ1, k1, k2⟩
      · obtain ⟨r, μ1, e1, e2⟩ := arun_ext hl n pc' L' st' μ' k1
        refine ⟨r, μ1, e1, fun E' hE' => ?_⟩
        show alk tb pc L st μ (arun tb E' n) E'
        rw [h3]
        exact k2 _ _ (e2 E' hE')
      · refine ⟨r, μ1, k1, fun E' hE' => ?_⟩
        show alk tb pc L st μ (arun tb E' n) E'
        rw [h3]
        exact k2 _ _ hE'
/-- an outcome out of a run -/
theorem aC_ex {tb : aT} (hl : aVl tb) {n : Nat} {args : List Value} {μ : aM} {E : aR} (hf : aFit args n) (h : aw tb E 0 (aent args n) [] μ) : ∃ (r : Option Value) (μ1 : aM), E r μ1 ∧ aCl tb n args μ r μ1 := by
  obtain ⟨k, h⟩ := h
  obtain ⟨r, μ1, h1, h2⟩ := arun_ext hl k 0 _ _ _ h
  exact ⟨r, μ1, h1, hf, k, h2 _ ⟨rfl, rfl⟩⟩
