/-! no reference points to a free place -/
def lvP (G : Nat → Nat × Nat) (x : Nat) : Prop := ¬ G x = (0, 0) ∨ 1000 ≤ x
def lvV (G : Nat → Nat × Nat) : Option Value → Prop
  | some (.ref x) => lvP G x
  | _ => True
def gdL (G : Nat → Nat × Nat) (L : aL) : Prop := ∀ k v, ag L k = some v → lvV G (some v)
def gdS (G : Nat → Nat × Nat) : List Value → Prop
  | [] => True
  | v :: st => lvV G (some v) ∧ gdS G st
/-- references stand at live places, and so do the places that a layout means -/
def gdM (G : Nat → Nat × Nat) (μ : aM) : Prop := μ.2.2 = G ∧ (∀ k i x, μ.2.1 k i = some x → lvP G x) ∧ ∀ k g j i, (G k).1 = g + 4 → j < anf g → alay g j = i + 2 → lvP G (k + i)
def gd (G : Nat → Nat × Nat) (L : aL) (st : List Value) (μ : aM) : Prop := gdL G L ∧ gdS G st ∧ gdM G μ
def aKls (op : aO) : Prop := ∀ (G : Nat → Nat × Nat) (L : aL) (st : List Value) (μ : aM) (K : aK) (E : aR), gd G L st μ → op L st μ K E → op L st μ (fun pc L st μ => gd G L st μ ∧ K pc L st μ) (fun r μ => (lvV G r ∧ gdM G μ) ∧ E r μ)
def aCC (C : aC) : Prop := ∀ (args : List Value) (μ : aM) (r : Option Value) (μ' : aM), C args μ r μ' → ∀ G : Nat → Nat × Nat, (∀ v ∈ args, lvV G (some v)) → gdM G μ → lvV G r ∧ gdM G μ'
theorem gdS_m {G : Nat → Nat × Nat} : ∀ (st : List Value), gdS G st ↔ ∀ v ∈ st, lvV G (some v)
  | [] => ⟨fun _ _ h => (List.not_mem_nil h).elim, fun _ => trivial⟩
  | v :: st => ⟨fun h w hw => (List.mem_cons.mp hw).elim (fun e => e ▸ h.1) (fun h2 => (gdS_m st).mp h.2 w h2), fun h => ⟨h v List.mem_cons_self, (gdS_m st).mpr fun w hw => h w (List.mem_cons_of_mem _ hw)⟩⟩
theorem gdL.s1 {G : Nat → Nat × Nat} {L : aL} {i : Nat} {v : Value} (h : gdL G L) (hv : lvV G (some v)) : gdL G (as1 L i v) := fun k w hk => by
  rcases ag_as1 L i k v w hk with ⟨_, e⟩ | ⟨_, e, _⟩
  · rw [e]; exact hv
  · exact h k w e
theorem gdL.s2 {G : Nat → Nat × Nat} {L : aL} {i : Nat} {v : Value} (h : gdL G L) (hv : lvV G (some v)) : gdL G (as2 L i v) := fun k w hk => by
  rcases ag_as2 L i k v w hk with ⟨_, e⟩ | ⟨_, _, e, _⟩
  · rw [e]; exact hv
  · exact h k w e
theorem gdM.A {G : Nat → Nat × Nat} {μ : aM} {A : Nat → Nat → Int32} (h : gdM G μ) : gdM G (A, μ.2) := h
theorem cls_no : aKls o_no := fun _ _ _ _ _ _ _ h => h.elim
theorem cls_mk {b : List Bool} {op : aO} (h : aKls op) : aKls (o_mk b op) := fun G L st μ K E hg h1 => h G (amk b L) st μ K E ⟨fun k v hk => hg.1 k v (ag_amk b L k v hk), hg.2⟩ h1
theorem cls_ii {v : Int32} {nx : Nat} : aKls (o_ii v nx) := fun _ _ _ _ _ _ hg h => ⟨⟨hg.1, ⟨trivial, hg.2.1⟩, hg.2.2⟩, h⟩
theorem cls_lc {v : Int64} {nx : Nat} : aKls (o_lc v nx) := fun _ _ _ _ _ _ hg h => ⟨⟨hg.1, ⟨trivial, hg.2.1⟩, hg.2.2⟩, h⟩
theorem cls_gst {nx : Nat} : aKls (o_gst nx) := fun _ _ _ _ _ _ hg h => ⟨⟨hg.1, ⟨Or.inr (Nat.le_refl _), hg.2.1⟩, hg.2.2⟩, h⟩
theorem cls_ldS {i nx : Nat} : aKls (o_ldS i nx) := fun _ _ _ _ _ _ hg h => ⟨⟨hg.1, ⟨Or.inr (by omega), hg.2.1⟩, hg.2.2⟩, h⟩
theorem cls_cmp {nx : Nat} : aKls (o_cmp nx) := fun _ _ _ _ _ _ hg h => ⟨⟨hg.1, ⟨trivial, hg.2.1⟩, hg.2.2⟩, h⟩
theorem cls_go {tg : Nat} : aKls (o_go tg) := fun _ _ _ _ _ _ hg h => ⟨hg, h⟩
theorem cls_il {i nx : Nat} : aKls (o_il i nx) := by
  intro G L st μ K E hg h
  unfold o_il at h ⊢
  split at h
  · rename_i x hx
    exact ⟨⟨hg.1, ⟨trivial, hg.2.1⟩, hg.2.2⟩, h⟩
  · exact h.elim
theorem cls_ll {i nx : Nat} : aKls (o_ll i nx) := by
  intro G L st μ K E hg h
  unfold o_ll at h ⊢
  split at h
  · rename_i x hx
    exact ⟨⟨hg.1, ⟨trivial, hg.2.1⟩, hg.2.2⟩, h⟩
  · exact h.elim
theorem cls_al {i nx : Nat} : aKls (o_al i nx) := by
  intro G L st μ K E hg h
  unfold o_al at h ⊢
  split at h
  · rename_i x hx
    exact ⟨⟨hg.1, ⟨hg.1 i _ hx, hg.2.1⟩, hg.2.2⟩, h⟩
  · rename_i hx
    exact ⟨⟨hg.1, ⟨trivial, hg.2.1⟩, hg.2.2⟩, h⟩
  · exact h.elim
theorem cls_inc {i : Nat} {v : Int32} {nx : Nat} : aKls (o_inc i v nx) := by
  intro G L st μ K E hg h
  unfold o_inc at h ⊢
  split at h
  · rename_i x hx
    exact ⟨⟨hg.1.s1 trivial, hg.2⟩, h⟩
  · exact h.elim
theorem cls_is {i nx : Nat} : aKls (o_is i nx) := by
  intro G L st μ K E hg h
  obtain ⟨hL, hs, hm⟩ := hg
  unfold o_is at h ⊢
  split at h
  · exact ⟨⟨hL.s1 trivial, hs.2, hm⟩, h⟩
  · exact h.elim
theorem cls_ls {i nx : Nat} : aKls (o_ls i nx) := by
  intro G L st μ K E hg h
  obtain ⟨hL, hs, hm⟩ := hg
  unfold o_ls at h ⊢
  split at h
  · exact ⟨⟨hL.s2 trivial, hs.2, hm⟩, h⟩
  · exact h.elim
theorem cls_as {i nx : Nat} : aKls (o_as i nx) := by
  intro G L st μ K E hg h
  obtain ⟨hL, hs, hm⟩ := hg
  unfold o_as at h ⊢
  split at h
  · exact ⟨⟨hL.s1 hs.1, hs.2, hm⟩, h⟩
  · exact ⟨⟨hL.s1 trivial, hs.2, hm⟩, h⟩
  · exact h.elim
theorem cls_bi {f : Int32 → Int32 → Int32} {nx : Nat} : aKls (o_bi f nx) := by
  intro G L st μ K E hg h
  obtain ⟨hL, hs, hm⟩ := hg
  unfold o_bi at h ⊢
  split at h
  · exact ⟨⟨hL, ⟨trivial, hs.2.2⟩, hm⟩, h⟩
  · exact h.elim
theorem cls_ui {f : Int32 → Int32} {nx : Nat} : aKls (o_ui f nx) := by
  intro G L st μ K E hg h
  obtain ⟨hL, hs, hm⟩ := hg
  unfold o_ui at h ⊢
  split at h
  · exact ⟨⟨hL, ⟨trivial, hs.2⟩, hm⟩, h⟩
  · exact h.elim
theorem cls_tl {f : Int32 → Int64} {nx : Nat} : aKls (o_tl f nx) := by
  intro G L st μ K E hg h
  obtain ⟨hL, hs, hm⟩ := hg
  unfold o_tl at h ⊢
  split at h
  · exact ⟨⟨hL, ⟨trivial, hs.2⟩, hm⟩, h⟩
  · exact h.elim
theorem cls_ti {f : Int64 → Int32} {nx : Nat} : aKls (o_ti f nx) := by
  intro G L st μ K E hg h
  obtain ⟨hL, hs, hm⟩ := hg
  unfold o_ti at h ⊢
  split at h
  · exact ⟨⟨hL, ⟨trivial, hs.2⟩, hm⟩, h⟩
  · exact h.elim
theorem cls_bl {f : Int64 → Int64 → Int64} {nx : Nat} : aKls (o_bl f nx) := by
  intro G L st μ K E hg h
  obtain ⟨hL, hs, hm⟩ := hg
  unfold o_bl at h ⊢
  split at h
  · exact ⟨⟨hL, ⟨trivial, hs.2.2⟩, hm⟩, h⟩
  · exact h.elim
theorem cls_dv {nx : Nat} : aKls (o_dv nx) := by
  intro G L st μ K E hg h
  obtain ⟨hL, hs, hm⟩ := hg
  unfold o_dv at h ⊢
  split at h
  · obtain ⟨q0, h⟩ := h
    exact ⟨q0, ⟨⟨hL, ⟨trivial, hs.2.2⟩, hm⟩, h⟩⟩
  · exact h.elim
theorem cls_rm {nx : Nat} : aKls (o_rm nx) := by
  intro G L st μ K E hg h
  obtain ⟨hL, hs, hm⟩ := hg
  unfold o_rm at h ⊢
  split at h
  · obtain ⟨q0, h⟩ := h
    exact ⟨q0, ⟨⟨hL, ⟨trivial, hs.2.2⟩, hm⟩, h⟩⟩
  · exact h.elim
theorem cls_ldv {nx : Nat} : aKls (o_ldv nx) := by
  intro G L st μ K E hg h
  obtain ⟨hL, hs, hm⟩ := hg
  unfold o_ldv at h ⊢
  split at h
  · obtain ⟨q0, h⟩ := h
    exact ⟨q0, ⟨⟨hL, ⟨trivial, hs.2.2⟩, hm⟩, h⟩⟩
  · exact h.elim
theorem cls_lrm {nx : Nat} : aKls (o_lrm nx) := by
  intro G L st μ K E hg h
  obtain ⟨hL, hs, hm⟩ := hg
  unfold o_lrm at h ⊢
  split at h
  · obtain ⟨q0, h⟩ := h
    exact ⟨q0, ⟨⟨hL, ⟨trivial, hs.2.2⟩, hm⟩, h⟩⟩
  · exact h.elim
theorem cls_lcm {nx : Nat} : aKls (o_lcm nx) := by
  intro G L st μ K E hg h
  obtain ⟨hL, hs, hm⟩ := hg
  unfold o_lcm at h ⊢
  split at h
  · exact ⟨⟨hL, ⟨trivial, hs.2.2⟩, hm⟩, h⟩
  · exact h.elim
theorem cls_dup {nx : Nat} : aKls (o_dup nx) := by
  intro G L st μ K E hg h
  obtain ⟨hL, hs, hm⟩ := hg
  unfold o_dup at h ⊢
  split at h
  · obtain ⟨q0, h⟩ := h
    exact ⟨q0, ⟨⟨hL, ⟨hs.1, hs⟩, hm⟩, h⟩⟩
  · exact h.elim
theorem cls_dup2 {nx : Nat} : aKls (o_dup2 nx) := by
  intro G L st μ K E hg h
  obtain ⟨hL, hs, hm⟩ := hg
  unfold o_dup2 at h ⊢
  split at h
  · obtain ⟨q0, q1, h⟩ := h
    exact ⟨q0, q1, ⟨⟨hL, ⟨hs.1, hs.2.1, hs⟩, hm⟩, h⟩⟩
  · exact h.elim
theorem cls_pop {nx : Nat} : aKls (o_pop nx) := by
  intro G L st μ K E hg h
  obtain ⟨hL, hs, hm⟩ := hg
  unfold o_pop at h ⊢
  split at h
  · obtain ⟨q0, h⟩ := h
    exact ⟨q0, ⟨⟨hL, hs.2, hm⟩, h⟩⟩
  · exact h.elim
theorem cls_if {q : Int32 → Prop} {tg nx : Nat} : aKls (o_if q tg nx) := by
  intro G L st μ K E hg h
  obtain ⟨hL, hs, hm⟩ := hg
  unfold o_if at h ⊢
  split at h
  · rcases h with ⟨q, h⟩ | ⟨q, h⟩
    · exact Or.inl ⟨q, ⟨⟨hL, hs.2, hm⟩, h⟩⟩
    · exact Or.inr ⟨q, ⟨⟨hL, hs.2, hm⟩, h⟩⟩
  · exact h.elim
theorem cls_ic {q : Int32 → Int32 → Prop} {tg nx : Nat} : aKls (o_ic q tg nx) := by
  intro G L st μ K E hg h
  obtain ⟨hL, hs, hm⟩ := hg
  unfold o_ic at h ⊢
  split at h
  · rcases h with ⟨q, h⟩ | ⟨q, h⟩
    · exact Or.inl ⟨q, ⟨⟨hL, hs.2.2, hm⟩, h⟩⟩
    · exact Or.inr ⟨q, ⟨⟨hL, hs.2.2, hm⟩, h⟩⟩
  · exact h.elim
theorem cls_nul {tg nx : Nat} : aKls (o_nul tg nx) := by
  intro G L st μ K E hg h
  obtain ⟨hL, hs, hm⟩ := hg
  unfold o_nul at h ⊢
  split at h
  · exact ⟨⟨hL, hs.2, hm⟩, h⟩
  · exact ⟨⟨hL, hs.2, hm⟩, h⟩
  · exact h.elim
theorem cls_gI {g k nx : Nat} : aKls (o_gI g k nx) := by
  intro G L st μ K E hg h
  obtain ⟨hL, hs, hm⟩ := hg
  unfold o_gI at h ⊢
  split at h
  · obtain ⟨q0, h⟩ := h
    exact ⟨q0, ⟨⟨hL, ⟨trivial, hs.2⟩, hm⟩, h⟩⟩
  · exact h.elim
theorem cls_gF {g k nx : Nat} (j : Nat) (hj : alay g j = k + 2) (hn : j < anf g) : aKls (o_gF g k nx) := by
  intro G L st μ K E hg h
  obtain ⟨hL, hs, hm⟩ := hg
  unfold o_gF at h ⊢
  split at h
  · obtain ⟨q0, h⟩ := h
    exact ⟨q0, ⟨hL, ⟨hm.2.2 _ g j k (hm.1 ▸ q0) hn hj, hs.2⟩, hm⟩, h⟩
  · exact h.elim
theorem cls_gR {g k nx : Nat} : aKls (o_gR g k nx) := by
  intro G L st μ K E hg h
  obtain ⟨hL, hs, hm⟩ := hg
  unfold o_gR at h ⊢
  split at h
  · rcases h with ⟨q0, ⟨q, h⟩ | ⟨a, q, h⟩⟩
    · exact ⟨q0, Or.inl ⟨q, ⟨hL, ⟨trivial, hs.2⟩, hm⟩, h⟩⟩
    · exact ⟨q0, Or.inr ⟨a, q, ⟨hL, ⟨hm.2.1 _ _ _ q, hs.2⟩, hm⟩, h⟩⟩
  · exact h.elim
theorem cls_pI {g k nx : Nat} : aKls (o_pI g k nx) := by
  intro G L st μ K E hg h
  obtain ⟨hL, hs, hm⟩ := hg
  unfold o_pI at h ⊢
  split at h
  · obtain ⟨q0, h⟩ := h
    exact ⟨q0, ⟨⟨hL, hs.2.2, hm⟩, h⟩⟩
  · exact h.elim
theorem cls_pZ {g k nx : Nat} : aKls (o_pZ g k nx) := by
  intro G L st μ K E hg h
  obtain ⟨hL, hs, hm⟩ := hg
  unfold o_pZ at h ⊢
  split at h
  · obtain ⟨q0, q1, h⟩ := h
    exact ⟨q0, q1, ⟨⟨hL, hs.2.2, hm⟩, h⟩⟩
  · exact h.elim
theorem cls_pR {g k nx : Nat} : aKls (o_pR g k nx) := by
  intro G L st μ K E hg h
  obtain ⟨hL, hs, hm⟩ := hg
  unfold o_pR at h ⊢
  split at h
  · obtain ⟨q0, h⟩ := h
    refine ⟨q0, ⟨hL, hs.2.2, hm.1, fun k' i x hx => ?_, hm.2.2⟩, h⟩
    unfold ar at hx
    dsimp only at hx
    split at hx
    · cases hx; exact hs.1
    · exact hm.2.1 _ _ _ hx
  · exact h.elim
theorem cls_iald {nx : Nat} : aKls (o_iald nx) := by
  intro G L st μ K E hg h
  obtain ⟨hL, hs, hm⟩ := hg
  unfold o_iald at h ⊢
  split at h
  · obtain ⟨q0, q1, h⟩ := h
    exact ⟨q0, q1, ⟨⟨hL, ⟨trivial, hs.2.2⟩, hm⟩, h⟩⟩
  · exact h.elim
theorem cls_iast {nx : Nat} : aKls (o_iast nx) := by
  intro G L st μ K E hg h
  obtain ⟨hL, hs, hm⟩ := hg
  unfold o_iast at h ⊢
  split at h
  · obtain ⟨q0, q1, h⟩ := h
    exact ⟨q0, q1, ⟨⟨hL, hs.2.2.2, hm⟩, h⟩⟩
  · exact h.elim
theorem cls_aald {g nx : Nat} : aKls (o_aald g nx) := by
  intro G L st μ K E hg h
  obtain ⟨hL, hs, hm⟩ := hg
  unfold o_aald at h ⊢
  split at h
  · obtain ⟨q0, q1, b, q2, h⟩ := h
    exact ⟨q0, q1, b, q2, ⟨hL, ⟨hm.2.1 _ _ _ q2, hs.2.2⟩, hm⟩, h⟩
  · exact h.elim
theorem cls_alen {nx : Nat} : aKls (o_alen nx) := by
  intro G L st μ K E hg h
  obtain ⟨hL, hs, hm⟩ := hg
  unfold o_alen at h ⊢
  split at h
  · obtain ⟨q0, h⟩ := h
    exact ⟨q0, ⟨⟨hL, ⟨trivial, hs.2⟩, hm⟩, h⟩⟩
  · exact h.elim
theorem cls_max {nx : Nat} : aKls (o_max nx) := by
  intro G L st μ K E hg h
  obtain ⟨hL, hs, hm⟩ := hg
  unfold o_max at h ⊢
  split at h
  · obtain ⟨q0, h⟩ := h
    exact ⟨q0, ⟨⟨hL, ⟨trivial, hs.2.2⟩, hm⟩, h⟩⟩
  · exact h.elim
theorem cls_min {nx : Nat} : aKls (o_min nx) := by
  intro G L st μ K E hg h
  obtain ⟨hL, hs, hm⟩ := hg
  unfold o_min at h ⊢
  split at h
  · obtain ⟨q0, h⟩ := h
    exact ⟨q0, ⟨⟨hL, ⟨trivial, hs.2.2⟩, hm⟩, h⟩⟩
  · exact h.elim
theorem cls_cpy {nx : Nat} : aKls (o_cpy nx) := by
  intro G L st μ K E hg h
  obtain ⟨hL, hs, hm⟩ := hg
  unfold o_cpy at h ⊢
  split at h
  · obtain ⟨q0, q1, q2, q3, q4, q5, q6, q7, h⟩ := h
    exact ⟨q0, q1, q2, q3, q4, q5, q6, q7, ⟨⟨hL, hs.2.2.2.2.2, hm⟩, h⟩⟩
  · exact h.elim
theorem cls_tld {nx : Nat} : aKls (o_tld nx) := by
  intro G L st μ K E hg h
  obtain ⟨hL, hs, hm⟩ := hg
  unfold o_tld at h ⊢
  split at h
  · obtain ⟨q0, q1, h⟩ := h
    exact ⟨q0, q1, ⟨⟨hL, ⟨trivial, hs.2.2⟩, hm⟩, h⟩⟩
  · exact h.elim
theorem cls_sgv {nx : Nat} : aKls (o_sgv nx) := by
  intro G L st μ K E hg h
  obtain ⟨hL, hs, hm⟩ := hg
  unfold o_sgv at h ⊢
  split at h
  · obtain ⟨i, q0, q1, h⟩ := h
    exact ⟨i, q0, q1, ⟨hL, ⟨Or.inr (by omega), hs.2⟩, hm⟩, h⟩
  · exact h.elim
theorem cls_sgc {nx : Nat} : aKls (o_sgc nx) := by
  intro G L st μ K E hg h
  obtain ⟨hL, hs, hm⟩ := hg
  unfold o_sgc at h ⊢
  split at h
  · obtain ⟨i, q0, q1, h⟩ := h
    exact ⟨i, q0, q1, ⟨hL, ⟨trivial, hs.2⟩, hm⟩, h⟩
  · exact h.elim
theorem cls_sal {nx : Nat} : aKls (o_sal nx) := by
  intro G L st μ K E hg h
  obtain ⟨hL, hs, hm⟩ := hg
  unfold o_sal at h ⊢
  split at h
  · obtain ⟨i, q0, q1, h⟩ := h
    exact ⟨i, q0, q1, ⟨hL, ⟨trivial, hs.2⟩, hm⟩, h⟩
  · exact h.elim
theorem cls_sbl {nx : Nat} : aKls (o_sbl nx) := by
  intro G L st μ K E hg h
  obtain ⟨hL, hs, hm⟩ := hg
  unfold o_sbl at h ⊢
  split at h
  · obtain ⟨i, q0, q1, q2, h⟩ := h
    exact ⟨i, q0, q1, q2, ⟨hL, ⟨trivial, hs.2.2⟩, hm⟩, h⟩
  · exact h.elim
theorem cls_ri  : aKls (o_ri) := by
  intro G L st μ K E hg h
  obtain ⟨hL, hs, hm⟩ := hg
  unfold o_ri at h ⊢
  split at h
  · exact ⟨⟨trivial, hm⟩, h⟩
  · exact h.elim
theorem cls_rl  : aKls (o_rl) := by
  intro G L st μ K E hg h
  obtain ⟨hL, hs, hm⟩ := hg
  unfold o_rl at h ⊢
  split at h
  · exact ⟨⟨trivial, hm⟩, h⟩
  · exact h.elim
theorem cls_rv  : aKls (o_rv) := by
  intro G L st μ K E hg h
  obtain ⟨hL, hs, hm⟩ := hg
  unfold o_rv at h ⊢
  split at h
  · exact ⟨⟨trivial, hm⟩, h⟩
  · exact h.elim
theorem cls_rz  : aKls (o_rz) := by
  intro G L st μ K E hg h
  obtain ⟨hL, hs, hm⟩ := hg
  unfold o_rz at h ⊢
  split at h
  · obtain ⟨q, h⟩ := h
    exact ⟨q, ⟨trivial, hm⟩, h⟩
  · exact h.elim
theorem cls_rt {ty : FieldType} : aKls (o_rt ty) := by
  intro G L st μ K E hg h
  obtain ⟨hL, hs, hm⟩ := hg
  unfold o_rt at h ⊢
  split at h
  · obtain ⟨q, h⟩ := h
    exact ⟨q, ⟨trivial, hm⟩, h⟩
  · exact h.elim
theorem aSw_m {x : Int32} {k k' : Nat → Prop} (h : ∀ pc, k pc → k' pc) : ∀ (t : List (Int32 × Nat)) (d : Nat), aSw x k t d → aSw x k' t d
  | [], d, h1 => h d h1
  | q :: t, d, h1 => by
    rcases h1 with ⟨h1, h2⟩ | ⟨h1, h2⟩
    · exact Or.inl ⟨h1, h _ h2⟩
    · exact Or.inr ⟨h1, aSw_m h t d h2⟩
theorem cls_sw {t : List (Int32 × Nat)} {d : Nat} : aKls (o_sw t d) := by
  intro G L st μ K E hg h
  obtain ⟨hL, hs, hm⟩ := hg
  unfold o_sw at h ⊢
  split at h
  · exact aSw_m (fun pc h2 => ⟨⟨hL, hs.2, hm⟩, h2⟩) _ _ h
  · exact h.elim
theorem gdS_app {G : Nat → Nat × Nat} {r : Option Value} {st : List Value} (hr : lvV G r) (hs : gdS G st) : gdS G (r.toList ++ st) := by
  cases r with
  | none => exact hs
  | some v => exact ⟨hr, hs⟩
theorem gdS_drop {G : Nat → Nat × Nat} {st : List Value} (n : Nat) (hs : gdS G st) : gdS G (st.drop n) := (gdS_m _).mpr fun v hv => (gdS_m st).mp hs v (List.mem_of_mem_drop hv)
theorem gdS_take {G : Nat → Nat × Nat} {st : List Value} (n : Nat) (hs : gdS G st) : ∀ v ∈ (st.take n).reverse, lvV G (some v) := fun v hv => (gdS_m st).mp hs v (List.mem_of_mem_take (List.mem_reverse.mp hv))
theorem cls_cS {C : aC} {n nx : Nat} (hC : aCC C) : aKls (o_cS C n nx) := by
  intro G L st μ K E hg h
  obtain ⟨hL, hs, hm⟩ := hg
  obtain ⟨r, μ', h1, h2, h3, h4⟩ := h
  obtain ⟨c1, c2⟩ := hC _ _ _ _ h3 G (gdS_take n hs) hm
  exact ⟨r, μ', h1, h2, h3, ⟨hL, gdS_app c1 (gdS_drop n hs), c2⟩, h4⟩
theorem cls_cV {C : aC} {g n nx : Nat} (hC : aCC C) : aKls (o_cV C g n nx) := by
  intro G L st μ K E hg h
  obtain ⟨hL, hs, hm⟩ := hg
  obtain ⟨b, t, r, μ', h1, h2, h3, h4, h5⟩ := h
  have hd := gdS_drop n hs
  rw [h1] at hd
  obtain ⟨c1, c2⟩ := hC _ _ _ _ h4 G (fun v hv => (List.mem_cons.mp hv).elim (fun e => e ▸ hd.1) (fun h => gdS_take n hs v h)) hm
  exact ⟨b, t, r, μ', h1, h2, h3, h4, ⟨hL, gdS_app c1 hd.2, c2⟩, h5⟩
theorem cls_cVs {C : aC} {n nx : Nat} (hC : aCC C) : aKls (o_cVs C n nx) := by
  intro G L st μ K E hg h
  obtain ⟨hL, hs, hm⟩ := hg
  obtain ⟨b, t, r, μ', h1, h2, h3, h4, h5⟩ := h
  have hd := gdS_drop n hs
  rw [h1] at hd
  obtain ⟨c1, c2⟩ := hC _ _ _ _ h4 G (fun v hv => (List.mem_cons.mp hv).elim (fun e => e ▸ hd.1) (fun h => gdS_take n hs v h)) hm
  exact ⟨b, t, r, μ', h1, h2, h3, h4, ⟨hL, gdS_app c1 hd.2, c2⟩, h5⟩
/-- an op goes on, or ends, and all is live there -/
def aEx (op : aO) : Prop := ∀ (G : Nat → Nat × Nat) (L : aL) (st : List Value) (μ : aM) (K : aK) (E : aR), gd G L st μ → op L st μ K E → (∃ pc' L' st' μ', gd G L' st' μ' ∧ K pc' L' st' μ') ∨ ∃ r μ1, (lvV G r ∧ gdM G μ1) ∧ E r μ1
theorem ex {op : aO} (hl : aLin op) (hk : aKls op) : aEx op := by
  intro G L st μ K E hg h
  rcases hl L st μ _ _ (hk G L st μ K E hg h) with ⟨pc', L', st', μ', k1, _⟩ | ⟨r, μ1, k1, _⟩
  · exact Or.inl ⟨pc', L', st', μ', k1⟩
  · exact Or.inr ⟨r, μ1, k1⟩
theorem ex_gsq {nx : Nat} : aEx (o_gsq nx) := fun _ L st μ _ _ hg h => Or.inl ⟨nx, L, .null :: st, μ, ⟨hg.1, ⟨trivial, hg.2.1⟩, hg.2.2⟩, h.1⟩
def aKl (tb : aT) : Prop := ∀ q ∈ tb, aEx q.2.2
theorem aK_n : aKl [] := fun _ h => (List.not_mem_nil h).elim
theorem aK_c {q : Nat × (Instr × Nat) × aO} {tb : aT} (h : aEx q.2.2) (k : aKl tb) : aKl (q :: tb) := fun q' hq => (List.mem_cons.mp hq).elim (fun e => e ▸ h) (fun h' => k q' h')
theorem arun_cls {tb : aT} (hk : aKl tb) {E : aR} {G : Nat → Nat × Nat} : ∀ (n pc : Nat) (L : aL) (st : List Value) (μ : aM), gd G L st μ → arun tb E n pc L st μ → ∃ r μ1, E r μ1 ∧ lvV G r ∧ gdM G μ1
  | 0, _, _, _, _, _, h => h.elim
  | n + 1, pc, L, st, μ, hg, h => by
    have h9 : alk tb pc L st μ (arun tb E n) E := h
    rcases alk_mem tb pc with h1 | ⟨q, h1, h2, h3⟩
    · rw [h1] at h9
      exact h9.elim
    · rw [h3] at h9
      rcases hk q h1 G L st μ _ _ hg h9 with ⟨pc', L', st', μ', k1, k2⟩ | ⟨r, μ1, k1, k2⟩
      · exact arun_cls hk n pc' L' st' μ' k1 k2
      · exact ⟨r, μ1, k2, k1.1, k1.2⟩
theorem aCC.of {tb : aT} (hk : aKl tb) {n : Nat} : aCC (aCl tb n) := by
  intro args μ r μ' h G ha hm
  obtain ⟨hf, k, h⟩ := h
  have hL : gdL G (aent args n) := by
    intro i v hi
    have h2 := aent_at id args n 0 i v hi
    have h3 : ∀ (vs : List Value) (b : Nat) (q : Nat × Value), q ∈ lv_args b vs → q.2 ∈ vs := by
      intro vs
      induction vs with
      | nil => intro b q hq; cases hq
      | cons v vs ih =>
        intro b q hq
        rcases List.mem_cons.mp hq with e | e
        · rw [e]; exact List.mem_cons_self
        · exact List.mem_cons_of_mem _ (ih _ q e)
    have h4 := h3 _ _ _ h2
    have h5 : (cv id v) ∈ args.map (cv id) := h4
    have h6 : ∀ w : Value, cv id w = w := fun w => by cases w <;> rfl
    have h7 : args.map (cv id) = args := by
      have : cv id = id := funext h6
      rw [this, List.map_id]
    rw [h7, h6] at h5
    exact ha v h5
  obtain ⟨r1, μ1, ⟨e1, e2⟩, e3, e4⟩ := arun_cls hk k 0 _ [] _ ⟨hL, trivial, hm⟩ h
  subst e1
  subst e2
  exact ⟨e3, e4⟩
