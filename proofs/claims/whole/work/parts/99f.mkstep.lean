/-! the second machine, step by step -/
def bLin (op : bO) : Prop := ∀ (L : aL) (st : List Value) (μ : aM) (c : Nat × Nat) (K : bK) (E : bR), op L st μ c K E → (∃ (c' : Nat × Nat) (pc' : Nat) (L' : aL) (st' : List Value) (μ' : aM), K c' pc' L' st' μ' ∧ ∀ (K' : bK) (E' : bR), K' c' pc' L' st' μ' → op L st μ c K' E') ∨ (∃ (r : Option Value) (μ1 : aM) (c1 : Nat × Nat), E r μ1 c1 ∧ ∀ (K' : bK) (E' : bR), E' r μ1 c1 → op L st μ c K' E')
theorem bl_L {op : aO} (h : aLin op) : bLin (bL op) := fun L st μ c K E h1 => (h L st μ (K c) (fun r μ => E r μ c) h1).elim (fun ⟨pc', L', st', μ', k1, k2⟩ => Or.inl ⟨c, pc', L', st', μ', k1, fun K' E' => k2 (K' c) (fun r μ => E' r μ c)⟩) (fun ⟨r, μ1, k1, k2⟩ => Or.inr ⟨r, μ1, c, k1, fun K' E' => k2 (K' c) (fun r μ => E' r μ c)⟩)
theorem bl_new {g N rc rs nx : Nat} : bLin (b_new g N rc rs nx) := fun L st μ c K E h => by
  obtain ⟨o, h1, h2, h3, h4, hk⟩ := h
  exact Or.inl ⟨_, _, _, _, _, hk, fun K' E' h' => Exists.intro o ⟨h1, h2, h3, h4, h'⟩⟩
theorem bl_nwa {rc rs nx : Nat} : bLin (b_nwa rc rs nx) := fun L st μ c K E h => by
  unfold b_nwa at h
  split at h
  case h_2 => exact h.elim
  obtain ⟨o, N, h1, h2, h3, h4, h5, h6, h7, hk⟩ := h
  exact Or.inl ⟨_, _, _, _, _, hk, fun K' E' h' => by unfold b_nwa; exact ⟨o, N, h1, h2, h3, h4, h5, h6, h7, h'⟩⟩
theorem bl_nwq {g rc rs nx : Nat} : bLin (b_nwq g rc rs nx) := fun L st μ c K E h => by
  unfold b_nwq at h
  split at h
  case h_2 => exact h.elim
  obtain ⟨o, N, h1, h2, h3, h4, h5, h6, h7, hk⟩ := h
  exact Or.inl ⟨_, _, _, _, _, hk, fun K' E' h' => by unfold b_nwq; exact ⟨o, N, h1, h2, h3, h4, h5, h6, h7, h'⟩⟩
theorem bl_pwI {g k nx : Nat} : bLin (b_pwI g k nx) := fun L st μ c K E h => by
  unfold b_pwI at h
  split at h
  case h_2 => exact h.elim
  exact Or.inl ⟨_, _, _, _, _, h.2, fun K' E' h' => by unfold b_pwI; exact ⟨h.1, h'⟩⟩
theorem bl_pwR {g k nx : Nat} : bLin (b_pwR g k nx) := fun L st μ c K E h => by
  unfold b_pwR at h
  split at h
  case h_2 => exact h.elim
  exact Or.inl ⟨_, _, _, _, _, h.2, fun K' E' h' => by unfold b_pwR; exact ⟨h.1, h'⟩⟩
theorem bl_gwR {g k nx : Nat} : bLin (b_gwR g k nx) := fun L st μ c K E h => by
  unfold b_gwR at h
  split at h
  case h_2 => exact h.elim
  obtain ⟨h1, a, h2, h3⟩ := h
  exact Or.inl ⟨_, _, _, _, _, h3, fun K' E' h' => by unfold b_gwR; exact ⟨h1, a, h2, h'⟩⟩
theorem bl_obj {nx : Nat} : bLin (b_obj nx) := fun L st μ c K E h => by
  unfold b_obj at h
  split at h
  case h_2 => exact h.elim
  exact Or.inl ⟨_, _, _, _, _, h.2, fun K' E' h' => by unfold b_obj; exact ⟨h.1, h'⟩⟩
theorem bl_cst {nx : Nat} : bLin (b_cst nx) := fun L st μ c K E h => by
  unfold b_cst at h
  split at h
  case h_2 => exact h.elim
  exact Or.inl ⟨_, _, _, _, _, h.2, fun K' E' h' => by unfold b_cst; exact ⟨h.1, h'⟩⟩
theorem bl_cln {rc rs nx : Nat} : bLin (b_cln rc rs nx) := fun L st μ c K E h => by
  unfold b_cln at h
  split at h
  case h_2 => exact h.elim
  obtain ⟨h1, h2, o, h3, h4, h5, h6, h7⟩ := h
  exact Or.inl ⟨_, _, _, _, _, h7, fun K' E' h' => by unfold b_cln; exact ⟨h1, h2, o, h3, h4, h5, h6, h'⟩⟩
theorem bl_ast {g k nx : Nat} : bLin (b_ast g k nx) := fun L st μ c K E h => by
  unfold b_ast at h
  split at h
  case h_2 => exact h.elim
  obtain ⟨h1, h2, h3, h4⟩ := h
  exact Or.inl ⟨_, _, _, _, _, h4, fun K' E' h' => by unfold b_ast; exact ⟨h1, h2, h3, h'⟩⟩
theorem bl_cV {C : aC} {g n mc ms rc rs nx : Nat} : bLin (b_cV C g n mc ms rc rs nx) := fun L st μ c K E h => by
  obtain ⟨b, t, r, μ', h1, h2, h3, h4, h5, h6, h7, h8⟩ := h
  exact Or.inl ⟨_, _, _, _, _, h8, fun K' E' h' => by unfold b_cV; exact ⟨b, t, r, μ', h1, h2, h3, h4, h5, h6, h7, h'⟩⟩
theorem bl_cI {C : aC} {g n mc ms rc rs nx : Nat} : bLin (b_cI C g n mc ms rc rs nx) := fun L st μ c K E h => by
  obtain ⟨b, t, μ', h1, h2, h3, h5, h6, h7, h8⟩ := h
  exact Or.inl ⟨_, _, _, _, _, h8, fun K' E' h' => by unfold b_cI; exact ⟨b, t, μ', h1, h2, h3, h5, h6, h7, h'⟩⟩
theorem bl_ri : bLin b_ri := fun L st μ c K E h => by
  unfold b_ri at h
  split at h
  case h_2 => exact h.elim
  exact Or.inr ⟨_, _, _, h, fun K' E' h' => by unfold b_ri; exact h'⟩
theorem bl_rv : bLin b_rv := fun L st μ c K E h => by
  unfold b_rv at h
  split at h
  case h_2 => exact h.elim
  exact Or.inr ⟨_, _, _, h, fun K' E' h' => by unfold b_rv; exact h'⟩
theorem bl_rr : bLin b_rr := fun L st μ c K E h => by
  unfold b_rr at h
  split at h
  case h_2 => exact h.elim
  exact Or.inr ⟨_, _, _, h, fun K' E' h' => by unfold b_rr; exact h'⟩
theorem bl_mk {g : Nat} {op : bO} (hl : bLin op) : bLin (b_mk g op) := fun L st μ c K E h => by
  obtain ⟨o, h1, h2, h3⟩ := h
  rcases hl _ _ _ _ _ _ h3 with ⟨c', pc', L', st', μ', k1, k2⟩ | ⟨r, μ1, c1, k1, k2⟩
  · exact Or.inl ⟨c', pc', L', st', μ', k1, fun K' E' h' => Exists.intro o ⟨h1, h2, k2 K' E' h'⟩⟩
  · exact Or.inr ⟨r, μ1, c1, k1, fun K' E' h' => Exists.intro o ⟨h1, h2, k2 K' E' h'⟩⟩
theorem bl_sld {xs : Nat → Int32} {N nx : Nat} : bLin (b_sld xs N nx) := fun L st μ c K E h => by
  unfold b_sld at h
  split at h
  case h_2 => exact h.elim
  exact Or.inl ⟨_, _, _, _, _, h.2.2, fun K' E' h' => by unfold b_sld; exact ⟨h.1, h.2.1, h'⟩⟩
theorem bl_sle {N nx : Nat} : bLin (b_sle N nx) := fun L st μ c K E h => by
  unfold b_sle at h
  split at h
  case h_2 => exact h.elim
  exact Or.inl ⟨_, _, _, _, _, h.2, fun K' E' h' => by unfold b_sle; exact ⟨h.1, h'⟩⟩
def bKl (tb : bT) : Prop := ∀ q ∈ tb, bLin q.2.2
theorem bK_n : bKl [] := fun _ h => (List.not_mem_nil h).elim
theorem bK_c {q : Nat × (Instr × Nat) × bO} {tb : bT} (h : bLin q.2.2) (k : bKl tb) : bKl (q :: tb) := fun q' hq => (List.mem_cons.mp hq).elim (fun e => e ▸ h) (fun h' => k q' h')
def bImp (cc : ByteArray) (S : bO → Nat → Prop) : bT → Prop
  | [] => True
  | q :: l => (decode cc q.1 = .ok q.2.1 → S q.2.2 q.1) ∧ bImp cc S l
theorem bImp_all {cc : ByteArray} {S : bO → Nat → Prop} : ∀ (tb : bT), tb.all (fun q => decide (decode cc q.1 = .ok q.2.1)) = true → bImp cc S tb → ∀ q ∈ tb, S q.2.2 q.1
  | [], _, _, _, h => (List.not_mem_nil h).elim
  | q :: tb, h, hi, q', hq => by
    rw [List.all_cons, Bool.and_eq_true] at h
    rcases List.mem_cons.mp hq with rfl | hq
    · exact hi.1 (of_decide_eq_true h.1)
    · exact bImp_all tb h.2 hi.2 q' hq
theorem bI_c {cc : ByteArray} {S : bO → Nat → Prop} {q : Nat × (Instr × Nat) × bO} {tb : bT} (h : decode cc q.1 = .ok q.2.1 → S q.2.2 q.1) (k : bImp cc S tb) : bImp cc S (q :: tb) := ⟨h, k⟩
section RS
variable {tb : bT} {E : bR} {c c' : Nat × Nat} {pc nx tg : Nat} {L : aL} {st t : List Value} {μ : aM} {A : Nat → Nat → Int32} {R : Nat → Nat → Option Nat} {G : Nat → Nat × Nat} {i k g N o a rc rs : Nat} {x y v : Int32}
theorem bw_go (hk : bKl tb) (h : blk tb pc L st μ c (fun c' pc' L' st' μ' => bw tb E c' pc' L' st' μ') E) : bw tb E c pc L st μ := by
  rcases blk_mem tb pc with h1 | ⟨q, h1, h2, h3⟩
  · exact absurd h (h1 _ _ _ _ _ _)
  · have h9 := h
    rw [h3] at h9
    rcases hk q h1 _ _ _ _ _ _ h9 with ⟨c', pc', L', st', μ', ⟨n, k1⟩, k2⟩ | ⟨r, μ1, c1, k1, k2⟩
    · refine ⟨n + 1, ?_⟩
      show blk tb pc L st μ c (brun tb E n) E
      rw [h3]
      exact k2 _ _ k1
    · refine ⟨1, ?_⟩
      show blk tb pc L st μ c (brun tb E 0) E
      rw [h3]
      exact k2 _ _ k1
theorem brun_ex (hk : bKl tb) : ∀ (n : Nat) (c : Nat × Nat) (pc : Nat) (L : aL) (st : List Value) (μ : aM), brun tb E n c pc L st μ → ∃ r μ1 c1, E r μ1 c1 ∧ ∀ E' : bR, E' r μ1 c1 → bw tb E' c pc L st μ
  | 0, _, _, _, _, _, h => h.elim
  | n + 1, c, pc, L, st, μ, h => by
    have h9 : blk tb pc L st μ c (brun tb E n) E := h
    rcases blk_mem tb pc with h1 | ⟨q, h1, h2, h3⟩
    · exact absurd h9 (h1 _ _ _ _ _ _)
    · rw [h3] at h9
      rcases hk q h1 _ _ _ _ _ _ h9 with ⟨c', pc', L', st', μ', k1, k2⟩ | ⟨r, μ1, c1, k1, k2⟩
      · obtain ⟨r, μ1, c1, e1, e2⟩ := brun_ex hk n _ _ _ _ _ k1
        exact ⟨r, μ1, c1, e1, fun E' h' => bw_go hk (by rw [h3]; exact k2 _ _ (e2 E' h'))⟩
      · exact ⟨r, μ1, c1, k1, fun E' h' => bw_go hk (by rw [h3]; exact k2 _ _ h')⟩
theorem bC_ex (hk : bKl tb) {args : List Value} {n mc ms : Nat} {F : Option Value → aM → Prop} (hf : aFit args n) (h : bw tb (fun r1 μ1 c1 => F r1 μ1 ∧ c1.1 ≤ mc ∧ c1.2 ≤ ms) (0, 0) 0 (aent args n) [] μ) : ∃ r μ', bCl tb n mc ms args μ r μ' ∧ F r μ' := by
  obtain ⟨f, h⟩ := h
  obtain ⟨r, μ1, c1, ⟨e1, e2, e3⟩, e4⟩ := brun_ex hk f _ _ _ _ _ h
  exact ⟨r, μ1, ⟨hf, e4 _ ⟨rfl, rfl, e2, e3⟩⟩, e1⟩
theorem r_L (hk : bKl tb) {op : aO} (hb : blk tb pc = bL op) (h : op L st μ (fun pc' L' st' μ' => bw tb E c pc' L' st' μ') (fun r μ => E r μ c)) : bw tb E c pc L st μ := bw_go hk (by rw [hb]; exact h)
theorem r_al (hk : bKl tb) (hb : blk tb pc = bL (o_al i nx)) {x : Nat} (h : ag L i = some (.ref x)) (k : bw tb E c nx L (.ref x :: st) μ) : bw tb E c pc L st μ := r_L hk hb (by unfold o_al; rw [h]; exact k)
theorem r_il (hk : bKl tb) (hb : blk tb pc = bL (o_il i nx)) (h : ag L i = some (.int x)) (k : bw tb E c nx L (.int x :: st) μ) : bw tb E c pc L st μ := r_L hk hb (by unfold o_il; rw [h]; exact k)
theorem r_as (hk : bKl tb) (hb : blk tb pc = bL (o_as i nx)) {x : Nat} (k : bw tb E c nx (as1 L i (.ref x)) t μ) : bw tb E c pc L (.ref x :: t) μ := r_L hk hb k
theorem r_is (hk : bKl tb) (hb : blk tb pc = bL (o_is i nx)) (k : bw tb E c nx (as1 L i (.int x)) t μ) : bw tb E c pc L (.int x :: t) μ := r_L hk hb k
theorem r_ii (hk : bKl tb) (hb : blk tb pc = bL (o_ii v nx)) (k : bw tb E c nx L (.int v :: st) μ) : bw tb E c pc L st μ := r_L hk hb k
theorem r_inc (hk : bKl tb) (hb : blk tb pc = bL (o_inc i v nx)) (h : ag L i = some (.int x)) (k : bw tb E c nx (as1 L i (.int (x + v))) st μ) : bw tb E c pc L st μ := r_L hk hb (by unfold o_inc; rw [h]; exact k)
theorem r_bi (hk : bKl tb) {f : Int32 → Int32 → Int32} (hb : blk tb pc = bL (o_bi f nx)) (hv : f x y = v) (k : bw tb E c nx L (.int v :: t) μ) : bw tb E c pc L (.int y :: .int x :: t) μ := r_L hk hb (by rw [← hv] at k; exact k)
theorem r_icT (hk : bKl tb) {q : Int32 → Int32 → Prop} (hb : blk tb pc = bL (o_ic q tg nx)) (h : q x y) (k : bw tb E c tg L t μ) : bw tb E c pc L (.int y :: .int x :: t) μ := r_L hk hb (Or.inl ⟨h, k⟩)
theorem r_icF (hk : bKl tb) {q : Int32 → Int32 → Prop} (hb : blk tb pc = bL (o_ic q tg nx)) (h : ¬ q x y) (k : bw tb E c nx L t μ) : bw tb E c pc L (.int y :: .int x :: t) μ := r_L hk hb (Or.inr ⟨h, k⟩)
theorem r_ifT (hk : bKl tb) {q : Int32 → Prop} (hb : blk tb pc = bL (o_if q tg nx)) (h : q x) (k : bw tb E c tg L t μ) : bw tb E c pc L (.int x :: t) μ := r_L hk hb (Or.inl ⟨h, k⟩)
theorem r_lcm (hk : bKl tb) {x y : Int64} (hb : blk tb pc = bL (o_lcm nx)) (k : bw tb E c nx L (.int (lg_cmp x y) :: t) μ) : bw tb E c pc L (.long y :: .long x :: t) μ := r_L hk hb k
theorem r_go (hk : bKl tb) (hb : blk tb pc = bL (o_go tg)) (k : bw tb E c tg L st μ) : bw tb E c pc L st μ := r_L hk hb k
theorem r_dup (hk : bKl tb) {v : Value} (hb : blk tb pc = bL (o_dup nx)) (h : v.category = 1) (k : bw tb E c nx L (v :: v :: t) μ) : bw tb E c pc L (v :: t) μ := r_L hk hb ⟨h, k⟩
theorem r_pop (hk : bKl tb) {v : Value} (hb : blk tb pc = bL (o_pop nx)) (h : v.category = 1) (k : bw tb E c nx L t μ) : bw tb E c pc L (v :: t) μ := r_L hk hb ⟨h, k⟩
theorem aSw_of {x : Int32} {k : Nat → Prop} : ∀ (l : List (Int32 × Nat)) (d : Nat), (∀ q ∈ l, k q.2) → k d → aSw x k l d
  | [], _, _, h => h
  | q :: l, d, h, hd => by
    by_cases e : x = q.1
    · exact Or.inl ⟨e, h q List.mem_cons_self⟩
    · exact Or.inr ⟨e, aSw_of l d (fun q' hq => h q' (List.mem_cons_of_mem _ hq)) hd⟩
theorem r_sw (hk : bKl tb) {l : List (Int32 × Nat)} {d : Nat} (hb : blk tb pc = bL (o_sw l d)) (h : ∀ q ∈ l, bw tb E c q.2 L t μ) (hd : bw tb E c d L t μ) : bw tb E c pc L (.int x :: t) μ := r_L hk hb (aSw_of (k := fun pc => bw tb E c pc L t μ) l d h hd)
theorem r_iast (hk : bKl tb) (hb : blk tb pc = bL (o_iast nx)) {j : Nat} (hg : G a = (1, N)) (hi : vp_in x N) (hj : x.toNatClampNeg = j) (k : bw tb E c nx L t (au A a j y, R, G)) : bw tb E c pc L (.int y :: .int x :: .ref a :: t) (A, R, G) := r_L hk hb (by
  show (G a).1 = 1 ∧ vp_in x (G a).2 ∧ bw tb E c nx L t (au A a x.toNatClampNeg y, R, G)
  rw [hg, hj]
  exact ⟨rfl, hi, k⟩)
theorem r_iald (hk : bKl tb) (hb : blk tb pc = bL (o_iald nx)) (hg : G a = (1, N)) (hi : vp_in x N) (hv : A a x.toNatClampNeg = v) (k : bw tb E c nx L (.int v :: t) (A, R, G)) : bw tb E c pc L (.int x :: .ref a :: t) (A, R, G) := r_L hk hb (by
  show (G a).1 = 1 ∧ vp_in x (G a).2 ∧ bw tb E c nx L (.int (A a x.toNatClampNeg) :: t) (A, R, G)
  rw [hg, hv]
  exact ⟨rfl, hi, k⟩)
theorem r_gI (hk : bKl tb) (hb : blk tb pc = bL (o_gI g i nx)) (hg : (G o).1 = g + 4) (hv : A o i = v) (k : bw tb E c nx L (.int v :: t) (A, R, G)) : bw tb E c pc L (.ref o :: t) (A, R, G) := r_L hk hb (by
  show (G o).1 = g + 4 ∧ bw tb E c nx L (.int (A o i) :: t) (A, R, G)
  rw [hv]
  exact ⟨hg, k⟩)
theorem r_gF (hk : bKl tb) (hb : blk tb pc = bL (o_gF g i nx)) (hg : (G o).1 = g + 4) (k : bw tb E c nx L (.ref (o + i) :: t) (A, R, G)) : bw tb E c pc L (.ref o :: t) (A, R, G) := r_L hk hb ⟨hg, k⟩
theorem r_pI (hk : bKl tb) (hb : blk tb pc = bL (o_pI g i nx)) (hg : (G o).1 = g + 4) (k : bw tb E c nx L t (au A o i v, R, G)) : bw tb E c pc L (.int v :: .ref o :: t) (A, R, G) := r_L hk hb ⟨hg, k⟩
theorem r_cV (hk : bKl tb) {C : aC} {n b : Nat} {r : Option Value} {μ' : aM} (hb : blk tb pc = bL (o_cV C g n nx)) (hd : st.drop n = .ref b :: t) (hg : (μ.2.2 b).1 = g + 4) (hr : aRest t) (hC : C (.ref b :: (st.take n).reverse) μ r μ') (k : bw tb E c nx L (r.toList ++ t) μ') : bw tb E c pc L st μ := r_L hk hb ⟨b, t, r, μ', hd, hg, hr, hC, k⟩
/-! the ops that make -/
theorem r_new (hk : bKl tb) (hb : blk tb pc = b_new g N rc rs nx) (o : Nat) (ho : o < 1000) (hG : G o = (0, 0)) (h1 : c.1 + 1 ≤ rc) (h2 : c.2 + N ≤ rs) (hc : (c.1 + 1, c.2 + N) = c') (k : bw tb E c' nx L (.ref o :: st) (ap A o (fun _ => 0), rp R o (fun _ => none), gu G o (0, g + 1))) : bw tb E c pc L st (A, R, G) := bw_go hk (by rw [hb]; subst hc; exact ⟨o, ho, hG, h1, h2, k⟩)
theorem r_nwa (hk : bKl tb) (hb : blk tb pc = b_nwa rc rs nx) (o : Nat) (ho : o < 1000) (hG : G o = (0, 0)) (h0 : ¬ x < 0) (hN : x.toNatClampNeg = N) (h5 : N ≤ 100000) (h1 : c.1 + 1 ≤ rc) (h2 : c.2 + N ≤ rs) (hc : (c.1 + 1, c.2 + N) = c') (k : bw tb E c' nx L (.ref o :: t) (ap A o (fun _ => 0), rp R o (fun _ => none), gu G o (1, N))) : bw tb E c pc L (.int x :: t) (A, R, G) := bw_go hk (by rw [hb]; subst hc; exact ⟨o, N, ho, hG, h0, hN, h5, h1, h2, k⟩)
theorem r_nwq (hk : bKl tb) (hb : blk tb pc = b_nwq g rc rs nx) (o : Nat) (ho : o < 1000) (hG : G o = (0, 0)) (h0 : ¬ x < 0) (hN : x.toNatClampNeg = N) (h5 : N ≤ 100000) (h1 : c.1 + 1 ≤ rc) (h2 : c.2 + N ≤ rs) (hc : (c.1 + 1, c.2 + N) = c') (k : bw tb E c' nx L (.ref o :: t) (ap A o (fun _ => 0), rp R o (fun _ => none), gu G o (g, N))) : bw tb E c pc L (.int x :: t) (A, R, G) := bw_go hk (by rw [hb]; subst hc; exact ⟨o, N, ho, hG, h0, hN, h5, h1, h2, k⟩)
theorem r_pwI (hk : bKl tb) (hb : blk tb pc = b_pwI g i nx) (hG : G o = (0, g + 1)) (k : bw tb E c nx L t (au A o i v, R, G)) : bw tb E c pc L (.int v :: .ref o :: t) (A, R, G) := bw_go hk (by rw [hb]; exact ⟨hG, k⟩)
theorem r_pwR (hk : bKl tb) (hb : blk tb pc = b_pwR g i nx) (hG : G o = (0, g + 1)) (k : bw tb E c nx L t (A, ar R o i (some a), G)) : bw tb E c pc L (.ref a :: .ref o :: t) (A, R, G) := bw_go hk (by rw [hb]; exact ⟨hG, k⟩)
theorem r_gwR (hk : bKl tb) (hb : blk tb pc = b_gwR g i nx) (hG : G o = (0, g + 1)) (hv : R o i = some a) (k : bw tb E c nx L (.ref a :: t) (A, R, G)) : bw tb E c pc L (.ref o :: t) (A, R, G) := bw_go hk (by rw [hb]; exact ⟨hG, a, hv, k⟩)
theorem r_obj (hk : bKl tb) (hb : blk tb pc = b_obj nx) (hr : aRest t) (k : bw tb E c nx L t μ) : bw tb E c pc L (.ref o :: t) μ := bw_go hk (by rw [hb]; exact ⟨hr, k⟩)
theorem r_cst (hk : bKl tb) (hb : blk tb pc = b_cst nx) (hG : (G o).1 = 1) (k : bw tb E c nx L (.ref o :: t) (A, R, G)) : bw tb E c pc L (.ref o :: t) (A, R, G) := bw_go hk (by rw [hb]; exact ⟨hG, k⟩)
theorem r_cln (hk : bKl tb) (hb : blk tb pc = b_cln rc rs nx) (hr : aRest t) (ha : G a = (1, N)) (o : Nat) (ho : o < 1000) (hG : G o = (0, 0)) (h1 : c.1 + 1 ≤ rc) (h2 : c.2 + N ≤ rs) (hc : (c.1 + 1, c.2 + N) = c') (k : bw tb E c' nx L (.ref o :: t) (ap A o (A a), rp R o (fun _ => none), gu G o (1, N))) : bw tb E c pc L (.ref a :: t) (A, R, G) := bw_go hk (by
  rw [hb]
  subst hc
  unfold b_cln
  dsimp only
  rw [ha]
  exact ⟨hr, rfl, o, ho, hG, h1, h2, k⟩)
theorem r_ast (hk : bKl tb) (hb : blk tb pc = b_ast g i nx) {w j : Nat} (ha : G a = (g, N)) (hw : (G w).1 = i + 4) (hi : vp_in x N) (hj : x.toNatClampNeg = j) (k : bw tb E c nx L t (A, ar R a j (some w), G)) : bw tb E c pc L (.ref w :: .int x :: .ref a :: t) (A, R, G) := bw_go hk (by
  rw [hb]
  subst hj
  unfold b_ast
  dsimp only
  rw [ha]
  exact ⟨rfl, hw, hi, k⟩)
theorem r_bcV (hk : bKl tb) {C : aC} {n b mc ms : Nat} {r : Option Value} {μ' : aM} (hb : blk tb pc = b_cV C g n mc ms rc rs nx) (hd : st.drop n = .ref b :: t) (hg : (μ.2.2 b).1 = g + 4) (hr : aRest t) (hrk : bRk r) (hC : C (.ref b :: (st.take n).reverse) μ r μ') (h1 : c.1 + mc ≤ rc) (h2 : c.2 + ms ≤ rs) (hc : (c.1 + mc, c.2 + ms) = c') (k : bw tb E c' nx L (r.toList ++ t) μ') : bw tb E c pc L st μ := bw_go hk (by rw [hb]; subst hc; exact ⟨b, t, r, μ', hd, hg, hr, hrk, hC, h1, h2, k⟩)
theorem r_bcI (hk : bKl tb) {C : aC} {n b mc ms : Nat} {μ' : aM} (hb : blk tb pc = b_cI C g n mc ms rc rs nx) (hd : st.drop n = .ref b :: t) (hg : μ.2.2 b = (0, g + 1)) (hr : aRest t) (hC : C (.ref b :: (st.take n).reverse) μ none μ') (h1 : c.1 + mc ≤ rc) (h2 : c.2 + ms ≤ rs) (hc : (c.1 + mc, c.2 + ms) = c') (k : bw tb E c' nx L t μ') : bw tb E c pc L st μ := bw_go hk (by rw [hb]; subst hc; exact ⟨b, t, μ', hd, hg, hr, hC, h1, h2, k⟩)
theorem r_ri (hk : bKl tb) (hb : blk tb pc = b_ri) (k : E (some (.int v)) μ c) : bw tb E c pc L [.int v] μ := bw_go hk (by rw [hb]; exact k)
theorem r_rv (hk : bKl tb) (hb : blk tb pc = b_rv) (k : E none μ c) : bw tb E c pc L [] μ := bw_go hk (by rw [hb]; exact k)
theorem r_rr (hk : bKl tb) (hb : blk tb pc = b_rr) (k : E (some (.ref o)) μ c) : bw tb E c pc L [.ref o] μ := bw_go hk (by rw [hb]; exact k)
theorem r_mk (hk : bKl tb) {op : bO} (hb : blk tb pc = b_mk g op) (o : Nat) (hG : G o = (0, g + 1)) (hm : mdF (A, R, G) g o) (k : op L st (A, R, gu G o (g + 4, 0)) c (fun c' pc' L' st' μ' => bw tb E c' pc' L' st' μ') E) : bw tb E c pc L st (A, R, G) := bw_go hk (by rw [hb]; exact ⟨o, hG, hm, k⟩)
theorem r_sld (hk : bKl tb) {xs : Nat → Int32} (hb : blk tb pc = b_sld xs N nx) (hi : vp_in x N) (hv : xs x.toNatClampNeg = v) (k : bw tb E c nx L (.int v :: t) μ) : bw tb E c pc L (.int x :: .ref 1300 :: t) μ := bw_go hk (by rw [hb]; subst hv; exact ⟨rfl, hi, k⟩)
theorem r_sle (hk : bKl tb) (hb : blk tb pc = b_sle N nx) (k : bw tb E c nx L (.int (Int32.ofNat N) :: t) μ) : bw tb E c pc L (.ref 1300 :: t) μ := bw_go hk (by rw [hb]; exact ⟨rfl, k⟩)
end RS
