/-! soundness: fields, arrays, switch -/
section AS3
variable {p : Program} {l : Launch} {e : Env} {R : Room} {s : State} {m : MethodId} {args : Array Value} {below : List Frame} {meth : Method} {c : Code} {cells slots : Nat} {Q : State → Prop} {cc : ByteArray} {own : String} {Ts : List Cond} {nL : Nat} {D : va_G} {Z : aZ} {ad : Nat → Nat} {P : List Nat} {G : Nat → Nat × Nat} {A : Nat → Prop} {E : aR} {pc nx : Nat}
theorem aX.mem (hX : aX p s m args c cc own Ts nL D Z ad P G A) {o k : Nat} (h : (G o).1 = k + 1) : o ∈ P := hX.2.2.2.2.2.2.2.1 o (by rw [h]; exact Nat.succ_ne_zero k)
theorem aX.dd (hX : aX p s m args c cc own Ts nL D Z ad P G A) (μ : aM) : va_D A (aWs Z ad P μ) := aD_of hX.2.2.2.2.2.2.1 hX.2.2.2.2.2.2.2.2.2.1 hX.2.2.2.2.2.2.2.2.2.2.1
theorem s_gI (hX : aX p s m args c cc own Ts nL D Z ad P G A) {g k ix : Nat} {C : String} {T : u_T} {N : Nat} (hc : vwCl[g]? = some (C, T, N)) (hin : ∀ w ∈ u_ws C T N, w ∈ Ts) (hk : k < N) (hN : anf g = N) (hl0 : alay g k = 0) (hC : (T k).1 = C) (hlink : Cond.fieldLink own ix C (T k).2.1 (T k).2.2.1 ∈ Ts) (hd : decode cc pc = .ok (.getfield ix, 3)) (hn : pc + 3 = nx) : aSd p l e R s m args below meth c cells slots Q nL D Z ad P G A E (o_gI g k nx) pc := by
  subst hn
  intro L st μ K h hK H locs ls hL hG hl hP hS
  unfold o_gI at h
  split at h
  · obtain ⟨h0, h⟩ := h
    rename_i o t
    have hm : o ∈ P := hX.mem (k := g + 3) (by rw [← hG]; exact h0)
    obtain ⟨q, hq, hw⟩ := aWs_at (Z := Z) (ad := ad) (μ := μ) hm
    rw [aE_obj h0] at hw
    refine va_get (ref := C) (v := .int (μ.1 o k)) hX.1 hX.2.1 hX.2.2.2.2.1 hin hX.2.2.2.1 hX.2.2.2.2.2.1 hP q hw hc k hk (hX.2.2.2.2.1 _ hlink) (fun x h9 => by rw [hC] at h9; exact h9) ?_ hd (hK _ _ _ _ h H locs ls hL hG hl hP hS)
    rw [aF_at (by rw [hN]; exact hk)]
    unfold aFv
    rw [hl0]
  · exact h.elim
theorem s_gF (hX : aX p s m args c cc own Ts nL D Z ad P G A) {g k off ix : Nat} {C : String} {T : u_T} {N : Nat} (hc : vwCl[g]? = some (C, T, N)) (hin : ∀ w ∈ u_ws C T N, w ∈ Ts) (hk : k < N) (hN : anf g = N) (hl0 : alay g k = off + 2) (hC : (T k).1 = C) (hlink : Cond.fieldLink own ix C (T k).2.1 (T k).2.2.1 ∈ Ts) (hd : decode cc pc = .ok (.getfield ix, 3)) (hn : pc + 3 = nx) : aSd p l e R s m args below meth c cells slots Q nL D Z ad P G A E (o_gF g off nx) pc := by
  subst hn
  intro L st μ K h hK H locs ls hL hG hl hP hS
  unfold o_gF at h
  split at h
  · obtain ⟨h0, h⟩ := h
    rename_i o t
    have hm : o ∈ P := hX.mem (k := g + 3) (by rw [← hG]; exact h0)
    obtain ⟨q, hq, hw⟩ := aWs_at (Z := Z) (ad := ad) (μ := μ) hm
    rw [aE_obj h0] at hw
    refine va_get (ref := C) (v := .ref (ad (o + off))) hX.1 hX.2.1 hX.2.2.2.2.1 hin hX.2.2.2.1 hX.2.2.2.2.2.1 hP q hw hc k hk (hX.2.2.2.2.1 _ hlink) (fun x h9 => by rw [hC] at h9; exact h9) ?_ hd (hK _ _ _ _ h H locs ls hL hG hl hP hS)
    rw [aF_at (by rw [hN]; exact hk)]
    unfold aFv
    rw [hl0]
  · exact h.elim
theorem s_gR (hX : aX p s m args c cc own Ts nL D Z ad P G A) {g k ix : Nat} {C : String} {T : u_T} {N : Nat} (hc : vwCl[g]? = some (C, T, N)) (hin : ∀ w ∈ u_ws C T N, w ∈ Ts) (hk : k < N) (hN : anf g = N) (hl0 : alay g k = 1) (hC : (T k).1 = C) (hlink : Cond.fieldLink own ix C (T k).2.1 (T k).2.2.1 ∈ Ts) (hd : decode cc pc = .ok (.getfield ix, 3)) (hn : pc + 3 = nx) : aSd p l e R s m args below meth c cells slots Q nL D Z ad P G A E (o_gR g k nx) pc := by
  subst hn
  intro L st μ K h hK H locs ls hL hG hl hP hS
  unfold o_gR at h
  split at h
  · obtain ⟨h0, h⟩ := h
    rename_i o t
    have hm : o ∈ P := hX.mem (k := g + 3) (by rw [← hG]; exact h0)
    obtain ⟨q, hq, hw⟩ := aWs_at (Z := Z) (ad := ad) (μ := μ) hm
    rw [aE_obj h0] at hw
    rcases h with ⟨h1, h⟩ | ⟨a, h1, h⟩
    · refine va_get (ref := C) (v := .null) hX.1 hX.2.1 hX.2.2.2.2.1 hin hX.2.2.2.1 hX.2.2.2.2.2.1 hP q hw hc k hk (hX.2.2.2.2.1 _ hlink) (fun x h9 => by rw [hC] at h9; exact h9) ?_ hd (hK _ _ _ _ h H locs ls hL hG hl hP hS)
      rw [aF_at (by rw [hN]; exact hk)]
      unfold aFv
      rw [hl0, h1]
      rfl
    · refine va_get (ref := C) (v := .ref (ad a)) hX.1 hX.2.1 hX.2.2.2.2.1 hin hX.2.2.2.1 hX.2.2.2.2.2.1 hP q hw hc k hk (hX.2.2.2.2.1 _ hlink) (fun x h9 => by rw [hC] at h9; exact h9) ?_ hd (hK _ _ _ _ h H locs ls hL hG hl hP hS)
      rw [aF_at (by rw [hN]; exact hk)]
      unfold aFv
      rw [hl0, h1]
      rfl
  · exact h.elim
theorem aWs_int {μ : aM} {o q : Nat} {f : Nat → Int32} (hn : P.Nodup) (hq : P[q]? = some o) (h0 : (μ.2.2 o).1 = 1) : (aWs Z ad P μ).set q (ad o, .inl (Z.1, (μ.2.2 o).2, .inl f)) = aWs Z ad P (ap μ.1 o f, μ.2) := by
  refine aWs_set hn hq ?_ (fun o' ho => aE_congr (ap_ne ho) rfl rfl)
  rw [aE_int (μ := (ap μ.1 o f, μ.2)) h0]
  show (Sum.inl (Z.1, (μ.2.2 o).2, .inl (ap μ.1 o f o)) : va_E) = _
  rw [ap_eq]
theorem aWs_fld {μ : aM} {o q g k : Nat} {v : Int32} (hn : P.Nodup) (hq : P[q]? = some o) (h0 : (μ.2.2 o).1 = g + 4) (hk : k < anf g) (hl0 : alay g k = 0) : (aWs Z ad P μ).set q (ad o, .inr (g, (aF ad μ g o).set k (.int v))) = aWs Z ad P (au μ.1 o k v, μ.2) := by
  refine aWs_set hn hq ?_ (fun o' ho => aE_congr (ap_ne ho) rfl rfl)
  rw [aE_obj (μ := (au μ.1 o k v, μ.2)) h0]
  refine congrArg (fun z => (Sum.inr (g, z) : va_E)) ?_
  refine (aF_set hk ?_ fun j hj => ?_).symm
  · unfold aFv
    rw [hl0]
    show Value.int (au μ.1 o k v o k) = _
    rw [au_eq, if_pos ⟨rfl, rfl⟩]
  · refine aFv_congr ?_ rfl
    show au μ.1 o k v o j = _
    rw [au_eq, if_neg (fun z => hj z.2)]
theorem s_pI (hX : aX p s m args c cc own Ts nL D Z ad P G A) {g k ix : Nat} {C : String} {T : u_T} {N : Nat} (hc : vwCl[g]? = some (C, T, N)) (hin : ∀ w ∈ u_ws C T N, w ∈ Ts) (hk : k < N) (hN : anf g = N) (hl0 : alay g k = 0) (ty0 : Nat → FieldType) (hty : ∀ k, k < N → parseFieldDescriptor (T k).2.2.1 = some (ty0 k)) (hnm : ∀ a, a < N → ∀ b, b < N → a ≠ b → (T a).2.1 ≠ (T b).2.1) (hfin : (T k).2.2.2 = false) (hti : ty0 k = .int) (hC : (T k).1 = C) (hlink : Cond.fieldLink own ix C (T k).2.1 (T k).2.2.1 ∈ Ts) (hd : decode cc pc = .ok (.putfield ix, 3)) (hn : pc + 3 = nx) : aSd p l e R s m args below meth c cells slots Q nL D Z ad P G A E (o_pI g k nx) pc := by
  subst hn
  intro L st μ K h hK H locs ls hL hG hl hP hS
  unfold o_pI at h
  split at h
  · obtain ⟨h0, h⟩ := h
    rename_i v o t
    have hm : o ∈ P := hX.mem (k := g + 3) (by rw [← hG]; exact h0)
    obtain ⟨q, hq, hw⟩ := aWs_at (Z := Z) (ad := ad) (μ := μ) hm
    rw [aE_obj h0] at hw
    refine va_put (ref := C) (v := .int v) (ty := .int) hX.1 hX.2.1 hX.2.2.2.2.1 hin ty0 hty hnm hX.2.2.2.1 hX.2.2.2.2.2.1 hP (hX.dd μ) hS q hw hc k hk (hX.2.2.2.2.1 _ hlink) (fun x h9 => by rw [hC] at h9; exact h9) hfin (by rw [hty k hk, hti]) rfl rfl (by rw [aF_len, hN]; exact hk) hd (fun H1 locs1 hP1 _ hS1 => ?_)
    rw [aWs_fld hX.2.2.2.2.2.2.1 hq h0 (by rw [hN]; exact hk) hl0] at hP1
    exact hK _ _ _ _ h H1 locs1 ls hL hG hl hP1 hS1
  · exact h.elim
theorem s_pZ (hX : aX p s m args c cc own Ts nL D Z ad P G A) {g k ix : Nat} {C : String} {T : u_T} {N : Nat} (hc : vwCl[g]? = some (C, T, N)) (hin : ∀ w ∈ u_ws C T N, w ∈ Ts) (hk : k < N) (hN : anf g = N) (hl0 : alay g k = 0) (ty0 : Nat → FieldType) (hty : ∀ k, k < N → parseFieldDescriptor (T k).2.2.1 = some (ty0 k)) (hnm : ∀ a, a < N → ∀ b, b < N → a ≠ b → (T a).2.1 ≠ (T b).2.1) (hfin : (T k).2.2.2 = false) (hti : ty0 k = .boolean) (hC : (T k).1 = C) (hlink : Cond.fieldLink own ix C (T k).2.1 (T k).2.2.1 ∈ Ts) (hd : decode cc pc = .ok (.putfield ix, 3)) (hn : pc + 3 = nx) : aSd p l e R s m args below meth c cells slots Q nL D Z ad P G A E (o_pZ g k nx) pc := by
  subst hn
  intro L st μ K h hK H locs ls hL hG hl hP hS
  unfold o_pZ at h
  split at h
  · obtain ⟨hv, h0, h⟩ := h
    rename_i v o t
    have hm : o ∈ P := hX.mem (k := g + 3) (by rw [← hG]; exact h0)
    obtain ⟨q, hq, hw⟩ := aWs_at (Z := Z) (ad := ad) (μ := μ) hm
    rw [aE_obj h0] at hw
    have hb : narrow .boolean (.int v) = .int v ∧ fits .boolean (.int v) = true := by
      rcases hv with rfl | rfl
      · exact ⟨rfl, rfl⟩
      · exact ⟨rfl, rfl⟩
    refine va_put (ref := C) (v := .int v) (ty := .boolean) hX.1 hX.2.1 hX.2.2.2.2.1 hin ty0 hty hnm hX.2.2.2.1 hX.2.2.2.2.2.1 hP (hX.dd μ) hS q hw hc k hk (hX.2.2.2.2.1 _ hlink) (fun x h9 => by rw [hC] at h9; exact h9) hfin (by rw [hty k hk, hti]) hb.1 hb.2 (by rw [aF_len, hN]; exact hk) hd (fun H1 locs1 hP1 _ hS1 => ?_)
    rw [aWs_fld hX.2.2.2.2.2.2.1 hq h0 (by rw [hN]; exact hk) hl0] at hP1
    exact hK _ _ _ _ h H1 locs1 ls hL hG hl hP1 hS1
  · exact h.elim
theorem s_pR (hX : aX p s m args c cc own Ts nL D Z ad P G A) {g k ix : Nat} {C : String} {T : u_T} {N : Nat} (hc : vwCl[g]? = some (C, T, N)) (hin : ∀ w ∈ u_ws C T N, w ∈ Ts) (hk : k < N) (hN : anf g = N) (hl0 : alay g k = 1) (ty0 : Nat → FieldType) (hty : ∀ k, k < N → parseFieldDescriptor (T k).2.2.1 = some (ty0 k)) (hnm : ∀ a, a < N → ∀ b, b < N → a ≠ b → (T a).2.1 ≠ (T b).2.1) (hfin : (T k).2.2.2 = false) {cn : String} (hti : ty0 k = .object cn) (hC : (T k).1 = C) (hlink : Cond.fieldLink own ix C (T k).2.1 (T k).2.2.1 ∈ Ts) (hd : decode cc pc = .ok (.putfield ix, 3)) (hn : pc + 3 = nx) : aSd p l e R s m args below meth c cells slots Q nL D Z ad P G A E (o_pR g k nx) pc := by
  subst hn
  intro L st μ K h hK H locs ls hL hG hl hP hS
  unfold o_pR at h
  split at h
  · obtain ⟨h0, h⟩ := h
    rename_i v o t
    have hm : o ∈ P := hX.mem (k := g + 3) (by rw [← hG]; exact h0)
    obtain ⟨q, hq, hw⟩ := aWs_at (Z := Z) (ad := ad) (μ := μ) hm
    rw [aE_obj h0] at hw
    refine va_put (ref := C) (v := .ref (ad v)) (ty := .object cn) hX.1 hX.2.1 hX.2.2.2.2.1 hin ty0 hty hnm hX.2.2.2.1 hX.2.2.2.2.2.1 hP (hX.dd μ) hS q hw hc k hk (hX.2.2.2.2.1 _ hlink) (fun x h9 => by rw [hC] at h9; exact h9) hfin (by rw [hty k hk, hti]) rfl rfl (by rw [aF_len, hN]; exact hk) hd (fun H1 locs1 hP1 _ hS1 => ?_)
    have he : (aWs Z ad P μ).set q (ad o, .inr (g, (aF ad μ g o).set k (.ref (ad v)))) = aWs Z ad P (μ.1, ar μ.2.1 o k (some v), μ.2.2) := by
      refine aWs_set hX.2.2.2.2.2.2.1 hq ?_ (fun o' ho => aE_congr rfl (ar_ne ho) rfl)
      rw [aE_obj (μ := (μ.1, ar μ.2.1 o k (some v), μ.2.2)) h0]
      refine congrArg (fun z => (Sum.inr (g, z) : va_E)) ?_
      refine (aF_set (by rw [hN]; exact hk) ?_ fun j hj => ?_).symm
      · unfold aFv
        rw [hl0]
        show va_rf ((ar μ.2.1 o k (some v) o k).map ad) = _
        unfold ar
        rw [if_pos ⟨rfl, rfl⟩]
        rfl
      · refine aFv_congr rfl ?_
        show ar μ.2.1 o k (some v) o j = _
        unfold ar
        rw [if_neg (fun z => hj z.2)]
    rw [he] at hP1
    exact hK _ _ _ _ h H1 locs1 ls hL hG hl hP1 hS1
  · exact h.elim
theorem s_iald (hX : aX p s m args c cc own Ts nL D Z ad P G A) (hd : decode cc pc = .ok (.iaload, 1)) (hn : pc + 1 = nx) : aSd p l e R s m args below meth c cells slots Q nL D Z ad P G A E (o_iald nx) pc := by
  subst hn
  intro L st μ K h hK H locs ls hL hG hl hP hS
  unfold o_iald at h
  split at h
  · obtain ⟨h0, h1, h⟩ := h
    rename_i i o t
    have hm : o ∈ P := hX.mem (k := 0) (by rw [← hG]; exact h0)
    obtain ⟨q, hq, hw⟩ := aWs_at (Z := Z) (ad := ad) (μ := μ) hm
    rw [aE_int h0] at hw
    exact va_iald hX.1 hX.2.1 hX.2.2.2.2.2.1 hP q 0 hw rfl h1 hd (hK _ _ _ _ h H locs ls hL hG hl hP hS)
  · exact h.elim
theorem s_iast (hX : aX p s m args c cc own Ts nL D Z ad P G A) (hd : decode cc pc = .ok (.iastore, 1)) (hn : pc + 1 = nx) : aSd p l e R s m args below meth c cells slots Q nL D Z ad P G A E (o_iast nx) pc := by
  subst hn
  intro L st μ K h hK H locs ls hL hG hl hP hS
  unfold o_iast at h
  split at h
  · obtain ⟨h0, h1, h⟩ := h
    rename_i x i o t
    have hm : o ∈ P := hX.mem (k := 0) (by rw [← hG]; exact h0)
    obtain ⟨q, hq, hw⟩ := aWs_at (Z := Z) (ad := ad) (μ := μ) hm
    rw [aE_int h0] at hw
    refine va_iast hX.1 hX.2.1 hX.2.2.2.2.2.1 hP (hX.dd μ) hS q 0 hw rfl h1 hd (fun H1 locs1 hP1 _ hS1 => ?_)
    rw [aWs_int hX.2.2.2.2.2.2.1 hq h0] at hP1
    exact hK _ _ _ _ h H1 locs1 ls hL hG hl hP1 hS1
  · exact h.elim
theorem s_aald2 (hX : aX p s m args c cc own Ts nL D Z ad P G A) (hd : decode cc pc = .ok (.aaload, 1)) (hn : pc + 1 = nx) : aSd p l e R s m args below meth c cells slots Q nL D Z ad P G A E (o_aald 2 nx) pc := by
  subst hn
  intro L st μ K h hK H locs ls hL hG hl hP hS
  unfold o_aald at h
  split at h
  · obtain ⟨h0, h1, b, hb, h⟩ := h
    rename_i i o t
    have hm : o ∈ P := hX.mem (k := 1) (by rw [← hG]; exact h0)
    obtain ⟨q, hq, hw⟩ := aWs_at (Z := Z) (ad := ad) (μ := μ) hm
    rw [aE_r2 h0] at hw
    refine va_aldq hX.1 hX.2.1 hX.2.2.2.2.2.1 hP q 1 hw rfl h1 hd ?_
    rw [hb]
    exact hK _ _ _ _ h H locs ls hL hG hl hP hS
  · exact h.elim
theorem s_aald3 (hX : aX p s m args c cc own Ts nL D Z ad P G A) (hd : decode cc pc = .ok (.aaload, 1)) (hn : pc + 1 = nx) : aSd p l e R s m args below meth c cells slots Q nL D Z ad P G A E (o_aald 3 nx) pc := by
  subst hn
  intro L st μ K h hK H locs ls hL hG hl hP hS
  unfold o_aald at h
  split at h
  · obtain ⟨h0, h1, b, hb, h⟩ := h
    rename_i i o t
    have hm : o ∈ P := hX.mem (k := 2) (by rw [← hG]; exact h0)
    obtain ⟨q, hq, hw⟩ := aWs_at (Z := Z) (ad := ad) (μ := μ) hm
    rw [aE_r3 h0] at hw
    refine va_aldq hX.1 hX.2.1 hX.2.2.2.2.2.1 hP q 2 hw rfl h1 hd ?_
    rw [hb]
    exact hK _ _ _ _ h H locs ls hL hG hl hP hS
  · exact h.elim
theorem s_alen (hX : aX p s m args c cc own Ts nL D Z ad P G A) (hd : decode cc pc = .ok (.arraylength, 1)) (hn : pc + 1 = nx) : aSd p l e R s m args below meth c cells slots Q nL D Z ad P G A E (o_alen nx) pc := by
  subst hn
  intro L st μ K h hK H locs ls hL hG hl hP hS
  unfold o_alen at h
  split at h
  · obtain ⟨h0, h⟩ := h
    rename_i o t
    have hm : o ∈ P := hX.mem (k := 0) (by rw [← hG]; exact h0)
    obtain ⟨q, hq, hw⟩ := aWs_at (Z := Z) (ad := ad) (μ := μ) hm
    rw [aE_int h0] at hw
    exact va_alen hX.1 hX.2.1 hX.2.2.2.2.2.1 hP q 0 hw (ty := .int) rfl rfl hd (hK _ _ _ _ h H locs ls hL hG hl hP hS)
  · exact h.elim
theorem aSw_spec {x : Int32} {k : Nat → Prop} : ∀ (t : List (Int32 × Nat)) (d : Nat), aSw x k t d → (∃ q ∈ t, x = q.1 ∧ k q.2) ∨ ((∀ q ∈ t, ¬ x = q.1) ∧ k d)
  | [], d, h => Or.inr ⟨fun _ h => (List.not_mem_nil h).elim, h⟩
  | q :: t, d, h => by
    rcases h with ⟨h1, h2⟩ | ⟨h1, h2⟩
    · exact Or.inl ⟨q, List.mem_cons_self, h1, h2⟩
    · rcases aSw_spec t d h2 with ⟨q', h3, h4⟩ | ⟨h3, h4⟩
      · exact Or.inl ⟨q', List.mem_cons_of_mem _ h3, h4⟩
      · refine Or.inr ⟨fun q' hq' => ?_, h4⟩
        rcases List.mem_cons.mp hq' with rfl | hq'
        · exact h1
        · exact h3 q' hq'
/-- the table of a switch: its rows are those of the list, and none is left out -/
def aSwOk (pc : Nat) (lo hi : Int) (offs : Array Int) (t : List (Int32 × Nat)) : Bool :=
  t.all (fun q => decide (lo ≤ q.1.toInt) && decide (q.1.toInt ≤ hi) && (match offs[(q.1.toInt - lo).toNat]? with
    | some o => decide ((pc : Int) + o = (q.2 : Int))
    | none => false)) && (List.range (hi - lo + 1).toNat).all (fun i => t.any (fun q => decide (q.1.toInt = lo + (i : Int))))
theorem s_sw (hX : aX p s m args c cc own Ts nL D Z ad P G A) {dflt lo hi : Int} {offs : Array Int} {len d : Nat} {t : List (Int32 × Nat)} (hd : decode cc pc = .ok (.tableswitch dflt lo hi offs, len)) (ht : (pc : Int) + dflt = (d : Int)) (hok : aSwOk pc lo hi offs t = true) : aSd p l e R s m args below meth c cells slots Q nL D Z ad P G A E (o_sw t d) pc := by
  intro L st μ K h hK H locs ls hL hG hl hP hS
  unfold o_sw at h
  unfold aSwOk at hok
  rw [Bool.and_eq_true] at hok
  obtain ⟨ok1, ok2⟩ := hok
  split at h
  · rename_i x u
    rcases aSw_spec _ _ h with ⟨q, h1, h2, hkk⟩ | ⟨h1, hkk⟩
    · have hq := List.all_eq_true.mp ok1 q h1
      rw [Bool.and_eq_true, Bool.and_eq_true, decide_eq_true_eq, decide_eq_true_eq] at hq
      obtain ⟨⟨h3, h4⟩, h5⟩ := hq
      split at h5
      · rename_i o ho
        subst h2
        exact lv_tableIn hX.1 hX.2.1 hd (by omega) (by omega) ho (of_decide_eq_true h5) (hK _ _ _ _ hkk H locs ls hL hG hl hP hS)
      · cases h5
    · refine lv_tableOut hX.1 hX.2.1 hd ?_ ht (hK _ _ _ _ hkk H locs ls hL hG hl hP hS)
      by_cases ha : x.toInt < lo
      · exact Or.inl ha
      · by_cases hb : hi < x.toInt
        · exact Or.inr hb
        · exfalso
          have h6 := List.all_eq_true.mp ok2 (x.toInt - lo).toNat (List.mem_range.mpr (by omega))
          obtain ⟨q, h7, h8⟩ := List.any_eq_true.mp h6
          have h9 := of_decide_eq_true h8
          exact h1 q h7 (Int32.toInt_inj.mp (by omega))
  · exact h.elim
end AS3
