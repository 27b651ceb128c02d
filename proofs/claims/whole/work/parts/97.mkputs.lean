/-! the fields of a thing in the making -/
/-- a field of a thing in the making; of the first machine, an int or a reference -/
def b_pwI (g k nx : Nat) : bO := fun L st μ c K _ => match st with
  | .int v :: .ref o :: t => μ.2.2 o = (0, g + 1) ∧ K c nx L t (au μ.1 o k v, μ.2)
  | _ => False
def b_pwR (g k nx : Nat) : bO := fun L st μ c K _ => match st with
  | .ref a :: .ref o :: t => μ.2.2 o = (0, g + 1) ∧ K c nx L t (μ.1, ar μ.2.1 o k (some a), μ.2.2)
  | _ => False
section MP
variable {p : Program} {l : Launch} {e : Env} {R : Room} {s : State} {m : MethodId} {args : Array Value} {below : List Frame} {meth : Method} {c : Code} {cells slots : Nat} {Q : State → Prop} {cc : ByteArray} {own : String} {Ts : List Cond} {nL : Nat} {D : va_G} {Z : aZ} {ad ad0 ad' : Nat → Nat} {P : List Nat} {G G0 : Nat → Nat × Nat} {A : Nat → Prop} {E : bR} {pc nx : Nat}
theorem aRw_len {μ : aM} {g o : Nat} : (aRw ad μ g o).length = anf g := by unfold aRw; rw [List.length_map, List.length_range]
theorem aRw_at {μ : aM} {g o k : Nat} (hk : k < anf g) : (aRw ad μ g o)[k]? = some (aRv ad μ g o k) := by
  unfold aRw
  rw [List.getElem?_map, List.getElem?_range hk]
  rfl
theorem aRw_set {μ μ' : aM} {g o k : Nat} {v : Value} (hk : k < anf g) (hv : aRv ad μ' g o k = v) (ho : ∀ j, ¬ j = k → aRv ad μ' g o j = aRv ad μ g o j) : (aRw ad μ g o).set k v = aRw ad μ' g o := by
  refine List.ext_getElem? fun i => ?_
  rw [List.getElem?_set, aRw_len]
  by_cases hi : k = i
  · subst hi
    rw [if_pos rfl, if_pos hk, aRw_at hk, hv]
  · rw [if_neg hi]
    by_cases hl : i < anf g
    · rw [aRw_at hl, aRw_at hl, ho i (fun z => hi z.symm)]
    · rw [List.getElem?_eq_none (by rw [aRw_len]; omega), List.getElem?_eq_none (by rw [aRw_len]; omega)]
theorem aE_raw {μ : aM} {g o : Nat} (h : μ.2.2 o = (0, g + 1)) : aE Z ad μ o = .inr (g, aRw ad μ g o) := by
  unfold aE
  rw [h]
  show aE0 ad μ o = _
  unfold aE0
  rw [h]
theorem aRv_congr {μ μ' : aM} {g o k : Nat} (h1 : μ'.1 o k = μ.1 o k) (h2 : μ'.2.1 o k = μ.2.1 o k) : aRv ad μ' g o k = aRv ad μ g o k := by
  unfold aRv; rw [h1, h2]
theorem bA.mem (h : bA s ad0 G0 A ad P G) {o x : Nat} (ho : G o = (0, x + 1)) : o ∈ P := (h.2.1 o).mpr (by rw [ho]; intro w; cases w)
theorem t_pwI (hX : bX p s m args c cc own Ts nL D Z A) {g k N ix : Nat} {C : String} {T : u_T} (hc : vwCl[g]? = some (C, T, N)) (hN : anf g = N) (hin : ∀ w ∈ u_ws C T N, w ∈ Ts) (hk : k < N) (hl0 : alay g k = 0) (ty0 : Nat → FieldType) (hty : ∀ k, k < N → parseFieldDescriptor (T k).2.2.1 = some (ty0 k)) (hnm : ∀ a, a < N → ∀ b, b < N → a ≠ b → (T a).2.1 ≠ (T b).2.1) (hfin : (T k).2.2.2 = false ∨ ((T k).2.2.2 = true ∧ meth.name = "<init>" ∧ (T k).1 = own)) (hti : ty0 k = .int) (hC : (T k).1 = C) (hlink : Cond.fieldLink own ix C (T k).2.1 (T k).2.2.1 ∈ Ts) (hd : decode cc pc = .ok (.putfield ix, 3)) (hn : pc + 3 = nx) : bSd p l e R s m args below meth c Q nL D Z ad0 G0 A E (b_pwI g k nx) pc := by
  subst hn
  intro L st μ w K hop hK ad P H locs ls hA hg hc1 hc2 hL hl hP hS
  unfold b_pwI at hop
  split at hop
  case h_2 => exact hop.elim
  rename_i v o t
  obtain ⟨h0, hop⟩ := hop
  have hXX := hX.aX hA
  obtain ⟨h1, h2, h3, h4, h5, h6, h7, h8⟩ := hX
  obtain ⟨q, hq, hw⟩ := aWs_at (Z := Z) (ad := ad) (μ := μ) (hA.mem h0)
  rw [aE_raw h0] at hw
  have he : (aWs Z ad P μ).set q (ad o, .inr (g, (aRw ad μ g o).set k (.int v))) = aWs Z ad P (au μ.1 o k v, μ.2) := by
    refine aWs_set hA.1 hq ?_ (fun o' ho => aE_congr (ap_ne ho) rfl rfl)
    rw [aE_raw (μ := (au μ.1 o k v, μ.2)) h0]
    refine congrArg (fun z => (Sum.inr (g, z) : va_E)) ?_
    refine (aRw_set (by rw [hN]; exact hk) ?_ fun j hj => ?_).symm
    · unfold aRv
      rw [hl0]
      show Value.int (au μ.1 o k v o k) = _
      rw [au_eq, if_pos ⟨rfl, rfl⟩]
    · refine aRv_congr ?_ rfl
      show au μ.1 o k v o j = _
      rw [au_eq, if_neg (fun z => hj z.2)]
  have fin : ∀ (H1 : Heap) (locs1 : List Loc), va_P D vwCl ((aWs Z ad P μ).set q (ad o, .inr (g, (aRw ad μ g o).set k (.int v)))) H1 → va_D A ((aWs Z ad P μ).set q (ad o, .inr (g, (aRw ad μ g o).set k (.int v)))) → va_S A s.heap H1 locs1 → W p l e R s m args below meth c H1 locs1 w.1 w.2 Q (F0 m (pc + 3) ls (t.map (cv ad))) := by
    intro H1 locs1 hP1 _ hS1
    rw [he] at hP1
    exact hK _ _ _ _ _ hop ad P H1 locs1 ls hA ⟨hg.1, hg.2.1.2.2, hg.2.2⟩ hc1 hc2 hL hl hP1 hS1
  rcases hfin with hfin | ⟨hfin, hin2, hdecl⟩
  · exact va_put (ref := C) (v := .int v) (ty := .int) h1 h2 h5 hin ty0 hty hnm h4 h6 hP (hXX.dd μ) hS q hw hc k hk (h5 _ hlink) (fun x h9 => by rw [hC] at h9; exact h9) hfin (by rw [hty k hk, hti]) rfl rfl (by rw [aRw_len, hN]; exact hk) hd fin
  · exact va_putF (ref := C) (v := .int v) (ty := .int) h1 h2 h5 hin ty0 hty hnm h4 h6 hP (hXX.dd μ) hS q hw hc k hk (h5 _ hlink) (fun x h9 => by rw [hC] at h9; exact h9) hfin hin2 hdecl (by rw [hty k hk, hti]) rfl rfl (by rw [aRw_len, hN]; exact hk) hd fin
theorem t_pwR (hX : bX p s m args c cc own Ts nL D Z A) {g k N ix : Nat} {C : String} {T : u_T} (hc : vwCl[g]? = some (C, T, N)) (hN : anf g = N) (hin : ∀ w ∈ u_ws C T N, w ∈ Ts) (hk : k < N) (hl0 : ¬ alay g k = 0) (ty0 : Nat → FieldType) (hty : ∀ k, k < N → parseFieldDescriptor (T k).2.2.1 = some (ty0 k)) (hnm : ∀ a, a < N → ∀ b, b < N → a ≠ b → (T a).2.1 ≠ (T b).2.1) (hfin : (T k).2.2.2 = false ∨ ((T k).2.2.2 = true ∧ meth.name = "<init>" ∧ (T k).1 = own)) (hti : ∀ a, fits (ty0 k) (.ref a) = true ∧ narrow (ty0 k) (.ref a) = .ref a) (hC : (T k).1 = C) (hlink : Cond.fieldLink own ix C (T k).2.1 (T k).2.2.1 ∈ Ts) (hd : decode cc pc = .ok (.putfield ix, 3)) (hn : pc + 3 = nx) : bSd p l e R s m args below meth c Q nL D Z ad0 G0 A E (b_pwR g k nx) pc := by
  subst hn
  intro L st μ w K hop hK ad P H locs ls hA hg hc1 hc2 hL hl hP hS
  unfold b_pwR at hop
  split at hop
  case h_2 => exact hop.elim
  rename_i v o t
  obtain ⟨h0, hop⟩ := hop
  have hXX := hX.aX hA
  obtain ⟨h1, h2, h3, h4, h5, h6, h7, h8⟩ := hX
  obtain ⟨q, hq, hw⟩ := aWs_at (Z := Z) (ad := ad) (μ := μ) (hA.mem h0)
  rw [aE_raw h0] at hw
  have he : (aWs Z ad P μ).set q (ad o, .inr (g, (aRw ad μ g o).set k (.ref (ad v)))) = aWs Z ad P (μ.1, ar μ.2.1 o k (some v), μ.2.2) := by
    refine aWs_set hA.1 hq ?_ (fun o' ho => aE_congr rfl (ar_ne ho) rfl)
    rw [aE_raw (μ := (μ.1, ar μ.2.1 o k (some v), μ.2.2)) h0]
    refine congrArg (fun z => (Sum.inr (g, z) : va_E)) ?_
    refine (aRw_set (by rw [hN]; exact hk) ?_ fun j hj => ?_).symm
    · unfold aRv
      split
      · rename_i h; exact absurd h hl0
      · show va_rf ((ar μ.2.1 o k (some v) o k).map ad) = _
        unfold ar
        rw [if_pos ⟨rfl, rfl⟩]
        rfl
    · refine aRv_congr rfl ?_
      show ar μ.2.1 o k (some v) o j = _
      unfold ar
      rw [if_neg (fun z => hj z.2)]
  have fin : ∀ (H1 : Heap) (locs1 : List Loc), va_P D vwCl ((aWs Z ad P μ).set q (ad o, .inr (g, (aRw ad μ g o).set k (.ref (ad v))))) H1 → va_D A ((aWs Z ad P μ).set q (ad o, .inr (g, (aRw ad μ g o).set k (.ref (ad v))))) → va_S A s.heap H1 locs1 → W p l e R s m args below meth c H1 locs1 w.1 w.2 Q (F0 m (pc + 3) ls (t.map (cv ad))) := by
    intro H1 locs1 hP1 _ hS1
    rw [he] at hP1
    refine hK _ _ _ _ _ hop ad P H1 locs1 ls hA ⟨hg.1, hg.2.1.2.2, hg.2.2.1, fun k' i x hx => ?_, hg.2.2.2.2⟩ hc1 hc2 hL hl hP1 hS1
    unfold ar at hx
    dsimp only at hx
    split at hx
    · cases hx; exact hg.2.1.1
    · exact hg.2.2.2.1 _ _ _ hx
  rcases hfin with hfin | ⟨hfin, hin2, hdecl⟩
  · exact va_put (ref := C) (v := .ref (ad v)) (ty := ty0 k) h1 h2 h5 hin ty0 hty hnm h4 h6 hP (hXX.dd μ) hS q hw hc k hk (h5 _ hlink) (fun x h9 => by rw [hC] at h9; exact h9) hfin (hty k hk) (hti _).2 (hti _).1 (by rw [aRw_len, hN]; exact hk) hd fin
  · exact va_putF (ref := C) (v := .ref (ad v)) (ty := ty0 k) h1 h2 h5 hin ty0 hty hnm h4 h6 hP (hXX.dd μ) hS q hw hc k hk (h5 _ hlink) (fun x h9 => by rw [hC] at h9; exact h9) hfin hin2 hdecl (hty k hk) (hti _).2 (hti _).1 (by rw [aRw_len, hN]; exact hk) hd fin
end MP
