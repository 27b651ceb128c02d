/-! the ops that make things -/
section MO
variable {p : Program} {l : Launch} {e : Env} {R : Room} {s : State} {m : MethodId} {args : Array Value} {below : List Frame} {meth : Method} {c : Code} {cells slots : Nat} {Q : State → Prop} {cc : ByteArray} {own : String} {Ts : List Cond} {nL : Nat} {D : va_G} {Z : aZ} {ad ad0 ad' : Nat → Nat} {P : List Nat} {G G0 : Nat → Nat × Nat} {A : Nat → Prop} {E : bR} {pc nx : Nat}
theorem aWs_ne {μ : aM} {q : Nat} {en : va_E} (hD : va_D A (aWs Z ad P μ ++ [(q, en)])) : ∀ k ∈ P, ¬ ad k = q := by
  intro k hk he
  obtain ⟨i, hi, hw⟩ := aWs_at (Z := Z) (ad := ad) (μ := μ) hk
  have hlen : (aWs Z ad P μ).length = P.length := by unfold aWs; rw [List.length_map]
  have hil : i < (aWs Z ad P μ).length := (List.getElem?_eq_some_iff.mp hw).1
  have h1 : (aWs Z ad P μ ++ [(q, en)])[i]? = some (ad k, aE Z ad μ k) := by rw [List.getElem?_append_left hil]; exact hw
  have h2 : (aWs Z ad P μ ++ [(q, en)])[(aWs Z ad P μ).length]? = some (q, en) := by rw [List.getElem?_append_right (Nat.le_refl _), Nat.sub_self]; rfl
  have := hD.1 _ _ _ _ h1 h2 he
  omega
/-- behind a new thing the machine stands well at the places that are one more -/
theorem bJ.new {w' : Nat × Nat} {pc' : Nat} {L : aL} {st t : List Value} {μ : aM} {f : Nat → Int32} {o q : Nat} {x : Nat × Nat} {H1 : Heap} {locs1 : List Loc} {ls : Array Slot} {en : va_E} (hA : bA s ad0 G0 A ad P μ.2.2) (hg : gd μ.2.2 L st μ) (ht : ∀ v ∈ t, v ∈ st) (ho : o < 1000) (hG : μ.2.2 o = (0, 0)) (hx : ¬ x = (0, 0)) (hx4 : x.1 < 4) (he : aE Z (fun j => if j = o then q else ad j) (bNf μ o f x) o = en)
    (hP1 : va_P D vwCl (aWs Z ad P μ ++ [(q, en)]) H1) (hD1 : va_D A (aWs Z ad P μ ++ [(q, en)])) (hS1 : va_S A s.heap H1 locs1) (hw1 : w'.1 ≤ R.cells) (hw2 : w'.2 ≤ R.slots) (hL : L.length = nL) (hl : aLv ad nL ls L)
    (hJ : bJ p l e R s m args below meth c Q nL D Z ad0 G0 A w' pc' L (.ref o :: t) (bNf μ o f x)) : W p l e R s m args below meth c H1 locs1 w'.1 w'.2 Q (F0 m pc' ls (.ref q :: t.map (cv ad))) := by
  have hno : ¬ lvP μ.2.2 o := fun w => w.elim (fun z => z hG) (fun z => by omega)
  have had : ∀ k, lvP μ.2.2 k → (fun j => if j = o then q else ad j) k = ad k := fun k hk => by
    have hko : ¬ k = o := fun e => hno (e ▸ hk)
    exact if_neg hko
  have hAq : A q := by
    have h2 : (aWs Z ad P μ ++ [(q, en)])[(aWs Z ad P μ).length]? = some (q, en) := by rw [List.getElem?_append_right (Nat.le_refl _), Nat.sub_self]; rfl
    exact hD1.2 _ _ h2
  have hgt : gdS μ.2.2 t := (gdS_m _).mpr fun v hv => (gdS_m _).mp hg.2.1 v (ht v hv)
  have h9 := hJ (fun j => if j = o then q else ad j) (P ++ [o]) H1 locs1 ls (hA.new ho hG hx (aWs_ne hD1) hAq) (hg.new ht hG hx hx4) hw1 hw2 hL (hl.mv hg.1 had) (by
    unfold aWd
    rw [aWs_new hg.2.2 hno hA.lv, he]
    exact hP1) hS1
  rw [List.map_cons, cv_ad hgt had] at h9
  have e1 : cv (fun j => if j = o then q else ad j) (.ref o) = .ref q := by
    show Value.ref (if o = o then q else ad o) = _
    rw [if_pos rfl]
  rw [e1] at h9
  exact h9
theorem t_new (hX : bX p s m args c cc own Ts nL D Z A) {g N ix : Nat} {C : String} {T : u_T} (hc : vwCl[g]? = some (C, T, N)) (hN : anf g = N) (hin : ∀ w ∈ u_ws C T N, w ∈ Ts) (ty0 : Nat → FieldType) (hty : ∀ k, k < N → parseFieldDescriptor (T k).2.2.1 = some (ty0 k)) (hdf : ∀ k, k < N → defaultValue (ty0 k) = if alay g k = 0 then .int 0 else .null) (w1 : Cond.classLink own ix C ∈ Ts) (w2 : Cond.instantiable C N ∈ Ts) (w3 : Cond.initialized C ∈ Ts) (hd : decode cc pc = .ok (.new ix, 3)) (hn : pc + 3 = nx) : bSd p l e R s m args below meth c Q nL D Z ad0 G0 A E (b_new g N R.cells R.slots nx) pc := by
  subst hn
  intro L st μ w K hop hK ad P H locs ls hA hg hc1 hc2 hL hl hP hS
  obtain ⟨o, ho, hG, hw1, hw2, hk⟩ := hop
  have hXX := hX.aX hA
  obtain ⟨h1, h2, h3, h4, h5, h6, h7, h8⟩ := hX
  have hrw : ∀ q, aE Z (fun j => if j = o then q else ad j) (bNw μ o (0, g + 1)) o = .inr (g, (List.range N).map fun k => if alay g k = 0 then Value.int 0 else .null) := by
    intro q
    have e0 : (bNw μ o (0, g + 1)).2.2 o = (0, g + 1) := gu_at
    have eA : ∀ k, (bNw μ o (0, g + 1)).1 o k = 0 := fun k => by show ap μ.1 o (fun _ => 0) o k = 0; rw [ap_eq]
    have eR : ∀ k, (bNw μ o (0, g + 1)).2.1 o k = none := fun k => by show (if o = o then fun _ => none else μ.2.1 o) k = none; rw [if_pos rfl]
    unfold aE
    rw [e0]
    show aE0 _ _ _ = _
    unfold aE0
    rw [e0]
    show (Sum.inr (g, aRw _ _ g o) : va_E) = _
    refine congrArg (fun z => (Sum.inr (g, z) : va_E)) ?_
    unfold aRw
    rw [hN]
    refine List.map_congr_left fun k _ => ?_
    unfold aRv
    by_cases q0 : alay g k = 0
    · rw [if_pos q0, q0]
      show Value.int _ = _
      rw [eA]
    · rw [if_neg q0]
      split
      · rename_i h; exact absurd h q0
      · rw [eR]; rfl
  refine va_new h1 h2 h5 hin ty0 hty h4 (h5 _ w1) (h5 _ w2) (h5 _ w3) h6 hP (hXX.dd μ) hS h7 hc (fs := (List.range N).map fun k => if alay g k = 0 then Value.int 0 else .null) (fun j hj => ?_) hw1 hw2 hd (fun q H1 hP1 hD1 hS1 => ?_)
  · rw [hdf j hj]
    unfold vp_V
    rw [List.getD_eq_getElem?_getD, List.getElem?_map, List.getElem?_range hj]
    rfl
  · exact bJ.new hA hg (fun v hv => hv) ho hG (fun w => by cases w) (by show 0 < 4; omega) (hrw q) hP1 hD1 hS1 hw1 hw2 hL hl (hK _ _ _ _ _ hk)
theorem t_nwa (hX : bX p s m args c cc own Ts nL D Z A) {atype : ArrayType} (hty : newarray.typeOf atype = .int) (w1 : Cond.arrayClass .int ∈ Ts) (hd : decode cc pc = .ok (.newarray atype, 2)) (hn : pc + 2 = nx) : bSd p l e R s m args below meth c Q nL D Z ad0 G0 A E (b_nwa R.cells R.slots nx) pc := by
  subst hn
  intro L st μ w K hop hK ad P H locs ls hA hg hc1 hc2 hL hl hP hS
  unfold b_nwa at hop
  split at hop
  case h_2 => exact hop.elim
  rename_i n t
  obtain ⟨o, N, ho, hG, hn0, hnN, hN5, hw1, hw2, hk⟩ := hop
  have hXX := hX.aX hA
  obtain ⟨h1, h2, h3, h4, h5, h6, h7, h8⟩ := hX
  refine va_newaK h1 h2 (atype := atype) (by rw [hty]; exact h5 _ w1) rfl hd rfl hn0 hnN (by rw [hty]; show N * 4 ≤ _; omega) hw1 hw2 rfl fun H1 cA e1 z1 o1 hAr hNm => ?_
  rw [hty] at e1 hAr hNm
  have hcA : cA = Z.1 := by
    have : s.vm.findClass "[I" = some cA := hNm
    rw [h8.1] at this
    exact (Option.some.inj this).symm
  subst hcA
  have hkp : ∀ (k : Nat) (x : Nat × va_E), (aWs Z ad P μ)[k]? = some x → H1[x.1]? = H[x.1]? := fun k x hx => o1 x.1 ((hP k x hx).lt)
  have hP1 : va_P D vwCl (aWs Z ad P μ ++ [(H.size, .inl (Z.1, N, .inl (fun _ => 0)))]) H1 := (va_P.kept hP hkp).app (fun k x hx => by
    have hz : k < 1 := (List.getElem?_eq_some_iff.mp hx).1
    rw [show k = 0 by omega] at hx
    cases hx
    exact e1)
  refine bJ.new (Z := Z) (D := D) (x := (1, N)) (st := .int n :: t) (t := t) hA hg (fun v hv => List.mem_cons_of_mem _ hv) ho hG (fun w => by cases w) (by show 1 < 4; omega) ?_ hP1 ((hXX.dd μ).push hP rfl (h7 _ hS.1)) ⟨Nat.le_trans hS.1 (by omega), fun x h1 h2 => (o1 x (Nat.lt_of_lt_of_le h1 hS.1)).trans (hS.2.1 x h1 h2), hS.2.2⟩ hw1 hw2 hL hl (hK _ _ _ _ _ hk)
  rw [aE_int (by show (gu μ.2.2 o (1, N) o).1 = 1; rw [gu_at])]
  show (Sum.inl (Z.1, (gu μ.2.2 o (1, N) o).2, .inl (ap μ.1 o (fun _ => 0) o)) : va_E) = _
  rw [gu_at, ap_eq]
end MO
