/-! Object's constructor, clone, checkcast, arrays of references -/
def b_obj (nx : Nat) : bO := fun L st μ c K _ => match st with
  | .ref _ :: t => aRest t ∧ K c nx L t μ
  | _ => False
def b_cst (nx : Nat) : bO := fun L st μ c K _ => match st with
  | .ref a :: t => (μ.2.2 a).1 = 1 ∧ K c nx L (.ref a :: t) μ
  | _ => False
def b_cln (rc rs nx : Nat) : bO := fun L st μ c K _ => match st with
  | .ref a :: t => aRest t ∧ (μ.2.2 a).1 = 1 ∧ ∃ o, o < 1000 ∧ μ.2.2 o = (0, 0) ∧ c.1 + 1 ≤ rc ∧ c.2 + (μ.2.2 a).2 ≤ rs ∧ K (c.1 + 1, c.2 + (μ.2.2 a).2) nx L (.ref o :: t) (ap μ.1 o (μ.1 a), rp μ.2.1 o (fun _ => none), gu μ.2.2 o (1, (μ.2.2 a).2))
  | _ => False
def b_ast (g k nx : Nat) : bO := fun L st μ c K _ => match st with
  | .ref v :: .int i :: .ref a :: t => (μ.2.2 a).1 = g ∧ (μ.2.2 v).1 = k + 4 ∧ vp_in i (μ.2.2 a).2 ∧ K c nx L t (μ.1, ar μ.2.1 a i.toNatClampNeg (some v), μ.2.2)
  | _ => False
section MC
variable {p : Program} {l : Launch} {e : Env} {R : Room} {s : State} {m : MethodId} {args : Array Value} {below : List Frame} {meth : Method} {c : Code} {cells slots : Nat} {Q : State → Prop} {cc : ByteArray} {own : String} {Ts : List Cond} {nL : Nat} {D : va_G} {Z : aZ} {ad ad0 ad' : Nat → Nat} {P : List Nat} {G G0 : Nat → Nat × Nat} {A : Nat → Prop} {E : bR} {pc nx mc ms : Nat}
theorem t_obj (hX : bX p s m args c cc own Ts nL D Z A) {ix : Nat} (w1 : Cond.methodLink own ix objectInit ∈ Ts) (w2 : Cond.instanceMethod objectInit ∈ Ts) (w3 : Cond.code objectInit ⟨#[0xb1]⟩ 1 none ∈ Ts) (hR : 1 ≤ R.frames ∧ 20 ≤ R.locals) (hd : decode cc pc = .ok (.invokespecial ix, 3)) (hn : pc + 3 = nx) : bSd p l e R s m args below meth c Q nL D Z ad0 G0 A E (b_obj nx) pc := by
  subst hn
  intro L st μ w K hop hK ad P H locs ls hA hg hc1 hc2 hL hl hP hS
  unfold b_obj at hop
  split at hop
  · obtain ⟨h0, hop⟩ := hop
    refine W.objInit hX.1 hX.2.1 hX.2.2.2.1 (hX.2.2.2.2.1 _ w1) (hX.2.2.2.2.1 _ w2) (hX.2.2.2.2.1 _ w3) rfl (by rw [hX.2.2.1]; exact hl.1) rfl hd hR.1 (Nat.le_trans (Nat.add_le_add_right (lv_room (cv_rest (ad := ad) h0)) 12) hR.2) ?_
    exact hK _ _ _ _ _ hop ad P H locs ls hA ⟨hg.1, hg.2.1.2, hg.2.2⟩ hc1 hc2 hL hl hP hS
  · exact hop.elim
theorem t_cst (hX : bX p s m args c cc own Ts nL D Z A) {ix : Nat} (w1 : Cond.classLink own ix "[I" ∈ Ts) (hd : decode cc pc = .ok (.checkcast ix, 3)) (hn : pc + 3 = nx) : bSd p l e R s m args below meth c Q nL D Z ad0 G0 A E (b_cst nx) pc := by
  subst hn
  intro L st μ w K hop hK ad P H locs ls hA hg hc1 hc2 hL hl hP hS
  unfold b_cst at hop
  split at hop
  · obtain ⟨h0, hop⟩ := hop
    rename_i a t
    have hm : a ∈ P := (hX.aX hA).mem (k := 0) h0
    obtain ⟨q, hq, hw⟩ := aWs_at (Z := Z) (ad := ad) (μ := μ) hm
    rw [aE_int h0] at hw
    exact va_castA hX.1 hX.2.1 hX.2.2.2.1 (hX.2.2.2.2.1 _ w1) hP q hw hX.2.2.2.2.2.2.2.1 hd (hK _ _ _ _ _ hop ad P H locs ls hA hg hc1 hc2 hL hl hP hS)
  · exact hop.elim
theorem t_cln (hX : bX p s m args c cc own Ts nL D Z A) {ix : Nat} (w1 : Cond.methodLink own ix ⟨"[I", "clone", "()Ljava/lang/Object;"⟩ ∈ Ts) (w2 : Cond.sameMethod "[I" "java/lang/Object" "clone" "()Ljava/lang/Object;" ∈ Ts) (w3 : Cond.native ⟨"java/lang/Object", "clone", "()Ljava/lang/Object;"⟩ ∈ Ts) (w4 : Cond.instanceMethod ⟨"java/lang/Object", "clone", "()Ljava/lang/Object;"⟩ ∈ Ts) (w5 : Cond.selects "[I" ⟨"[I", "clone", "()Ljava/lang/Object;"⟩ ⟨"java/lang/Object", "clone", "()Ljava/lang/Object;"⟩ ∈ Ts) (hR : 1 ≤ R.frames ∧ 22 ≤ R.locals) (hd : decode cc pc = .ok (.invokevirtual ix, 3)) (hn : pc + 3 = nx) : bSd p l e R s m args below meth c Q nL D Z ad0 G0 A E (b_cln R.cells R.slots nx) pc := by
  subst hn
  intro L st μ w K hop hK ad P H locs ls hA hg hc1 hc2 hL hl hP hS
  unfold b_cln at hop
  split at hop
  case h_2 => exact hop.elim
  rename_i a t
  obtain ⟨h0, ha, o, ho, hG, hw1, hw2, hk⟩ := hop
  have hXX := hX.aX hA
  obtain ⟨h1, h2, h3, h4, h5, h6, h7, h8⟩ := hX
  have hm : a ∈ P := hXX.mem (k := 0) ha
  obtain ⟨q, hq, hw⟩ := aWs_at (Z := Z) (ad := ad) (μ := μ) hm
  rw [aE_int ha] at hw
  have h9 := cv_rest (ad := ad) h0
  refine va_clone h1 h2 (h3.trans hl.1.symm) h4 (h5 _ w1) (h5 _ w2) (h5 _ w3) (h5 _ w4) (h5 _ w5) (va_Nw.use rfl h8.2.1) h6 hP (hXX.dd μ) hS h7 q 0 hw rfl h8.1 ?_ hR.1 (by have := hR.2; omega) hw1 hw2 hd (fun q1 H1 _ hP1 hD1 hS1 => ?_)
  · intro i v hv
    have hv : (arrV Z.1 (μ.2.2 a).2 (fun j => .int (μ.1 a j))).slots[i]? = some v := hv
    have hi : i < (μ.2.2 a).2 := by
      have := (Array.getElem?_eq_some_iff.mp hv).1
      rw [arrV_size] at this
      exact this
    rw [arrV_read _ _ hi] at hv
    cases hv
    rfl
  · refine bJ.new (Z := Z) (D := D) (w' := (w.1 + 1, w.2 + (μ.2.2 a).2)) (f := μ.1 a) (x := (1, (μ.2.2 a).2)) (st := .ref a :: t) (t := t) hA hg (fun v hv => List.mem_cons_of_mem _ hv) ho hG (fun w => by cases w) (by show 1 < 4; omega) ?_ hP1 hD1 hS1 hw1 hw2 hL hl (hK _ _ _ _ _ hk)
    rw [aE_int (by show (gu μ.2.2 o (1, (μ.2.2 a).2) o).1 = 1; rw [gu_at])]
    show (Sum.inl (Z.1, (gu μ.2.2 o (1, (μ.2.2 a).2) o).2, .inl (ap μ.1 o (μ.1 a) o)) : va_E) = _
    rw [gu_at, ap_eq]
theorem t_ast (hX : bX p s m args c cc own Ts nL D Z A) {g k N t0 : Nat} {cn : String} {T : u_T} {cA : ClassId} (hc : vwCl[k]? = some (cn, T, N)) (ht : (aTy Z)[t0]? = some (cA, .object cn)) (hent : ∀ (ad : Nat → Nat) (μ : aM) (o : Nat), (μ.2.2 o).1 = g → aE Z ad μ o = .inl (cA, (μ.2.2 o).2, .inr (.inr (.inr (.inr (fun i => (μ.2.1 o i).map ad)))))) (hg0 : ¬ g = 0) (hd : decode cc pc = .ok (.aastore, 1)) (hn : pc + 1 = nx) : bSd p l e R s m args below meth c Q nL D Z ad0 G0 A E (b_ast g k nx) pc := by
  subst hn
  intro L st μ w K hop hK ad P H locs ls hA hg hc1 hc2 hL hl hP hS
  unfold b_ast at hop
  split at hop
  case h_2 => exact hop.elim
  rename_i v i a t
  obtain ⟨ha, hv, hi, hop⟩ := hop
  have hXX := hX.aX hA
  have hma : a ∈ P := (hA.2.1 a).mpr fun z => hg0 (by rw [← ha, z])
  have hmv : v ∈ P := hXX.mem (k := k + 3) hv
  obtain ⟨q, hq, hw⟩ := aWs_at (Z := Z) (ad := ad) (μ := μ) hma
  obtain ⟨q2, hq2, hw2⟩ := aWs_at (Z := Z) (ad := ad) (μ := μ) hmv
  rw [hent ad μ a ha] at hw
  rw [aE_obj hv] at hw2
  refine va_astq hX.1 hX.2.1 hX.2.2.2.2.2.1 hP (hXX.dd μ) hS q t0 q2 k (r := (cn, T, N)) hw ht hw2 hc hi hd (fun H1 locs1 hP1 _ hS1 => ?_)
  have he : (aWs Z ad P μ).set q (ad a, .inl (cA, (μ.2.2 a).2, .inr (.inr (.inr (.inr (va_up (fun i => (μ.2.1 a i).map ad) i.toNatClampNeg (some (ad v)))))))) = aWs Z ad P (μ.1, ar μ.2.1 a i.toNatClampNeg (some v), μ.2.2) := by
    refine aWs_set hA.1 hq ?_ (fun o' ho => aE_congr rfl (ar_ne ho) rfl)
    rw [hent ad (μ.1, ar μ.2.1 a i.toNatClampNeg (some v), μ.2.2) a ha]
    refine congrArg (fun z => (Sum.inl (cA, (μ.2.2 a).2, .inr (.inr (.inr (.inr z)))) : va_E)) (funext fun j => ?_)
    show (ar μ.2.1 a i.toNatClampNeg (some v) a j).map ad = _
    unfold ar va_up
    by_cases e : j = i.toNatClampNeg
    · rw [if_pos ⟨rfl, e⟩, if_pos e]; rfl
    · rw [if_neg (fun z => e z.2), if_neg e]
  rw [he] at hP1
  refine hK _ _ _ _ _ hop ad P H1 locs1 ls hA ⟨hg.1, hg.2.1.2.2.2, hg.2.2.1, fun k' j x hx => ?_, hg.2.2.2.2⟩ hc1 hc2 hL hl hP1 hS1
  unfold ar at hx
  dsimp only at hx
  split at hx
  · cases hx; exact hg.2.1.1
  · exact hg.2.2.2.1 _ _ _ hx
end MC
