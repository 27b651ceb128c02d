/-! arrays of references; the fields of a thing in the making, read; the script -/
def b_nwq (g rc rs nx : Nat) : bO := fun L st μ c K _ => match st with
  | .int n :: t => ∃ o N, o < 1000 ∧ μ.2.2 o = (0, 0) ∧ ¬ n < 0 ∧ n.toNatClampNeg = N ∧ N ≤ 100000 ∧ c.1 + 1 ≤ rc ∧ c.2 + N ≤ rs ∧ K (c.1 + 1, c.2 + N) nx L (.ref o :: t) (bNw μ o (g, N))
  | _ => False
def b_gwR (g k nx : Nat) : bO := fun L st μ c K _ => match st with
  | .ref o :: t => μ.2.2 o = (0, g + 1) ∧ ∃ a, μ.2.1 o k = some a ∧ K c nx L (.ref a :: t) μ
  | _ => False
def b_sld (xs : Nat → Int32) (N nx : Nat) : bO := fun L st μ c K _ => match st with
  | .int i :: .ref o :: t => o = 1300 ∧ vp_in i N ∧ K c nx L (.int (xs i.toNatClampNeg) :: t) μ
  | _ => False
def b_sle (N nx : Nat) : bO := fun L st μ c K _ => match st with
  | .ref o :: t => o = 1300 ∧ K c nx L (.int (Int32.ofNat N) :: t) μ
  | _ => False
def bSc (b N : Nat) (xs : Nat → Int32) (s : State) (A : Nat → Prop) (ad0 : Nat → Nat) : Prop := va_X b N xs s s.heap ∧ b < s.heap.size ∧ ¬ A b ∧ ad0 1300 = b
section MN
variable {p : Program} {l : Launch} {e : Env} {R : Room} {s : State} {m : MethodId} {args : Array Value} {below : List Frame} {meth : Method} {c : Code} {cells slots : Nat} {Q : State → Prop} {cc : ByteArray} {own : String} {Ts : List Cond} {nL : Nat} {D : va_G} {Z : aZ} {ad ad0 ad' : Nat → Nat} {P : List Nat} {G G0 : Nat → Nat × Nat} {A : Nat → Prop} {E : bR} {pc nx mc ms : Nat}
theorem t_nwq (hX : bX p s m args c cc own Ts nL D Z A) {g t0 ix : Nat} {C : String} {cA : ClassId} (ht : (aTy Z)[t0]? = some (cA, .object C)) (hent : ∀ (ad : Nat → Nat) (μ : aM) (o : Nat), (μ.2.2 o).1 = g → aE Z ad μ o = .inl (cA, (μ.2.2 o).2, .inr (.inr (.inr (.inr (fun i => (μ.2.1 o i).map ad)))))) (hg0 : ¬ g = 0) (hg4 : g < 4) (w1 : Cond.classLink own ix C ∈ Ts) (w2 : va_AO C s) (hd : decode cc pc = .ok (.anewarray ix, 3)) (hn : pc + 3 = nx) : bSd p l e R s m args below meth c Q nL D Z ad0 G0 A E (b_nwq g R.cells R.slots nx) pc := by
  subst hn
  intro L st μ w K hop hK ad P H locs ls hA hg hc1 hc2 hL hl hP hS
  unfold b_nwq at hop
  split at hop
  case h_2 => exact hop.elim
  rename_i n t
  obtain ⟨o, N, ho, hG, hn0, hnN, hN5, hw1, hw2, hk⟩ := hop
  have hXX := hX.aX hA
  obtain ⟨h1, h2, h3, h4, h5, h6, h7, h8⟩ := hX
  refine va_newq h1 h2 h4 (h5 _ w1) w2 h6 hP (hXX.dd μ) hS h7 hn0 hnN (by omega) hw1 hw2 hd (fun q cB H1 hK1 hP1 hD1 hS1 => ?_)
  have e1 := (hK1.2 (aTy Z).length (cB, .object C) (by rw [List.getElem?_append_right (Nat.le_refl _), Nat.sub_self]; rfl)).2
  have e2 := (h6.2 t0 _ ht).2
  obtain ⟨_, _, _, _, _, e3⟩ := e1
  obtain ⟨_, _, _, _, _, e4⟩ := e2
  have e5 : cB = cA := Option.some.inj (e3.symm.trans e4)
  rw [e5] at hP1 hD1
  refine bJ.new (Z := Z) (D := D) (x := (g, N)) (st := .int n :: t) (t := t) hA hg (fun v hv => List.mem_cons_of_mem _ hv) ho hG (fun w => hg0 (congrArg Prod.fst w)) hg4 ?_ hP1 hD1 hS1 hw1 hw2 hL hl (hK _ _ _ _ _ hk)
  rw [hent _ _ _ (by show (gu μ.2.2 o (g, N) o).1 = g; rw [gu_at])]
  have e6 : (bNw μ o (g, N)).2.1 o = fun _ => none := by show (if o = o then fun _ => none else μ.2.1 o) = _; rw [if_pos rfl]
  have e7 : (bNw μ o (g, N)).2.2 o = (g, N) := gu_at
  rw [e6, e7]
  rfl
theorem t_gwR (hX : bX p s m args c cc own Ts nL D Z A) {g k N ix : Nat} {C : String} {T : u_T} (hc : vwCl[g]? = some (C, T, N)) (hin : ∀ w ∈ u_ws C T N, w ∈ Ts) (hk : k < N) (hN : anf g = N) (hl0 : ¬ alay g k = 0) (hC : (T k).1 = C) (hlink : Cond.fieldLink own ix C (T k).2.1 (T k).2.2.1 ∈ Ts) (hd : decode cc pc = .ok (.getfield ix, 3)) (hn : pc + 3 = nx) : bSd p l e R s m args below meth c Q nL D Z ad0 G0 A E (b_gwR g k nx) pc := by
  subst hn
  intro L st μ w K hop hK ad P H locs ls hA hg hc1 hc2 hL hl hP hS
  unfold b_gwR at hop
  split at hop
  case h_2 => exact hop.elim
  rename_i o t
  obtain ⟨h0, a, h9, hop⟩ := hop
  obtain ⟨h1, h2, h3, h4, h5, h6, h7, h8⟩ := hX
  obtain ⟨q, hq, hw⟩ := aWs_at (Z := Z) (ad := ad) (μ := μ) (hA.mem h0)
  rw [aE_raw h0] at hw
  refine va_get (ref := C) (v := .ref (ad a)) h1 h2 h5 hin h4 h6 hP q hw hc k hk (h5 _ hlink) (fun x h9 => by rw [hC] at h9; exact h9) ?_ hd (hK _ _ _ _ _ hop ad P H locs ls hA ⟨hg.1, ⟨hg.2.2.2.1 _ _ _ h9, hg.2.1.2⟩, hg.2.2⟩ hc1 hc2 hL hl hP hS)
  rw [aRw_at (by rw [hN]; exact hk)]
  unfold aRv
  split
  · rename_i h; exact absurd h hl0
  · rw [h9]; rfl
theorem t_sld (hX : bX p s m args c cc own Ts nL D Z A) {b N : Nat} {xs : Nat → Int32} (hSc : bSc b N xs s A ad0) (hd : decode cc pc = .ok (.iaload, 1)) (hn : pc + 1 = nx) : bSd p l e R s m args below meth c Q nL D Z ad0 G0 A E (b_sld xs N nx) pc := by
  subst hn
  intro L st μ w K hop hK ad P H locs ls hA hg hc1 hc2 hL hl hP hS
  unfold b_sld at hop
  split at hop
  case h_2 => exact hop.elim
  rename_i i o t
  obtain ⟨h0, hi, hop⟩ := hop
  subst h0
  have had : ad 1300 = b := (hA.2.2.2.2.2.1 1300 (Or.inr (by omega))).trans hSc.2.2.2
  show W p l e R s m args below meth c H locs w.1 w.2 Q (F0 m pc ls (.int i :: .ref (ad 1300) :: t.map (cv ad)))
  rw [had]
  exact va_sld hX.1 hX.2.1 hSc.1 hSc.2.1 hSc.2.2.1 hS hi hd (hK _ _ _ _ _ hop ad P H locs ls hA ⟨hg.1, ⟨trivial, hg.2.1.2.2⟩, hg.2.2⟩ hc1 hc2 hL hl hP hS)
theorem t_sle (hX : bX p s m args c cc own Ts nL D Z A) {b N : Nat} {xs : Nat → Int32} (hSc : bSc b N xs s A ad0) (hd : decode cc pc = .ok (.arraylength, 1)) (hn : pc + 1 = nx) : bSd p l e R s m args below meth c Q nL D Z ad0 G0 A E (b_sle N nx) pc := by
  subst hn
  intro L st μ w K hop hK ad P H locs ls hA hg hc1 hc2 hL hl hP hS
  unfold b_sle at hop
  split at hop
  case h_2 => exact hop.elim
  rename_i o t
  obtain ⟨h0, hop⟩ := hop
  subst h0
  have had : ad 1300 = b := (hA.2.2.2.2.2.1 1300 (Or.inr (by omega))).trans hSc.2.2.2
  show W p l e R s m args below meth c H locs w.1 w.2 Q (F0 m pc ls (.ref (ad 1300) :: t.map (cv ad)))
  rw [had]
  exact va_slen hX.1 hX.2.1 hSc.1 hSc.2.1 hSc.2.2.1 hS hd (hK _ _ _ _ _ hop ad P H locs ls hA ⟨hg.1, ⟨trivial, hg.2.1.2⟩, hg.2.2⟩ hc1 hc2 hL hl hP hS)
end MN
