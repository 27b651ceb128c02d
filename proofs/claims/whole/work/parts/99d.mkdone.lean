/-! a thing in the making, made -/
def mdF (μ : aM) (g o : Nat) : Prop := ∀ k j, k < anf g → alay g k = j + 2 → μ.2.1 o k = some (o + j)
def b_mk (g : Nat) (op : bO) : bO := fun L st μ c K E => ∃ o, μ.2.2 o = (0, g + 1) ∧ mdF μ g o ∧ op L st (μ.1, μ.2.1, gu μ.2.2 o (g + 4, 0)) c K E
section MD
variable {p : Program} {l : Launch} {e : Env} {R : Room} {s : State} {m : MethodId} {args : Array Value} {below : List Frame} {meth : Method} {c : Code} {cells slots : Nat} {Q : State → Prop} {cc : ByteArray} {own : String} {Ts : List Cond} {nL : Nat} {D : va_G} {Z : aZ} {ad ad0 ad' : Nat → Nat} {P : List Nat} {G G0 : Nat → Nat × Nat} {A : Nat → Prop} {E : bR} {pc nx mc ms : Nat}
theorem aE_made {μ : aM} {g o : Nat} (h : μ.2.2 o = (0, g + 1)) (hf : mdF μ g o) : aE Z ad (μ.1, μ.2.1, gu μ.2.2 o (g + 4, 0)) o = aE Z ad μ o := by
  rw [aE_raw h, aE_obj (g := g) (by show (gu μ.2.2 o (g + 4, 0) o).1 = g + 4; rw [gu_at])]
  refine congrArg (fun z => (Sum.inr (g, z) : va_E)) ?_
  unfold aF aRw
  refine List.map_congr_left fun i hi => ?_
  unfold aFv aRv
  split
  · rename_i hh
    rw [hh]
    rfl
  · rename_i hh
    rw [hh]
    rfl
  · rename_i j hj
    rw [hf i j (List.mem_range.mp hi) hj, hj]
    rfl
theorem b_mk_as {g : Nat} {op : bO} {L : aL} {st : List Value} {μ : aM} {w : Nat × Nat} {K : bK} (h : b_mk g op L st μ w K E) : b_as op L st μ w K E := by
  obtain ⟨o, h1, h2, h3⟩ := h
  have hno : ¬ ((g + 4, 0) : Nat × Nat) = (0, 0) := fun w => by cases w
  refine ⟨_, fun Z ad k => ?_, fun k => ?_, fun G L st hg hG => ?_, h3⟩
  · by_cases e : k = o
    · subst e; exact aE_made h1 h2
    · exact aE_congr rfl rfl (gu_ne e)
  · by_cases e : k = o
    · subst e
      show gu μ.2.2 k (g + 4, 0) k = (0, 0) ↔ _
      rw [gu_at, h1]
      exact ⟨fun w => absurd w hno, fun w => by cases w⟩
    · show gu μ.2.2 o (g + 4, 0) k = (0, 0) ↔ _
      rw [gu_ne e]
  · subst hG
    obtain ⟨g1, g2, g3, g4, g5⟩ := hg
    refine ⟨fun k v hk => (g1 k v hk).new hno, (gdS_m _).mpr fun v hv => ((gdS_m _).mp g2 v hv).new hno, rfl, fun k i y hy => (g4 k i y hy).new hno, fun k g' j i hg hn hj => ?_⟩
    by_cases e : k = o
    · subst e
      have hg : (gu μ.2.2 k (g + 4, 0) k).1 = g' + 4 := hg
      rw [gu_at] at hg
      have : g = g' := by have hg : g + 4 = g' + 4 := hg; omega
      subst this
      exact (g4 k j (k + i) (h2 j i hn hj)).new hno
    · have hg : (gu μ.2.2 o (g + 4, 0) k).1 = g' + 4 := hg
      rw [gu_ne e] at hg
      exact (g5 k g' j i hg hn hj).new hno
theorem t_mk {g : Nat} {op : bO} (h : bSd p l e R s m args below meth c Q nL D Z ad0 G0 A E op pc) : bSd p l e R s m args below meth c Q nL D Z ad0 G0 A E (b_mk g op) pc := fun L st μ w K hop hK => t_as h L st μ w K (b_mk_as hop) hK
end MD
