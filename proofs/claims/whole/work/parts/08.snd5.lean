/-! soundness: the static table -/
def o_gst (nx : Nat) : aO := fun L st μ K _ => K nx L (.ref 1000 :: st) μ
def o_tld (nx : Nat) : aO := fun L st μ K _ => match st with
  | .int i :: .ref a :: t => a = 1000 ∧ vp_in i 6 ∧ K nx L (.int (aTab i.toNatClampNeg) :: t) μ
  | _ => False
section AS5
variable {p : Program} {l : Launch} {e : Env} {R : Room} {s : State} {m : MethodId} {args : Array Value} {below : List Frame} {meth : Method} {c : Code} {cells slots : Nat} {Q : State → Prop} {cc : ByteArray} {own : String} {Ts : List Cond} {nL : Nat} {D : va_G} {Z : aZ} {ad : Nat → Nat} {P : List Nat} {G : Nat → Nat × Nat} {A : Nat → Prop} {E : aR} {pc nx : Nat}
theorem s_gst (hX : aX p s m args c cc own Ts nL D Z ad P G A) {ix : Nat} (hlink : Cond.fieldLink own ix "JudgesByLoss$Bench" "IS_ONE_OF" "[I" ∈ Ts) (hd : decode cc pc = .ok (.getstatic ix, 3)) (hn : pc + 3 = nx) : aSd p l e R s m args below meth c cells slots Q nL D Z ad P G A E (o_gst nx) pc := by
  subst hn
  intro L st μ K h hK H locs ls hL hG hl hP hS
  exact va_gets hX.1 hX.2.1 hX.2.2.2.2.2.2.2.2.2.2.2.1 hS hX.2.2.2.1 (hX.2.2.2.2.1 _ hlink) (fun _ h9 => h9) hd (hK _ _ _ _ h H locs ls hL hG hl hP hS)
theorem s_tld (hX : aX p s m args c cc own Ts nL D Z ad P G A) (hd : decode cc pc = .ok (.iaload, 1)) (hn : pc + 1 = nx) : aSd p l e R s m args below meth c cells slots Q nL D Z ad P G A E (o_tld nx) pc := by
  subst hn
  intro L st μ K h hK H locs ls hL hG hl hP hS
  unfold o_tld at h
  split at h
  · obtain ⟨h0, h1, h⟩ := h
    subst h0
    exact va_ti hX.1 hX.2.1 hX.2.2.2.2.2.2.2.2.2.2.2.2.1 hS h1 rfl hd (hK _ _ _ _ h H locs ls hL hG hl hP hS)
  · exact h.elim
end AS5
