/-! text(), both sides -/
def bthT (A : Nat → Nat → Int32) (R : Nat → Nat → Option Nat) (G : Nat → Nat × Nat) : Prop := ∃ (v : Int32) (A1 : Nat → Nat → Int32) (R1 : Nat → Nat → Option Nat) (G1 : Nat → Nat × Nat) (A2 : Nat → Nat → Int32) (R2 : Nat → Nat → Option Nat) (T' : Nat) (W' : Nat → Nat → List Nat), CX4_text [.ref 0] (A, R, G) (some (.int v)) (A1, R1, G1) ∧ CX5_text [.ref 48] (A1, R1, G1) (some (.int v)) (A2, R2, G1) ∧ (∃ n t, sJ n t T' W' A2 R2 G1) ∧ ∀ k, tw T' ≤ k → k < 1000 → G1 k = (0, 0)
section CT
variable {A : Nat → Nat → Int32} {R : Nat → Nat → Option Nat} {G : Nat → Nat × Nat} {n t T z : Nat} {W : Nat → Nat → List Nat}
theorem tkPl_z {t : Nat → Int32} : ∀ i, tkPl t z i ≤ z := fun i => by
  rw [tkPl_Q]
  unfold skipN
  have h1 := tkQ_le (t := t) (z := z) i
  have h2 := (runN_le (P := isBk t z) (z - tkQ t z i) (tkQ t z i)).2
  omega
theorem tx_run {v : Int32} {A1 : Nat → Nat → Int32} {R1 : Nat → Nat → Option Nat} {G1 : Nat → Nat × Nat} (H : bw tX4_text (fun r μ c => (r = some (.int v) ∧ μ = (A1, R1, G1)) ∧ c.1 ≤ 4 ∧ c.2 ≤ 206) (0, 0) 0 [some (.ref 0), none] [] (A, R, G)) : CX4_text [.ref 0] (A, R, G) (some (.int v)) (A1, R1, G1) := by
  obtain ⟨r, μ', h1, h2, h3⟩ := bC_ex (args := [.ref 0]) (n := 2) (mc := 4) (ms := 206) (μ := (A, R, G)) (F := fun r μ => r = some (.int v) ∧ μ = (A1, R1, G1)) kX4_text (Nat.le_of_ble_eq_true rfl) H
  subst h2
  subst h3
  exact ⟨trivial, h1⟩
theorem c_text (hJ : sJ n t T W A R G) (hfr : ∀ k, tw T ≤ k → k < 1000 → G k = (0, 0)) : bthT A R G := by
  have hk := kX4_text
  have hJ0 := hJ
  obtain ⟨gs, ht, ⟨hT1, hT6, c05, c11, hx⟩, hb, hi, ⟨z, hz, z1, z2, z3⟩, hs, hc⟩ := hJ
  by_cases h6 : T = 6
  · subst h6
    refine ⟨-4, A, R, G, A, R, 6, W, tx_run ?_, aC_of (Nat.le_of_ble_eq_true rfl) fun E hE => sX5_text_0 gs (br_t c11 hE), ⟨n, t, hJ0⟩, hfr⟩
    refine r_al hk rfl rfl ?_
    refine r_gI hk rfl (gt0 gs) c05 ?_
    refine r_ii hk rfl ?_
    refine r_icF hk rfl (by decide) ?_
    refine r_ii hk rfl ?_
    exact r_ri hk rfl ⟨⟨rfl, rfl⟩, by decide, by decide⟩
  have hT : T < 6 := by omega
  obtain ⟨ok, i', W', B', q1, q2, q3, q4⟩ := qX1_faultOfTape (A := A) (R := R) gs z1 hz
  obtain ⟨Ab, hAb⟩ : ∃ Ab, Ab = au B' 31 5 0 := ⟨_, rfl⟩
  have a0 : ∀ o, ¬ o = 31 → ¬ o = 33 → ¬ o = 34 → ¬ o = 35 → ¬ o = 36 → Ab o = A o := fun o a b c d e => by rw [hAb, au_o a]; exact q2.1 o a b c d e
  have a5 : Ab 31 5 = nI 0 := by rw [hAb, au_k]; rfl
  have a7 : Ab 31 7 = B' 31 7 := by rw [hAb, au_j (by decide)]
  have a35 : Ab 35 = B' 35 := by rw [hAb, au_o (by decide)]
  have a36 : Ab 36 = B' 36 := by rw [hAb, au_o (by decide)]
  have a48 : Ab 48 = A 48 := a0 48 (by decide) (by decide) (by decide) (by decide) (by decide)
  have a54 : Ab 54 = A 54 := a0 54 (by decide) (by decide) (by decide) (by decide) (by decide)
  have a55 : Ab 55 = A 55 := a0 55 (by decide) (by decide) (by decide) (by decide) (by decide)
  have ax0 : Ab 0 = A 0 := a0 0 (by decide) (by decide) (by decide) (by decide) (by decide)
  have start : ∀ (E : bR) (v : Int32), v = (if ok then -1 else nI (tkPl (A 32) z i')) → bw tX4_text E (0, 0) 28 [some (.ref 0), some (.int v)] [] (Ab, R, G) → bw tX4_text E (0, 0) 0 [some (.ref 0), none] [] (A, R, G) := by
    intro E v hv h
    refine r_al hk rfl rfl ?_
    refine r_gI hk rfl (gt0 gs) c05 ?_
    refine r_ii hk rfl ?_
    refine r_icT hk rfl (nI_lt (a := T) (b := 6) hT (by omega)) ?_
    refine r_al hk rfl rfl ?_
    refine r_gF hk rfl (gt0 gs) ?_
    refine r_cV (t := []) hk rfl rfl (gt31 gs) (Nat.zero_le _) q1 ?_
    rw [← hv]
    refine r_is hk rfl ?_
    refine r_al hk rfl rfl ?_
    refine r_gF hk rfl (gt0 gs) ?_
    refine r_ii hk rfl ?_
    refine r_pI hk rfl (gt31 gs) ?_
    rw [← hAb]
    exact h
  cases ok with
  | false =>
    have hp := tkPl_z (t := A 32) (z := z) i'
    obtain ⟨p, hpe⟩ : ∃ p, p = tkPl (A 32) z i' := ⟨_, rfl⟩
    rw [← hpe] at hp q4
    obtain ⟨F, ⟨D, v, hm, hF⟩, hc5⟩ := (q4 Ab R G T gs (fun q hq => by rw [a0 53 (by decide) (by decide) (by decide) (by decide) (by decide)]; exact (z3 q hq).1) hT (by rw [a48]; exact z2) (by rw [a48]; exact c11) (hc.go (a0 62 (by decide) (by decide) (by decide) (by decide) (by decide)))).1 rfl
    refine ⟨-100 - nI p, Ab, R, G, F, R, T, W, tx_run ?_, hc5, ⟨n, t, hJ0.tape ?_ ?_ ?_ ?_⟩, hfr⟩
    · refine start _ (nI p) (by rw [← hpe]; rfl) ?_
      refine r_il hk rfl rfl ?_
      refine r_ii hk rfl ?_
      refine r_icF hk rfl (fun q => ?_) ?_
      · have h0 : (0 : Int32) ≤ nI p := nI_nn (by omega)
        have q : nI p = -1 := q
        rw [q] at h0
        exact absurd h0 (by decide)
      refine r_ii hk rfl ?_
      refine r_il hk rfl rfl ?_
      refine r_bi hk rfl rfl ?_
      exact r_ri hk rfl ⟨⟨rfl, rfl⟩, by decide, by decide⟩
    · intro o h1 h2 h3 h4 h5 h7
      rw [hF, au_o h2, au_o h5, hm.1 o h2 h4 h5 h7]
      exact a0 o (by omega) (by omega) (by omega) (by omega) (by omega)
    · intro k hk'
      rw [hF, au_j (by omega), aua (by decide), hm.2.1 k (by omega) (by omega) (by omega) (by omega), a48]
    · intro k hk'
      have h1 := TMt.go54 (B := au D 55 (4 * T + 3) v) hm.st hk' (by rw [a54, a55]; exact (hx k hk').2.2)
      rw [hF, au_o (by decide), au_o (by decide)]
      exact h1
    · refine ⟨0, by decide, ?_, ?_, fun i hi => absurd hi (by omega)⟩
      · rw [hF, aua (by decide), aua (by decide), hm.1 31 (by decide) (by decide) (by decide) (by decide)]; exact a5
      · rw [hF, au_k]; rfl
  | true =>
    have hW := q3 rfl
    obtain ⟨N, hN⟩ : ∃ N, N = (jo W' 3).length := ⟨_, rfl⟩
    have hN1 : N ≤ 160 := by rw [hN]; exact hW.1
    have t80 : tw T = 80 + 4 * T := rfl
    obtain ⟨Ac, Rc, Gc, w1, w2, w3, w4, w5⟩ := qX1_whatWasRead (A := Ab) (R := R) (G := G) (w := tw T) (n := N) gs (by omega) (fun j hj => hfr _ (by omega) (by omega)) (by rw [a7, hN]; exact hW.2.1) hN1
    have gc : ∀ o, (o < tw T ∨ tw T + 4 ≤ o) → Gc o = G o := fun o h => (w2 o (by omega)).2.2
    have ac : ∀ o, (o < tw T ∨ tw T + 4 ≤ o) → Ac o = Ab o := fun o h => (w2 o (by omega)).1
    have rc : ∀ o, (o < tw T ∨ tw T + 4 ≤ o) → Rc o = R o := fun o h => (w2 o (by omega)).2.1
    have gs' : aGS Gc := fun k hk' => (gc k (by omega)).trans (gs k hk')
    obtain ⟨A1, hA1⟩ : ∃ A1, A1 = au Ac 0 5 (nI (T + 1)) := ⟨_, rfl⟩
    obtain ⟨R1, hR1⟩ : ∃ R1, R1 = ar Rc 37 T (some (tw T)) := ⟨_, rfl⟩
    have b0 : ∀ o, ¬ o = 0 → (o < tw T ∨ tw T + 4 ≤ o) → A1 o = Ab o := fun o h1 h2 => by rw [hA1, au_o h1]; exact ac o h2
    have b1 : ∀ o, ¬ o = 0 → (o < tw T ∨ tw T + 4 ≤ o) → ¬ o = 31 → ¬ o = 33 → ¬ o = 34 → ¬ o = 35 → ¬ o = 36 → A1 o = A o := fun o h1 h2 a b c d e => (b0 o h1 h2).trans (a0 o a b c d e)
    have b48 : A1 48 = A 48 := b1 48 (by decide) (by omega) (by decide) (by decide) (by decide) (by decide) (by decide)
    have run : CX4_text [.ref 0] (A, R, G) (some (.int (nI T))) (A1, R1, Gc) := by
      refine tx_run (start _ (-1) rfl ?_)
      refine r_il hk rfl rfl ?_
      refine r_ii hk rfl ?_
      refine r_icT hk rfl rfl ?_
      refine r_al hk rfl rfl ?_
      refine r_gF hk rfl (gt0 gs) ?_
      refine r_al hk rfl rfl ?_
      refine r_gI (v := nI T) hk rfl (gt0 gs) (by rw [ax0]; exact c05) ?_
      refine r_al hk rfl rfl ?_
      refine r_gF hk rfl (gt0 gs) ?_
      refine r_bcV (r := some (.ref (tw T))) (t := [.int (nI T), .ref 37]) hk rfl rfl (gt31 gs) (Nat.le_of_ble_eq_true rfl) trivial w1 (by decide) (by decide) rfl ?_
      refine r_ast (j := T) (N := 6) hk rfl (gs' 37 (by decide)) (by rw [w3.1]) (vp_in_nI (by omega) (by omega)) (nI_clamp (by omega)) ?_
      rw [← hR1]
      have e5 : Ac 0 5 = nI T := by rw [ac 0 (by omega), ax0]; exact c05
      refine r_al hk rfl rfl ?_
      refine r_dup hk rfl rfl ?_
      refine r_gI hk rfl (gt0 gs') e5 ?_
      refine r_ii hk rfl ?_
      refine r_bi hk rfl (v := nI (T + 1)) (by show nI T + 1 = _; rw [nI_1]) ?_
      refine r_pI hk rfl (gt0 gs') ?_
      rw [← hA1]
      refine r_al hk rfl rfl ?_
      refine r_gI hk rfl (gt0 gs') (v := nI (T + 1)) (by rw [hA1, au_k]) ?_
      refine r_ii hk rfl ?_
      refine r_bi hk rfl (v := nI T) (nI_pre2 T (by omega)) ?_
      exact r_ri hk rfl ⟨⟨rfl, rfl⟩, by decide, by decide⟩
    obtain ⟨F, ⟨D, hD, hF⟩, hc5⟩ := (q4 A1 R1 Gc T gs' (fun q hq => by rw [b1 53 (by decide) (by omega) (by decide) (by decide) (by decide) (by decide) (by decide)]; exact (z3 q hq).1) hT (by rw [b48]; exact z2) (by rw [b48]; exact c11) (hc.go (b1 62 (by decide) (by omega) (by decide) (by decide) (by decide) (by decide) (by decide)))).2 rfl
    have hm := hD.1
    have fo : ∀ o, ¬ o = 48 → ¬ o = 54 → ¬ o = 55 → ¬ o = 63 → F o = A1 o := fun o a b c d => by rw [hF, au_o a, au_o a, au_o c, hm.1 o a b c d]
    have f1 : ∀ o, ¬ o = 0 → (o < tw T ∨ tw T + 4 ≤ o) → (o < 31 ∨ 36 < o) → ¬ o = 48 → ¬ o = 54 → ¬ o = 55 → ¬ o = 63 → F o = A o := fun o h1 h2 h3 a b c d => (fo o a b c d).trans (b1 o h1 h2 (by omega) (by omega) (by omega) (by omega) (by omega))
    have f48 : ∀ k, (k = 0 ∨ k = 5 ∨ k = 6 ∨ k = 12 ∨ k = 13) → F 48 k = A 48 k := fun k hk' => by
      rw [hF, au_j (by omega), au_j (by omega), aua (by decide), hm.2.1 k (by omega) (by omega) (by omega) (by omega), b48]
    have e54 : F 54 = D 54 := by rw [hF, au_o (by decide), au_o (by decide), au_o (by decide)]
    have e55 : F 55 = (au D 55 (4 * T + 3) (nI (jo W' 3).length)) 55 := by rw [hF, au_o (by decide), au_o (by decide)]
    have hvm : vM F = vM A := by
      funext f i
      unfold vM
      rw [f1 49 (by decide) (by omega) (by decide) (by decide) (by decide) (by decide) (by decide), f1 50 (by decide) (by omega) (by decide) (by decide) (by decide) (by decide) (by decide), f1 51 (by decide) (by omega) (by decide) (by decide) (by decide) (by decide) (by decide), f1 52 (by decide) (by omega) (by decide) (by decide) (by decide) (by decide) (by decide), f48 0 (by omega), f48 5 (by omega), f48 6 (by omega)]
    have r1 : ∀ o, ¬ o = 37 → o < 80 → R1 o = R o := fun o h h2 => by rw [hR1, ar_ne h]; exact rc o (by omega)
    have F0 : F 0 3 = A 0 3 := by rw [fo 0 (by decide) (by decide) (by decide) (by decide), hA1, au_j (by decide), ac 0 (by omega), ax0]
    refine ⟨nI T, A1, R1, Gc, F, R1, T + 1, fun s => if s = T then W' else W s, run, hc5, ⟨n, t, gs', by omega, ⟨by omega, by omega, ?_, ?_, fun s hs => ?_⟩, ?_, ?_, ?_, ?_, hc.go (f1 62 (by decide) (by omega) (by decide) (by decide) (by decide) (by decide) (by decide))⟩, fun k h1 h2 => ?_⟩
    · rw [fo 0 (by decide) (by decide) (by decide) (by decide), hA1, au_k]
    · rw [hF, au_k]
    · by_cases e : s = T
      · subst e
        dsimp only
        rw [if_pos rfl]
        refine ⟨by rw [hR1]; exact ar_at, ⟨N, w3, ?_⟩, ?_⟩
        · have x1 : F (tw s + 1) = Ac (tw s + 1) := by rw [fo _ (by omega) (by omega) (by omega) (by omega), hA1, au_o (by omega)]
          have x2 : F (tw s + 2) = Ac (tw s + 2) := by rw [fo _ (by omega) (by omega) (by omega) (by omega), hA1, au_o (by omega)]
          rw [x1, x2, hN]
          exact TXt.of hW (fun j hj => by rw [w4 j (by rw [hN]; exact hj), a35]) (fun q hq => by rw [w5, a36])
        · rw [e54, e55]
          exact TMt.of hD hW.1 hW.2.2.2.2
      · have hs' : s < T := by omega
        dsimp only
        rw [if_neg e]
        obtain ⟨p1, ⟨n1, p2, p3⟩, p4⟩ := hx s hs'
        have ts : tw s = 80 + 4 * s := rfl
        refine ⟨?_, ⟨n1, ?_, ?_⟩, ?_⟩
        · rw [hR1]
          show ar Rc 37 T _ 37 s = _
          unfold ar
          rw [if_neg (fun w => e w.2), rc 37 (by omega)]
          exact p1
        · exact ⟨(gc _ (by omega)).trans p2.1, (gc _ (by omega)).trans p2.2.1, (gc _ (by omega)).trans p2.2.2.1, (gc _ (by omega)).trans p2.2.2.2⟩
        · rw [f1 (tw s + 1) (by omega) (by omega) (by omega) (by omega) (by omega) (by omega) (by omega), f1 (tw s + 2) (by omega) (by omega) (by omega) (by omega) (by omega) (by omega) (by omega)]
          exact p3
        · have h1 := TMt.go54 (B := au D 55 (4 * T + 3) (nI (jo W' 3).length)) hm.st hs' (by rw [b1 54 (by decide) (by omega) (by decide) (by decide) (by decide) (by decide) (by decide), b1 55 (by decide) (by omega) (by decide) (by decide) (by decide) (by decide) (by decide)]; exact p4)
          rw [e54, e55]
          rw [au_o (o' := 54) (by decide)] at h1
          exact h1
    · exact hb.goX (fun o h1 h2 => f1 o (by omega) (by omega) (by omega) (by omega) (by omega) (by omega) (by omega)) (fun j hj => f48 j (by omega)) (eqV.of hvm.symm) (r1 1 (by decide) (by decide))
    · have h9 : sIm n T F R1 := hi.go (fun o h1 h2 => f1 o (by omega) (by omega) (by omega) (by omega) (by omega) (by omega) (by omega)) F0 (f48 13 (by omega)) (f1 57 (by decide) (by omega) (by decide) (by decide) (by decide) (by decide) (by decide)) (eqI (eqV.of hvm.symm) (f1 56 (by decide) (by omega) (by decide) (by decide) (by decide) (by decide) (by decide)) (f1 57 (by decide) (by omega) (by decide) (by decide) (by decide) (by decide) (by decide))) (r1 21 (by decide) (by decide))
      rcases h9 with h9 | ⟨y1, y2, m, t', y3, y4, y5⟩
      · exact Or.inl h9
      · exact Or.inr ⟨y1, y2, m, t', y3, by omega, y5⟩
    · refine ⟨0, by decide, ?_, ?_, fun i hi => absurd hi (by omega)⟩
      · rw [fo 31 (by decide) (by decide) (by decide) (by decide), b0 31 (by decide) (by omega)]; exact a5
      · rw [hF, au_j (by decide), au_k]; rfl
    · exact hs.go (fun o h1 h2 => f1 o (by omega) (by omega) (by omega) (by omega) (by omega) (by omega) (by omega)) (f1 58 (by decide) (by omega) (by decide) (by decide) (by decide) (by decide) (by decide)) (f1 59 (by decide) (by omega) (by decide) (by decide) (by decide) (by decide) (by decide)) (f1 60 (by decide) (by omega) (by decide) (by decide) (by decide) (by decide) (by decide)) (r1 38 (by decide) (by decide))
    · have ts : tw (T + 1) = 80 + 4 * (T + 1) := rfl
      exact (gc k (by omega)).trans (hfr k (by omega) h2)
end CT
