section MU
variable {A A' A2 B C D : Nat → Nat → Int32} {R R' R1 : Nat → Nat → Option Nat} {G : Nat → Nat × Nat} {n n' t T w t' : Nat} {W : Nat → Nat → List Nat} {Λ : aLm} {v u : aV}
theorem sIm.le (h : sIm n T A R) (hn : n ≤ n') : sIm n' T A R := by
  rcases h with h | ⟨a, b, m, t, c, d⟩
  · exact Or.inl h
  · exact Or.inr ⟨a, b, m, t, by omega, d⟩
/-- only the bench is touched -/
theorem sJ.bench (hJ : sJ n t T W A R G) (hX : ∀ o, (o = 0 ∨ 11 ≤ o) → (o < 48 ∨ 52 < o) → (o < 64 ∨ 68 < o) → (o < 80 ∨ ¬ o % 4 = 3) → A2 o = A o) (h48 : ∀ k, ¬ k = 0 → ¬ k = 5 → ¬ k = 6 → ¬ k = 34 → A2 48 k = A 48 k) (hB : sBn n' t A2 R) (hn : n ≤ n') (hI : eqV n (vI A) (vI A2)) : sJ n' t T W A2 R G := by
  obtain ⟨a, b, c, d, e, f, g, i⟩ := hJ
  have k : ∀ o, (o = 0 ∨ (11 ≤ o ∧ o < 48) ∨ (52 < o ∧ o < 64) ∨ (68 < o ∧ o < 80)) → A2 o = A o := fun o h => hX o (by omega) (by omega) (by omega) (by omega)
  refine ⟨a, b, c.go (by rw [k 0 (by omega)]) (h48 11 (by omega) (by omega) (by omega) (by omega)) (k _ (by omega)) (k _ (by omega)) rfl (fun t ht => ⟨hX _ (by unfold tw; omega) (by unfold tw; omega) (by unfold tw; omega) (by unfold tw; omega), hX _ (by unfold tw; omega) (by unfold tw; omega) (by unfold tw; omega) (by unfold tw; omega)⟩), hB, ?_, ?_, ?_, i.go (k _ (by omega))⟩
  · exact (e.go (fun o h1 h2 => k o (by omega)) (by rw [k 0 (by omega)]) (h48 13 (by omega) (by omega) (by omega) (by omega)) (k _ (by omega)) hI rfl).le hn
  · exact f.go (by rw [k 31 (by omega)]) (h48 8 (by omega) (by omega) (by omega) (by omega)) (k _ (by omega)) (k _ (by omega))
  · exact g.go (fun o h1 h2 => k o (by omega)) (k _ (by omega)) (k _ (by omega)) (k _ (by omega)) rfl
theorem inv_8 (h : invD n v) {k : Nat} {x : Int32} (hk : ¬ k = 2) : invD n (au v 8 k x) := by
  refine ⟨⟨fun q hq => ⟨?_, ?_, ?_⟩, fun d hd => ?_⟩, fun d hd => ?_, ?_⟩
  · rw [au_v (by omega)]; exact (h.1.1 q hq).1
  · rw [au_v (by omega)]; exact (h.1.1 q hq).2.1
  · rw [au_v (by omega)]; exact (h.1.1 q hq).2.2
  · rw [au_v (by omega)]; exact h.1.2 d hd
  · rw [au_v (by omega)]; exact h.2.1 d hd
  · rw [au_v (by omega)]; exact h.2.2
theorem vI_eq (h49 : A' 49 = A 49) (h50 : A' 50 = A 50) (h56 : A' 56 = A 56) (h57 : A' 57 = A 57) : eqV n (vI A) (vI A') := eqV.of (vI_go h49 h50 h56 h57).symm
theorem sJ.d9 (h : sJ n t T W A R G) : A 1 11 ≤ 999 := h.2.2.2.1.2.2.2.2.2.2.2.1
theorem sJ.x13 (h : sJ n t T W A R G) : A 1 13 = nI t := h.2.2.2.1.2.2.2.2.2.2.2.2.1
theorem sJ.m12 (h : sJ n t T W A R G) : A 48 12 = nI t := h.2.2.2.1.2.2.2.2.2.2.2.2.2.1
theorem sJ.r1 (h : sJ n t T W A R G) : R 1 14 = some (tw t) := h.2.2.2.1.2.2.2.2.2.2.2.2.2.2
theorem fin {CX CM : aC} {args : List Value} {v : Int32} {A1 A2 : Nat → Nat → Int32} (h1 : CX (.ref 0 :: args) (A, R, G) (some (.int v)) (A1, R1, G)) (h2 : CM (.ref 48 :: args) (A1, R1, G) (some (.int v)) (A2, R1, G)) (h3 : sJ n' t' T W A2 R1 G) : bthI T W CX CM args A R G := ⟨v, A1, R1, A2, R1, h1, h2, n', t', h3⟩
theorem c_dawn (hJ : sJ n t T W A R G) (x : Int32) : bthI T W CX4_dawn CX5_dawn [.int x] A R G := by
  have hG := hJ.gs
  by_cases h1 : 0 ≤ x ∧ x ≤ 999
  case neg => exact qry0 hJ _ (aC_of (Nat.le_of_ble_eq_true rfl) fun E hE => sX4_dawn_0 hG _ (br_f h1 hE)) (aC_of (Nat.le_of_ble_eq_true rfl) fun E hE => sX5_dawn_0 hG _ (br_f h1 hE))
  have e : au A 1 11 x 48 5 = A 1 11 := (aua (by omega)).trans hJ.day
  refine fin (v := A 1 11) (aC_of (Nat.le_of_ble_eq_true rfl) fun E hE => sX4_dawn_0 hG _ (br_t h1 hE)) (aC_of (Nat.le_of_ble_eq_true rfl) fun E hE => sX5_dawn_0 hG _ (br_t h1 (aE_e hE e))) (hJ.bench (n' := n) (fun o h1 h2 h3 h4 => ?_) (fun k h0 h5 h6 h34 => ?_) ?_ (by omega) (vI_eq ?_ ?_ ?_ ?_))
  · rw [au_o (by omega), au_o (by omega)]
  · rw [au_j (by omega), au_o (by omega)]
  · have hx : vX (au (au A 1 11 x) 48 5 x) 1 = au (vX A 1) 8 1 x := by
      rw [vX_go (A := au A 1 11 x) (fun k hk => au_o (by omega))]
      exact vX_8 (by omega)
    have hm : vM (au (au A 1 11 x) 48 5 x) = au (vM A) 8 1 x := by
      rw [vM_8 (k := 5) (j := 1) (by omega), vM_go (A := A) (au_o (by omega)) (au_o (by omega)) (au_o (by omega)) (au_o (by omega)) (au_o (by omega))]
    have h1a : ∀ k, ¬ k = 11 → au (au A 1 11 x) 48 5 x 1 k = A 1 k := fun k hk => by rw [au_o (by omega), au_j hk]
    have h48 : ∀ k, ¬ k = 5 → au (au A 1 11 x) 48 5 x 48 k = A 48 k := fun k hk => by rw [au_j hk, au_o (by omega)]
    refine ⟨hJ.n6, (h1a 9 (by omega)).trans hJ.x9, (h48 0 (by omega)).trans hJ.m0, by rw [hx]; exact inv_8 hJ.inv (by omega), hJ.ti.go (h1a 10 (by omega)) (by rw [au_o (by omega), au_o (by omega)]), hJ.hi.go (h1a 10 (by omega)), by rw [hx, hm]; exact hJ.vv.au rfl, ?_, (h1a 13 (by omega)).trans hJ.x13, (h48 12 (by omega)).trans hJ.m12, hJ.r1⟩
    rw [au_o (by omega), au_k]
    exact h1.2
  · rw [au_o (by omega), au_o (by omega)]
  · rw [au_o (by omega), au_o (by omega)]
  · rw [au_o (by omega), au_o (by omega)]
  · rw [au_o (by omega), au_o (by omega)]
/-- one of a judge's rows is set, by both -/
theorem sJ.setP (hJ : sJ n t T W A R G) {f p o : Nat} {x : Int32} (hf : 2 ≤ f ∧ f < 5) (ho : o = f + 1 + 1) (hp : p < n) (hi : invD n (au (vX A 1) f p x)) : sJ n t T W (au (au A o p x) 51 (3 * p + (f - 2)) x) R G := by
  have hx : vX (au (au A o p x) 51 (3 * p + (f - 2)) x) 1 = au (vX A 1) f p x := by
    rw [vX_go (A := au A o p x) (fun k hk => au_o (by omega)), ho, show f + 1 + 1 = 1 + (f + 1) by omega]
    exact vX_u (by omega)
  have hm0 : vM (au A o p x) = vM A := vM_go (au_o (by omega)) (au_o (by omega)) (au_o (by omega)) (au_o (by omega)) (au_o (by omega))
  have hm : vM (au (au A o p x) 51 (3 * p + (f - 2)) x) = au (vM A) f p x := by
    have hc : f = 2 ∨ f = 3 ∨ f = 4 := by omega
    rcases hc with rfl | rfl | rfl
    · exact vM_2.trans (by rw [hm0])
    · exact vM_3.trans (by rw [hm0])
    · exact vM_4.trans (by rw [hm0])
  have h1a : ∀ k, au (au A o p x) 51 (3 * p + (f - 2)) x 1 k = A 1 k := fun k => by rw [au_o (by omega), au_o (by omega)]
  have h48 : ∀ k, au (au A o p x) 51 (3 * p + (f - 2)) x 48 k = A 48 k := fun k => by rw [au_o (by omega), au_o (by omega)]
  refine hJ.bench (n' := n) (fun o h1 h2 h3 h4 => ?_) (fun k h0 h5 h6 h34 => h48 k) ?_ (by omega) (vI_eq ?_ ?_ ?_ ?_)
  · rw [au_o (by omega), au_o (by omega)]
  · refine ⟨hJ.n6, (h1a 9).trans hJ.x9, (h48 0).trans hJ.m0, by rw [hx]; exact hi, hJ.ti.go (h1a 10) (by rw [au_o (by omega), au_o (by omega)]), hJ.hi.go (h1a 10), by rw [hx, hm]; exact hJ.vv.au rfl, by rw [h1a]; exact hJ.d9, (h1a 13).trans hJ.x13, (h48 12).trans hJ.m12, hJ.r1⟩
  · rw [au_o (by omega), au_o (by omega)]
  · rw [au_o (by omega), au_o (by omega)]
  · rw [au_o (by omega), au_o (by omega)]
  · rw [au_o (by omega), au_o (by omega)]
theorem c_put (hJ : sJ n t T W A R G) (x1 x2 x3 : Int32) : bthI T W CX4_put CX5_put [.int x1, .int x2, .int x3] A R G := by
  have hG := hJ.gs
  have hn6 := hJ.n6
  by_cases h1 : ∃ k, k < n ∧ x1 = nI k
  case neg => exact qry0 hJ _ (aC_of (Nat.le_of_ble_eq_true rfl) fun E hE => sX4_put_0 hG _ _ _ (br_f (nPx hJ h1) hE)) (aC_of (Nat.le_of_ble_eq_true rfl) fun E hE => sX5_put_0 hG _ _ _ (br_f (nPm hJ h1) hE))
  obtain ⟨p, hp, rfl⟩ := h1
  have hx : vp_in (nI p) 6 := vp_in_nI (by omega) (by omega)
  have hcl : (nI p).toNatClampNeg = p := nI_clamp (by omega)
  by_cases h2 : 0 ≤ x2 ∧ x2 ≤ 2
  case neg => exact qry0 hJ _ (aC_of (Nat.le_of_ble_eq_true rfl) fun E hE => sX4_put_0 hG _ _ _ (br_t (yPx hJ hp) (br_f h2 hE))) (aC_of (Nat.le_of_ble_eq_true rfl) fun E hE => sX5_put_0 hG _ _ _ (br_t (yPm hJ hp) (br_f h2 hE)))
  by_cases q0 : x2 = 0
  · subst q0
    by_cases h3 : 0 ≤ x3 ∧ x3 ≤ 1023
    case neg => exact qry0 hJ _ (aC_of (Nat.le_of_ble_eq_true rfl) fun E hE => sX4_put_0 hG _ _ _ (br_t (yPx hJ hp) (br_t h2 (br_t rfl (br_f h3 hE))))) (aC_of (Nat.le_of_ble_eq_true rfl) fun E hE => sX5_put_0 hG _ _ _ (br_t (yPm hJ hp) (br_t h2 (br_t rfl (br_f h3 hE)))))
    obtain ⟨k, hk, rfl⟩ := rngI 1023 (by omega) h3
    refine fin (v := A 4 p) (aC_of (Nat.le_of_ble_eq_true rfl) fun E hE => sX4_put_0 hG _ _ _ (br_t (yPx hJ hp) (br_t h2 (br_t rfl (br_t h3 ⟨hx, by rw [hcl]; exact hE⟩))))) (aC_of (Nat.le_of_ble_eq_true rfl) fun E hE => sX5_put_0 hG _ _ _ (br_t ?_ (br_t h2 (br_t rfl (br_t h3 ?_))))) (hJ.setP (f := 2) (by omega) rfl hp (inv_au hJ.inv (by omega) (fun q => absurd q (by decide)) (fun _ => isS_dec k (by omega)) (fun q => absurd q (by decide))))
    · rw [au_o (by omega)]; exact yPm hJ hp
    · simp (disch := omega) only [nI_mul3, Int32.add_zero, nI_clamp]
      rw [au_o (by omega)]
      exact ⟨vp_in_nI (by omega) (by omega), aE_e hE (hJ.vv.1 2 (by omega) p hp).symm⟩
  · by_cases h3 : 0 ≤ x3 ∧ x3 ≤ 99
    case neg => exact qry0 hJ _ (aC_of (Nat.le_of_ble_eq_true rfl) fun E hE => sX4_put_0 hG _ _ _ (br_t (yPx hJ hp) (br_t h2 (br_f q0 (br_f h3 hE))))) (aC_of (Nat.le_of_ble_eq_true rfl) fun E hE => sX5_put_0 hG _ _ _ (br_t (yPm hJ hp) (br_t h2 (br_f q0 (br_f h3 hE)))))
    by_cases q1 : x2 = 1
    · subst q1
      refine fin (v := A 5 p) (aC_of (Nat.le_of_ble_eq_true rfl) fun E hE => sX4_put_0 hG _ _ _ (br_t (yPx hJ hp) (br_t h2 (br_f q0 (br_t h3 (br_t rfl ⟨hx, by rw [hcl]; exact hE⟩)))))) (aC_of (Nat.le_of_ble_eq_true rfl) fun E hE => sX5_put_0 hG _ _ _ (br_t ?_ (br_t h2 (br_f q0 (br_t h3 ?_))))) (hJ.setP (f := 3) (x := x3) (by omega) rfl hp (inv_au hJ.inv (by omega) (fun q => absurd q (by decide)) (fun q => absurd q (by decide)) (fun q => absurd q (by decide))))
      · rw [au_o (by omega)]; exact yPm hJ hp
      · simp (disch := omega) only [nI_mul3, nI_1, nI_clamp]
        rw [au_o (by omega)]
        exact ⟨vp_in_nI (by omega) (by omega), aE_e hE (hJ.vv.1 3 (by omega) p hp).symm⟩
    · have e2 : x2 = nI 2 := by
        obtain ⟨k, hk, rfl⟩ := rngI 2 (by omega) h2
        match k, hk with
        | 0, _ => exact absurd rfl q0
        | 1, _ => exact absurd rfl q1
        | 2, _ => rfl
      subst e2
      refine fin (v := A 6 p) (aC_of (Nat.le_of_ble_eq_true rfl) fun E hE => sX4_put_0 hG _ _ _ (br_t (yPx hJ hp) (br_t h2 (br_f q0 (br_t h3 (br_f q1 ⟨hx, by rw [hcl]; exact hE⟩)))))) (aC_of (Nat.le_of_ble_eq_true rfl) fun E hE => sX5_put_0 hG _ _ _ (br_t ?_ (br_t h2 (br_f q0 (br_t h3 ?_))))) (hJ.setP (f := 4) (x := x3) (by omega) rfl hp (inv_au hJ.inv (by omega) (fun q => absurd q (by decide)) (fun q => absurd q (by decide)) (fun _ => h3.1)))
      · rw [au_o (by omega)]; exact yPm hJ hp
      · simp (disch := omega) only [nI_mul3, nI_add, nI_clamp]
        rw [au_o (by omega)]
        exact ⟨vp_in_nI (by omega) (by omega), aE_e hE (hJ.vv.1 4 (by omega) p hp).symm⟩
theorem c_rob (hJ : sJ n t T W A R G) (x1 x2 : Int32) : bthI T W CX4_rob CX5_rob [.int x1, .int x2] A R G := by
  have hG := hJ.gs
  have hn6 := hJ.n6
  by_cases h1 : ∃ k, k < n ∧ x1 = nI k
  case neg => exact qry0 hJ _ (aC_of (Nat.le_of_ble_eq_true rfl) fun E hE => sX4_rob_0 hG _ _ (br_f (nPx hJ h1) hE)) (aC_of (Nat.le_of_ble_eq_true rfl) fun E hE => sX5_rob_0 hG _ _ (br_f (nPm hJ h1) hE))
  obtain ⟨p, hp, rfl⟩ := h1
  by_cases h2 : 0 ≤ x2 ∧ x2 ≤ 1023
  case neg => exact qry0 hJ _ (aC_of (Nat.le_of_ble_eq_true rfl) fun E hE => sX4_rob_0 hG _ _ (br_t (yPx hJ hp) (br_f h2 hE))) (aC_of (Nat.le_of_ble_eq_true rfl) fun E hE => sX5_rob_0 hG _ _ (br_t (yPm hJ hp) (br_f h2 hE)))
  obtain ⟨k, hk, rfl⟩ := rngI 1023 (by omega) h2
  have hcl : (nI p).toNatClampNeg = p := nI_clamp (by omega)
  have e2 : A 51 (3 * p) = A 4 p := (hJ.vv.1 2 (by omega) p hp).symm
  refine fin (v := A 4 p ^^^ nI k) (A1 := au A 4 p (A 4 p ^^^ nI k)) (aC_of (Nat.le_of_ble_eq_true rfl) fun E hE => sX4_rob_0 hG _ _ (br_t (yPx hJ hp) (br_t h2 ⟨vp_in_nI (by omega) (by omega), ?_⟩))) (aC_of (Nat.le_of_ble_eq_true rfl) fun E hE => sX5_rob_0 hG _ _ (br_t ?_ (br_t h2 ?_))) (hJ.setP (f := 2) (x := A 4 p ^^^ nI k) (by omega) rfl hp (inv_au hJ.inv (by omega) (fun q => absurd q (by decide)) (fun _ => isS_xor (hJ.inv.1.1 p hp).2.1 (isS_dec k (by omega))) (fun q => absurd q (by decide))))
  · rw [hcl, au_k]
    exact hE
  · rw [au_o (by omega)]; exact yPm hJ hp
  · simp (disch := omega) only [nI_mul3, nI_clamp]
    rw [au_k, au_o (by omega), e2]
    exact ⟨vp_in_nI (by omega) (by omega), hE⟩
end MU
