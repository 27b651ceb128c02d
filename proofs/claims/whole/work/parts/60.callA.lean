section CA
variable {A A' : Nat → Nat → Int32} {R R' : Nat → Nat → Option Nat} {G : Nat → Nat × Nat} {n t T : Nat} {W : Nat → Nat → List Nat}
theorem rngI (m : Nat) {x : Int32} (hm : m < 2 ^ 31) (h : 0 ≤ x ∧ x ≤ nI m) : ∃ k, k ≤ m ∧ x = nI k := by
  obtain ⟨k, hk, rfl⟩ := nI_of (Int32.not_lt.mpr h.1)
  exact ⟨k, (nI_leI hk hm).mp h.2, rfl⟩
theorem rngO (m : Nat) {k : Nat} (hm : m < 2 ^ 31) (h : k ≤ m) : 0 ≤ nI k ∧ nI k ≤ nI m := ⟨nI_nn (by omega), nI_le h (by omega)⟩
theorem nI_2 (a : Nat) : nI a + 2 = nI (a + 2) := nI_add a 2
theorem isS_bits {P : Nat → Prop} : ∀ m, m ≤ 10 → isS (bitsV P m)
  | 0, _ => isS_0
  | m + 1, hm => by
    have ih := isS_bits (P := P) m (by omega)
    unfold bitsV
    by_cases h : P m
    · rw [if_pos h]; exact isS_or ih (isS_bit m (by omega))
    · rw [if_neg h]; exact ih
theorem sJ.pop (h : sJ n t T W A R G) : ones (csM A) = popc (A 1 10) := by
  rw [there_v h.ti h.hi, csM_v, thereV_c h.vv]
  exact (popc_S (isS_bits 8 (by omega))).symm
theorem sJ.x10 (h : sJ n t T W A R G) : A 1 10 = csM A := by
  rw [there_v h.ti h.hi, csM_v, thereV_c h.vv]
theorem sJ.day (h : sJ n t T W A R G) : A 48 5 = A 1 11 := (h.vv.2.2 1).symm
theorem sJ.heard (h : sJ n t T W A R G) : A 48 6 = A 1 12 := (h.vv.2.2 2).symm
theorem sJ.tc (h : sJ n t T W A R G) : A 48 11 = A 0 5 := h.2.2.1.2.2.2.1.trans h.2.2.1.2.2.1.symm
theorem sJ.ln (h : sJ n t T W A R G) : A 48 12 = A 1 13 := h.2.2.2.1.2.2.2.2.2.2.2.2.2.1.trans h.2.2.2.1.2.2.2.2.2.2.2.2.1.symm
theorem sJ.tp (h : sJ n t T W A R G) : A 48 8 = A 31 5 := by
  obtain ⟨z, h1, h2, h3, h4⟩ := h.2.2.2.2.2.1
  exact h3.trans h2.symm
theorem c_count (hJ : sJ n t T W A R G) (x : Int32) : bthI T W CX4_count CX5_count [.int x] A R G := by
  have hG := hJ.gs
  by_cases h0 : x = 0
  · exact qry0 hJ _ (aC_of (Nat.le_of_ble_eq_true rfl) fun E hE => sX4_count_0 hG x (br_t h0 hE)) (aC_of (Nat.le_of_ble_eq_true rfl) fun E hE => sX5_count_0 hG x (br_t h0 (aE_e hE (hJ.m0.trans hJ.x9.symm))))
  by_cases h1 : x = 1
  · exact qry0 hJ _ (aC_of (Nat.le_of_ble_eq_true rfl) fun E hE => sX4_count_0 hG x (br_f h0 (br_t h1 hE))) (aC_of (Nat.le_of_ble_eq_true rfl) fun E hE => sX5_count_0 hG x (br_f h0 (br_t h1 (aE_e hE hJ.pop))))
  by_cases h2 : x = 2
  · exact qry0 hJ _ (aC_of (Nat.le_of_ble_eq_true rfl) fun E hE => sX4_count_0 hG x (br_f h0 (br_f h1 (br_t h2 hE)))) (aC_of (Nat.le_of_ble_eq_true rfl) fun E hE => sX5_count_0 hG x (br_f h0 (br_f h1 (br_t h2 (aE_e hE hJ.heard)))))
  by_cases h3 : x = 3
  · exact qry0 hJ _ (aC_of (Nat.le_of_ble_eq_true rfl) fun E hE => sX4_count_0 hG x (br_f h0 (br_f h1 (br_f h2 (br_t h3 hE))))) (aC_of (Nat.le_of_ble_eq_true rfl) fun E hE => sX5_count_0 hG x (br_f h0 (br_f h1 (br_f h2 (br_t h3 (aE_e hE hJ.tc))))))
  by_cases h4 : x = 4
  · exact qry0 hJ _ (aC_of (Nat.le_of_ble_eq_true rfl) fun E hE => sX4_count_0 hG x (br_f h0 (br_f h1 (br_f h2 (br_f h3 (br_t h4 hE)))))) (aC_of (Nat.le_of_ble_eq_true rfl) fun E hE => sX5_count_0 hG x (br_f h0 (br_f h1 (br_f h2 (br_f h3 (br_t h4 (aE_e hE hJ.ln)))))))
  by_cases h5 : x = 5
  · exact qry0 hJ _ (aC_of (Nat.le_of_ble_eq_true rfl) fun E hE => sX4_count_0 hG x (br_f h0 (br_f h1 (br_f h2 (br_f h3 (br_f h4 (br_t h5 hE))))))) (aC_of (Nat.le_of_ble_eq_true rfl) fun E hE => sX5_count_0 hG x (br_f h0 (br_f h1 (br_f h2 (br_f h3 (br_f h4 (br_t h5 (aE_e hE hJ.tp))))))))
  by_cases h6 : x = 6
  · exact qry0 hJ _ (aC_of (Nat.le_of_ble_eq_true rfl) fun E hE => sX4_count_0 hG x (br_f h0 (br_f h1 (br_f h2 (br_f h3 (br_f h4 (br_f h5 (br_t h6 hE)))))))) (aC_of (Nat.le_of_ble_eq_true rfl) fun E hE => sX5_count_0 hG x (br_f h0 (br_f h1 (br_f h2 (br_f h3 (br_f h4 (br_f h5 (br_t h6 (aE_e hE hJ.day)))))))))
  · exact qry0 hJ _ (aC_of (Nat.le_of_ble_eq_true rfl) fun E hE => sX4_count_0 hG x (br_f h0 (br_f h1 (br_f h2 (br_f h3 (br_f h4 (br_f h5 (br_f h6 hE)))))))) (aC_of (Nat.le_of_ble_eq_true rfl) fun E hE => sX5_count_0 hG x (br_f h0 (br_f h1 (br_f h2 (br_f h3 (br_f h4 (br_f h5 (br_f h6 hE))))))))
theorem nPx (hJ : sJ n t T W A R G) {x : Int32} (h : ¬ ∃ k, k < n ∧ x = nI k) : ¬ (0 ≤ x ∧ x < A 1 9) := fun q => h ((isP_x hJ).mp q)
theorem nPm (hJ : sJ n t T W A R G) {x : Int32} (h : ¬ ∃ k, k < n ∧ x = nI k) : ¬ (0 ≤ x ∧ x ≤ A 48 0 - 1) := fun q => h ((isP_m hJ).mp q)
theorem yPx (hJ : sJ n t T W A R G) {k : Nat} (h : k < n) : 0 ≤ nI k ∧ nI k < A 1 9 := (isP_x hJ).mpr ⟨k, h, rfl⟩
theorem yPm (hJ : sJ n t T W A R G) {k : Nat} (h : k < n) : 0 ≤ nI k ∧ nI k ≤ A 48 0 - 1 := (isP_m hJ).mpr ⟨k, h, rfl⟩
theorem nCx (hJ : sJ n t T W A R G) {x : Int32} (h : ¬ ∃ k, k < 8 ∧ x = nI k ∧ ¬ vX A 1 5 k = 0) : ¬ thX A 1 x := fun q => h ((thX_x hJ).mp q)
theorem nCm (hJ : sJ n t T W A R G) {x : Int32} (h : ¬ ∃ k, k < 8 ∧ x = nI k ∧ ¬ vX A 1 5 k = 0) : ¬ thM A x := fun q => h ((thM_x hJ).mp q)
theorem yCx (hJ : sJ n t T W A R G) {k : Nat} (h : k < 8) (h5 : ¬ vX A 1 5 k = 0) : thX A 1 (nI k) := (thX_x hJ).mpr ⟨k, h, rfl, h5⟩
theorem yCm (hJ : sJ n t T W A R G) {k : Nat} (h : k < 8) (h5 : ¬ vX A 1 5 k = 0) : thM A (nI k) := (thM_x hJ).mpr ⟨k, h, rfl, h5⟩
theorem c_asks (hJ : sJ n t T W A R G) (x1 x2 x3 : Int32) : bthI T W CX4_asks CX5_asks [.int x1, .int x2, .int x3] A R G := by
  have hG := hJ.gs
  by_cases h1 : 0 ≤ x1 ∧ x1 ≤ 2
  case neg => exact qry0 hJ _ (aC_of (Nat.le_of_ble_eq_true rfl) fun E hE => sX4_asks_0 hG _ _ _ (br_f h1 hE)) (aC_of (Nat.le_of_ble_eq_true rfl) fun E hE => sX5_asks_0 hG _ _ _ (br_f h1 hE))
  by_cases h2 : ∃ k, k < n ∧ x2 = nI k
  case neg => exact qry0 hJ _ (aC_of (Nat.le_of_ble_eq_true rfl) fun E hE => sX4_asks_0 hG _ _ _ (br_t h1 (br_f (nPx hJ h2) hE))) (aC_of (Nat.le_of_ble_eq_true rfl) fun E hE => sX5_asks_0 hG _ _ _ (br_t h1 (br_f (nPm hJ h2) hE)))
  obtain ⟨p, hp, rfl⟩ := h2
  by_cases h3 : ∃ k, k < 8 ∧ x3 = nI k ∧ ¬ vX A 1 5 k = 0
  case neg => exact qry0 hJ _ (aC_of (Nat.le_of_ble_eq_true rfl) fun E hE => sX4_asks_0 hG _ _ _ (br_t h1 (br_t (yPx hJ hp) (br_f (nCx hJ h3) hE)))) (aC_of (Nat.le_of_ble_eq_true rfl) fun E hE => sX5_asks_0 hG _ _ _ (br_t h1 (br_t (yPm hJ hp) (br_f (nCm hJ h3) hE))))
  obtain ⟨c, hc, rfl, h5⟩ := h3
  obtain ⟨part, hpt, rfl⟩ := rngI 2 (by omega) h1
  have hn6 := hJ.n6
  refine qry hJ (askV (LamW (W t)) (vX A 1) part p c) ?_ fun A' R' hJ' hs hv => ?_
  · obtain ⟨A', hj, hC⟩ := qX0_says (gB1 hG) hJ.lx (part := part) hJ.inv.1 hp hn6 (by omega) hc (hJ.bt1 hc h5)
    exact ⟨A', R, ⟨hj.sc, scR.rf⟩, aC_of (Nat.le_of_ble_eq_true rfl) fun E hE => sX4_asks_0 hG _ _ _ (br_t h1 (br_t (yPx hJ hp) (br_t (yCx hJ hc h5) ⟨_, _, hC, sX4_asks_45 _ _ _ _ hE⟩)))⟩
  · obtain ⟨A'', hj, hC⟩ := qX5_asksOf (R := R') hG hJ'.lm (part := part) (p := p) (c := c) (by omega) (by omega) hc
    rw [hv, ← askV_c hJ.vv hp hc] at hC
    exact ⟨A'', hj.sc, aC_of (Nat.le_of_ble_eq_true rfl) fun E hE => sX5_asks_0 hG _ _ _ (br_t h1 (br_t (yPm hJ' hp) (br_t (yCm hJ' hc (by rw [hs.hX]; exact h5)) ⟨_, _, hC, sX5_asks_32 _ _ _ _ hE⟩)))⟩
theorem c_told (hJ : sJ n t T W A R G) (x1 x2 : Int32) : bthI T W CX4_told CX5_told [.int x1, .int x2] A R G := by
  have hG := hJ.gs
  have hn6 := hJ.n6
  by_cases h1 : ∃ k, k < n ∧ x1 = nI k
  case neg => exact qry0 hJ _ (aC_of (Nat.le_of_ble_eq_true rfl) fun E hE => sX4_told_0 hG _ _ (br_f (nPx hJ h1) hE)) (aC_of (Nat.le_of_ble_eq_true rfl) fun E hE => sX5_told_0 hG _ _ (br_f (nPm hJ h1) hE))
  obtain ⟨p, hp, rfl⟩ := h1
  have hx : vp_in (nI p) 6 := vp_in_nI (by omega) (by omega)
  have hcl : (nI p).toNatClampNeg = p := nI_clamp (by omega)
  have hv := hJ.vv.1
  by_cases h2 : x2 = 0
  · subst h2
    refine qry0 hJ (A 4 p) (aC_of (Nat.le_of_ble_eq_true rfl) fun E hE => sX4_told_0 hG _ _ (br_t (yPx hJ hp) (br_t rfl ⟨hx, by rw [hcl]; exact hE⟩))) (aC_of (Nat.le_of_ble_eq_true rfl) fun E hE => sX5_told_0 hG _ _ (br_t (yPm hJ hp) (br_t rfl ?_)))
    simp (disch := omega) only [nI_mul3, Int32.add_zero, nI_clamp]
    exact ⟨vp_in_nI (by omega) (by omega), aE_e hE (hv 2 (by omega) p hp).symm⟩
  by_cases h3 : x2 = 1
  · subst h3
    refine qry0 hJ (A 5 p) (aC_of (Nat.le_of_ble_eq_true rfl) fun E hE => sX4_told_0 hG _ _ (br_t (yPx hJ hp) (br_f h2 (br_t rfl ⟨hx, by rw [hcl]; exact hE⟩)))) (aC_of (Nat.le_of_ble_eq_true rfl) fun E hE => sX5_told_0 hG _ _ (br_t (yPm hJ hp) (br_f h2 (br_t rfl ?_))))
    simp (disch := omega) only [nI_mul3, nI_1, nI_clamp]
    exact ⟨vp_in_nI (by omega) (by omega), aE_e hE (hv 3 (by omega) p hp).symm⟩
  by_cases h4 : x2 = 2
  · subst h4
    refine qry0 hJ (A 6 p) (aC_of (Nat.le_of_ble_eq_true rfl) fun E hE => sX4_told_0 hG _ _ (br_t (yPx hJ hp) (br_f h2 (br_f h3 (br_t rfl ⟨hx, by rw [hcl]; exact hE⟩))))) (aC_of (Nat.le_of_ble_eq_true rfl) fun E hE => sX5_told_0 hG _ _ (br_t (yPm hJ hp) (br_f h2 (br_f h3 (br_t rfl ?_)))))
    simp (disch := omega) only [nI_mul3, nI_2, nI_clamp]
    exact ⟨vp_in_nI (by omega) (by omega), aE_e hE (hv 4 (by omega) p hp).symm⟩
  by_cases h5 : x2 = 3
  · exact qry0 hJ (A 2 p) (aC_of (Nat.le_of_ble_eq_true rfl) fun E hE => sX4_told_0 hG _ _ (br_t (yPx hJ hp) (br_f h2 (br_f h3 (br_f h4 (br_t h5 ⟨hx, by rw [hcl]; exact hE⟩)))))) (aC_of (Nat.le_of_ble_eq_true rfl) fun E hE => sX5_told_0 hG _ _ (br_t (yPm hJ hp) (br_f h2 (br_f h3 (br_f h4 (br_t h5 ⟨hx, by rw [hcl]; exact aE_e hE (hv 0 (by omega) p hp).symm⟩))))))
  by_cases h6 : x2 = 4
  · exact qry0 hJ (A 3 p) (aC_of (Nat.le_of_ble_eq_true rfl) fun E hE => sX4_told_0 hG _ _ (br_t (yPx hJ hp) (br_f h2 (br_f h3 (br_f h4 (br_f h5 (br_t h6 ⟨hx, by rw [hcl]; exact hE⟩))))))) (aC_of (Nat.le_of_ble_eq_true rfl) fun E hE => sX5_told_0 hG _ _ (br_t (yPm hJ hp) (br_f h2 (br_f h3 (br_f h4 (br_f h5 (br_t h6 ⟨hx, by rw [hcl]; exact aE_e hE (hv 1 (by omega) p hp).symm⟩)))))))
  by_cases h7 : x2 = 5
  · refine qry hJ (casesV (LamW (W t)) (vX A 1) p) ?_ fun A' R' hJ' hs hv => ?_
    · obtain ⟨A', hj, hC⟩ := qX0_casesFor (gB1 hG) hJ.lx hJ.inv.1 hn6 hJ.ti hp
      exact ⟨A', R, ⟨hj.sc, scR.rf⟩, aC_of (Nat.le_of_ble_eq_true rfl) fun E hE => sX4_told_0 hG _ _ (br_t (yPx hJ hp) (br_f h2 (br_f h3 (br_f h4 (br_f h5 (br_f h6 (br_t h7 ⟨_, _, hC, sX4_told_110 _ _ _ hE⟩)))))))⟩
    · obtain ⟨A'', hj, hC⟩ := qX5_mayHear (R := R') hG hJ'.lm (p := p) (by omega)
      rw [hv, ← casesV_c hJ.vv hp] at hC
      exact ⟨A'', hj.sc, aC_of (Nat.le_of_ble_eq_true rfl) fun E hE => sX5_told_0 hG _ _ (br_t (yPm hJ' hp) (br_f h2 (br_f h3 (br_f h4 (br_f h5 (br_f h6 (br_t h7 ⟨_, _, hC, sX5_told_82 _ _ _ hE⟩)))))))⟩
  · exact qry0 hJ _ (aC_of (Nat.le_of_ble_eq_true rfl) fun E hE => sX4_told_0 hG _ _ (br_t (yPx hJ hp) (br_f h2 (br_f h3 (br_f h4 (br_f h5 (br_f h6 (br_f h7 hE)))))))) (aC_of (Nat.le_of_ble_eq_true rfl) fun E hE => sX5_told_0 hG _ _ (br_t (yPm hJ hp) (br_f h2 (br_f h3 (br_f h4 (br_f h5 (br_f h6 (br_f h7 hE))))))))
theorem c_paper (hJ : sJ n t T W A R G) (x1 x2 : Int32) : bthI T W CX4_paper CX5_paper [.int x1, .int x2] A R G := by
  have hG := hJ.gs
  have hn6 := hJ.n6
  by_cases h1 : ∃ k, k < 8 ∧ x1 = nI k ∧ ¬ vX A 1 5 k = 0
  case neg => exact qry0 hJ _ (aC_of (Nat.le_of_ble_eq_true rfl) fun E hE => sX4_paper_0 hG _ _ (br_f (nCx hJ h1) hE)) (aC_of (Nat.le_of_ble_eq_true rfl) fun E hE => sX5_paper_0 hG _ _ (br_f (nCm hJ h1) hE))
  obtain ⟨c, hc, rfl, h5⟩ := h1
  have hx : vp_in (nI c) 8 := vp_in_nI (by omega) (by omega)
  have hcl : (nI c).toNatClampNeg = c := nI_clamp (by omega)
  have hv := hJ.vv.2.1
  by_cases h2 : x2 = 0
  · subst h2
    refine qry0 hJ (A 7 c) (aC_of (Nat.le_of_ble_eq_true rfl) fun E hE => sX4_paper_0 hG _ _ (br_t (yCx hJ hc h5) (br_t rfl ⟨hx, by rw [hcl]; exact hE⟩))) (aC_of (Nat.le_of_ble_eq_true rfl) fun E hE => sX5_paper_0 hG _ _ (br_t (yCm hJ hc h5) (br_t (by decide) ?_)))
    simp (disch := omega) only [nI_mul3, Int32.add_zero, nI_clamp]
    exact ⟨vp_in_nI (by omega) (by omega), aE_e hE ((hv 5 (by omega) (by omega) c hc).symm.trans (vX5_t hc (hJ.bt1 hc h5)))⟩
  by_cases h3 : x2 = 1
  · subst h3
    refine qry0 hJ (A 8 c) (aC_of (Nat.le_of_ble_eq_true rfl) fun E hE => sX4_paper_0 hG _ _ (br_t (yCx hJ hc h5) (br_f h2 (br_t rfl ⟨hx, by rw [hcl]; exact hE⟩)))) (aC_of (Nat.le_of_ble_eq_true rfl) fun E hE => sX5_paper_0 hG _ _ (br_t (yCm hJ hc h5) (br_t (by decide) ?_)))
    simp (disch := omega) only [nI_mul3, nI_1, nI_clamp]
    exact ⟨vp_in_nI (by omega) (by omega), aE_e hE (hv 6 (by omega) (by omega) c hc).symm⟩
  by_cases h4 : x2 = 2
  · subst h4
    refine qry0 hJ (A 9 c) (aC_of (Nat.le_of_ble_eq_true rfl) fun E hE => sX4_paper_0 hG _ _ (br_t (yCx hJ hc h5) (br_f h2 (br_f h3 (br_t rfl ⟨hx, by rw [hcl]; exact hE⟩))))) (aC_of (Nat.le_of_ble_eq_true rfl) fun E hE => sX5_paper_0 hG _ _ (br_t (yCm hJ hc h5) (br_t (by decide) ?_)))
    simp (disch := omega) only [nI_mul3, nI_2, nI_clamp]
    exact ⟨vp_in_nI (by omega) (by omega), aE_e hE (hv 7 (by omega) (by omega) c hc).symm⟩
  have h02 : ¬ (0 ≤ x2 ∧ x2 ≤ 2) := fun q => by
    obtain ⟨k, hk, rfl⟩ := rngI 2 (by omega) q
    match k, hk with
    | 0, _ => exact h2 rfl
    | 1, _ => exact h3 rfl
    | 2, _ => exact h4 rfl
  by_cases h6 : x2 = 3
  · refine qry hJ (judgesV (LamW (W t)) n (vX A 1) c) ?_ fun A' R' hJ' hs hv => ?_
    · obtain ⟨A', hj, hC⟩ := qX0_judgesFor (gB1 hG) hJ.lx hJ.x9 hJ.inv.1 hn6 hc (hJ.bt1 hc h5)
      exact ⟨A', R, ⟨hj.sc, scR.rf⟩, aC_of (Nat.le_of_ble_eq_true rfl) fun E hE => sX4_paper_0 hG _ _ (br_t (yCx hJ hc h5) (br_f h2 (br_f h3 (br_f h4 (br_t h6 ⟨_, _, hC, sX4_paper_82 _ _ _ hE⟩)))))⟩
    · obtain ⟨A'', hj, hC⟩ := qX5_whoMay (R := R') hG hJ'.lm hJ'.m0 hn6 hc
      rw [hv, ← judgesV_c hJ.vv hc] at hC
      exact ⟨A'', hj.sc, aC_of (Nat.le_of_ble_eq_true rfl) fun E hE => sX5_paper_0 hG _ _ (br_t (yCm hJ' hc (by rw [hs.hX]; exact h5)) (br_f h02 (br_t h6 ⟨_, _, hC, sX5_paper_43 _ _ _ hE⟩)))⟩
  · exact qry0 hJ _ (aC_of (Nat.le_of_ble_eq_true rfl) fun E hE => sX4_paper_0 hG _ _ (br_t (yCx hJ hc h5) (br_f h2 (br_f h3 (br_f h4 (br_f h6 hE)))))) (aC_of (Nat.le_of_ble_eq_true rfl) fun E hE => sX5_paper_0 hG _ _ (br_t (yCm hJ hc h5) (br_f h02 (br_f h6 hE))))
theorem c_hearing (hJ : sJ n t T W A R G) (x1 x2 x3 : Int32) : bthI T W CX4_hearing CX5_hearing [.int x1, .int x2, .int x3] A R G := by
  have hG := hJ.gs
  have hn6 := hJ.n6
  by_cases h1 : ∃ k, k < n ∧ x1 = nI k
  case neg => exact qry0 hJ _ (aC_of (Nat.le_of_ble_eq_true rfl) fun E hE => sX4_hearing_0 hG _ _ _ (br_f (nPx hJ h1) hE)) (aC_of (Nat.le_of_ble_eq_true rfl) fun E hE => sX5_hearing_0 hG _ _ _ (br_f (nPm hJ h1) hE))
  obtain ⟨p, hp, rfl⟩ := h1
  by_cases h2 : ∃ k, k < 8 ∧ x2 = nI k ∧ ¬ vX A 1 5 k = 0
  case neg => exact qry0 hJ _ (aC_of (Nat.le_of_ble_eq_true rfl) fun E hE => sX4_hearing_0 hG _ _ _ (br_t (yPx hJ hp) (br_f (nCx hJ h2) hE))) (aC_of (Nat.le_of_ble_eq_true rfl) fun E hE => sX5_hearing_0 hG _ _ _ (br_t (yPm hJ hp) (br_f (nCm hJ h2) hE)))
  obtain ⟨c, hc, rfl, h5⟩ := h2
  have ht := hJ.bt1 hc h5
  by_cases h0 : x3 = 0
  · refine qry hJ (bI (mayV (LamW (W t)) (vX A 1) p c)) ?_ fun A' R' hJ' hs hv => ?_
    · obtain ⟨A', hj, hC⟩ := qX0_may (gB1 hG) hJ.lx hJ.inv.1 hp hn6 hc ht
      refine ⟨A', R, ⟨hj.sc, scR.rf⟩, aC_of (Nat.le_of_ble_eq_true rfl) fun E hE => sX4_hearing_0 hG _ _ _ (br_t (yPx hJ hp) (br_t (yCx hJ hc h5) (br_t h0 ⟨_, _, hC, sX4_hearing_65 _ _ _ _ ⟨fun q => ?_, fun q => ?_⟩⟩)))⟩
      · exact aE_e hE q.symm
      · exact aE_e hE ((bI_01 _).resolve_left q).symm
    · obtain ⟨A'', hj, hC⟩ := qX5_may (R := R') hG hJ'.lm (p := p) (c := c) (by omega) hc
      rw [hv, ← mayV_c hJ.vv hp hc] at hC
      refine ⟨A'', hj.sc, aC_of (Nat.le_of_ble_eq_true rfl) fun E hE => sX5_hearing_0 hG _ _ _ (br_t (yPm hJ' hp) (br_t (yCm hJ' hc (by rw [hs.hX]; exact h5)) (br_t h0 ⟨_, _, hC, sX5_hearing_54 _ _ _ _ ⟨fun q => ?_, fun q => ?_⟩⟩)))⟩
      · exact aE_e hE q.symm
      · exact aE_e hE ((bI_01 _).resolve_left q).symm
  by_cases h3 : x3 = 1
  · refine qry hJ (takV (LamW (W t)) (vX A 1) p c) ?_ fun A' R' hJ' hs hv => ?_
    · obtain ⟨A', hj, hC⟩ := qX0_daysFor (gB1 hG) hJ.lx hJ.inv.1 hp hn6 hc ht
      exact ⟨A', R, ⟨hj.sc, scR.rf⟩, aC_of (Nat.le_of_ble_eq_true rfl) fun E hE => sX4_hearing_0 hG _ _ _ (br_t (yPx hJ hp) (br_t (yCx hJ hc h5) (br_f h0 (br_t h3 ⟨_, _, hC, sX4_hearing_83 _ _ _ _ hE⟩))))⟩
    · obtain ⟨A'', hj, hC⟩ := qX5_takesOf (R := R') hG hJ'.lm (p := p) (c := c) (by omega) hc
      rw [hv, ← takV_c hJ.vv hp hc] at hC
      exact ⟨A'', hj.sc, aC_of (Nat.le_of_ble_eq_true rfl) fun E hE => sX5_hearing_0 hG _ _ _ (br_t (yPm hJ' hp) (br_t (yCm hJ' hc (by rw [hs.hX]; exact h5)) (br_f h0 (br_t h3 ⟨_, _, hC, sX5_hearing_69 _ _ _ _ hE⟩))))⟩
  by_cases h4 : x3 = 2
  · refine qry hJ (1000 + judV (LamW (W t)) (vX A 1) p c) ?_ fun A' R' hJ' hs hv => ?_
    · obtain ⟨A', hj, hC⟩ := qX0_hardnessOf (gB1 hG) hJ.lx hJ.inv.1 hp hn6 hc ht
      exact ⟨A', R, ⟨hj.sc, scR.rf⟩, aC_of (Nat.le_of_ble_eq_true rfl) fun E hE => sX4_hearing_0 hG _ _ _ (br_t (yPx hJ hp) (br_t (yCx hJ hc h5) (br_f h0 (br_f h3 (br_t h4 ⟨_, _, hC, sX4_hearing_96 _ _ _ _ _ hE⟩)))))⟩
    · obtain ⟨A'', hj, hC⟩ := qX5_judgesOf (R := R') hG hJ'.lm (p := p) (c := c) (by omega) hc
      rw [hv, ← judV_c hJ.vv hp hc] at hC
      exact ⟨A'', hj.sc, aC_of (Nat.le_of_ble_eq_true rfl) fun E hE => sX5_hearing_0 hG _ _ _ (br_t (yPm hJ' hp) (br_t (yCm hJ' hc (by rw [hs.hX]; exact h5)) (br_f h0 (br_f h3 (br_t h4 ⟨_, _, hC, sX5_hearing_79 _ _ _ _ _ hE⟩)))))⟩
  · exact qry0 hJ _ (aC_of (Nat.le_of_ble_eq_true rfl) fun E hE => sX4_hearing_0 hG _ _ _ (br_t (yPx hJ hp) (br_t (yCx hJ hc h5) (br_f h0 (br_f h3 (br_f h4 hE)))))) (aC_of (Nat.le_of_ble_eq_true rfl) fun E hE => sX5_hearing_0 hG _ _ _ (br_t (yPm hJ hp) (br_t (yCm hJ hc h5) (br_f h0 (br_f h3 (br_f h4 hE))))))
end CA
