section MF
variable {A A' A1 A2 B B0 C D : Nat → Nat → Int32} {R R' R1 R2 : Nat → Nat → Option Nat} {G : Nat → Nat × Nat} {n n' t T w t' : Nat} {W : Nat → Nat → List Nat} {Λ : aLm} {v u vx vm : aV}
/-- only sheets are touched, and scratch -/
theorem sJ.shF (hJ : sJ n t T W A R G) (hX : ∀ o, (o < 10 ∨ 21 ≤ o) → ¬ o = 39 → (o < 40 ∨ 48 < o) → (o < 49 ∨ 52 < o) → (o < 58 ∨ 60 < o) → (o < 64 ∨ 68 < o) → (o < 80 ∨ ¬ o % 4 = 3) → A2 o = A o) (h48 : ∀ k, ¬ k = 5 → ¬ k = 6 → ¬ k = 34 → A2 48 k = A 48 k) (he : eqV 6 (vM A) (vM A2)) (hS : sSh A2 R2) (hR : scR R R2) : sJ n t T W A2 R2 G := by
  obtain ⟨a, b, c, d, e, f, g, i⟩ := hJ
  have k : ∀ o, (o < 10 ∨ (21 ≤ o ∧ o < 39) ∨ (52 < o ∧ o < 58) ∨ (60 < o ∧ o < 64) ∨ (68 < o ∧ o < 80)) → A2 o = A o := fun o h => hX o (by omega) (by omega) (by omega) (by omega) (by omega) (by omega) (by omega)
  have k0 := k 0 (by omega)
  refine ⟨a, b, c.go (by rw [k0]) (h48 11 (by omega) (by omega) (by omega)) (k _ (by omega)) (k _ (by omega)) (hR _ (by omega)) (fun t ht => ⟨hX _ (by unfold tw; omega) (by unfold tw; omega) (by unfold tw; omega) (by unfold tw; omega) (by unfold tw; omega) (by unfold tw; omega) (by unfold tw; omega), hX _ (by unfold tw; omega) (by unfold tw; omega) (by unfold tw; omega) (by unfold tw; omega) (by unfold tw; omega) (by unfold tw; omega) (by unfold tw; omega)⟩), ?_, ?_, ?_, hS, i.go (k _ (by omega))⟩
  · exact d.goX (fun o h1 h2 => k o (by omega)) (fun j hj => h48 j (by omega) (by omega) (by omega)) (he.le d.1) (hR _ (by omega))
  · exact e.go (fun o h1 h2 => k o (by omega)) (by rw [k0]) (h48 13 (by omega) (by omega) (by omega)) (k _ (by omega)) (eqI (he.le d.1) (k _ (by omega)) (k _ (by omega))) (hR _ (by omega))
  · exact f.go (by rw [k 31 (by omega)]) (h48 8 (by omega) (by omega) (by omega)) (k _ (by omega)) (k _ (by omega))
theorem sSh.set (h : sSh A R) {s : Nat} (hs : s < 4) (hR : R2 38 = R 38) (ho : ∀ o, 40 ≤ o → o < 48 → ¬ o = 40 + 2 * s → ¬ o = 41 + 2 * s → A2 o = A o) (h58 : ∀ j, ¬ j = s → A2 58 j = A 58 j) (h59 : ∀ j, ¬ j = s → A2 59 j = A 59 j) (h60 : ∀ j, (j < 40 * s ∨ 40 * s + 40 ≤ j) → A2 60 j = A 60 j) (hA : A2 (40 + 2 * s) 1 = A2 58 s) (hz : ∃ z, z ≤ 40 ∧ A2 (40 + 2 * s) 2 = nI z ∧ A2 59 s = nI z) (hc : ∀ k, k < 40 → A2 (41 + 2 * s) k = A2 60 (40 * s + k)) : sSh A2 R2 := by
  intro q hq
  by_cases e : q = s
  · subst e
    exact ⟨by rw [hR]; exact (h q hq).1, hA, hz, hc⟩
  · obtain ⟨h1, h2, ⟨z, h3, h4, h5⟩, h6⟩ := h q hq
    have e1 : A2 (40 + 2 * q) = A (40 + 2 * q) := ho _ (by omega) (by omega) (by omega) (by omega)
    have e2 : A2 (41 + 2 * q) = A (41 + 2 * q) := ho _ (by omega) (by omega) (by omega) (by omega)
    refine ⟨by rw [hR]; exact h1, by rw [e1, h58 q e]; exact h2, ⟨z, h3, by rw [e1]; exact h4, by rw [h59 q e]; exact h5⟩, fun k hk => ?_⟩
    rw [e2, h60 _ (by omega)]
    exact h6 k hk
theorem gsS (hG : aGS G) {s : Nat} (hs : s < 4) : aGs G (40 + 2 * s) := by
  unfold aGs
  rw [hG _ (by omega), hG _ (by omega)]
  exact (by decide : ∀ s, s < 4 → gtb (40 + 2 * s) = (6, 0) ∧ gtb (40 + 2 * s + 1) = (1, 40)) s (by omega)
theorem sJ.sh (hJ : sJ n t T W A R G) : sSh A R := hJ.2.2.2.2.2.2.1
/-- a sheet is made anew -/
def rnX (o : Nat) (x : Int32) (z : Nat) (A A' : Nat → Nat → Int32) : Prop := (∀ q, ¬ q = o → ¬ q = o + 1 → A' q = A q) ∧ A' o 1 = x ∧ A' o 2 = nI z ∧ ∀ k, k < 40 → A' (o + 1) k = 0
theorem lX2_ren {E : aR} {o z : Nat} {x : Int32} (ho : aGs G o) (hE : ∀ B, rnX o x z A B → E none (B, R, G)) :
    ∀ (i k : Nat) (B : Nat → Nat → Int32) (d1 d2 : Option Value), k + i = 40 → (∀ q, ¬ q = o → ¬ q = o + 1 → B q = A q) → B o 1 = x → B o 2 = nI z → (∀ j, j < k → B (o + 1) j = 0) → aw tX2_renew E 21 [some (.ref o), d1, d2, some (.int (nI k))] [] (B, R, G)
  | 0, k, B, d1, d2, hk, h1, h2, h3, h4 => by
    have hk2 : k = 40 := by omega
    subst hk2
    exact sX2_renew_21 ho _ _ _ (br_t (by decide) (hE B ⟨h1, h2, h3, h4⟩))
  | i + 1, k, B, d1, d2, hk, h1, h2, h3, h4 => by
    refine sX2_renew_21 ho _ _ _ (br_f (nI_ge (a := k) (b := 40) (by omega) (by omega)) ⟨vp_in_nI (by omega) (by omega), ?_⟩)
    rw [nI_1, nI_clamp (by omega)]
    refine lX2_ren ho hE i (k + 1) _ _ _ (by omega) (fun q ha hb => (au_o hb).trans (h1 q ha hb)) ((aua (by omega)).trans h2) ((aua (by omega)).trans h3) (fun j hj => ?_)
    by_cases e : j = k
    · subst e; exact au_k
    · exact (au_j e).trans (h4 j (by omega))
theorem qX2_renew {o z : Nat} (ho : aGs G o) {x : Int32} (hz : z ≤ 40) : ∃ A', rnX o x z A A' ∧ CX2_renew [.ref o, .int x, .int (nI z)] (A, R, G) none (A', R, G) := by
  refine aC_exA vX2_renew (Nat.le_of_ble_eq_true rfl) fun E hE => sX2_renew_0 ho _ _ ?_
  have e : (if 0 < (if nI z < 40 then nI z else 40) then (if nI z < 40 then nI z else 40) else 0) = nI z := by
    have e1 : (if nI z < 40 then nI z else 40) = nI z := by
      by_cases h : nI z < 40
      · exact if_pos h
      · rw [if_neg h]
        have : ¬ z < 40 := fun q => h (nI_lt (a := z) (b := 40) q (by omega))
        rw [show z = 40 by omega]; rfl
    rw [e1]
    by_cases h : 0 < nI z
    · exact if_pos h
    · rw [if_neg h]
      have : ¬ 0 < z := fun q => h (nI_lt (a := 0) (b := z) q (by omega))
      rw [show z = 0 by omega]; rfl
  rw [e]
  refine lX2_ren ho (fun B hB => hE B hB) 40 0 _ _ _ (by omega) (fun q ha hb => ?_) ?_ au_k (fun j hj => absurd hj (by omega))
  · rw [au_o ha, au_o ha]
  · rw [au_j (by omega), au_k]
theorem lX5_she {E : aR} (hG : aGS G) {s : Nat} (hs : s < 4) (hE : ∀ B, (∀ q, ¬ q = 60 → B q = A q) → (∀ j, (j < 40 * s ∨ 40 * s + 40 ≤ j) → B 60 j = A 60 j) → (∀ k, k < 40 → B 60 (40 * s + k) = 0) → E (some (.int 1)) (B, R, G)) :
    ∀ (i k : Nat) (B : Nat → Nat → Int32) (d2 d3 : Option Value), k + i = 40 → (∀ q, ¬ q = 60 → B q = A q) → (∀ j, (j < 40 * s ∨ 40 * s + 40 ≤ j) → B 60 j = A 60 j) → (∀ j, j < k → B 60 (40 * s + j) = 0) → aw tX5_sheet E 70 [some (.ref 48), some (.int (nI s)), d2, d3, some (.int (nI k))] [] (B, R, G)
  | 0, k, B, d2, d3, hk, h1, h2, h3 => by
    have hk2 : k = 40 := by omega
    subst hk2
    exact sX5_sheet_70 hG _ _ _ _ (br_t (by decide) (hE B h1 h2 h3))
  | i + 1, k, B, d2, d3, hk, h1, h2, h3 => by
    have e40 : (40 : Int32) * nI s = nI (40 * s) := pk_mul 40 s
    refine sX5_sheet_70 hG _ _ _ _ (br_f (nI_ge (a := k) (b := 40) (by omega) (by omega)) ?_)
    simp (disch := omega) only [e40, nI_add, nI_clamp, nI_1]
    refine ⟨vp_in_nI (by omega) (by omega), lX5_she hG hs hE i (k + 1) _ _ _ (by omega) (fun q hq => (au_o hq).trans (h1 q hq)) (fun j hj => (au_j (by omega)).trans (h2 j hj)) (fun j hj => ?_)⟩
    by_cases e : j = k
    · subst e; exact au_k
    · exact (au_j (by omega)).trans (h3 j (by omega))
theorem sJ.she (hJ : sJ n t T W A R G) {s z : Nat} {x : Int32} (hs : s < 4) (hz : z ≤ 40) (h : rnX (40 + 2 * s) x z A A1) (h1 : ∀ q, ¬ q = 60 → A2 q = au (au A1 58 s x) 59 s (nI z) q) (h2 : ∀ j, (j < 40 * s ∨ 40 * s + 40 ≤ j) → A2 60 j = A1 60 j) (h3 : ∀ k, k < 40 → A2 60 (40 * s + k) = 0) : sJ n t T W A2 R G := by
  obtain ⟨r1, r2, r3, r4⟩ := h
  have hall : ∀ o, ¬ o = 40 + 2 * s → ¬ o = 40 + 2 * s + 1 → ¬ o = 58 → ¬ o = 59 → ¬ o = 60 → A2 o = A o := fun o a b c d e => by rw [h1 o e, au_o d, au_o c]; exact r1 o a b
  have e40 : A2 (40 + 2 * s) = A1 (40 + 2 * s) := by rw [h1 _ (by omega), au_o (by omega), au_o (by omega)]
  have e41 : A2 (41 + 2 * s) = A1 (40 + 2 * s + 1) := by rw [h1 _ (by omega), au_o (by omega), au_o (by omega), show 41 + 2 * s = 40 + 2 * s + 1 by omega]
  have e58 : ∀ j, A2 58 j = if j = s then x else A 58 j := fun j => by
    rw [h1 _ (by omega), au_o (by omega), au_eq, r1 58 (by omega) (by omega)]
    by_cases e : j = s
    · rw [if_pos ⟨rfl, e⟩, if_pos e]
    · rw [if_neg (fun q => e q.2), if_neg e]
  have e59 : ∀ j, A2 59 j = if j = s then nI z else A 59 j := fun j => by
    rw [h1 _ (by omega), au_eq, au_o (by omega), r1 59 (by omega) (by omega)]
    by_cases e : j = s
    · rw [if_pos ⟨rfl, e⟩, if_pos e]
    · rw [if_neg (fun q => e q.2), if_neg e]
  refine hJ.shF (fun o a b c d e f g => hall o (by omega) (by omega) (by omega) (by omega) (by omega)) (fun k _ _ _ => by rw [hall 48 (by omega) (by omega) (by omega) (by omega) (by omega)]) (eqV.of (vM_go (hall _ (by omega) (by omega) (by omega) (by omega) (by omega)) (hall _ (by omega) (by omega) (by omega) (by omega) (by omega)) (hall _ (by omega) (by omega) (by omega) (by omega) (by omega)) (hall _ (by omega) (by omega) (by omega) (by omega) (by omega)) (hall _ (by omega) (by omega) (by omega) (by omega) (by omega))).symm) (hJ.sh.set hs rfl (fun o a b c d => hall o c (by omega) (by omega) (by omega) (by omega)) (fun j hj => by rw [e58, if_neg hj]) (fun j hj => by rw [e59, if_neg hj]) (fun j hj => by rw [h2 j hj, r1 60 (by omega) (by omega)]) (by rw [e40, r2, e58, if_pos rfl]) ⟨z, hz, by rw [e40]; exact r3, by rw [e59, if_pos rfl]⟩ (fun k hk => by rw [e41, r4 k hk, h3 k hk])) scR.rf
theorem c_sheet (hJ : sJ n t T W A R G) (x1 x2 x3 : Int32) : bthI T W CX4_sheet CX5_sheet [.int x1, .int x2, .int x3] A R G := by
  have hG := hJ.gs
  by_cases h1 : 0 ≤ x1 ∧ x1 ≤ 3
  case neg => exact qry0 hJ _ (aC_of (Nat.le_of_ble_eq_true rfl) fun E hE => sX4_sheet_0 hG _ _ _ (br_f h1 hE)) (aC_of (Nat.le_of_ble_eq_true rfl) fun E hE => sX5_sheet_0 hG _ _ _ (br_f h1 hE))
  by_cases h2 : (-1) ≤ x2 ∧ x2 ≤ 2
  case neg => exact qry0 hJ _ (aC_of (Nat.le_of_ble_eq_true rfl) fun E hE => sX4_sheet_0 hG _ _ _ (br_t h1 (br_f h2 hE))) (aC_of (Nat.le_of_ble_eq_true rfl) fun E hE => sX5_sheet_0 hG _ _ _ (br_t h1 (br_f h2 hE)))
  obtain ⟨s, hs, rfl⟩ := rngI 3 (by omega) h1
  have hg := gsS hG (s := s) (by omega)
  have hcl : (nI s).toNatClampNeg = s := nI_clamp (by omega)
  have hx : vp_in (nI s) 4 := vp_in_nI (by omega) (by omega)
  by_cases q1 : x2 = -1
  · obtain ⟨A1, hr, hC⟩ := qX2_renew (A := A) (R := R) hg (x := x2) (z := 0) (by omega)
    obtain ⟨A2, ⟨k1, k2, k3⟩, hC2⟩ : ∃ A2, ((∀ q, ¬ q = 60 → A2 q = au (au A1 58 s x2) 59 s (nI 0) q) ∧ (∀ j, (j < 40 * s ∨ 40 * s + 40 ≤ j) → A2 60 j = A1 60 j) ∧ ∀ k, k < 40 → A2 60 (40 * s + k) = 0) ∧ CX5_sheet [.ref 48, .int (nI s), .int x2, .int x3] (A1, R, G) (some (.int 1)) (A2, R, G) := by
      refine aC_exA vX5_sheet (Nat.le_of_ble_eq_true rfl) fun E hE => sX5_sheet_0 hG _ _ _ (br_t h1 (br_t h2 (br_t q1 ⟨hx, ?_⟩)))
      rw [hcl]
      refine lX5_she hG (by omega) (fun B a b c => hE B ⟨a, fun j hj => ?_, c⟩) 40 0 _ _ _ (by omega) (fun _ _ => rfl) (fun _ _ => rfl) (fun j hj => absurd hj (by omega))
      rw [b j hj, au_o (by omega), au_o (by omega)]
    refine fin (aC_of (Nat.le_of_ble_eq_true rfl) fun E hE => sX4_sheet_0 hG _ _ _ (br_t h1 (br_t h2 (br_t q1 ⟨hx, 40 + 2 * s, by rw [hcl]; exact hJ.sz (by omega), gs0 hg, _, hC, sX4_sheet_37 _ _ _ hE⟩)))) hC2 (hJ.she (by omega) (by omega) hr k1 k2 k3)
  by_cases q2 : x3 ≤ 40
  case neg => exact qry0 hJ _ (aC_of (Nat.le_of_ble_eq_true rfl) fun E hE => sX4_sheet_0 hG _ _ _ (br_t h1 (br_t h2 (br_f q1 (br_f q2 hE))))) (aC_of (Nat.le_of_ble_eq_true rfl) fun E hE => sX5_sheet_0 hG _ _ _ (br_t h1 (br_t h2 (br_f q1 (br_f q2 hE)))))
  by_cases q3 : 0 ≤ x3
  case neg => exact qry0 hJ _ (aC_of (Nat.le_of_ble_eq_true rfl) fun E hE => sX4_sheet_0 hG _ _ _ (br_t h1 (br_t h2 (br_f q1 (br_t q2 (br_f q3 hE)))))) (aC_of (Nat.le_of_ble_eq_true rfl) fun E hE => sX5_sheet_0 hG _ _ _ (br_t h1 (br_t h2 (br_f q1 (br_t q2 (br_f q3 hE))))))
  obtain ⟨z, hz, rfl⟩ := rngI 40 (by omega) ⟨q3, q2⟩
  obtain ⟨A1, hr, hC⟩ := qX2_renew (A := A) (R := R) hg (x := x2) (z := z) hz
  obtain ⟨A2, ⟨k1, k2, k3⟩, hC2⟩ : ∃ A2, ((∀ q, ¬ q = 60 → A2 q = au (au A1 58 s x2) 59 s (nI z) q) ∧ (∀ j, (j < 40 * s ∨ 40 * s + 40 ≤ j) → A2 60 j = A1 60 j) ∧ ∀ k, k < 40 → A2 60 (40 * s + k) = 0) ∧ CX5_sheet [.ref 48, .int (nI s), .int x2, .int (nI z)] (A1, R, G) (some (.int 1)) (A2, R, G) := by
    refine aC_exA vX5_sheet (Nat.le_of_ble_eq_true rfl) fun E hE => sX5_sheet_0 hG _ _ _ (br_t h1 (br_t h2 (br_f q1 (br_t q2 (br_t q3 ⟨hx, ?_⟩)))))
    rw [hcl]
    refine lX5_she hG (by omega) (fun B a b c => hE B ⟨a, fun j hj => ?_, c⟩) 40 0 _ _ _ (by omega) (fun _ _ => rfl) (fun _ _ => rfl) (fun j hj => absurd hj (by omega))
    rw [b j hj, au_o (by omega), au_o (by omega)]
  exact fin (aC_of (Nat.le_of_ble_eq_true rfl) fun E hE => sX4_sheet_0 hG _ _ _ (br_t h1 (br_t h2 (br_f q1 (br_t q2 (br_t q3 ⟨hx, 40 + 2 * s, by rw [hcl]; exact hJ.sz (by omega), gs0 hg, _, hC, sX4_sheet_66 _ _ _ hE⟩)))))) hC2 (hJ.she (by omega) hz hr k1 k2 k3)
/-! cell -/
theorem sJ.cl (hJ : sJ n t T W A R G) {s i : Nat} {x : Int32} (hs : s < 4) (hi : i < 40) : sJ n t T W (au (au A (40 + 2 * s + 1) i x) 60 (40 * s + i) x) R G := by
  have hall : ∀ o, ¬ o = 40 + 2 * s + 1 → ¬ o = 60 → au (au A (40 + 2 * s + 1) i x) 60 (40 * s + i) x o = A o := fun o a b => by rw [au_o b, au_o a]
  obtain ⟨p1, p2, p3, p4⟩ := hJ.sh s hs
  refine hJ.shF (fun o a b c d e f g => hall o (by omega) (by omega)) (fun k _ _ _ => by rw [hall 48 (by omega) (by omega)]) (eqV.of (vM_go (hall _ (by omega) (by omega)) (hall _ (by omega) (by omega)) (hall _ (by omega) (by omega)) (hall _ (by omega) (by omega)) (hall _ (by omega) (by omega))).symm) (hJ.sh.set hs rfl (fun o a b c d => hall o (by omega) (by omega)) (fun j hj => by rw [hall 58 (by omega) (by omega)]) (fun j hj => by rw [hall 59 (by omega) (by omega)]) (fun j hj => ?_) ?_ ?_ (fun k hk => ?_)) scR.rf
  · rw [au_j (by omega), au_o (by omega)]
  · rw [hall _ (by omega) (by omega), hall 58 (by omega) (by omega)]; exact p2
  · rw [hall (40 + 2 * s) (by omega) (by omega), hall 59 (by omega) (by omega)]; exact p3
  · rw [show 41 + 2 * s = 40 + 2 * s + 1 by omega, au_o (by omega)]
    by_cases e : k = i
    · subst e
      rw [au_k, au_k]
    · rw [au_j e, au_j (by omega), au_o (by omega), show 40 + 2 * s + 1 = 41 + 2 * s by omega]
      exact p4 k hk
theorem c_cell (hJ : sJ n t T W A R G) (x1 x2 x3 : Int32) : bthI T W CX4_cell CX5_cell [.int x1, .int x2, .int x3] A R G := by
  have hG := hJ.gs
  by_cases h1 : 0 ≤ x1 ∧ x1 ≤ 3
  case neg => exact qry0 hJ _ (aC_of (Nat.le_of_ble_eq_true rfl) fun E hE => sX4_cell_0 hG _ _ _ (br_f h1 hE)) (aC_of (Nat.le_of_ble_eq_true rfl) fun E hE => sX5_cell_0 hG _ _ _ (br_f h1 hE))
  obtain ⟨s, hs, rfl⟩ := rngI 3 (by omega) h1
  have hg := gsS hG (s := s) (by omega)
  have hcl : (nI s).toNatClampNeg = s := nI_clamp (by omega)
  have hx : vp_in (nI s) 4 := vp_in_nI (by omega) (by omega)
  obtain ⟨p1, p2, ⟨z, p3, p4, p5⟩, p6⟩ := hJ.sh s (by omega)
  have nx : ∀ {E : aR}, ((A 58 s = -1 → E (some (.int (-11))) (A, R, G)) ∧ (¬ A 58 s = -1 → ((0 ≤ x2 ∧ x2 ≤ nI z - 1 → ((G (40 + 2 * s + 1)).1 = 1 ∧ vp_in x2 (G (40 + 2 * s + 1)).2 ∧ E (some (.int 1)) (au A (40 + 2 * s + 1) x2.toNatClampNeg (cutX (A 58 s) x3), R, G))) ∧ (¬ (0 ≤ x2 ∧ x2 ≤ nI z - 1) → E (some (.int (-12))) (A, R, G))))) → aw tX4_cell E 0 [some (.ref 0), some (.int (nI s)), some (.int x2), some (.int x3), none] [] (A, R, G) := by
    intro E h
    refine sX4_cell_0 hG _ _ _ (br_t h1 ⟨hx, 40 + 2 * s, by rw [hcl]; exact p1, hg, gs0 hg, ?_⟩)
    rw [p2, p4]
    exact h
  by_cases q0 : A 58 s = -1
  · exact qry0 hJ _ (aC_of (Nat.le_of_ble_eq_true rfl) fun E hE => nx (br_t q0 hE)) (aC_of (Nat.le_of_ble_eq_true rfl) fun E hE => sX5_cell_0 hG _ _ _ (br_t h1 ⟨hx, by rw [hcl]; exact br_t q0 hE⟩))
  by_cases q1 : 0 ≤ x2 ∧ x2 ≤ nI z - 1
  case neg => exact qry0 hJ _ (aC_of (Nat.le_of_ble_eq_true rfl) fun E hE => nx (br_f q0 (br_f q1 hE))) (aC_of (Nat.le_of_ble_eq_true rfl) fun E hE => sX5_cell_0 hG _ _ _ (br_t h1 ⟨hx, by rw [hcl, p5]; exact br_f q0 (br_f q1 hE)⟩))
  have hz1 : 1 ≤ z := by
    rcases Nat.eq_zero_or_pos z with h | h
    · subst h
      exact absurd (Int32.le_trans q1.1 q1.2) (by decide)
    · exact h
  obtain ⟨i, hi, rfl⟩ := rngI (z - 1) (by omega) (by rw [show nI z - 1 = nI (z - 1) from pk_sub (a := z) (b := 1) hz1] at q1; exact q1)
  have e40 : (40 : Int32) * nI s = nI (40 * s) := pk_mul 40 s
  refine fin (v := 1) (A1 := au A (40 + 2 * s + 1) i (cutX (A 58 s) x3)) (aC_of (Nat.le_of_ble_eq_true rfl) fun E hE => nx (br_f q0 (br_t q1 ⟨gs1 hg, by rw [gsl1 hg]; exact vp_in_nI (by omega) (by omega), by rw [nI_clamp (by omega)]; exact hE⟩))) (aC_of (Nat.le_of_ble_eq_true rfl) fun E hE => sX5_cell_0 hG _ _ _ (br_t h1 ⟨hx, ?_⟩)) (hJ.cl (s := s) (i := i) (x := cutX (A 58 s) x3) (by omega) (by omega))
  have e58 : au A (40 + 2 * s + 1) i (cutX (A 58 s) x3) 58 s = A 58 s := aua (by omega)
  have e59 : au A (40 + 2 * s + 1) i (cutX (A 58 s) x3) 59 s = nI z := (aua (by omega)).trans p5
  rw [hcl, e58, e59]
  refine br_f q0 (br_t q1 ?_)
  simp (disch := omega) only [e40, nI_add, nI_clamp]
  have hv : vp_in (nI (40 * s + i)) 160 := vp_in_nI (by omega) (by omega)
  unfold cutX at hE ⊢
  refine ⟨fun h => ⟨hv, ?_⟩, fun h => ⟨fun h2 => ⟨hv, ?_⟩, fun h2 => ⟨hv, ?_⟩⟩⟩
  · rw [if_pos h] at hE ⊢; exact hE
  · rw [if_neg h, if_pos h2] at hE ⊢; exact hE
  · rw [if_neg h, if_neg h2] at hE ⊢; exact hE
end MF
