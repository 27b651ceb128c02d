section MB
variable {A A' A2 A4 B C D : Nat → Nat → Int32} {R R' R1 : Nat → Nat → Option Nat} {G : Nat → Nat × Nat} {n n' t T w t' : Nat} {W : Nat → Nat → List Nat} {Λ : aLm} {v u vx vm : aV}
theorem sJ.dayA (hJ : sJ n t T W A R G) (hj : jDX 1 (tw t) A A2) (hk : jD A2 A4) (hx : vX A2 1 = vx) (hm : vM A4 = vm) (hi : invD n vx) (he : eqV n vx vm) (h9 : vx 8 1 ≤ 999) : sJ n t T W A4 R G := by
  have h1 : ∀ o, 1 ≤ o → o < 10 → A4 o = A2 o := fun o h1 h2 => hk.1 o (by omega) (by omega) (by omega) (by omega) (by omega)
  have hx4 : vX A4 1 = vx := by rw [vX_go (A := A2) (fun k hk => h1 _ (by omega) (by omega))]; exact hx
  have h1k : ∀ k, ¬ k = 10 → ¬ k = 11 → ¬ k = 12 → A4 1 k = A 1 k := fun k h10 h11 h12 => by rw [h1 1 (by omega) (by omega)]; exact hj.2.1 k h10 h11 h12
  have h48 : ∀ k, ¬ k = 5 → ¬ k = 6 → A4 48 k = A 48 k := fun k h5 h6 => by
    rw [hk.2 k h5 h6, hj.1 48 (by omega) (by omega) (by omega) (by omega) (by omega) (by omega) (by unfold tw; omega)]
  have hall : ∀ o, (o = 0 ∨ 11 ≤ o) → ¬ o = 48 → ¬ o = 51 → ¬ o = 52 → ¬ o = 64 → ¬ o = 65 → (o < 80 ∨ ¬ o % 4 = 3) → A4 o = A o := fun o h0 h48 h51 h52 h64 h65 h3 => (hk.1 o h48 h51 h52 h64 h65).trans (hj.1 o (by omega) (by omega) (by omega) (by omega) (by omega) (by omega) (by unfold tw; omega))
  have hT2 := hj.t (by unfold tw; omega) hJ.ti
  refine hJ.bench (n' := n) (fun o h0 h2 h3 h4 => hall o h0 (by omega) (by omega) (by omega) (by omega) (by omega) h4) (fun k h0 h5 h6 h34 => h48 k h5 h6) ?_ (by omega) (vI_eq (hall _ (by omega) (by omega) (by omega) (by omega) (by omega) (by omega) (by omega)) (hall _ (by omega) (by omega) (by omega) (by omega) (by omega) (by omega) (by omega)) (hall _ (by omega) (by omega) (by omega) (by omega) (by omega) (by omega) (by omega)) (hall _ (by omega) (by omega) (by omega) (by omega) (by omega) (by omega) (by omega)))
  refine ⟨hJ.n6, (h1k 9 (by omega) (by omega) (by omega)).trans hJ.x9, (h48 0 (by omega) (by omega)).trans hJ.m0, by rw [hx4]; exact hi, hT2.go (by rw [h1 1 (by omega) (by omega)]) (h1 _ (by omega) (by omega)), (hj.h hJ.hi).go (by rw [h1 1 (by omega) (by omega)]), by rw [hx4, hm]; exact he, ?_, (h1k 13 (by omega) (by omega) (by omega)).trans hJ.x13, (h48 12 (by omega) (by omega)).trans hJ.m12, hJ.r1⟩
  have e : A4 1 11 = vx 8 1 := by rw [← hx4]; rfl
  rw [e]; exact h9
theorem c_hear (hJ : sJ n t T W A R G) (x1 x2 : Int32) : bthI T W CX4_hear CX5_hear [.int x1, .int x2] A R G := by
  have hG := hJ.gs
  have hn6 := hJ.n6
  by_cases h1 : ∃ k, k < n ∧ x1 = nI k
  case neg => exact qry0 hJ _ (aC_of (Nat.le_of_ble_eq_true rfl) fun E hE => sX4_hear_0 hG _ _ (br_f (nPx hJ h1) hE)) (aC_of (Nat.le_of_ble_eq_true rfl) fun E hE => sX5_hear_0 hG _ _ (br_f (nPm hJ h1) hE))
  obtain ⟨p, hp, rfl⟩ := h1
  by_cases h2 : ∃ k, k < 8 ∧ x2 = nI k ∧ ¬ vX A 1 5 k = 0
  case neg => exact qry0 hJ _ (aC_of (Nat.le_of_ble_eq_true rfl) fun E hE => sX4_hear_0 hG _ _ (br_t (yPx hJ hp) (br_f (nCx hJ h2) hE))) (aC_of (Nat.le_of_ble_eq_true rfl) fun E hE => sX5_hear_0 hG _ _ (br_t (yPm hJ hp) (br_f (nCm hJ h2) hE)))
  obtain ⟨c, hc, rfl, h5⟩ := h2
  obtain ⟨A1, hj1, hC1⟩ := qX0_can (gB1 hG) hJ.lx hJ.inv.1 hp hn6 hc (hJ.bt1 hc h5)
  have hJ1 := hJ.goX hj1.sc (scR.rf (R := R))
  have hv1 : vX A1 1 = vX A 1 := hj1.sc.hX
  by_cases hcan : canV (LamW (W t)) (vX A 1) p c
  case neg =>
    refine qry hJ (-3) ⟨A1, R, ⟨hj1.sc, scR.rf⟩, aC_of (Nat.le_of_ble_eq_true rfl) fun E hE => sX4_hear_0 hG _ _ (br_t (yPx hJ hp) (br_t (yCx hJ hc h5) ⟨_, _, hC1, sX4_hear_37 hG _ _ _ (br_t (bI_f hcan) hE)⟩))⟩ fun A' R' hJ' hs hv => ?_
    obtain ⟨A'', hj, hC⟩ := qX5_can (R := R') hG hJ'.lm (p := p) (c := c) (by omega) hc
    rw [hv, ← canV_c hJ.vv hp hc] at hC
    exact ⟨A'', hj.sc, aC_of (Nat.le_of_ble_eq_true rfl) fun E hE => sX5_hear_0 hG _ _ (br_t (yPm hJ' hp) (br_t (yCm hJ' hc (by rw [hs.hX]; exact h5)) ⟨_, _, hC, sX5_hear_28 hG _ _ _ (br_t (bI_f hcan) hE)⟩))⟩
  obtain ⟨A2, ⟨hj2, hv2⟩, hC2⟩ := qX0_hold (gB1 hG) hJ1.lx hJ1.inv hp hn6 hc (hJ1.bt1 hc (by rw [hv1]; exact h5))
  rw [hv1] at hv2 hC2
  have hjx : jDX 1 (tw t) A A2 := (hj1.d (by unfold tw; omega)).tr hj2
  have hm2 : vM A2 = vM A := vM_go (hjx.1 _ (by omega) (by omega) (by omega) (by omega) (by omega) (by omega) (by unfold tw; omega)) (hjx.1 _ (by omega) (by omega) (by omega) (by omega) (by omega) (by omega) (by unfold tw; omega)) (hjx.1 _ (by omega) (by omega) (by omega) (by omega) (by omega) (by omega) (by unfold tw; omega)) (hjx.1 _ (by omega) (by omega) (by omega) (by omega) (by omega) (by omega) (by unfold tw; omega)) (hjx.1 _ (by omega) (by omega) (by omega) (by omega) (by omega) (by omega) (by unfold tw; omega))
  have hL2 : LMA A2 (LamW (W t)) := hJ.lm.go (hjx.1 _ (by omega) (by omega) (by omega) (by omega) (by omega) (by omega) (by unfold tw; omega)) (hjx.1 _ (by omega) (by omega) (by omega) (by omega) (by omega) (by omega) (by unfold tw; omega)) (by rw [hjx.1 48 (by omega) (by omega) (by omega) (by omega) (by omega) (by omega) (by unfold tw; omega)])
  obtain ⟨A3, hj3, hC3⟩ := qX5_can (R := R) hG hL2 (p := p) (c := c) (by omega) hc
  rw [hm2, ← canV_c hJ.vv hp hc] at hC3
  obtain ⟨A4, ⟨hj4, hv4⟩, hC4⟩ := qX5_hears (R := R) hG (hj3.L hL2) (p := p) (c := c) (by omega) hc
  rw [hj3.v, hm2] at hv4 hC4
  rw [← judV_c hJ.vv hp hc] at hC4
  have e48 : A2 48 = A 48 := hjx.1 48 (by omega) (by omega) (by omega) (by omega) (by omega) (by omega) (by unfold tw; omega)
  have e52 : A2 52 = A 52 := hjx.1 52 (by omega) (by omega) (by omega) (by omega) (by omega) (by omega) (by unfold tw; omega)
  have hyP : 0 ≤ nI p ∧ nI p ≤ A2 48 0 - 1 := by rw [e48]; exact yPm hJ hp
  have hyC : thM A2 (nI c) := by
    have := yCm hJ hc h5
    unfold thM at this ⊢
    rw [e52]
    exact this
  refine fin (v := 1000 + judV (LamW (W t)) (vX A 1) p c) (A1 := A2) (A2 := A4) (aC_of (Nat.le_of_ble_eq_true rfl) fun E hE => sX4_hear_0 hG _ _ (br_t (yPx hJ hp) (br_t (yCx hJ hc h5) ⟨_, _, hC1, sX4_hear_37 hG _ _ _ (br_f (bI_ne hcan) ⟨_, _, hC2, sX4_hear_55 _ _ _ _ hE⟩)⟩))) (aC_of (Nat.le_of_ble_eq_true rfl) fun E hE => sX5_hear_0 hG _ _ (br_t hyP (br_t hyC ⟨_, _, hC3, sX5_hear_28 hG _ _ _ (br_f (bI_ne hcan) ⟨_, _, hC4, sX5_hear_40 _ _ _ _ hE⟩)⟩))) (hJ.dayA hjx (hj3.d.tr hj4) hv2 hv4 (inv_hol hJ.inv) (holV_c hJ.vv hp hc) ?_)
  show holV (LamW (W t)) (vX A 1) p c 8 1 ≤ 999
  unfold holV
  rw [au_v (by omega), au_v (by omega), au_v (by omega), au_v (by omega), au_v (by omega)]
  exact hJ.d9
theorem hol_81 {p c : Nat} : holV Λ v p c 8 1 = v 8 1 := by
  unfold holV
  rw [au_v (by omega), au_v (by omega), au_v (by omega), au_v (by omega), au_v (by omega)]
theorem cas_81 {m : Nat} : ∀ k, (casV Λ m v k).1 8 1 = v 8 1
  | 0 => rfl
  | k + 1 => by
    have ih := cas_81 (m := m) k
    show (stpV Λ m (casV Λ m v k) k).1 8 1 = _
    unfold stpV
    by_cases h5 : (casV Λ m v k).1 5 k = 0
    · rw [if_pos h5]; exact ih
    · rw [if_neg h5]
      cases fstV Λ (casV Λ m v k).1 k m 0 with
      | none =>
        show au (casV Λ m v k).1 7 k (clI ((casV Λ m v k).1 7 k + 1) 0 99) 8 1 = _
        rw [au_v (by omega)]
        exact ih
      | some p =>
        show holV Λ (casV Λ m v k).1 p k 8 1 = _
        rw [hol_81]
        exact ih
theorem day_81 : (dayV Λ n v).1 8 1 = v 8 1 + 1 := by
  rw [dayV_1, au_k, cas_81, decV_o (by decide)]
theorem add1_999 {x : Int32} (h : x < 999) : x + 1 ≤ 999 := by
  have h2 := Int32.lt_iff_toInt_lt.mp h
  rw [show (999 : Int32).toInt = 999 from rfl] at h2
  have h3 := Int32.le_toInt x
  have h4 : -2147483648 ≤ x.toInt := h3
  refine Int32.le_iff_toInt_le.mpr ?_
  rw [Int32.toInt_add, show (999 : Int32).toInt = 999 from rfl, show (1 : Int32).toInt = 1 from rfl, Int.bmod_eq_of_le (by omega) (by omega)]
  omega
theorem c_day (hJ : sJ n t T W A R G) : bthI T W CX4_day CX5_day [] A R G := by
  have hG := hJ.gs
  have hn6 := hJ.n6
  by_cases h1 : A 1 11 < 999
  case neg =>
    have e : A 48 5 = 999 := hJ.day.trans (Int32.le_antisymm hJ.d9 (Int32.not_lt.mp h1))
    exact qry0 hJ _ (aC_of (Nat.le_of_ble_eq_true rfl) fun E hE => sX4_day_0 hG (br_f h1 hE)) (aC_of (Nat.le_of_ble_eq_true rfl) fun E hE => sX5_day_0 hG (br_t e (sX5_day_19 _ hE)))
  have e : ¬ A 48 5 = 999 := fun q => by rw [← hJ.day, q] at h1; exact absurd h1 (by decide)
  obtain ⟨A2, ⟨hjx, hv2⟩, hC2⟩ := qX0_passDay (gB1 hG) hJ.lx hJ.x9 hJ.inv hn6 hJ.ti
  have hq : ∀ o, (o = 0 ∨ 11 ≤ o) → o < 80 → A2 o = A o := fun o h0 h8 => hjx.1 o (by omega) (by omega) (by omega) (by omega) (by omega) (by omega) (by unfold tw; omega)
  have hm2 : vM A2 = vM A := vM_go (hq _ (by omega) (by omega)) (hq _ (by omega) (by omega)) (hq _ (by omega) (by omega)) (hq _ (by omega) (by omega)) (hq _ (by omega) (by omega))
  have hL2 : LMA A2 (LamW (W t)) := hJ.lm.go (hq _ (by omega) (by omega)) (hq _ (by omega) (by omega)) (by rw [hq 48 (by omega) (by omega)])
  obtain ⟨A4, ⟨hj4, hv4⟩, hC4⟩ := qX5_dayOf (R := R) hG hL2 (n := n) (by rw [hq 48 (by omega) (by omega)]; exact hJ.m0) hn6
  have hc := dayV_c (Λ := LamW (W t)) hJ.vv
  rw [hm2] at hv4 hC4
  rw [← hc.2] at hC4
  refine fin (v := (dayV (LamW (W t)) n (vX A 1)).2) (A1 := A2) (A2 := A4) (aC_of (Nat.le_of_ble_eq_true rfl) fun E hE => sX4_day_0 hG (br_t h1 ⟨_, _, hC2, sX4_day_23 _ hE⟩)) (aC_of (Nat.le_of_ble_eq_true rfl) fun E hE => sX5_day_0 hG (br_f (by rw [hq 48 (by omega) (by omega)]; exact e) ⟨_, _, hC4, sX5_day_19 _ hE⟩)) (hJ.dayA hjx hj4 hv2 hv4 (inv_day hJ.inv) hc.1 ?_)
  rw [day_81]
  exact add1_999 h1
theorem c_force (hJ : sJ n t T W A R G) (x : Int32) : bthI T W CX4_force CX5_force [.int x] A R G := by
  have hG := hJ.gs
  have hT := hJ.T6
  have hT1 := hJ.2.2.1.1
  have e1 : A 0 5 - 1 = nI (T - 1) := by rw [hJ.tX]; exact pk_sub (a := T) (b := 1) hT1
  have e2 : A 48 11 - 1 = nI (T - 1) := by rw [hJ.tM]; exact pk_sub (a := T) (b := 1) hT1
  by_cases h1 : 0 ≤ x ∧ x ≤ nI (T - 1)
  case neg => exact qry0 hJ _ (aC_of (Nat.le_of_ble_eq_true rfl) fun E hE => sX4_force_0 hG _ (by rw [e1]; exact br_f h1 hE)) (aC_of (Nat.le_of_ble_eq_true rfl) fun E hE => sX5_force_0 hG _ (by rw [e2]; exact br_f h1 hE))
  obtain ⟨k, hk, rfl⟩ := rngI (T - 1) (by omega) h1
  have hkT : k < T := by omega
  have h1a : ∀ j, ¬ j = 13 → au (au A 1 13 (nI k)) 48 12 (nI k) 1 j = A 1 j := fun j hj => by rw [au_o (by omega), au_j hj]
  have h48 : ∀ j, ¬ j = 12 → au (au A 1 13 (nI k)) 48 12 (nI k) 48 j = A 48 j := fun j hj => by rw [au_j hj, au_o (by omega)]
  have hall : ∀ o, ¬ o = 1 → ¬ o = 48 → au (au A 1 13 (nI k)) 48 12 (nI k) o = A o := fun o ha hb => by rw [au_o hb, au_o ha]
  have hvx : vX (au (au A 1 13 (nI k)) 48 12 (nI k)) 1 = vX A 1 := by
    rw [vX_go (A := au A 1 13 (nI k)) (fun j hj => au_o (by omega))]
    exact vX_no (by omega) (by omega) (by omega) (by omega)
  have hvm : vM (au (au A 1 13 (nI k)) 48 12 (nI k)) = vM A := by
    rw [vM_no (by omega) (by omega) (by omega)]
    exact vM_go (au_o (by omega)) (au_o (by omega)) (au_o (by omega)) (au_o (by omega)) (au_o (by omega))
  have key : sJ n k T W (au (au A 1 13 (nI k)) 48 12 (nI k)) (ar R 1 14 (some (tw k))) G := by
    obtain ⟨a, b, c, d, e, f, g, i⟩ := hJ
    refine ⟨a, hkT, c.go (by rw [hall 0 (by omega) (by omega)]) (h48 11 (by omega)) (hall _ (by omega) (by omega)) (hall _ (by omega) (by omega)) (ar_ne (by omega)) (fun s hs => ⟨hall _ (by unfold tw; omega) (by unfold tw; omega), hall _ (by unfold tw; omega) (by unfold tw; omega)⟩), ?_, ?_, ?_, ?_, i.go (hall _ (by omega) (by omega))⟩
    · refine ⟨d.1, (h1a 9 (by omega)).trans d.2.1, (h48 0 (by omega)).trans d.2.2.1, by rw [hvx]; exact d.2.2.2.1, d.2.2.2.2.1.go (h1a 10 (by omega)) (hall _ (by omega) (by omega)), d.2.2.2.2.2.1.go (h1a 10 (by omega)), by rw [hvx, hvm]; exact d.2.2.2.2.2.2.1, by rw [h1a 11 (by omega)]; exact d.2.2.2.2.2.2.2.1, ?_, au_k, ar_at⟩
      rw [au_o (by omega), au_k]
    · exact e.go (fun o h1 h2 => hall o (by omega) (by omega)) (by rw [hall 0 (by omega) (by omega)]) (h48 13 (by omega)) (hall _ (by omega) (by omega)) (vI_eq (hall _ (by omega) (by omega)) (hall _ (by omega) (by omega)) (hall _ (by omega) (by omega)) (hall _ (by omega) (by omega))) (ar_ne (by omega))
    · exact f.go (by rw [hall 31 (by omega) (by omega)]) (h48 8 (by omega)) (hall _ (by omega) (by omega)) (hall _ (by omega) (by omega))
    · exact g.go (fun o h1 h2 => hall o (by omega) (by omega)) (hall _ (by omega) (by omega)) (hall _ (by omega) (by omega)) (hall _ (by omega) (by omega)) (ar_ne (by omega))
  have e3 : au A 1 13 (nI k) 48 12 = A 1 13 := (aua (by omega)).trans hJ.ln
  refine fin (v := A 1 13) (A1 := au A 1 13 (nI k)) (aC_of (Nat.le_of_ble_eq_true rfl) fun E hE => sX4_force_0 hG _ ?_) (aC_of (Nat.le_of_ble_eq_true rfl) fun E hE => sX5_force_0 hG _ ?_) key
  · rw [e1, nI_clamp (by omega)]
    exact br_t h1 ⟨vp_in_nI (by omega) (by omega), tw k, hJ.txt hkT, _, qX0_obey (gB1 hG) _ _, sX4_force_39 _ _ hE⟩
  · rw [au_o (by omega), e2]
    exact br_t h1 (aE_e hE (hJ.ln))
end MB
