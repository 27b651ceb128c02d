set_option maxRecDepth 100000 in
set_option maxHeartbeats 4000000 in
theorem sX0_obey_0 {E : aR} {A : Nat → Nat → Int32} {R : Nat → Nat → Option Nat} {G : Nat → Nat × Nat} {b : Nat} (hb : aGb G b) (x1 : Nat) (x2 : Int32)
    (h : E none ((au A b 13 x2), (ar R b 14 (some x1)), G)) :
    aw tX0_obey E 0 [some (.ref b), some (.ref x1), some (.int x2)] [] (A, R, G) := by
  exact ⟨9, And.intro (gb0 hb) (And.intro (gb0 hb) (h))⟩

set_option maxRecDepth 100000 in
set_option maxHeartbeats 4000000 in
theorem sX0_become_0 {E : aR} {A : Nat → Nat → Int32} {R : Nat → Nat → Option Nat} {G : Nat → Nat × Nat} {b : Nat} {x1 : Nat} (hb : aGb G b) (hx1 : aGb G x1)
    (h : aw tX0_become E 15 [some (.ref b), some (.ref x1)] [] ((ap A (b + 1) (va_cpy (A (x1 + 1)) (A (b + 1)) (0 : Int32).toNatClampNeg (0 : Int32).toNatClampNeg (6 : Int32).toNatClampNeg)), R, G)) :
    aw tX0_become E 0 [some (.ref b), some (.ref x1)] [] (A, R, G) := by
  obtain ⟨n, h⟩ := h
  exact ⟨n + 8, And.intro (gb0 hx1) (And.intro (gb0 hb) (And.intro (Nat.le_of_ble_eq_true rfl) (And.intro (gb1 hx1) (And.intro (gb1 hb) (And.intro (by decide) (And.intro (by decide) (And.intro (by decide) (And.intro (le_len (gbl1 hx1) (by decide)) (And.intro (le_len (gbl1 hb) (by decide)) (h))))))))))⟩

set_option maxRecDepth 100000 in
set_option maxHeartbeats 4000000 in
theorem sX0_become_15 {E : aR} {A : Nat → Nat → Int32} {R : Nat → Nat → Option Nat} {G : Nat → Nat × Nat} {b : Nat} {x1 : Nat} (hb : aGb G b) (hx1 : aGb G x1)
    (h : aw tX0_become E 30 [some (.ref b), some (.ref x1)] [] ((ap A (b + 2) (va_cpy (A (x1 + 2)) (A (b + 2)) (0 : Int32).toNatClampNeg (0 : Int32).toNatClampNeg (6 : Int32).toNatClampNeg)), R, G)) :
    aw tX0_become E 15 [some (.ref b), some (.ref x1)] [] (A, R, G) := by
  obtain ⟨n, h⟩ := h
  exact ⟨n + 8, And.intro (gb0 hx1) (And.intro (gb0 hb) (And.intro (Nat.le_of_ble_eq_true rfl) (And.intro (gb2 hx1) (And.intro (gb2 hb) (And.intro (by decide) (And.intro (by decide) (And.intro (by decide) (And.intro (le_len (gbl2 hx1) (by decide)) (And.intro (le_len (gbl2 hb) (by decide)) (h))))))))))⟩

set_option maxRecDepth 100000 in
set_option maxHeartbeats 4000000 in
theorem sX0_become_30 {E : aR} {A : Nat → Nat → Int32} {R : Nat → Nat → Option Nat} {G : Nat → Nat × Nat} {b : Nat} {x1 : Nat} (hb : aGb G b) (hx1 : aGb G x1)
    (h : aw tX0_become E 45 [some (.ref b), some (.ref x1)] [] ((ap A (b + 3) (va_cpy (A (x1 + 3)) (A (b + 3)) (0 : Int32).toNatClampNeg (0 : Int32).toNatClampNeg (6 : Int32).toNatClampNeg)), R, G)) :
    aw tX0_become E 30 [some (.ref b), some (.ref x1)] [] (A, R, G) := by
  obtain ⟨n, h⟩ := h
  exact ⟨n + 8, And.intro (gb0 hx1) (And.intro (gb0 hb) (And.intro (Nat.le_of_ble_eq_true rfl) (And.intro (gb3 hx1) (And.intro (gb3 hb) (And.intro (by decide) (And.intro (by decide) (And.intro (by decide) (And.intro (le_len (gbl3 hx1) (by decide)) (And.intro (le_len (gbl3 hb) (by decide)) (h))))))))))⟩

set_option maxRecDepth 100000 in
set_option maxHeartbeats 4000000 in
theorem sX0_become_45 {E : aR} {A : Nat → Nat → Int32} {R : Nat → Nat → Option Nat} {G : Nat → Nat × Nat} {b : Nat} {x1 : Nat} (hb : aGb G b) (hx1 : aGb G x1)
    (h : aw tX0_become E 60 [some (.ref b), some (.ref x1)] [] ((ap A (b + 4) (va_cpy (A (x1 + 4)) (A (b + 4)) (0 : Int32).toNatClampNeg (0 : Int32).toNatClampNeg (6 : Int32).toNatClampNeg)), R, G)) :
    aw tX0_become E 45 [some (.ref b), some (.ref x1)] [] (A, R, G) := by
  obtain ⟨n, h⟩ := h
  exact ⟨n + 8, And.intro (gb0 hx1) (And.intro (gb0 hb) (And.intro (Nat.le_of_ble_eq_true rfl) (And.intro (gb4 hx1) (And.intro (gb4 hb) (And.intro (by decide) (And.intro (by decide) (And.intro (by decide) (And.intro (le_len (gbl4 hx1) (by decide)) (And.intro (le_len (gbl4 hb) (by decide)) (h))))))))))⟩

set_option maxRecDepth 100000 in
set_option maxHeartbeats 4000000 in
theorem sX0_become_60 {E : aR} {A : Nat → Nat → Int32} {R : Nat → Nat → Option Nat} {G : Nat → Nat × Nat} {b : Nat} {x1 : Nat} (hb : aGb G b) (hx1 : aGb G x1)
    (h : aw tX0_become E 75 [some (.ref b), some (.ref x1)] [] ((ap A (b + 5) (va_cpy (A (x1 + 5)) (A (b + 5)) (0 : Int32).toNatClampNeg (0 : Int32).toNatClampNeg (6 : Int32).toNatClampNeg)), R, G)) :
    aw tX0_become E 60 [some (.ref b), some (.ref x1)] [] (A, R, G) := by
  obtain ⟨n, h⟩ := h
  exact ⟨n + 8, And.intro (gb0 hx1) (And.intro (gb0 hb) (And.intro (Nat.le_of_ble_eq_true rfl) (And.intro (gb5 hx1) (And.intro (gb5 hb) (And.intro (by decide) (And.intro (by decide) (And.intro (by decide) (And.intro (le_len (gbl5 hx1) (by decide)) (And.intro (le_len (gbl5 hb) (by decide)) (h))))))))))⟩

set_option maxRecDepth 100000 in
set_option maxHeartbeats 4000000 in
theorem sX0_become_75 {E : aR} {A : Nat → Nat → Int32} {R : Nat → Nat → Option Nat} {G : Nat → Nat × Nat} {b : Nat} {x1 : Nat} (hb : aGb G b) (hx1 : aGb G x1)
    (h : aw tX0_become E 90 [some (.ref b), some (.ref x1)] [] ((ap A (b + 6) (va_cpy (A (x1 + 6)) (A (b + 6)) (0 : Int32).toNatClampNeg (0 : Int32).toNatClampNeg (8 : Int32).toNatClampNeg)), R, G)) :
    aw tX0_become E 75 [some (.ref b), some (.ref x1)] [] (A, R, G) := by
  obtain ⟨n, h⟩ := h
  exact ⟨n + 8, And.intro (gb0 hx1) (And.intro (gb0 hb) (And.intro (Nat.le_of_ble_eq_true rfl) (And.intro (gb6 hx1) (And.intro (gb6 hb) (And.intro (by decide) (And.intro (by decide) (And.intro (by decide) (And.intro (le_len (gbl6 hx1) (by decide)) (And.intro (le_len (gbl6 hb) (by decide)) (h))))))))))⟩

set_option maxRecDepth 100000 in
set_option maxHeartbeats 4000000 in
theorem sX0_become_90 {E : aR} {A : Nat → Nat → Int32} {R : Nat → Nat → Option Nat} {G : Nat → Nat × Nat} {b : Nat} {x1 : Nat} (hb : aGb G b) (hx1 : aGb G x1)
    (h : aw tX0_become E 105 [some (.ref b), some (.ref x1)] [] ((ap A (b + 7) (va_cpy (A (x1 + 7)) (A (b + 7)) (0 : Int32).toNatClampNeg (0 : Int32).toNatClampNeg (8 : Int32).toNatClampNeg)), R, G)) :
    aw tX0_become E 90 [some (.ref b), some (.ref x1)] [] (A, R, G) := by
  obtain ⟨n, h⟩ := h
  exact ⟨n + 8, And.intro (gb0 hx1) (And.intro (gb0 hb) (And.intro (Nat.le_of_ble_eq_true rfl) (And.intro (gb7 hx1) (And.intro (gb7 hb) (And.intro (by decide) (And.intro (by decide) (And.intro (by decide) (And.intro (le_len (gbl7 hx1) (by decide)) (And.intro (le_len (gbl7 hb) (by decide)) (h))))))))))⟩

set_option maxRecDepth 100000 in
set_option maxHeartbeats 4000000 in
theorem sX0_become_105 {E : aR} {A : Nat → Nat → Int32} {R : Nat → Nat → Option Nat} {G : Nat → Nat × Nat} {b : Nat} {x1 : Nat} (hb : aGb G b) (hx1 : aGb G x1)
    (h : aw tX0_become E 120 [some (.ref b), some (.ref x1)] [] ((ap A (b + 8) (va_cpy (A (x1 + 8)) (A (b + 8)) (0 : Int32).toNatClampNeg (0 : Int32).toNatClampNeg (8 : Int32).toNatClampNeg)), R, G)) :
    aw tX0_become E 105 [some (.ref b), some (.ref x1)] [] (A, R, G) := by
  obtain ⟨n, h⟩ := h
  exact ⟨n + 8, And.intro (gb0 hx1) (And.intro (gb0 hb) (And.intro (Nat.le_of_ble_eq_true rfl) (And.intro (gb8 hx1) (And.intro (gb8 hb) (And.intro (by decide) (And.intro (by decide) (And.intro (by decide) (And.intro (le_len (gbl8 hx1) (by decide)) (And.intro (le_len (gbl8 hb) (by decide)) (h))))))))))⟩

set_option maxRecDepth 100000 in
set_option maxHeartbeats 4000000 in
theorem sX0_become_120 {E : aR} {A : Nat → Nat → Int32} {R : Nat → Nat → Option Nat} {G : Nat → Nat × Nat} {b : Nat} {x1 : Nat} (hb : aGb G b) (hx1 : aGb G x1)
    (h : aw tX0_become E 152 [some (.ref b), some (.ref x1)] [] ((au (au (au (au A b 9 (A x1 9)) b 10 (((au A b 9 (A x1 9))) x1 10)) b 11 (((au (au A b 9 (A x1 9)) b 10 (((au A b 9 (A x1 9))) x1 10))) x1 11)) b 12 (((au (au (au A b 9 (A x1 9)) b 10 (((au A b 9 (A x1 9))) x1 10)) b 11 (((au (au A b 9 (A x1 9)) b 10 (((au A b 9 (A x1 9))) x1 10))) x1 11))) x1 12)), R, G)) :
    aw tX0_become E 120 [some (.ref b), some (.ref x1)] [] (A, R, G) := by
  obtain ⟨n, h⟩ := h
  exact ⟨n + 16, And.intro (gb0 hx1) (And.intro (gb0 hb) (And.intro (gb0 hx1) (And.intro (gb0 hb) (And.intro (gb0 hx1) (And.intro (gb0 hb) (And.intro (gb0 hx1) (And.intro (gb0 hb) (h))))))))⟩

set_option maxRecDepth 100000 in
set_option maxHeartbeats 4000000 in
theorem sX0_become_152 {E : aR} {A : Nat → Nat → Int32} {R : Nat → Nat → Option Nat} {G : Nat → Nat × Nat} {b : Nat} {x1 : Nat} (hb : aGb G b) (hx1 : aGb G x1)
    (h : ∃ w1 : Nat, (R x1 14 = some w1) ∧ (E none ((au A b 13 (A x1 13)), (ar R b 14 (some w1)), G))) :
    aw tX0_become E 152 [some (.ref b), some (.ref x1)] [] (A, R, G) := by
  obtain ⟨w1, e1, h⟩ := h
  exact ⟨9, And.intro (gb0 hx1) (And.intro (gb0 hb) (And.intro (gb0 hx1) (Or.inr (Exists.intro w1 (And.intro e1 (And.intro (gb0 hb) (h)))))))⟩

set_option maxRecDepth 100000 in
set_option maxHeartbeats 4000000 in
theorem sX0_says_0 {E : aR} {A : Nat → Nat → Int32} {R : Nat → Nat → Option Nat} {G : Nat → Nat × Nat} {b : Nat} (hb : aGb G b) (x1 : Int32) (x2 : Int32) (x3 : Int32)
    (h : (vp_in x3 8) ∧ ((vp_in x2 6) ∧ (aw tX0_says E 39 [some (.ref b), some (.int x1), some (.int x2), some (.int x3), none] [] ((au (au (au A (b + 9) 0 (A (b + 7) x3.toNatClampNeg)) (b + 9) 1 (popc ((au A (b + 9) 0 (A (b + 7) x3.toNatClampNeg)) (b + 6) x3.toNatClampNeg))) (b + 9) 2 ((au (au A (b + 9) 0 (A (b + 7) x3.toNatClampNeg)) (b + 9) 1 (popc ((au A (b + 9) 0 (A (b + 7) x3.toNatClampNeg)) (b + 6) x3.toNatClampNeg))) (b + 4) x2.toNatClampNeg)), R, G)))) :
    aw tX0_says E 0 [some (.ref b), some (.int x1), some (.int x2), some (.int x3), none] [] (A, R, G) := by
  obtain ⟨q1, h⟩ := h
  obtain ⟨q2, h⟩ := h
  obtain ⟨n, h⟩ := h
  exact ⟨n + 25, And.intro (gb0 hb) (And.intro (gb0 hb) (And.intro (gb7 hb) (And.intro (vin_len (gbl7 hb) q1) (And.intro (gb9 hb) (And.intro (vin_len (gbl9 hb) (by unfold vp_in; decide)) (And.intro (gb0 hb) (And.intro (gb0 hb) (And.intro (gb6 hb) (And.intro (vin_len (gbl6 hb) q1) (Exists.intro _ (Exists.intro _ (And.intro (Nat.le_of_ble_eq_true rfl) (And.intro (Nat.le_of_ble_eq_true rfl) (And.intro (pJ6_bitCount _) (And.intro (gb9 hb) (And.intro (vin_len (gbl9 hb) (by unfold vp_in; decide)) (And.intro (gb0 hb) (And.intro (gb0 hb) (And.intro (gb4 hb) (And.intro (vin_len (gbl4 hb) q2) (And.intro (gb9 hb) (And.intro (vin_len (gbl9 hb) (by unfold vp_in; decide)) (h)))))))))))))))))))))))⟩

set_option maxRecDepth 100000 in
set_option maxHeartbeats 4000000 in
theorem sX0_says_39 {E : aR} {A : Nat → Nat → Int32} {R : Nat → Nat → Option Nat} {G : Nat → Nat × Nat} {b : Nat} (hb : aGb G b) (x1 : Int32) (x2 : Int32) (d3 : Option Value) (d4 : Option Value)
    (h : (vp_in x2 6) ∧ (aw tX0_says E 76 [some (.ref b), some (.int x1), some (.int x2), d3, d4] [] ((au (au (au A (b + 9) 3 (popc (A (b + 3) x2.toNatClampNeg))) (b + 9) 4 (((au A (b + 9) 3 (popc (A (b + 3) x2.toNatClampNeg)))) b 11)) (b + 9) 5 ((au (au A (b + 9) 3 (popc (A (b + 3) x2.toNatClampNeg))) (b + 9) 4 (((au A (b + 9) 3 (popc (A (b + 3) x2.toNatClampNeg)))) b 11)) (b + 2) x2.toNatClampNeg)), R, G))) :
    aw tX0_says E 39 [some (.ref b), some (.int x1), some (.int x2), d3, d4] [] (A, R, G) := by
  obtain ⟨q1, h⟩ := h
  obtain ⟨n, h⟩ := h
  exact ⟨n + 23, And.intro (gb0 hb) (And.intro (gb0 hb) (And.intro (gb3 hb) (And.intro (vin_len (gbl3 hb) q1) (Exists.intro _ (Exists.intro _ (And.intro (Nat.le_of_ble_eq_true rfl) (And.intro (Nat.le_of_ble_eq_true rfl) (And.intro (pJ6_bitCount _) (And.intro (gb9 hb) (And.intro (vin_len (gbl9 hb) (by unfold vp_in; decide)) (And.intro (gb0 hb) (And.intro (gb0 hb) (And.intro (gb9 hb) (And.intro (vin_len (gbl9 hb) (by unfold vp_in; decide)) (And.intro (gb0 hb) (And.intro (gb0 hb) (And.intro (gb2 hb) (And.intro (vin_len (gbl2 hb) q1) (And.intro (gb9 hb) (And.intro (vin_len (gbl9 hb) (by unfold vp_in; decide)) (h)))))))))))))))))))))⟩

set_option maxRecDepth 100000 in
set_option maxHeartbeats 4000000 in
theorem sX0_says_76 {E : aR} {A : Nat → Nat → Int32} {R : Nat → Nat → Option Nat} {G : Nat → Nat × Nat} {b : Nat} (hb : aGb G b) (x1 : Int32) (d2 : Option Value) (d3 : Option Value) (d4 : Option Value)
    (h : ((x1 = 2) → (∃ w2 : Nat, (R b 14 = some w2) ∧ (((G w2).1 = 3 + 4) ∧ (∃ (v1 : Int32) (μ1 : aM), CX3_valueOf [.ref w2, .int x1, .ref (b + 9)] (A, R, G) (some (.int v1)) μ1 ∧ aw tX0_says E 105 [some (.ref b), some (.int x1), d2, (bif ac2 d3 then none else d3), some (.int (-99))] [.int v1, .int 99, .int (-99)] μ1)))) ∧ ((¬ (x1 = 2)) → (∃ w4 : Nat, (R b 14 = some w4) ∧ (((G w4).1 = 3 + 4) ∧ (∃ (v1 : Int32) (μ1 : aM), CX3_valueOf [.ref w4, .int x1, .ref (b + 9)] (A, R, G) (some (.int v1)) μ1 ∧ aw tX0_says E 105 [some (.ref b), some (.int x1), d2, (bif ac2 d3 then none else d3), some (.int 0)] [.int v1, .int 99, .int 0] μ1))))) :
    aw tX0_says E 76 [some (.ref b), some (.int x1), d2, d3, d4] [] (A, R, G) := by
  by_cases c1 : x1 = 2
  · replace h := h.1 c1
    obtain ⟨w2, e2, h⟩ := h
    obtain ⟨q3, h⟩ := h
    obtain ⟨v1, μ1, h1, n, h⟩ := h
    exact ⟨n + 14, Or.inr (And.intro (fun z => z c1) (And.intro (gb0 hb) (Or.inr (Exists.intro w2 (And.intro e2 (And.intro (gb0 hb) (Exists.intro _ (Exists.intro _ (Exists.intro _ (Exists.intro _ (And.intro rfl (And.intro q3 (And.intro (Nat.le_of_ble_eq_true rfl) (And.intro h1 (h)))))))))))))))⟩
  · replace h := h.2 c1
    obtain ⟨w4, e4, h⟩ := h
    obtain ⟨q5, h⟩ := h
    obtain ⟨v1, μ1, h1, n, h⟩ := h
    exact ⟨n + 13, Or.inl (And.intro c1 (And.intro (gb0 hb) (Or.inr (Exists.intro w4 (And.intro e4 (And.intro (gb0 hb) (Exists.intro _ (Exists.intro _ (Exists.intro _ (Exists.intro _ (And.intro rfl (And.intro q5 (And.intro (Nat.le_of_ble_eq_true rfl) (And.intro h1 (h)))))))))))))))⟩

set_option maxRecDepth 100000 in
set_option maxHeartbeats 4000000 in
theorem sX0_says_105 {E : aR} {A : Nat → Nat → Int32} {R : Nat → Nat → Option Nat} {G : Nat → Nat × Nat} {b : Nat} (hb : aGb G b) (d1 : Option Value) (d2 : Option Value) (d3 : Option Value) (d4 : Option Value) (y0 : Int32) (y1 : Int32) (y2 : Int32)
    (h : E (some (.int (if y2 < (if y0 < y1 then y0 else y1) then (if y0 < y1 then y0 else y1) else y2))) (A, R, G)) :
    aw tX0_says E 105 [some (.ref b), d1, d2, d3, d4] [.int y0, .int y1, .int y2] (A, R, G) := by
  exact ⟨3, And.intro (Nat.le_of_ble_eq_true rfl) (And.intro (Nat.le_of_ble_eq_true rfl) (h))⟩

set_option maxRecDepth 100000 in
set_option maxHeartbeats 4000000 in
theorem sX0_burden_0 {E : aR} {A : Nat → Nat → Int32} {R : Nat → Nat → Option Nat} {G : Nat → Nat × Nat} {b : Nat} (hb : aGb G b) (x1 : Int32) (x2 : Int32)
    (h : (vp_in x2 8) ∧ ((vp_in x1 6) ∧ ((((A (b + 1) x1.toNatClampNeg) = 0) → (aw tX0_burden E 64 [some (.ref b), some (.int x1), some (.int x2), some (.int (popc ((A (b + 6) x2.toNatClampNeg) &&& ((A (b + 3) x1.toNatClampNeg) ^^^ (-1)))))] [] (A, R, G))) ∧ ((¬ ((A (b + 1) x1.toNatClampNeg) = 0)) → ((((A (b + 1) x1.toNatClampNeg) = 1) → (aw tX0_burden E 74 [some (.ref b), some (.int x1), some (.int x2), some (.int (popc ((A (b + 6) x2.toNatClampNeg) &&& ((A (b + 3) x1.toNatClampNeg) ^^^ (-1)))))] [] (A, R, G))) ∧ ((¬ ((A (b + 1) x1.toNatClampNeg) = 1)) → ((((A (b + 1) x1.toNatClampNeg) = 2) → (aw tX0_burden E 85 [some (.ref b), some (.int x1), some (.int x2), some (.int (popc ((A (b + 6) x2.toNatClampNeg) &&& ((A (b + 3) x1.toNatClampNeg) ^^^ (-1)))))] [] (A, R, G))) ∧ ((¬ ((A (b + 1) x1.toNatClampNeg) = 2)) → ((((A (b + 1) x1.toNatClampNeg) = 3) → (aw tX0_burden E 111 [some (.ref b), some (.int x1), some (.int x2), some (.int (popc ((A (b + 6) x2.toNatClampNeg) &&& ((A (b + 3) x1.toNatClampNeg) ^^^ (-1)))))] [] (A, R, G))) ∧ ((¬ ((A (b + 1) x1.toNatClampNeg) = 3)) → ((((A (b + 1) x1.toNatClampNeg) = 4) → (aw tX0_burden E 154 [some (.ref b), some (.int x1), some (.int x2), some (.int (popc ((A (b + 6) x2.toNatClampNeg) &&& ((A (b + 3) x1.toNatClampNeg) ^^^ (-1)))))] [] (A, R, G))) ∧ ((¬ ((A (b + 1) x1.toNatClampNeg) = 4)) → ((((A (b + 1) x1.toNatClampNeg) = 5) → (aw tX0_burden E 180 [some (.ref b), some (.int x1), some (.int x2), some (.int (popc ((A (b + 6) x2.toNatClampNeg) &&& ((A (b + 3) x1.toNatClampNeg) ^^^ (-1)))))] [] (A, R, G))) ∧ ((¬ ((A (b + 1) x1.toNatClampNeg) = 5)) → (aw tX0_burden E 202 [some (.ref b), some (.int x1), some (.int x2), some (.int (popc ((A (b + 6) x2.toNatClampNeg) &&& ((A (b + 3) x1.toNatClampNeg) ^^^ (-1)))))] [] (A, R, G)))))))))))))))) :
    aw tX0_burden E 0 [some (.ref b), some (.int x1), some (.int x2), none] [] (A, R, G) := by
  obtain ⟨q1, h⟩ := h
  obtain ⟨q2, h⟩ := h
  by_cases c3 : (A (b + 1) x1.toNatClampNeg) = 0
  · replace h := h.1 c3
    obtain ⟨n, h⟩ := h
    exact ⟨n + 18, And.intro (gb0 hb) (And.intro (gb6 hb) (And.intro (vin_len (gbl6 hb) q1) (And.intro (gb0 hb) (And.intro (gb3 hb) (And.intro (vin_len (gbl3 hb) q2) (Exists.intro _ (Exists.intro _ (And.intro (Nat.le_of_ble_eq_true rfl) (And.intro (Nat.le_of_ble_eq_true rfl) (And.intro (pJ6_bitCount _) (And.intro (gb0 hb) (And.intro (gb1 hb) (And.intro (vin_len (gbl1 hb) q2) (Or.inl (And.intro c3 (h))))))))))))))))⟩
  · replace h := h.2 c3
    by_cases c4 : (A (b + 1) x1.toNatClampNeg) = 1
    · replace h := h.1 c4
      obtain ⟨n, h⟩ := h
      exact ⟨n + 18, And.intro (gb0 hb) (And.intro (gb6 hb) (And.intro (vin_len (gbl6 hb) q1) (And.intro (gb0 hb) (And.intro (gb3 hb) (And.intro (vin_len (gbl3 hb) q2) (Exists.intro _ (Exists.intro _ (And.intro (Nat.le_of_ble_eq_true rfl) (And.intro (Nat.le_of_ble_eq_true rfl) (And.intro (pJ6_bitCount _) (And.intro (gb0 hb) (And.intro (gb1 hb) (And.intro (vin_len (gbl1 hb) q2) (Or.inr (And.intro c3 (Or.inl (And.intro c4 (h))))))))))))))))))⟩
    · replace h := h.2 c4
      by_cases c5 : (A (b + 1) x1.toNatClampNeg) = 2
      · replace h := h.1 c5
        obtain ⟨n, h⟩ := h
        exact ⟨n + 18, And.intro (gb0 hb) (And.intro (gb6 hb) (And.intro (vin_len (gbl6 hb) q1) (And.intro (gb0 hb) (And.intro (gb3 hb) (And.intro (vin_len (gbl3 hb) q2) (Exists.intro _ (Exists.intro _ (And.intro (Nat.le_of_ble_eq_true rfl) (And.intro (Nat.le_of_ble_eq_true rfl) (And.intro (pJ6_bitCount _) (And.intro (gb0 hb) (And.intro (gb1 hb) (And.intro (vin_len (gbl1 hb) q2) (Or.inr (And.intro c3 (Or.inr (And.intro c4 (Or.inl (And.intro c5 (h))))))))))))))))))))⟩
      · replace h := h.2 c5
        by_cases c6 : (A (b + 1) x1.toNatClampNeg) = 3
        · replace h := h.1 c6
          obtain ⟨n, h⟩ := h
          exact ⟨n + 18, And.intro (gb0 hb) (And.intro (gb6 hb) (And.intro (vin_len (gbl6 hb) q1) (And.intro (gb0 hb) (And.intro (gb3 hb) (And.intro (vin_len (gbl3 hb) q2) (Exists.intro _ (Exists.intro _ (And.intro (Nat.le_of_ble_eq_true rfl) (And.intro (Nat.le_of_ble_eq_true rfl) (And.intro (pJ6_bitCount _) (And.intro (gb0 hb) (And.intro (gb1 hb) (And.intro (vin_len (gbl1 hb) q2) (Or.inr (And.intro c3 (Or.inr (And.intro c4 (Or.inr (And.intro c5 (Or.inl (And.intro c6 (h))))))))))))))))))))))⟩
        · replace h := h.2 c6
          by_cases c7 : (A (b + 1) x1.toNatClampNeg) = 4
          · replace h := h.1 c7
            obtain ⟨n, h⟩ := h
            exact ⟨n + 18, And.intro (gb0 hb) (And.intro (gb6 hb) (And.intro (vin_len (gbl6 hb) q1) (And.intro (gb0 hb) (And.intro (gb3 hb) (And.intro (vin_len (gbl3 hb) q2) (Exists.intro _ (Exists.intro _ (And.intro (Nat.le_of_ble_eq_true rfl) (And.intro (Nat.le_of_ble_eq_true rfl) (And.intro (pJ6_bitCount _) (And.intro (gb0 hb) (And.intro (gb1 hb) (And.intro (vin_len (gbl1 hb) q2) (Or.inr (And.intro c3 (Or.inr (And.intro c4 (Or.inr (And.intro c5 (Or.inr (And.intro c6 (Or.inl (And.intro c7 (h))))))))))))))))))))))))⟩
          · replace h := h.2 c7
            by_cases c8 : (A (b + 1) x1.toNatClampNeg) = 5
            · replace h := h.1 c8
              obtain ⟨n, h⟩ := h
              exact ⟨n + 18, And.intro (gb0 hb) (And.intro (gb6 hb) (And.intro (vin_len (gbl6 hb) q1) (And.intro (gb0 hb) (And.intro (gb3 hb) (And.intro (vin_len (gbl3 hb) q2) (Exists.intro _ (Exists.intro _ (And.intro (Nat.le_of_ble_eq_true rfl) (And.intro (Nat.le_of_ble_eq_true rfl) (And.intro (pJ6_bitCount _) (And.intro (gb0 hb) (And.intro (gb1 hb) (And.intro (vin_len (gbl1 hb) q2) (Or.inr (And.intro c3 (Or.inr (And.intro c4 (Or.inr (And.intro c5 (Or.inr (And.intro c6 (Or.inr (And.intro c7 (Or.inl (And.intro c8 (h))))))))))))))))))))))))))⟩
            · replace h := h.2 c8
              obtain ⟨n, h⟩ := h
              exact ⟨n + 18, And.intro (gb0 hb) (And.intro (gb6 hb) (And.intro (vin_len (gbl6 hb) q1) (And.intro (gb0 hb) (And.intro (gb3 hb) (And.intro (vin_len (gbl3 hb) q2) (Exists.intro _ (Exists.intro _ (And.intro (Nat.le_of_ble_eq_true rfl) (And.intro (Nat.le_of_ble_eq_true rfl) (And.intro (pJ6_bitCount _) (And.intro (gb0 hb) (And.intro (gb1 hb) (And.intro (vin_len (gbl1 hb) q2) (Or.inr (And.intro c3 (Or.inr (And.intro c4 (Or.inr (And.intro c5 (Or.inr (And.intro c6 (Or.inr (And.intro c7 (Or.inr (And.intro c8 (h))))))))))))))))))))))))))⟩

set_option maxRecDepth 100000 in
set_option maxHeartbeats 4000000 in
theorem sX0_burden_64 {E : aR} {A : Nat → Nat → Int32} {R : Nat → Nat → Option Nat} {G : Nat → Nat × Nat} {b : Nat} (hb : aGb G b) (d1 : Option Value) (d2 : Option Value) (x3 : Int32)
    (h : ((x3 = 0) → (E (some (.int 1)) (A, R, G))) ∧ ((¬ (x3 = 0)) → (E (some (.int (-1))) (A, R, G)))) :
    aw tX0_burden E 64 [some (.ref b), d1, d2, some (.int x3)] [] (A, R, G) := by
  by_cases c1 : x3 = 0
  · replace h := h.1 c1
    exact ⟨5, Or.inr (And.intro (fun z => z c1) (h))⟩
  · replace h := h.2 c1
    exact ⟨4, Or.inl (And.intro c1 (h))⟩

set_option maxRecDepth 100000 in
set_option maxHeartbeats 4000000 in
theorem sX0_burden_74 {E : aR} {A : Nat → Nat → Int32} {R : Nat → Nat → Option Nat} {G : Nat → Nat × Nat} {b : Nat} (hb : aGb G b) (d1 : Option Value) (d2 : Option Value) (x3 : Int32)
    (h : ((1 < x3) → (E (some (.int (-1))) (A, R, G))) ∧ ((¬ (1 < x3)) → (E (some (.int 1)) (A, R, G)))) :
    aw tX0_burden E 74 [some (.ref b), d1, d2, some (.int x3)] [] (A, R, G) := by
  by_cases c1 : 1 < x3
  · replace h := h.1 c1
    exact ⟨5, Or.inl (And.intro c1 (h))⟩
  · replace h := h.2 c1
    exact ⟨6, Or.inr (And.intro c1 (h))⟩

set_option maxRecDepth 100000 in
set_option maxHeartbeats 4000000 in
theorem sX0_burden_85 {E : aR} {A : Nat → Nat → Int32} {R : Nat → Nat → Option Nat} {G : Nat → Nat × Nat} {b : Nat} (hb : aGb G b) (x1 : Int32) (d2 : Option Value) (x3 : Int32)
    (h : ((x3 = 0) → ((vp_in x1 6) ∧ (((((A b 11) - (A b 11) / 10 * 10) < (A (b + 2) x1.toNatClampNeg)) → (E (some (.int (-1))) (A, R, G))) ∧ ((¬ (((A b 11) - (A b 11) / 10 * 10) < (A (b + 2) x1.toNatClampNeg))) → (E (some (.int 1)) (A, R, G)))))) ∧ ((¬ (x3 = 0)) → (E (some (.int (-1))) (A, R, G)))) :
    aw tX0_burden E 85 [some (.ref b), some (.int x1), d2, some (.int x3)] [] (A, R, G) := by
  by_cases c1 : x3 = 0
  · replace h := h.1 c1
    obtain ⟨q2, h⟩ := h
    by_cases c3 : ((A b 11) - (A b 11) / 10 * 10) < (A (b + 2) x1.toNatClampNeg)
    · replace h := h.1 c3
      exact ⟨13, Or.inr (And.intro (fun z => z c1) (And.intro (gb0 hb) (And.intro (by decide) (And.intro (gb0 hb) (And.intro (gb2 hb) (And.intro (vin_len (gbl2 hb) q2) (Or.inl (And.intro c3 (h)))))))))⟩
    · replace h := h.2 c3
      exact ⟨14, Or.inr (And.intro (fun z => z c1) (And.intro (gb0 hb) (And.intro (by decide) (And.intro (gb0 hb) (And.intro (gb2 hb) (And.intro (vin_len (gbl2 hb) q2) (Or.inr (And.intro c3 (h)))))))))⟩
  · replace h := h.2 c1
    exact ⟨4, Or.inl (And.intro c1 (h))⟩

set_option maxRecDepth 100000 in
set_option maxHeartbeats 4000000 in
theorem sX0_burden_111 {E : aR} {A : Nat → Nat → Int32} {R : Nat → Nat → Option Nat} {G : Nat → Nat × Nat} {b : Nat} (hb : aGb G b) (x1 : Int32) (x2 : Int32) (x3 : Int32)
    (h : (vp_in x2 8) ∧ ((vp_in x1 6) ∧ ((((A (b + 6) x2.toNatClampNeg) = (1 <<< ((A (b + 2) x1.toNatClampNeg) &&& 31))) → (E (some (.int 0)) (A, R, G))) ∧ ((¬ ((A (b + 6) x2.toNatClampNeg) = (1 <<< ((A (b + 2) x1.toNatClampNeg) &&& 31)))) → (((1 < x3) → (E (some (.int (-1))) (A, R, G))) ∧ ((¬ (1 < x3)) → ((((popc (A (b + 6) x2.toNatClampNeg)) < 3) → (E (some (.int (-1))) (A, R, G))) ∧ ((¬ ((popc (A (b + 6) x2.toNatClampNeg)) < 3)) → (E (some (.int 1)) (A, R, G)))))))))) :
    aw tX0_burden E 111 [some (.ref b), some (.int x1), some (.int x2), some (.int x3)] [] (A, R, G) := by
  obtain ⟨q1, h⟩ := h
  obtain ⟨q2, h⟩ := h
  by_cases c3 : (A (b + 6) x2.toNatClampNeg) = (1 <<< ((A (b + 2) x1.toNatClampNeg) &&& 31))
  · replace h := h.1 c3
    exact ⟨13, And.intro (gb0 hb) (And.intro (gb6 hb) (And.intro (vin_len (gbl6 hb) q1) (And.intro (gb0 hb) (And.intro (gb2 hb) (And.intro (vin_len (gbl2 hb) q2) (Or.inr (And.intro (fun z => z c3) (h))))))))⟩
  · replace h := h.2 c3
    by_cases c4 : 1 < x3
    · replace h := h.1 c4
      exact ⟨16, And.intro (gb0 hb) (And.intro (gb6 hb) (And.intro (vin_len (gbl6 hb) q1) (And.intro (gb0 hb) (And.intro (gb2 hb) (And.intro (vin_len (gbl2 hb) q2) (Or.inl (And.intro c3 (Or.inl (And.intro c4 (h))))))))))⟩
    · replace h := h.2 c4
      by_cases c5 : (popc (A (b + 6) x2.toNatClampNeg)) < 3
      · replace h := h.1 c5
        exact ⟨23, And.intro (gb0 hb) (And.intro (gb6 hb) (And.intro (vin_len (gbl6 hb) q1) (And.intro (gb0 hb) (And.intro (gb2 hb) (And.intro (vin_len (gbl2 hb) q2) (Or.inl (And.intro c3 (Or.inr (And.intro c4 (And.intro (gb0 hb) (And.intro (gb6 hb) (And.intro (vin_len (gbl6 hb) q1) (Exists.intro _ (Exists.intro _ (And.intro (Nat.le_of_ble_eq_true rfl) (And.intro (Nat.le_of_ble_eq_true rfl) (And.intro (pJ6_bitCount _) (Or.inl (And.intro c5 (h))))))))))))))))))))⟩
      · replace h := h.2 c5
        exact ⟨24, And.intro (gb0 hb) (And.intro (gb6 hb) (And.intro (vin_len (gbl6 hb) q1) (And.intro (gb0 hb) (And.intro (gb2 hb) (And.intro (vin_len (gbl2 hb) q2) (Or.inl (And.intro c3 (Or.inr (And.intro c4 (And.intro (gb0 hb) (And.intro (gb6 hb) (And.intro (vin_len (gbl6 hb) q1) (Exists.intro _ (Exists.intro _ (And.intro (Nat.le_of_ble_eq_true rfl) (And.intro (Nat.le_of_ble_eq_true rfl) (And.intro (pJ6_bitCount _) (Or.inr (And.intro c5 (h))))))))))))))))))))⟩

set_option maxRecDepth 100000 in
set_option maxHeartbeats 4000000 in
theorem sX0_burden_154 {E : aR} {A : Nat → Nat → Int32} {R : Nat → Nat → Option Nat} {G : Nat → Nat × Nat} {b : Nat} (hb : aGb G b) (x1 : Int32) (d2 : Option Value) (x3 : Int32)
    (h : ((x3 = 0) → ((vp_in x1 6) ∧ (((((A b 11) - (A b 11) / 10 * 10) < (A (b + 2) x1.toNatClampNeg)) → (E (some (.int (-1))) (A, R, G))) ∧ ((¬ (((A b 11) - (A b 11) / 10 * 10) < (A (b + 2) x1.toNatClampNeg))) → (E (some (.int 2)) (A, R, G)))))) ∧ ((¬ (x3 = 0)) → (E (some (.int (-1))) (A, R, G)))) :
    aw tX0_burden E 154 [some (.ref b), some (.int x1), d2, some (.int x3)] [] (A, R, G) := by
  by_cases c1 : x3 = 0
  · replace h := h.1 c1
    obtain ⟨q2, h⟩ := h
    by_cases c3 : ((A b 11) - (A b 11) / 10 * 10) < (A (b + 2) x1.toNatClampNeg)
    · replace h := h.1 c3
      exact ⟨13, Or.inr (And.intro (fun z => z c1) (And.intro (gb0 hb) (And.intro (by decide) (And.intro (gb0 hb) (And.intro (gb2 hb) (And.intro (vin_len (gbl2 hb) q2) (Or.inl (And.intro c3 (h)))))))))⟩
    · replace h := h.2 c3
      exact ⟨14, Or.inr (And.intro (fun z => z c1) (And.intro (gb0 hb) (And.intro (by decide) (And.intro (gb0 hb) (And.intro (gb2 hb) (And.intro (vin_len (gbl2 hb) q2) (Or.inr (And.intro c3 (h)))))))))⟩
  · replace h := h.2 c1
    exact ⟨4, Or.inl (And.intro c1 (h))⟩

set_option maxRecDepth 100000 in
set_option maxHeartbeats 4000000 in
theorem sX0_burden_180 {E : aR} {A : Nat → Nat → Int32} {R : Nat → Nat → Option Nat} {G : Nat → Nat × Nat} {b : Nat} (hb : aGb G b) (x1 : Int32) (d2 : Option Value) (d3 : Option Value)
    (h : (vp_in x1 6) ∧ (((((A b 11) - (A b 11) / 7 * 7) = (A (b + 2) x1.toNatClampNeg)) → (E (some (.int 0)) (A, R, G))) ∧ ((¬ (((A b 11) - (A b 11) / 7 * 7) = (A (b + 2) x1.toNatClampNeg))) → (E (some (.int (-1))) (A, R, G))))) :
    aw tX0_burden E 180 [some (.ref b), some (.int x1), d2, d3] [] (A, R, G) := by
  obtain ⟨q1, h⟩ := h
  by_cases c2 : ((A b 11) - (A b 11) / 7 * 7) = (A (b + 2) x1.toNatClampNeg)
  · replace h := h.1 c2
    exact ⟨12, And.intro (gb0 hb) (And.intro (by decide) (And.intro (gb0 hb) (And.intro (gb2 hb) (And.intro (vin_len (gbl2 hb) q1) (Or.inr (And.intro (fun z => z c2) (h)))))))⟩
  · replace h := h.2 c2
    exact ⟨11, And.intro (gb0 hb) (And.intro (by decide) (And.intro (gb0 hb) (And.intro (gb2 hb) (And.intro (vin_len (gbl2 hb) q1) (Or.inl (And.intro c2 (h)))))))⟩

set_option maxRecDepth 100000 in
set_option maxHeartbeats 4000000 in
theorem sX0_burden_202 {E : aR} {A : Nat → Nat → Int32} {R : Nat → Nat → Option Nat} {G : Nat → Nat × Nat} {b : Nat} (hb : aGb G b) (d1 : Option Value) (d2 : Option Value) (d3 : Option Value)
    (h : E (some (.int (-1))) (A, R, G)) :
    aw tX0_burden E 202 [some (.ref b), d1, d2, d3] [] (A, R, G) := by
  exact ⟨2, h⟩

set_option maxRecDepth 100000 in
set_option maxHeartbeats 4000000 in
theorem sX0_may_0 {E : aR} {A : Nat → Nat → Int32} {R : Nat → Nat → Option Nat} {G : Nat → Nat × Nat} {b : Nat} (hb : aGb G b) (x1 : Int32) (x2 : Int32)
    (h : ∃ (v1 : Int32) (μ1 : aM), CX0_burden [.ref b, .int x1, .int x2] (A, R, G) (some (.int v1)) μ1 ∧ aw tX0_may E 6 [some (.ref b), some (.int x1), some (.int x2), none] [.int v1] μ1) :
    aw tX0_may E 0 [some (.ref b), some (.int x1), some (.int x2), none] [] (A, R, G) := by
  obtain ⟨v1, μ1, h1, n, h⟩ := h
  exact ⟨n + 4, Exists.intro _ (Exists.intro _ (Exists.intro _ (Exists.intro _ (And.intro rfl (And.intro (gb0 hb) (And.intro (Nat.le_of_ble_eq_true rfl) (And.intro h1 (h))))))))⟩

set_option maxRecDepth 100000 in
set_option maxHeartbeats 4000000 in
theorem sX0_may_6 {E : aR} {A : Nat → Nat → Int32} {R : Nat → Nat → Option Nat} {G : Nat → Nat × Nat} {b : Nat} (hb : aGb G b) (x1 : Int32) (x2 : Int32) (d3 : Option Value) (y0 : Int32)
    (h : ((y0 = (-1)) → (E (some (.int 0)) (A, R, G))) ∧ ((¬ (y0 = (-1))) → (((y0 = 0) → (E (some (.int 1)) (A, R, G))) ∧ ((¬ (y0 = 0)) → ((vp_in x1 6) ∧ (∃ (v1 : Int32) (μ1 : aM), CX0_says [.ref b, .int 0, .int x1, .int x2] (A, R, G) (some (.int v1)) μ1 ∧ aw tX0_may E 30 [some (.ref b), some (.int x1), some (.int x2), some (.int y0)] [.int v1, .int y0, .int (A (b + 4) x1.toNatClampNeg)] μ1)))))) :
    aw tX0_may E 6 [some (.ref b), some (.int x1), some (.int x2), d3] [.int y0] (A, R, G) := by
  by_cases c1 : y0 = (-1)
  · replace h := h.1 c1
    exact ⟨6, Or.inl (And.intro c1 (And.intro (Or.inl rfl) (h)))⟩
  · replace h := h.2 c1
    by_cases c2 : y0 = 0
    · replace h := h.1 c2
      exact ⟨9, Or.inr (And.intro c1 (Or.inl (And.intro c2 (And.intro (Or.inr rfl) (h)))))⟩
    · replace h := h.2 c2
      obtain ⟨q3, h⟩ := h
      obtain ⟨v1, μ1, h1, n, h⟩ := h
      exact ⟨n + 16, Or.inr (And.intro c1 (Or.inr (And.intro c2 (And.intro (gb0 hb) (And.intro (gb4 hb) (And.intro (vin_len (gbl4 hb) q3) (Exists.intro _ (Exists.intro _ (Exists.intro _ (Exists.intro _ (And.intro rfl (And.intro (gb0 hb) (And.intro (Nat.le_of_ble_eq_true rfl) (And.intro h1 (h)))))))))))))))⟩

set_option maxRecDepth 100000 in
set_option maxHeartbeats 4000000 in
theorem sX0_may_30 {E : aR} {A : Nat → Nat → Int32} {R : Nat → Nat → Option Nat} {G : Nat → Nat × Nat} {b : Nat} (hb : aGb G b) (d1 : Option Value) (d2 : Option Value) (d3 : Option Value) (y0 : Int32) (y1 : Int32) (y2 : Int32)
    (h : ((y2 < (y1 * y0)) → (E (some (.int 0)) (A, R, G))) ∧ ((¬ (y2 < (y1 * y0))) → (E (some (.int 1)) (A, R, G)))) :
    aw tX0_may E 30 [some (.ref b), d1, d2, d3] [.int y0, .int y1, .int y2] (A, R, G) := by
  by_cases c1 : y2 < (y1 * y0)
  · replace h := h.1 c1
    exact ⟨4, Or.inl (And.intro c1 (And.intro (Or.inl rfl) (h)))⟩
  · replace h := h.2 c1
    exact ⟨5, Or.inr (And.intro c1 (And.intro (Or.inr rfl) (h)))⟩

set_option maxRecDepth 100000 in
set_option maxHeartbeats 4000000 in
theorem sX0_can_0 {E : aR} {A : Nat → Nat → Int32} {R : Nat → Nat → Option Nat} {G : Nat → Nat × Nat} {b : Nat} (hb : aGb G b) (x1 : Int32) (x2 : Int32)
    (h : (vp_in x1 6) ∧ ((((A (b + 5) x1.toNatClampNeg) = 0) → (∃ (v1 : Int32) (μ1 : aM), CX0_may [.ref b, .int x1, .int x2] (A, R, G) (some (.int v1)) μ1 ∧ aw tX0_can E 15 [some (.ref b), some (.int x1), some (.int x2)] [.int v1] μ1)) ∧ ((¬ ((A (b + 5) x1.toNatClampNeg) = 0)) → (E (some (.int 0)) (A, R, G))))) :
    aw tX0_can E 0 [some (.ref b), some (.int x1), some (.int x2)] [] (A, R, G) := by
  obtain ⟨q1, h⟩ := h
  by_cases c2 : (A (b + 5) x1.toNatClampNeg) = 0
  · replace h := h.1 c2
    obtain ⟨v1, μ1, h1, n, h⟩ := h
    exact ⟨n + 9, And.intro (gb0 hb) (And.intro (gb5 hb) (And.intro (vin_len (gbl5 hb) q1) (Or.inr (And.intro (fun z => z c2) (Exists.intro _ (Exists.intro _ (Exists.intro _ (Exists.intro _ (And.intro rfl (And.intro (gb0 hb) (And.intro (Nat.le_of_ble_eq_true rfl) (And.intro h1 (h)))))))))))))⟩
  · replace h := h.2 c2
    exact ⟨7, And.intro (gb0 hb) (And.intro (gb5 hb) (And.intro (vin_len (gbl5 hb) q1) (Or.inl (And.intro c2 (And.intro (Or.inl rfl) (h))))))⟩

set_option maxRecDepth 100000 in
set_option maxHeartbeats 4000000 in
theorem sX0_can_15 {E : aR} {A : Nat → Nat → Int32} {R : Nat → Nat → Option Nat} {G : Nat → Nat × Nat} {b : Nat} (hb : aGb G b) (d1 : Option Value) (d2 : Option Value) (y0 : Int32)
    (h : ((y0 = 0) → (E (some (.int 0)) (A, R, G))) ∧ ((¬ (y0 = 0)) → (E (some (.int 1)) (A, R, G)))) :
    aw tX0_can E 15 [some (.ref b), d1, d2] [.int y0] (A, R, G) := by
  by_cases c1 : y0 = 0
  · replace h := h.1 c1
    exact ⟨3, Or.inl (And.intro c1 (And.intro (Or.inl rfl) (h)))⟩
  · replace h := h.2 c1
    exact ⟨4, Or.inr (And.intro c1 (And.intro (Or.inr rfl) (h)))⟩

set_option maxRecDepth 100000 in
set_option maxHeartbeats 4000000 in
theorem sX0_daysFor_0 {E : aR} {A : Nat → Nat → Int32} {R : Nat → Nat → Option Nat} {G : Nat → Nat × Nat} {b : Nat} (hb : aGb G b) (x1 : Int32) (x2 : Int32)
    (h : ∃ (v1 : Int32) (μ1 : aM), CX0_says [.ref b, .int 1, .int x1, .int x2] (A, R, G) (some (.int v1)) μ1 ∧ aw tX0_daysFor E 7 [some (.ref b), some (.int x1), some (.int x2), none] [.int v1] μ1) :
    aw tX0_daysFor E 0 [some (.ref b), some (.int x1), some (.int x2), none] [] (A, R, G) := by
  obtain ⟨v1, μ1, h1, n, h⟩ := h
  exact ⟨n + 5, Exists.intro _ (Exists.intro _ (Exists.intro _ (Exists.intro _ (And.intro rfl (And.intro (gb0 hb) (And.intro (Nat.le_of_ble_eq_true rfl) (And.intro h1 (h))))))))⟩

set_option maxRecDepth 100000 in
set_option maxHeartbeats 4000000 in
theorem sX0_daysFor_7 {E : aR} {A : Nat → Nat → Int32} {R : Nat → Nat → Option Nat} {G : Nat → Nat × Nat} {b : Nat} (hb : aGb G b) (x1 : Int32) (d2 : Option Value) (d3 : Option Value) (y0 : Int32)
    (h : (vp_in x1 6) ∧ ((((A (b + 1) x1.toNatClampNeg) = 1) → (E (some (.int (if 1 < (y0 + (A (b + 2) x1.toNatClampNeg)) then (y0 + (A (b + 2) x1.toNatClampNeg)) else 1))) (A, R, G))) ∧ ((¬ ((A (b + 1) x1.toNatClampNeg) = 1)) → ((((A (b + 1) x1.toNatClampNeg) = 2) → (E (some (.int (if 1 < y0 then y0 else 1))) (A, R, G))) ∧ ((¬ ((A (b + 1) x1.toNatClampNeg) = 2)) → ((((A (b + 1) x1.toNatClampNeg) = 3) → (E (some (.int (if 1 < (y0 + (A (b + 2) x1.toNatClampNeg)) then (y0 + (A (b + 2) x1.toNatClampNeg)) else 1))) (A, R, G))) ∧ ((¬ ((A (b + 1) x1.toNatClampNeg) = 3)) → ((((A (b + 1) x1.toNatClampNeg) = 4) → (E (some (.int (if 1 < (2 * y0) then (2 * y0) else 1))) (A, R, G))) ∧ ((¬ ((A (b + 1) x1.toNatClampNeg) = 4)) → (E (some (.int (if 1 < y0 then y0 else 1))) (A, R, G))))))))))) :
    aw tX0_daysFor E 7 [some (.ref b), some (.int x1), d2, d3] [.int y0] (A, R, G) := by
  obtain ⟨q1, h⟩ := h
  by_cases c2 : (A (b + 1) x1.toNatClampNeg) = 1
  · replace h := h.1 c2
    exact ⟨15, And.intro (gb0 hb) (And.intro (gb1 hb) (And.intro (vin_len (gbl1 hb) q1) (Or.inl (And.intro c2 (And.intro (gb0 hb) (And.intro (gb2 hb) (And.intro (vin_len (gbl2 hb) q1) (And.intro (Nat.le_of_ble_eq_true rfl) (h)))))))))⟩
  · replace h := h.2 c2
    by_cases c3 : (A (b + 1) x1.toNatClampNeg) = 2
    · replace h := h.1 c3
      exact ⟨10, And.intro (gb0 hb) (And.intro (gb1 hb) (And.intro (vin_len (gbl1 hb) q1) (Or.inr (And.intro c2 (Or.inl (And.intro c3 (And.intro (Nat.le_of_ble_eq_true rfl) (h))))))))⟩
    · replace h := h.2 c3
      by_cases c4 : (A (b + 1) x1.toNatClampNeg) = 3
      · replace h := h.1 c4
        exact ⟨15, And.intro (gb0 hb) (And.intro (gb1 hb) (And.intro (vin_len (gbl1 hb) q1) (Or.inr (And.intro c2 (Or.inr (And.intro c3 (Or.inl (And.intro c4 (And.intro (gb0 hb) (And.intro (gb2 hb) (And.intro (vin_len (gbl2 hb) q1) (And.intro (Nat.le_of_ble_eq_true rfl) (h)))))))))))))⟩
      · replace h := h.2 c4
        by_cases c5 : (A (b + 1) x1.toNatClampNeg) = 4
        · replace h := h.1 c5
          exact ⟨12, And.intro (gb0 hb) (And.intro (gb1 hb) (And.intro (vin_len (gbl1 hb) q1) (Or.inr (And.intro c2 (Or.inr (And.intro c3 (Or.inr (And.intro c4 (Or.inl (And.intro c5 (And.intro (Nat.le_of_ble_eq_true rfl) (h))))))))))))⟩
        · replace h := h.2 c5
          exact ⟨10, And.intro (gb0 hb) (And.intro (gb1 hb) (And.intro (vin_len (gbl1 hb) q1) (Or.inr (And.intro c2 (Or.inr (And.intro c3 (Or.inr (And.intro c4 (Or.inr (And.intro c5 (And.intro (Nat.le_of_ble_eq_true rfl) (h))))))))))))⟩

set_option maxRecDepth 100000 in
set_option maxHeartbeats 4000000 in
theorem sX0_hardnessOf_0 {E : aR} {A : Nat → Nat → Int32} {R : Nat → Nat → Option Nat} {G : Nat → Nat × Nat} {b : Nat} (hb : aGb G b) (x1 : Int32) (x2 : Int32)
    (h : ∃ (v1 : Int32) (μ1 : aM), CX0_says [.ref b, .int 2, .int x1, .int x2] (A, R, G) (some (.int v1)) μ1 ∧ aw tX0_hardnessOf E 7 [some (.ref b), some (.int x1), some (.int x2), none] [.int v1] μ1) :
    aw tX0_hardnessOf E 0 [some (.ref b), some (.int x1), some (.int x2), none] [] (A, R, G) := by
  obtain ⟨v1, μ1, h1, n, h⟩ := h
  exact ⟨n + 5, Exists.intro _ (Exists.intro _ (Exists.intro _ (Exists.intro _ (And.intro rfl (And.intro (gb0 hb) (And.intro (Nat.le_of_ble_eq_true rfl) (And.intro h1 (h))))))))⟩

set_option maxRecDepth 100000 in
set_option maxHeartbeats 4000000 in
theorem sX0_hardnessOf_7 {E : aR} {A : Nat → Nat → Int32} {R : Nat → Nat → Option Nat} {G : Nat → Nat × Nat} {b : Nat} (hb : aGb G b) (x1 : Int32) (d2 : Option Value) (d3 : Option Value) (y0 : Int32)
    (h : (vp_in x1 6) ∧ ((((A (b + 1) x1.toNatClampNeg) = 2) → (E (some (.int (y0 + (A (b + 2) x1.toNatClampNeg)))) (A, R, G))) ∧ ((¬ ((A (b + 1) x1.toNatClampNeg) = 2)) → ((((A (b + 1) x1.toNatClampNeg) = 3) → (E (some (.int (y0 / 2))) (A, R, G))) ∧ ((¬ ((A (b + 1) x1.toNatClampNeg) = 3)) → ((((A (b + 1) x1.toNatClampNeg) = 4) → (E (some (.int (y0 + (A (b + 2) x1.toNatClampNeg)))) (A, R, G))) ∧ ((¬ ((A (b + 1) x1.toNatClampNeg) = 4)) → ((((A (b + 1) x1.toNatClampNeg) = 5) → (E (some (.int (-y0))) (A, R, G))) ∧ ((¬ ((A (b + 1) x1.toNatClampNeg) = 5)) → (E (some (.int y0)) (A, R, G))))))))))) :
    aw tX0_hardnessOf E 7 [some (.ref b), some (.int x1), d2, d3] [.int y0] (A, R, G) := by
  obtain ⟨q1, h⟩ := h
  by_cases c2 : (A (b + 1) x1.toNatClampNeg) = 2
  · replace h := h.1 c2
    exact ⟨13, And.intro (gb0 hb) (And.intro (gb1 hb) (And.intro (vin_len (gbl1 hb) q1) (Or.inl (And.intro c2 (And.intro (gb0 hb) (And.intro (gb2 hb) (And.intro (vin_len (gbl2 hb) q1) (h))))))))⟩
  · replace h := h.2 c2
    by_cases c3 : (A (b + 1) x1.toNatClampNeg) = 3
    · replace h := h.1 c3
      exact ⟨10, And.intro (gb0 hb) (And.intro (gb1 hb) (And.intro (vin_len (gbl1 hb) q1) (Or.inr (And.intro c2 (Or.inl (And.intro c3 (And.intro (by decide) (h))))))))⟩
    · replace h := h.2 c3
      by_cases c4 : (A (b + 1) x1.toNatClampNeg) = 4
      · replace h := h.1 c4
        exact ⟨13, And.intro (gb0 hb) (And.intro (gb1 hb) (And.intro (vin_len (gbl1 hb) q1) (Or.inr (And.intro c2 (Or.inr (And.intro c3 (Or.inl (And.intro c4 (And.intro (gb0 hb) (And.intro (gb2 hb) (And.intro (vin_len (gbl2 hb) q1) (h))))))))))))⟩
      · replace h := h.2 c4
        by_cases c5 : (A (b + 1) x1.toNatClampNeg) = 5
        · replace h := h.1 c5
          exact ⟨9, And.intro (gb0 hb) (And.intro (gb1 hb) (And.intro (vin_len (gbl1 hb) q1) (Or.inr (And.intro c2 (Or.inr (And.intro c3 (Or.inr (And.intro c4 (Or.inl (And.intro c5 (h)))))))))))⟩
        · replace h := h.2 c5
          exact ⟨8, And.intro (gb0 hb) (And.intro (gb1 hb) (And.intro (vin_len (gbl1 hb) q1) (Or.inr (And.intro c2 (Or.inr (And.intro c3 (Or.inr (And.intro c4 (Or.inr (And.intro c5 (h)))))))))))⟩

set_option maxRecDepth 100000 in
set_option maxHeartbeats 4000000 in
theorem sX0_casesFor_0 {E : aR} {A : Nat → Nat → Int32} {R : Nat → Nat → Option Nat} {G : Nat → Nat × Nat} {b : Nat} (hb : aGb G b) (x1 : Int32)
    (h : aw tX0_casesFor E 4 [some (.ref b), some (.int x1), some (.int 0), some (.int 0)] [] (A, R, G)) :
    aw tX0_casesFor E 0 [some (.ref b), some (.int x1), none, none] [] (A, R, G) := by
  obtain ⟨n, h⟩ := h
  exact ⟨n + 4, h⟩

set_option maxRecDepth 100000 in
set_option maxHeartbeats 4000000 in
theorem sX0_casesFor_4 {E : aR} {A : Nat → Nat → Int32} {R : Nat → Nat → Option Nat} {G : Nat → Nat × Nat} {b : Nat} (hb : aGb G b) (x1 : Int32) (x2 : Int32) (x3 : Int32)
    (h : ((8 ≤ x3) → (E (some (.int x2)) (A, R, G))) ∧ ((¬ (8 ≤ x3)) → (((thX A b x3) → (∃ (v1 : Int32) (μ1 : aM), CX0_may [.ref b, .int x1, .int x3] (A, R, G) (some (.int v1)) μ1 ∧ aw tX0_casesFor E 24 [some (.ref b), some (.int x1), some (.int x2), some (.int x3)] [.int v1] μ1)) ∧ ((¬ (thX A b x3)) → (aw tX0_casesFor E 4 [some (.ref b), some (.int x1), some (.int x2), some (.int (x3 + 1))] [] (A, R, G)))))) :
    aw tX0_casesFor E 4 [some (.ref b), some (.int x1), some (.int x2), some (.int x3)] [] (A, R, G) := by
  by_cases c1 : 8 ≤ x3
  · replace h := h.1 c1
    exact ⟨5, Or.inl (And.intro c1 (h))⟩
  · replace h := h.2 c1
    by_cases c2 : thX A b x3
    · replace h := h.1 c2
      obtain ⟨v1, μ1, h1, n, h⟩ := h
      exact ⟨n + 11, Or.inr (And.intro c1 (Exists.intro _ (Exists.intro _ (Exists.intro _ (Exists.intro _ (And.intro rfl (And.intro (gb0 hb) (And.intro (Nat.le_of_ble_eq_true rfl) (And.intro (pX0_hasCase hb _) (Or.inr (And.intro (bI_neq c2) (Exists.intro _ (Exists.intro _ (Exists.intro _ (Exists.intro _ (And.intro rfl (And.intro (gb0 hb) (And.intro (Nat.le_of_ble_eq_true rfl) (And.intro h1 (h))))))))))))))))))))⟩
    · replace h := h.2 c2
      obtain ⟨n, h⟩ := h
      exact ⟨n + 9, Or.inr (And.intro c1 (Exists.intro _ (Exists.intro _ (Exists.intro _ (Exists.intro _ (And.intro rfl (And.intro (gb0 hb) (And.intro (Nat.le_of_ble_eq_true rfl) (And.intro (pX0_hasCase hb _) (Or.inl (And.intro (bI_eq c2) (h))))))))))))⟩

set_option maxRecDepth 100000 in
set_option maxHeartbeats 4000000 in
theorem sX0_casesFor_24 {E : aR} {A : Nat → Nat → Int32} {R : Nat → Nat → Option Nat} {G : Nat → Nat × Nat} {b : Nat} (hb : aGb G b) (x1 : Int32) (x2 : Int32) (x3 : Int32) (y0 : Int32)
    (h : ((y0 = 0) → (aw tX0_casesFor E 4 [some (.ref b), some (.int x1), some (.int x2), some (.int (x3 + 1))] [] (A, R, G))) ∧ ((¬ (y0 = 0)) → (aw tX0_casesFor E 4 [some (.ref b), some (.int x1), some (.int (x2 ||| (1 <<< (x3 &&& 31)))), some (.int (x3 + 1))] [] (A, R, G)))) :
    aw tX0_casesFor E 24 [some (.ref b), some (.int x1), some (.int x2), some (.int x3)] [.int y0] (A, R, G) := by
  by_cases c1 : y0 = 0
  · replace h := h.1 c1
    obtain ⟨n, h⟩ := h
    exact ⟨n + 3, Or.inl (And.intro c1 (h))⟩
  · replace h := h.2 c1
    obtain ⟨n, h⟩ := h
    exact ⟨n + 9, Or.inr (And.intro c1 (h))⟩

set_option maxRecDepth 100000 in
set_option maxHeartbeats 4000000 in
theorem sX0_judgesFor_0 {E : aR} {A : Nat → Nat → Int32} {R : Nat → Nat → Option Nat} {G : Nat → Nat × Nat} {b : Nat} (hb : aGb G b) (x1 : Int32)
    (h : aw tX0_judgesFor E 4 [some (.ref b), some (.int x1), some (.int 0), some (.int 0)] [] (A, R, G)) :
    aw tX0_judgesFor E 0 [some (.ref b), some (.int x1), none, none] [] (A, R, G) := by
  obtain ⟨n, h⟩ := h
  exact ⟨n + 4, h⟩

set_option maxRecDepth 100000 in
set_option maxHeartbeats 4000000 in
theorem sX0_judgesFor_4 {E : aR} {A : Nat → Nat → Int32} {R : Nat → Nat → Option Nat} {G : Nat → Nat × Nat} {b : Nat} (hb : aGb G b) (x1 : Int32) (x2 : Int32) (x3 : Int32)
    (h : (((A b 9) ≤ x3) → (E (some (.int x2)) (A, R, G))) ∧ ((¬ ((A b 9) ≤ x3)) → (∃ (v1 : Int32) (μ1 : aM), CX0_may [.ref b, .int x3, .int x1] (A, R, G) (some (.int v1)) μ1 ∧ aw tX0_judgesFor E 18 [some (.ref b), some (.int x1), some (.int x2), some (.int x3)] [.int v1] μ1))) :
    aw tX0_judgesFor E 4 [some (.ref b), some (.int x1), some (.int x2), some (.int x3)] [] (A, R, G) := by
  by_cases c1 : (A b 9) ≤ x3
  · replace h := h.1 c1
    exact ⟨6, And.intro (gb0 hb) (Or.inl (And.intro c1 (h)))⟩
  · replace h := h.2 c1
    obtain ⟨v1, μ1, h1, n, h⟩ := h
    exact ⟨n + 8, And.intro (gb0 hb) (Or.inr (And.intro c1 (Exists.intro _ (Exists.intro _ (Exists.intro _ (Exists.intro _ (And.intro rfl (And.intro (gb0 hb) (And.intro (Nat.le_of_ble_eq_true rfl) (And.intro h1 (h)))))))))))⟩

set_option maxRecDepth 100000 in
set_option maxHeartbeats 4000000 in
theorem sX0_judgesFor_18 {E : aR} {A : Nat → Nat → Int32} {R : Nat → Nat → Option Nat} {G : Nat → Nat × Nat} {b : Nat} (hb : aGb G b) (x1 : Int32) (x2 : Int32) (x3 : Int32) (y0 : Int32)
    (h : ((y0 = 0) → (aw tX0_judgesFor E 4 [some (.ref b), some (.int x1), some (.int x2), some (.int (x3 + 1))] [] (A, R, G))) ∧ ((¬ (y0 = 0)) → (aw tX0_judgesFor E 4 [some (.ref b), some (.int x1), some (.int (x2 ||| (1 <<< (x3 &&& 31)))), some (.int (x3 + 1))] [] (A, R, G)))) :
    aw tX0_judgesFor E 18 [some (.ref b), some (.int x1), some (.int x2), some (.int x3)] [.int y0] (A, R, G) := by
  by_cases c1 : y0 = 0
  · replace h := h.1 c1
    obtain ⟨n, h⟩ := h
    exact ⟨n + 3, Or.inl (And.intro c1 (h))⟩
  · replace h := h.2 c1
    obtain ⟨n, h⟩ := h
    exact ⟨n + 9, Or.inr (And.intro c1 (h))⟩

set_option maxRecDepth 100000 in
set_option maxHeartbeats 4000000 in
theorem sX0_whoCan_0 {E : aR} {A : Nat → Nat → Int32} {R : Nat → Nat → Option Nat} {G : Nat → Nat × Nat} {b : Nat} (hb : aGb G b) (x1 : Int32)
    (h : aw tX0_whoCan E 4 [some (.ref b), some (.int x1), some (.int 0), some (.int 0)] [] (A, R, G)) :
    aw tX0_whoCan E 0 [some (.ref b), some (.int x1), none, none] [] (A, R, G) := by
  obtain ⟨n, h⟩ := h
  exact ⟨n + 4, h⟩

set_option maxRecDepth 100000 in
set_option maxHeartbeats 4000000 in
theorem sX0_whoCan_4 {E : aR} {A : Nat → Nat → Int32} {R : Nat → Nat → Option Nat} {G : Nat → Nat × Nat} {b : Nat} (hb : aGb G b) (x1 : Int32) (x2 : Int32) (x3 : Int32)
    (h : (((A b 9) ≤ x3) → (E (some (.int x2)) (A, R, G))) ∧ ((¬ ((A b 9) ≤ x3)) → (∃ (v1 : Int32) (μ1 : aM), CX0_can [.ref b, .int x3, .int x1] (A, R, G) (some (.int v1)) μ1 ∧ aw tX0_whoCan E 18 [some (.ref b), some (.int x1), some (.int x2), some (.int x3)] [.int v1] μ1))) :
    aw tX0_whoCan E 4 [some (.ref b), some (.int x1), some (.int x2), some (.int x3)] [] (A, R, G) := by
  by_cases c1 : (A b 9) ≤ x3
  · replace h := h.1 c1
    exact ⟨6, And.intro (gb0 hb) (Or.inl (And.intro c1 (h)))⟩
  · replace h := h.2 c1
    obtain ⟨v1, μ1, h1, n, h⟩ := h
    exact ⟨n + 8, And.intro (gb0 hb) (Or.inr (And.intro c1 (Exists.intro _ (Exists.intro _ (Exists.intro _ (Exists.intro _ (And.intro rfl (And.intro (gb0 hb) (And.intro (Nat.le_of_ble_eq_true rfl) (And.intro h1 (h)))))))))))⟩

set_option maxRecDepth 100000 in
set_option maxHeartbeats 4000000 in
theorem sX0_whoCan_18 {E : aR} {A : Nat → Nat → Int32} {R : Nat → Nat → Option Nat} {G : Nat → Nat × Nat} {b : Nat} (hb : aGb G b) (x1 : Int32) (x2 : Int32) (x3 : Int32) (y0 : Int32)
    (h : ((y0 = 0) → (aw tX0_whoCan E 4 [some (.ref b), some (.int x1), some (.int x2), some (.int (x3 + 1))] [] (A, R, G))) ∧ ((¬ (y0 = 0)) → (aw tX0_whoCan E 4 [some (.ref b), some (.int x1), some (.int (x2 ||| (1 <<< (x3 &&& 31)))), some (.int (x3 + 1))] [] (A, R, G)))) :
    aw tX0_whoCan E 18 [some (.ref b), some (.int x1), some (.int x2), some (.int x3)] [.int y0] (A, R, G) := by
  by_cases c1 : y0 = 0
  · replace h := h.1 c1
    obtain ⟨n, h⟩ := h
    exact ⟨n + 3, Or.inl (And.intro c1 (h))⟩
  · replace h := h.2 c1
    obtain ⟨n, h⟩ := h
    exact ⟨n + 9, Or.inr (And.intro c1 (h))⟩

set_option maxRecDepth 100000 in
set_option maxHeartbeats 4000000 in
theorem sX0_firstWhoCan_0 {E : aR} {A : Nat → Nat → Int32} {R : Nat → Nat → Option Nat} {G : Nat → Nat × Nat} {b : Nat} (hb : aGb G b) (x1 : Int32)
    (h : aw tX0_firstWhoCan E 2 [some (.ref b), some (.int x1), some (.int 0)] [] (A, R, G)) :
    aw tX0_firstWhoCan E 0 [some (.ref b), some (.int x1), none] [] (A, R, G) := by
  obtain ⟨n, h⟩ := h
  exact ⟨n + 2, h⟩

set_option maxRecDepth 100000 in
set_option maxHeartbeats 4000000 in
theorem sX0_firstWhoCan_2 {E : aR} {A : Nat → Nat → Int32} {R : Nat → Nat → Option Nat} {G : Nat → Nat × Nat} {b : Nat} (hb : aGb G b) (x1 : Int32) (x2 : Int32)
    (h : (((A b 9) ≤ x2) → (E (some (.int (-1))) (A, R, G))) ∧ ((¬ ((A b 9) ≤ x2)) → ((vp_in x2 6) ∧ ((((A (b + 5) x2.toNatClampNeg) = 0) → (∃ (v1 : Int32) (μ1 : aM), CX0_may [.ref b, .int x2, .int x1] (A, R, G) (some (.int v1)) μ1 ∧ aw tX0_firstWhoCan E 25 [some (.ref b), some (.int x1), some (.int x2)] [.int v1] μ1)) ∧ ((¬ ((A (b + 5) x2.toNatClampNeg) = 0)) → (aw tX0_firstWhoCan E 2 [some (.ref b), some (.int x1), some (.int (x2 + 1))] [] (A, R, G))))))) :
    aw tX0_firstWhoCan E 2 [some (.ref b), some (.int x1), some (.int x2)] [] (A, R, G) := by
  by_cases c1 : (A b 9) ≤ x2
  · replace h := h.1 c1
    exact ⟨6, And.intro (gb0 hb) (Or.inl (And.intro c1 (h)))⟩
  · replace h := h.2 c1
    obtain ⟨q2, h⟩ := h
    by_cases c3 : (A (b + 5) x2.toNatClampNeg) = 0
    · replace h := h.1 c3
      obtain ⟨v1, μ1, h1, n, h⟩ := h
      exact ⟨n + 13, And.intro (gb0 hb) (Or.inr (And.intro c1 (And.intro (gb0 hb) (And.intro (gb5 hb) (And.intro (vin_len (gbl5 hb) q2) (Or.inr (And.intro (fun z => z c3) (Exists.intro _ (Exists.intro _ (Exists.intro _ (Exists.intro _ (And.intro rfl (And.intro (gb0 hb) (And.intro (Nat.le_of_ble_eq_true rfl) (And.intro h1 (h))))))))))))))))⟩
    · replace h := h.2 c3
      obtain ⟨n, h⟩ := h
      exact ⟨n + 11, And.intro (gb0 hb) (Or.inr (And.intro c1 (And.intro (gb0 hb) (And.intro (gb5 hb) (And.intro (vin_len (gbl5 hb) q2) (Or.inl (And.intro c3 (h))))))))⟩

set_option maxRecDepth 100000 in
set_option maxHeartbeats 4000000 in
theorem sX0_firstWhoCan_25 {E : aR} {A : Nat → Nat → Int32} {R : Nat → Nat → Option Nat} {G : Nat → Nat × Nat} {b : Nat} (hb : aGb G b) (x1 : Int32) (x2 : Int32) (y0 : Int32)
    (h : ((y0 = 0) → (aw tX0_firstWhoCan E 2 [some (.ref b), some (.int x1), some (.int (x2 + 1))] [] (A, R, G))) ∧ ((¬ (y0 = 0)) → (E (some (.int x2)) (A, R, G)))) :
    aw tX0_firstWhoCan E 25 [some (.ref b), some (.int x1), some (.int x2)] [.int y0] (A, R, G) := by
  by_cases c1 : y0 = 0
  · replace h := h.1 c1
    obtain ⟨n, h⟩ := h
    exact ⟨n + 3, Or.inl (And.intro c1 (h))⟩
  · replace h := h.2 c1
    exact ⟨3, Or.inr (And.intro c1 (h))⟩

set_option maxRecDepth 100000 in
set_option maxHeartbeats 4000000 in
theorem sX0_allWaited_0 {E : aR} {A : Nat → Nat → Int32} {R : Nat → Nat → Option Nat} {G : Nat → Nat × Nat} {b : Nat} (hb : aGb G b)
    (h : aw tX0_allWaited E 4 [some (.ref b), some (.int 0), some (.int 0)] [] (A, R, G)) :
    aw tX0_allWaited E 0 [some (.ref b), none, none] [] (A, R, G) := by
  obtain ⟨n, h⟩ := h
  exact ⟨n + 4, h⟩

set_option maxRecDepth 100000 in
set_option maxHeartbeats 4000000 in
theorem sX0_allWaited_4 {E : aR} {A : Nat → Nat → Int32} {R : Nat → Nat → Option Nat} {G : Nat → Nat × Nat} {b : Nat} (hb : aGb G b) (x1 : Int32) (x2 : Int32)
    (h : ((8 ≤ x2) → (E (some (.int x1)) (A, R, G))) ∧ ((¬ (8 ≤ x2)) → (((thX A b x2) → ((vp_in x2 8) ∧ (aw tX0_allWaited E 4 [some (.ref b), some (.int (x1 + (A (b + 8) x2.toNatClampNeg))), some (.int (x2 + 1))] [] (A, R, G)))) ∧ ((¬ (thX A b x2)) → (aw tX0_allWaited E 4 [some (.ref b), some (.int (x1 + 0)), some (.int (x2 + 1))] [] (A, R, G)))))) :
    aw tX0_allWaited E 4 [some (.ref b), some (.int x1), some (.int x2)] [] (A, R, G) := by
  by_cases c1 : 8 ≤ x2
  · replace h := h.1 c1
    exact ⟨5, Or.inl (And.intro c1 (h))⟩
  · replace h := h.2 c1
    by_cases c2 : thX A b x2
    · replace h := h.1 c2
      obtain ⟨q3, h⟩ := h
      obtain ⟨n, h⟩ := h
      exact ⟨n + 17, Or.inr (And.intro c1 (Exists.intro _ (Exists.intro _ (Exists.intro _ (Exists.intro _ (And.intro rfl (And.intro (gb0 hb) (And.intro (Nat.le_of_ble_eq_true rfl) (And.intro (pX0_hasCase hb _) (Or.inr (And.intro (bI_neq c2) (And.intro (gb0 hb) (And.intro (gb8 hb) (And.intro (vin_len (gbl8 hb) q3) (h)))))))))))))))⟩
    · replace h := h.2 c2
      obtain ⟨n, h⟩ := h
      exact ⟨n + 13, Or.inr (And.intro c1 (Exists.intro _ (Exists.intro _ (Exists.intro _ (Exists.intro _ (And.intro rfl (And.intro (gb0 hb) (And.intro (Nat.le_of_ble_eq_true rfl) (And.intro (pX0_hasCase hb _) (Or.inl (And.intro (bI_eq c2) (h))))))))))))⟩

set_option maxRecDepth 100000 in
set_option maxHeartbeats 4000000 in
theorem sX0_hold_0 {E : aR} {A : Nat → Nat → Int32} {R : Nat → Nat → Option Nat} {G : Nat → Nat × Nat} {b : Nat} (hb : aGb G b) (x1 : Int32) (x2 : Int32)
    (h : ∃ (v1 : Int32) (μ1 : aM), CX0_hardnessOf [.ref b, .int x1, .int x2] (A, R, G) (some (.int v1)) μ1 ∧ aw tX0_hold E 6 [some (.ref b), some (.int x1), some (.int x2), none, none] [.int v1] μ1) :
    aw tX0_hold E 0 [some (.ref b), some (.int x1), some (.int x2), none, none] [] (A, R, G) := by
  obtain ⟨v1, μ1, h1, n, h⟩ := h
  exact ⟨n + 4, Exists.intro _ (Exists.intro _ (Exists.intro _ (Exists.intro _ (And.intro rfl (And.intro (gb0 hb) (And.intro (Nat.le_of_ble_eq_true rfl) (And.intro h1 (h))))))))⟩

set_option maxRecDepth 100000 in
set_option maxHeartbeats 4000000 in
theorem sX0_hold_6 {E : aR} {A : Nat → Nat → Int32} {R : Nat → Nat → Option Nat} {G : Nat → Nat × Nat} {b : Nat} (hb : aGb G b) (x1 : Int32) (x2 : Int32) (d3 : Option Value) (d4 : Option Value) (y0 : Int32)
    (h : ∃ (v1 : Int32) (μ1 : aM), CX0_daysFor [.ref b, .int x1, .int x2] (A, R, G) (some (.int v1)) μ1 ∧ aw tX0_hold E 18 [some (.ref b), some (.int x1), some (.int x2), some (.int y0), d4] [.int v1, .int x1, .ref (b + 5)] μ1) :
    aw tX0_hold E 6 [some (.ref b), some (.int x1), some (.int x2), d3, d4] [.int y0] (A, R, G) := by
  obtain ⟨v1, μ1, h1, n, h⟩ := h
  exact ⟨n + 8, And.intro (gb0 hb) (Exists.intro _ (Exists.intro _ (Exists.intro _ (Exists.intro _ (And.intro rfl (And.intro (gb0 hb) (And.intro (Nat.le_of_ble_eq_true rfl) (And.intro h1 (h)))))))))⟩

set_option maxRecDepth 100000 in
set_option maxHeartbeats 4000000 in
theorem sX0_hold_18 {E : aR} {A : Nat → Nat → Int32} {R : Nat → Nat → Option Nat} {G : Nat → Nat × Nat} {b : Nat} (hb : aGb G b) (x1 : Int32) (x2 : Int32) (x3 : Int32) (d4 : Option Value) (y0 : Int32) (y1 : Int32) (y2 : Nat)
    (h : ((G y2).1 = 1) ∧ ((vp_in y1 (G y2).2) ∧ ((vp_in x1 6) ∧ ((vp_in x2 8) ∧ (∀ v5 : Int32, v5 = ((((au A y2 y1.toNatClampNeg y0) (b + 3) x1.toNatClampNeg) &&& ((au A y2 y1.toNatClampNeg y0) (b + 6) x2.toNatClampNeg)) &&& (-(((au A y2 y1.toNatClampNeg y0) (b + 3) x1.toNatClampNeg) &&& ((au A y2 y1.toNatClampNeg y0) (b + 6) x2.toNatClampNeg)))) → (∀ v6 : Int32, v6 = (((au (au A y2 y1.toNatClampNeg y0) (b + 3) x1.toNatClampNeg (((au A y2 y1.toNatClampNeg y0) (b + 3) x1.toNatClampNeg) &&& (v5 ^^^ (-1)))) (b + 4) x1.toNatClampNeg) + x3) → (aw tX0_hold E 74 [some (.ref b), some (.int x1), some (.int x2), some (.int x3), some (.int (((au A y2 y1.toNatClampNeg y0) (b + 3) x1.toNatClampNeg) &&& ((au A y2 y1.toNatClampNeg y0) (b + 6) x2.toNatClampNeg)))] [] ((au (au (au A y2 y1.toNatClampNeg y0) (b + 3) x1.toNatClampNeg (((au A y2 y1.toNatClampNeg y0) (b + 3) x1.toNatClampNeg) &&& (v5 ^^^ (-1)))) (b + 4) x1.toNatClampNeg (if 0 < (if v6 < 99 then v6 else 99) then (if v6 < 99 then v6 else 99) else 0)), R, G)))))))) :
    aw tX0_hold E 18 [some (.ref b), some (.int x1), some (.int x2), some (.int x3), d4] [.int y0, .int y1, .ref y2] (A, R, G) := by
  obtain ⟨q1, h⟩ := h
  obtain ⟨q2, h⟩ := h
  obtain ⟨q3, h⟩ := h
  obtain ⟨q4, h⟩ := h
  obtain ⟨v5, hv5⟩ : ∃ z : Int32, z = ((((au A y2 y1.toNatClampNeg y0) (b + 3) x1.toNatClampNeg) &&& ((au A y2 y1.toNatClampNeg y0) (b + 6) x2.toNatClampNeg)) &&& (-(((au A y2 y1.toNatClampNeg y0) (b + 3) x1.toNatClampNeg) &&& ((au A y2 y1.toNatClampNeg y0) (b + 6) x2.toNatClampNeg)))) := ⟨_, rfl⟩
  replace h := h v5 hv5
  obtain ⟨v6, hv6⟩ : ∃ z : Int32, z = (((au (au A y2 y1.toNatClampNeg y0) (b + 3) x1.toNatClampNeg (((au A y2 y1.toNatClampNeg y0) (b + 3) x1.toNatClampNeg) &&& (v5 ^^^ (-1)))) (b + 4) x1.toNatClampNeg) + x3) := ⟨_, rfl⟩
  replace h := h v6 hv6
  obtain ⟨n, h⟩ := h
  subst hv6
  subst hv5
  exact ⟨n + 38, And.intro q1 (And.intro q2 (And.intro (gb0 hb) (And.intro (gb3 hb) (And.intro (vin_len (gbl3 hb) q3) (And.intro (gb0 hb) (And.intro (gb6 hb) (And.intro (vin_len (gbl6 hb) q4) (And.intro (gb0 hb) (And.intro rfl (And.intro rfl (And.intro (gb3 hb) (And.intro (vin_len (gbl3 hb) q3) (And.intro (gb3 hb) (And.intro (vin_len (gbl3 hb) q3) (And.intro (gb0 hb) (And.intro (gb0 hb) (And.intro (gb4 hb) (And.intro (vin_len (gbl4 hb) q3) (And.intro (Nat.le_of_ble_eq_true rfl) (And.intro (Nat.le_of_ble_eq_true rfl) (And.intro (gb4 hb) (And.intro (vin_len (gbl4 hb) q3) (h)))))))))))))))))))))))⟩

set_option maxRecDepth 100000 in
set_option maxHeartbeats 4000000 in
theorem sX0_hold_74 {E : aR} {A : Nat → Nat → Int32} {R : Nat → Nat → Option Nat} {G : Nat → Nat × Nat} {b : Nat} (hb : aGb G b) (d1 : Option Value) (x2 : Int32) (x3 : Int32) (d4 : Option Value)
    (h : ∀ v1 : Int32, v1 = (if ((((au A b 10 ((A b 10) &&& ((1 <<< (x2 &&& 31)) ^^^ (-1))))) b 12) + 1) < 999 then ((((au A b 10 ((A b 10) &&& ((1 <<< (x2 &&& 31)) ^^^ (-1))))) b 12) + 1) else 999) → (E (some (.int x3)) ((au (au A b 10 ((A b 10) &&& ((1 <<< (x2 &&& 31)) ^^^ (-1)))) b 12 v1), R, G))) :
    aw tX0_hold E 74 [some (.ref b), d1, some (.int x2), some (.int x3), d4] [] (A, R, G) := by
  obtain ⟨v1, hv1⟩ : ∃ z : Int32, z = (if ((((au A b 10 ((A b 10) &&& ((1 <<< (x2 &&& 31)) ^^^ (-1))))) b 12) + 1) < 999 then ((((au A b 10 ((A b 10) &&& ((1 <<< (x2 &&& 31)) ^^^ (-1))))) b 12) + 1) else 999) := ⟨_, rfl⟩
  replace h := h v1 hv1
  subst hv1
  exact ⟨20, And.intro rfl (And.intro (gb0 hb) (And.intro (gb0 hb) (And.intro (gb0 hb) (And.intro (Nat.le_of_ble_eq_true rfl) (And.intro (gb0 hb) (h))))))⟩

set_option maxRecDepth 100000 in
set_option maxHeartbeats 4000000 in
theorem sX0_passDay_0 {E : aR} {A : Nat → Nat → Int32} {R : Nat → Nat → Option Nat} {G : Nat → Nat × Nat} {b : Nat} (hb : aGb G b)
    (h : aw tX0_passDay E 2 [some (.ref b), some (.int 0), none, none] [] (A, R, G)) :
    aw tX0_passDay E 0 [some (.ref b), none, none, none] [] (A, R, G) := by
  obtain ⟨n, h⟩ := h
  exact ⟨n + 2, h⟩

set_option maxRecDepth 100000 in
set_option maxHeartbeats 4000000 in
theorem sX0_passDay_2 {E : aR} {A : Nat → Nat → Int32} {R : Nat → Nat → Option Nat} {G : Nat → Nat × Nat} {b : Nat} (hb : aGb G b) (x1 : Int32) (d2 : Option Value) (d3 : Option Value)
    (h : (((A b 9) ≤ x1) → (aw tX0_passDay E 38 [some (.ref b), some (.int 0), some (.int 0), none] [] (A, R, G))) ∧ ((¬ ((A b 9) ≤ x1)) → ((vp_in x1 6) ∧ (aw tX0_passDay E 2 [some (.ref b), some (.int (x1 + 1)), none, none] [] ((au A (b + 5) x1.toNatClampNeg (if 0 < ((A (b + 5) x1.toNatClampNeg) - 1) then ((A (b + 5) x1.toNatClampNeg) - 1) else 0)), R, G))))) :
    aw tX0_passDay E 2 [some (.ref b), some (.int x1), d2, d3] [] (A, R, G) := by
  by_cases c1 : (A b 9) ≤ x1
  · replace h := h.1 c1
    obtain ⟨n, h⟩ := h
    exact ⟨n + 8, And.intro (gb0 hb) (Or.inl (And.intro c1 (h)))⟩
  · replace h := h.2 c1
    obtain ⟨q2, h⟩ := h
    obtain ⟨n, h⟩ := h
    exact ⟨n + 18, And.intro (gb0 hb) (Or.inr (And.intro c1 (And.intro (gb0 hb) (And.intro (gb0 hb) (And.intro (gb5 hb) (And.intro (vin_len (gbl5 hb) q2) (And.intro (Nat.le_of_ble_eq_true rfl) (And.intro (gb5 hb) (And.intro (vin_len (gbl5 hb) q2) (h))))))))))⟩

set_option maxRecDepth 100000 in
set_option maxHeartbeats 4000000 in
theorem sX0_passDay_38 {E : aR} {A : Nat → Nat → Int32} {R : Nat → Nat → Option Nat} {G : Nat → Nat × Nat} {b : Nat} (hb : aGb G b) (x1 : Int32) (x2 : Int32) (d3 : Option Value)
    (h : ((8 ≤ x2) → (E (some (.int x1)) ((au A b 11 ((A b 11) + 1)), R, G))) ∧ ((¬ (8 ≤ x2)) → (((thX A b x2) → (∃ (v1 : Int32) (μ1 : aM), CX0_firstWhoCan [.ref b, .int x2] (A, R, G) (some (.int v1)) μ1 ∧ aw tX0_passDay E 57 [some (.ref b), some (.int x1), some (.int x2), none] [.int v1] μ1)) ∧ ((¬ (thX A b x2)) → (aw tX0_passDay E 38 [some (.ref b), some (.int x1), some (.int (x2 + 1)), none] [] (A, R, G)))))) :
    aw tX0_passDay E 38 [some (.ref b), some (.int x1), some (.int x2), d3] [] (A, R, G) := by
  by_cases c1 : 8 ≤ x2
  · replace h := h.1 c1
    exact ⟨11, Or.inl (And.intro c1 (And.intro rfl (And.intro (gb0 hb) (And.intro (gb0 hb) (h)))))⟩
  · replace h := h.2 c1
    by_cases c2 : thX A b x2
    · replace h := h.1 c2
      obtain ⟨v1, μ1, h1, n, h⟩ := h
      exact ⟨n + 10, Or.inr (And.intro c1 (Exists.intro _ (Exists.intro _ (Exists.intro _ (Exists.intro _ (And.intro rfl (And.intro (gb0 hb) (And.intro (Nat.le_of_ble_eq_true rfl) (And.intro (pX0_hasCase hb _) (Or.inr (And.intro (bI_neq c2) (Exists.intro _ (Exists.intro _ (Exists.intro _ (Exists.intro _ (And.intro rfl (And.intro (gb0 hb) (And.intro (Nat.le_of_ble_eq_true rfl) (And.intro h1 (h))))))))))))))))))))⟩
    · replace h := h.2 c2
      obtain ⟨n, h⟩ := h
      exact ⟨n + 9, Or.inr (And.intro c1 (Exists.intro _ (Exists.intro _ (Exists.intro _ (Exists.intro _ (And.intro rfl (And.intro (gb0 hb) (And.intro (Nat.le_of_ble_eq_true rfl) (And.intro (pX0_hasCase hb _) (Or.inl (And.intro (bI_eq c2) (h))))))))))))⟩

set_option maxRecDepth 100000 in
set_option maxHeartbeats 4000000 in
theorem sX0_passDay_57 {E : aR} {A : Nat → Nat → Int32} {R : Nat → Nat → Option Nat} {G : Nat → Nat × Nat} {b : Nat} (hb : aGb G b) (x1 : Int32) (x2 : Int32) (d3 : Option Value) (y0 : Int32)
    (h : ((y0 = (-1)) → ((vp_in x2 8) ∧ (aw tX0_passDay E 38 [some (.ref b), some (.int x1), some (.int (x2 + 1)), some (.int y0)] [] ((au A (b + 8) x2.toNatClampNeg (if ((A (b + 8) x2.toNatClampNeg) + 1) < 99 then ((A (b + 8) x2.toNatClampNeg) + 1) else 99)), R, G)))) ∧ ((¬ (y0 = (-1))) → (∃ (v1 : Int32) (μ1 : aM), CX0_hold [.ref b, .int y0, .int x2] (A, R, G) (some (.int v1)) μ1 ∧ aw tX0_passDay E 91 [some (.ref b), some (.int x1), some (.int x2), some (.int y0)] [.int v1] μ1))) :
    aw tX0_passDay E 57 [some (.ref b), some (.int x1), some (.int x2), d3] [.int y0] (A, R, G) := by
  by_cases c1 : y0 = (-1)
  · replace h := h.1 c1
    obtain ⟨q2, h⟩ := h
    obtain ⟨n, h⟩ := h
    exact ⟨n + 19, Or.inr (And.intro (fun z => z c1) (And.intro (gb0 hb) (And.intro (gb0 hb) (And.intro (gb8 hb) (And.intro (vin_len (gbl8 hb) q2) (And.intro (Nat.le_of_ble_eq_true rfl) (And.intro (gb8 hb) (And.intro (vin_len (gbl8 hb) q2) (h)))))))))⟩
  · replace h := h.2 c1
    obtain ⟨v1, μ1, h1, n, h⟩ := h
    exact ⟨n + 8, Or.inl (And.intro c1 (Exists.intro _ (Exists.intro _ (Exists.intro _ (Exists.intro _ (And.intro rfl (And.intro (gb0 hb) (And.intro (Nat.le_of_ble_eq_true rfl) (And.intro h1 (h))))))))))⟩

set_option maxRecDepth 100000 in
set_option maxHeartbeats 4000000 in
theorem sX0_passDay_91 {E : aR} {A : Nat → Nat → Int32} {R : Nat → Nat → Option Nat} {G : Nat → Nat × Nat} {b : Nat} (hb : aGb G b) (x1 : Int32) (x2 : Int32) (d3 : Option Value) (y0 : Int32)
    (h : aw tX0_passDay E 38 [some (.ref b), some (.int (x1 ||| (1 <<< (x2 &&& 31)))), some (.int (x2 + 1)), d3] [] (A, R, G)) :
    aw tX0_passDay E 91 [some (.ref b), some (.int x1), some (.int x2), d3] [.int y0] (A, R, G) := by
  obtain ⟨n, h⟩ := h
  exact ⟨n + 9, And.intro rfl (h)⟩

set_option maxRecDepth 100000 in
set_option maxHeartbeats 4000000 in
theorem sX0_isOf_0 {E : aR} {A : Nat → Nat → Int32} {R : Nat → Nat → Option Nat} {G : Nat → Nat × Nat} {b : Nat} (hb : aGb G b) (x1 : Int32) (x2 : Int32)
    (h : (vp_in x1 6) ∧ ((vp_in (A (b + 1) x1.toNatClampNeg) 6) ∧ ((((((aTab (A (b + 1) x1.toNatClampNeg).toNatClampNeg) >>> (x2 &&& 31)) &&& 1) = 1) → (E (some (.int 1)) (A, R, G))) ∧ ((¬ ((((aTab (A (b + 1) x1.toNatClampNeg).toNatClampNeg) >>> (x2 &&& 31)) &&& 1) = 1)) → (E (some (.int 0)) (A, R, G)))))) :
    aw tX0_isOf E 0 [some (.ref b), some (.int x1), some (.int x2)] [] (A, R, G) := by
  obtain ⟨q1, h⟩ := h
  obtain ⟨q2, h⟩ := h
  by_cases c3 : (((aTab (A (b + 1) x1.toNatClampNeg).toNatClampNeg) >>> (x2 &&& 31)) &&& 1) = 1
  · replace h := h.1 c3
    exact ⟨15, And.intro (gb0 hb) (And.intro (gb1 hb) (And.intro (vin_len (gbl1 hb) q1) (And.intro rfl (And.intro q2 (Or.inr (And.intro (fun z => z c3) (And.intro (Or.inr rfl) (h))))))))⟩
  · replace h := h.2 c3
    exact ⟨14, And.intro (gb0 hb) (And.intro (gb1 hb) (And.intro (vin_len (gbl1 hb) q1) (And.intro rfl (And.intro q2 (Or.inl (And.intro c3 (And.intro (Or.inl rfl) (h))))))))⟩
