set_option maxRecDepth 100000 in
set_option maxHeartbeats 4000000 in
theorem sX5_asksOf_0 {E : aR} {A : Nat → Nat → Int32} {R : Nat → Nat → Option Nat} {G : Nat → Nat × Nat} (hG : aGS G) (x1 : Int32) (x2 : Int32) (x3 : Int32)
    (h : (vp_in ((3 * x3) + 1) 24) ∧ ((vp_in (3 * x3) 24) ∧ ((vp_in ((3 * x2) + 1) 18) ∧ (aw tX5_asksOf E 49 [some (.ref 48), some (.int x1), some (.int x2), some (.int x3)] [] ((au (au (au A 65 0 (A 52 ((3 * x3) + 1).toNatClampNeg)) 65 1 (ones ((au A 65 0 (A 52 ((3 * x3) + 1).toNatClampNeg)) 52 (3 * x3).toNatClampNeg))) 65 2 ((au (au A 65 0 (A 52 ((3 * x3) + 1).toNatClampNeg)) 65 1 (ones ((au A 65 0 (A 52 ((3 * x3) + 1).toNatClampNeg)) 52 (3 * x3).toNatClampNeg))) 51 ((3 * x2) + 1).toNatClampNeg)), R, G))))) :
    aw tX5_asksOf E 0 [some (.ref 48), some (.int x1), some (.int x2), some (.int x3)] [] (A, R, G) := by
  obtain ⟨q1, h⟩ := h
  obtain ⟨q2, h⟩ := h
  obtain ⟨q3, h⟩ := h
  obtain ⟨n, h⟩ := h
  exact ⟨n + 35, And.intro (gt48 hG) (And.intro (gt48 hG) (And.intro (gt52 hG) (And.intro (vin_len (gl52 hG) q1) (And.intro (gt65 hG) (And.intro (vin_len (gl65 hG) (by unfold vp_in; decide)) (And.intro (gt48 hG) (And.intro (gt48 hG) (And.intro (gt52 hG) (And.intro (vin_len (gl52 hG) q2) (Exists.intro _ (Exists.intro _ (And.intro (Nat.le_of_ble_eq_true rfl) (And.intro (Nat.le_of_ble_eq_true rfl) (And.intro (pX5_onesOf _) (And.intro (gt65 hG) (And.intro (vin_len (gl65 hG) (by unfold vp_in; decide)) (And.intro (gt48 hG) (And.intro (gt48 hG) (And.intro (gt51 hG) (And.intro (vin_len (gl51 hG) q3) (And.intro (gt65 hG) (And.intro (vin_len (gl65 hG) (by unfold vp_in; decide)) (h)))))))))))))))))))))))⟩

set_option maxRecDepth 100000 in
set_option maxHeartbeats 4000000 in
theorem sX5_asksOf_49 {E : aR} {A : Nat → Nat → Int32} {R : Nat → Nat → Option Nat} {G : Nat → Nat × Nat} (hG : aGS G) (x1 : Int32) (x2 : Int32) (d3 : Option Value)
    (h : (vp_in (3 * x2) 18) ∧ ((vp_in x2 6) ∧ (aw tX5_asksOf E 88 [some (.ref 48), some (.int x1), some (.int x2), d3] [] ((au (au (au A 65 3 (ones (A 51 (3 * x2).toNatClampNeg))) 65 4 (((au A 65 3 (ones (A 51 (3 * x2).toNatClampNeg)))) 48 5)) 65 5 ((au (au A 65 3 (ones (A 51 (3 * x2).toNatClampNeg))) 65 4 (((au A 65 3 (ones (A 51 (3 * x2).toNatClampNeg)))) 48 5)) 50 x2.toNatClampNeg)), R, G)))) :
    aw tX5_asksOf E 49 [some (.ref 48), some (.int x1), some (.int x2), d3] [] (A, R, G) := by
  obtain ⟨q1, h⟩ := h
  obtain ⟨q2, h⟩ := h
  obtain ⟨n, h⟩ := h
  exact ⟨n + 25, And.intro (gt48 hG) (And.intro (gt48 hG) (And.intro (gt51 hG) (And.intro (vin_len (gl51 hG) q1) (Exists.intro _ (Exists.intro _ (And.intro (Nat.le_of_ble_eq_true rfl) (And.intro (Nat.le_of_ble_eq_true rfl) (And.intro (pX5_onesOf _) (And.intro (gt65 hG) (And.intro (vin_len (gl65 hG) (by unfold vp_in; decide)) (And.intro (gt48 hG) (And.intro (gt48 hG) (And.intro (gt65 hG) (And.intro (vin_len (gl65 hG) (by unfold vp_in; decide)) (And.intro (gt48 hG) (And.intro (gt48 hG) (And.intro (gt50 hG) (And.intro (vin_len (gl50 hG) q2) (And.intro (gt65 hG) (And.intro (vin_len (gl65 hG) (by unfold vp_in; decide)) (h)))))))))))))))))))))⟩

set_option maxRecDepth 100000 in
set_option maxHeartbeats 4000000 in
theorem sX5_asksOf_88 {E : aR} {A : Nat → Nat → Int32} {R : Nat → Nat → Option Nat} {G : Nat → Nat × Nat} (hG : aGS G) (x1 : Int32) (d2 : Option Value) (d3 : Option Value)
    (h : ∃ (v1 : Int32) (μ1 : aM), CX5_says [.ref 48, .int x1] (A, R, G) (some (.int v1)) μ1 ∧ aw tX5_asksOf E 93 [some (.ref 48), some (.int x1), d2, d3] [.int v1] μ1) :
    aw tX5_asksOf E 88 [some (.ref 48), some (.int x1), d2, d3] [] (A, R, G) := by
  obtain ⟨v1, μ1, h1, n, h⟩ := h
  exact ⟨n + 3, Exists.intro _ (Exists.intro _ (Exists.intro _ (Exists.intro _ (And.intro rfl (And.intro (gt48 hG) (And.intro (Nat.le_of_ble_eq_true rfl) (And.intro h1 (h))))))))⟩

set_option maxRecDepth 100000 in
set_option maxHeartbeats 4000000 in
theorem sX5_asksOf_93 {E : aR} {A : Nat → Nat → Int32} {R : Nat → Nat → Option Nat} {G : Nat → Nat × Nat} (x1 : Int32) (d2 : Option Value) (d3 : Option Value) (y0 : Int32)
    (h : ((x1 = 2) → (E (some (.int (clI y0 (-99) 99))) (A, R, G))) ∧ ((¬ (x1 = 2)) → (E (some (.int (clI y0 0 99))) (A, R, G)))) :
    aw tX5_asksOf E 93 [some (.ref 48), some (.int x1), d2, d3] [.int y0] (A, R, G) := by
  by_cases c1 : x1 = 2
  · replace h := h.1 c1
    exact ⟨8, Or.inr (And.intro (fun z => z c1) (Exists.intro _ (Exists.intro _ (And.intro (Nat.le_of_ble_eq_true rfl) (And.intro (Nat.le_of_ble_eq_true rfl) (And.intro (pX5_within _ _ _) (h)))))))⟩
  · replace h := h.2 c1
    exact ⟨7, Or.inl (And.intro c1 (Exists.intro _ (Exists.intro _ (And.intro (Nat.le_of_ble_eq_true rfl) (And.intro (Nat.le_of_ble_eq_true rfl) (And.intro (pX5_within _ _ _) (h)))))))⟩

set_option maxRecDepth 100000 in
set_option maxHeartbeats 4000000 in
theorem sX5_may_0 {E : aR} {A : Nat → Nat → Int32} {R : Nat → Nat → Option Nat} {G : Nat → Nat × Nat} (hG : aGS G) (x1 : Int32) (x2 : Int32)
    (h : (vp_in (3 * x2) 24) ∧ ((vp_in (3 * x1) 18) ∧ (∃ (v1 : Int32) (μ1 : aM), CX5_asksOf [.ref 48, .int 0, .int x1, .int x2] (A, R, G) (some (.int v1)) μ1 ∧ aw tX5_may E 33 [some (.ref 48), some (.int x1), some (.int x2), some (.int (A 52 (3 * x2).toNatClampNeg)), some (.int (ones ((A 52 (3 * x2).toNatClampNeg) &&& ((A 51 (3 * x1).toNatClampNeg) ^^^ (-1))))), none, none, none] [.int v1] μ1))) :
    aw tX5_may E 0 [some (.ref 48), some (.int x1), some (.int x2), none, none, none, none, none] [] (A, R, G) := by
  obtain ⟨q1, h⟩ := h
  obtain ⟨q2, h⟩ := h
  obtain ⟨v1, μ1, h1, n, h⟩ := h
  exact ⟨n + 24, And.intro (gt48 hG) (And.intro (gt52 hG) (And.intro (vin_len (gl52 hG) q1) (And.intro (gt48 hG) (And.intro (gt51 hG) (And.intro (vin_len (gl51 hG) q2) (Exists.intro _ (Exists.intro _ (And.intro (Nat.le_of_ble_eq_true rfl) (And.intro (Nat.le_of_ble_eq_true rfl) (And.intro (pX5_onesOf _) (Exists.intro _ (Exists.intro _ (Exists.intro _ (Exists.intro _ (And.intro rfl (And.intro (gt48 hG) (And.intro (Nat.le_of_ble_eq_true rfl) (And.intro h1 (h)))))))))))))))))))⟩

set_option maxRecDepth 100000 in
set_option maxHeartbeats 4000000 in
theorem sX5_may_33 {E : aR} {A : Nat → Nat → Int32} {R : Nat → Nat → Option Nat} {G : Nat → Nat × Nat} (hG : aGS G) (x1 : Int32) (d2 : Option Value) (x3 : Int32) (x4 : Int32) (d5 : Option Value) (d6 : Option Value) (d7 : Option Value) (y0 : Int32)
    (h : (vp_in ((3 * x1) + 1) 18) ∧ ((vp_in x1 6) ∧ (((((A 48 5) - (A 48 5) / 10 * 10) < (A 50 x1.toNatClampNeg)) → ((((A 49 x1.toNatClampNeg) = 1) → (aw tX5_may E 112 [some (.ref 48), some (.int x1), d2, some (.int x3), some (.int x4), some (.int y0), some (.int (A 51 ((3 * x1) + 1).toNatClampNeg)), some (.int 0)] [] (A, R, G))) ∧ ((¬ ((A 49 x1.toNatClampNeg) = 1)) → ((((A 49 x1.toNatClampNeg) = 2) → (aw tX5_may E 131 [some (.ref 48), some (.int x1), d2, some (.int x3), some (.int x4), some (.int y0), some (.int (A 51 ((3 * x1) + 1).toNatClampNeg)), some (.int 0)] [] (A, R, G))) ∧ ((¬ ((A 49 x1.toNatClampNeg) = 2)) → ((((A 49 x1.toNatClampNeg) = 3) → (aw tX5_may E 154 [some (.ref 48), some (.int x1), d2, some (.int x3), some (.int x4), some (.int y0), some (.int (A 51 ((3 * x1) + 1).toNatClampNeg)), some (.int 0)] [] (A, R, G))) ∧ ((¬ ((A 49 x1.toNatClampNeg) = 3)) → ((((A 49 x1.toNatClampNeg) = 4) → (aw tX5_may E 193 [some (.ref 48), some (.int x1), d2, some (.int x3), some (.int x4), some (.int y0), some (.int (A 51 ((3 * x1) + 1).toNatClampNeg)), some (.int 0)] [] (A, R, G))) ∧ ((¬ ((A 49 x1.toNatClampNeg) = 4)) → ((((A 49 x1.toNatClampNeg) = 5) → (aw tX5_may E 218 [some (.ref 48), some (.int x1), d2, some (.int x3), some (.int x4), some (.int y0), some (.int (A 51 ((3 * x1) + 1).toNatClampNeg)), some (.int 0)] [] (A, R, G))) ∧ ((¬ ((A 49 x1.toNatClampNeg) = 5)) → (aw tX5_may E 240 [some (.ref 48), some (.int x1), d2, some (.int x3), some (.int x4), some (.int y0), some (.int (A 51 ((3 * x1) + 1).toNatClampNeg)), some (.int 0)] [] (A, R, G))))))))))))) ∧ ((¬ (((A 48 5) - (A 48 5) / 10 * 10) < (A 50 x1.toNatClampNeg))) → ((((A 49 x1.toNatClampNeg) = 1) → (aw tX5_may E 112 [some (.ref 48), some (.int x1), d2, some (.int x3), some (.int x4), some (.int y0), some (.int (A 51 ((3 * x1) + 1).toNatClampNeg)), some (.int 1)] [] (A, R, G))) ∧ ((¬ ((A 49 x1.toNatClampNeg) = 1)) → ((((A 49 x1.toNatClampNeg) = 2) → (aw tX5_may E 131 [some (.ref 48), some (.int x1), d2, some (.int x3), some (.int x4), some (.int y0), some (.int (A 51 ((3 * x1) + 1).toNatClampNeg)), some (.int 1)] [] (A, R, G))) ∧ ((¬ ((A 49 x1.toNatClampNeg) = 2)) → ((((A 49 x1.toNatClampNeg) = 3) → (aw tX5_may E 154 [some (.ref 48), some (.int x1), d2, some (.int x3), some (.int x4), some (.int y0), some (.int (A 51 ((3 * x1) + 1).toNatClampNeg)), some (.int 1)] [] (A, R, G))) ∧ ((¬ ((A 49 x1.toNatClampNeg) = 3)) → ((((A 49 x1.toNatClampNeg) = 4) → (aw tX5_may E 193 [some (.ref 48), some (.int x1), d2, some (.int x3), some (.int x4), some (.int y0), some (.int (A 51 ((3 * x1) + 1).toNatClampNeg)), some (.int 1)] [] (A, R, G))) ∧ ((¬ ((A 49 x1.toNatClampNeg) = 4)) → ((((A 49 x1.toNatClampNeg) = 5) → (aw tX5_may E 218 [some (.ref 48), some (.int x1), d2, some (.int x3), some (.int x4), some (.int y0), some (.int (A 51 ((3 * x1) + 1).toNatClampNeg)), some (.int 1)] [] (A, R, G))) ∧ ((¬ ((A 49 x1.toNatClampNeg) = 5)) → (aw tX5_may E 240 [some (.ref 48), some (.int x1), d2, some (.int x3), some (.int x4), some (.int y0), some (.int (A 51 ((3 * x1) + 1).toNatClampNeg)), some (.int 1)] [] (A, R, G)))))))))))))))) :
    aw tX5_may E 33 [some (.ref 48), some (.int x1), d2, some (.int x3), some (.int x4), d5, d6, d7] [.int y0] (A, R, G) := by
  obtain ⟨q1, h⟩ := h
  obtain ⟨q2, h⟩ := h
  by_cases c3 : ((A 48 5) - (A 48 5) / 10 * 10) < (A 50 x1.toNatClampNeg)
  · replace h := h.1 c3
    by_cases c4 : (A 49 x1.toNatClampNeg) = 1
    · replace h := h.1 c4
      obtain ⟨n, h⟩ := h
      exact ⟨n + 26, And.intro (gt48 hG) (And.intro (gt51 hG) (And.intro (vin_len (gl51 hG) q1) (And.intro (gt48 hG) (And.intro (by decide) (And.intro (gt48 hG) (And.intro (gt50 hG) (And.intro (vin_len (gl50 hG) q2) (Or.inl (And.intro c3 (And.intro (gt48 hG) (And.intro (gt49 hG) (And.intro (vin_len (gl49 hG) q2) (Or.inl (And.intro c4 (h)))))))))))))))⟩
    · replace h := h.2 c4
      by_cases c5 : (A 49 x1.toNatClampNeg) = 2
      · replace h := h.1 c5
        obtain ⟨n, h⟩ := h
        exact ⟨n + 26, And.intro (gt48 hG) (And.intro (gt51 hG) (And.intro (vin_len (gl51 hG) q1) (And.intro (gt48 hG) (And.intro (by decide) (And.intro (gt48 hG) (And.intro (gt50 hG) (And.intro (vin_len (gl50 hG) q2) (Or.inl (And.intro c3 (And.intro (gt48 hG) (And.intro (gt49 hG) (And.intro (vin_len (gl49 hG) q2) (Or.inr (And.intro c4 (Or.inl (And.intro c5 (h)))))))))))))))))⟩
      · replace h := h.2 c5
        by_cases c6 : (A 49 x1.toNatClampNeg) = 3
        · replace h := h.1 c6
          obtain ⟨n, h⟩ := h
          exact ⟨n + 26, And.intro (gt48 hG) (And.intro (gt51 hG) (And.intro (vin_len (gl51 hG) q1) (And.intro (gt48 hG) (And.intro (by decide) (And.intro (gt48 hG) (And.intro (gt50 hG) (And.intro (vin_len (gl50 hG) q2) (Or.inl (And.intro c3 (And.intro (gt48 hG) (And.intro (gt49 hG) (And.intro (vin_len (gl49 hG) q2) (Or.inr (And.intro c4 (Or.inr (And.intro c5 (Or.inl (And.intro c6 (h)))))))))))))))))))⟩
        · replace h := h.2 c6
          by_cases c7 : (A 49 x1.toNatClampNeg) = 4
          · replace h := h.1 c7
            obtain ⟨n, h⟩ := h
            exact ⟨n + 26, And.intro (gt48 hG) (And.intro (gt51 hG) (And.intro (vin_len (gl51 hG) q1) (And.intro (gt48 hG) (And.intro (by decide) (And.intro (gt48 hG) (And.intro (gt50 hG) (And.intro (vin_len (gl50 hG) q2) (Or.inl (And.intro c3 (And.intro (gt48 hG) (And.intro (gt49 hG) (And.intro (vin_len (gl49 hG) q2) (Or.inr (And.intro c4 (Or.inr (And.intro c5 (Or.inr (And.intro c6 (Or.inl (And.intro c7 (h)))))))))))))))))))))⟩
          · replace h := h.2 c7
            by_cases c8 : (A 49 x1.toNatClampNeg) = 5
            · replace h := h.1 c8
              obtain ⟨n, h⟩ := h
              exact ⟨n + 26, And.intro (gt48 hG) (And.intro (gt51 hG) (And.intro (vin_len (gl51 hG) q1) (And.intro (gt48 hG) (And.intro (by decide) (And.intro (gt48 hG) (And.intro (gt50 hG) (And.intro (vin_len (gl50 hG) q2) (Or.inl (And.intro c3 (And.intro (gt48 hG) (And.intro (gt49 hG) (And.intro (vin_len (gl49 hG) q2) (Or.inr (And.intro c4 (Or.inr (And.intro c5 (Or.inr (And.intro c6 (Or.inr (And.intro c7 (Or.inl (And.intro c8 (h)))))))))))))))))))))))⟩
            · replace h := h.2 c8
              obtain ⟨n, h⟩ := h
              exact ⟨n + 26, And.intro (gt48 hG) (And.intro (gt51 hG) (And.intro (vin_len (gl51 hG) q1) (And.intro (gt48 hG) (And.intro (by decide) (And.intro (gt48 hG) (And.intro (gt50 hG) (And.intro (vin_len (gl50 hG) q2) (Or.inl (And.intro c3 (And.intro (gt48 hG) (And.intro (gt49 hG) (And.intro (vin_len (gl49 hG) q2) (Or.inr (And.intro c4 (Or.inr (And.intro c5 (Or.inr (And.intro c6 (Or.inr (And.intro c7 (Or.inr (And.intro c8 (h)))))))))))))))))))))))⟩
  · replace h := h.2 c3
    by_cases c9 : (A 49 x1.toNatClampNeg) = 1
    · replace h := h.1 c9
      obtain ⟨n, h⟩ := h
      exact ⟨n + 27, And.intro (gt48 hG) (And.intro (gt51 hG) (And.intro (vin_len (gl51 hG) q1) (And.intro (gt48 hG) (And.intro (by decide) (And.intro (gt48 hG) (And.intro (gt50 hG) (And.intro (vin_len (gl50 hG) q2) (Or.inr (And.intro c3 (And.intro (gt48 hG) (And.intro (gt49 hG) (And.intro (vin_len (gl49 hG) q2) (Or.inl (And.intro c9 (h)))))))))))))))⟩
    · replace h := h.2 c9
      by_cases c10 : (A 49 x1.toNatClampNeg) = 2
      · replace h := h.1 c10
        obtain ⟨n, h⟩ := h
        exact ⟨n + 27, And.intro (gt48 hG) (And.intro (gt51 hG) (And.intro (vin_len (gl51 hG) q1) (And.intro (gt48 hG) (And.intro (by decide) (And.intro (gt48 hG) (And.intro (gt50 hG) (And.intro (vin_len (gl50 hG) q2) (Or.inr (And.intro c3 (And.intro (gt48 hG) (And.intro (gt49 hG) (And.intro (vin_len (gl49 hG) q2) (Or.inr (And.intro c9 (Or.inl (And.intro c10 (h)))))))))))))))))⟩
      · replace h := h.2 c10
        by_cases c11 : (A 49 x1.toNatClampNeg) = 3
        · replace h := h.1 c11
          obtain ⟨n, h⟩ := h
          exact ⟨n + 27, And.intro (gt48 hG) (And.intro (gt51 hG) (And.intro (vin_len (gl51 hG) q1) (And.intro (gt48 hG) (And.intro (by decide) (And.intro (gt48 hG) (And.intro (gt50 hG) (And.intro (vin_len (gl50 hG) q2) (Or.inr (And.intro c3 (And.intro (gt48 hG) (And.intro (gt49 hG) (And.intro (vin_len (gl49 hG) q2) (Or.inr (And.intro c9 (Or.inr (And.intro c10 (Or.inl (And.intro c11 (h)))))))))))))))))))⟩
        · replace h := h.2 c11
          by_cases c12 : (A 49 x1.toNatClampNeg) = 4
          · replace h := h.1 c12
            obtain ⟨n, h⟩ := h
            exact ⟨n + 27, And.intro (gt48 hG) (And.intro (gt51 hG) (And.intro (vin_len (gl51 hG) q1) (And.intro (gt48 hG) (And.intro (by decide) (And.intro (gt48 hG) (And.intro (gt50 hG) (And.intro (vin_len (gl50 hG) q2) (Or.inr (And.intro c3 (And.intro (gt48 hG) (And.intro (gt49 hG) (And.intro (vin_len (gl49 hG) q2) (Or.inr (And.intro c9 (Or.inr (And.intro c10 (Or.inr (And.intro c11 (Or.inl (And.intro c12 (h)))))))))))))))))))))⟩
          · replace h := h.2 c12
            by_cases c13 : (A 49 x1.toNatClampNeg) = 5
            · replace h := h.1 c13
              obtain ⟨n, h⟩ := h
              exact ⟨n + 27, And.intro (gt48 hG) (And.intro (gt51 hG) (And.intro (vin_len (gl51 hG) q1) (And.intro (gt48 hG) (And.intro (by decide) (And.intro (gt48 hG) (And.intro (gt50 hG) (And.intro (vin_len (gl50 hG) q2) (Or.inr (And.intro c3 (And.intro (gt48 hG) (And.intro (gt49 hG) (And.intro (vin_len (gl49 hG) q2) (Or.inr (And.intro c9 (Or.inr (And.intro c10 (Or.inr (And.intro c11 (Or.inr (And.intro c12 (Or.inl (And.intro c13 (h)))))))))))))))))))))))⟩
            · replace h := h.2 c13
              obtain ⟨n, h⟩ := h
              exact ⟨n + 27, And.intro (gt48 hG) (And.intro (gt51 hG) (And.intro (vin_len (gl51 hG) q1) (And.intro (gt48 hG) (And.intro (by decide) (And.intro (gt48 hG) (And.intro (gt50 hG) (And.intro (vin_len (gl50 hG) q2) (Or.inr (And.intro c3 (And.intro (gt48 hG) (And.intro (gt49 hG) (And.intro (vin_len (gl49 hG) q2) (Or.inr (And.intro c9 (Or.inr (And.intro c10 (Or.inr (And.intro c11 (Or.inr (And.intro c12 (Or.inr (And.intro c13 (h)))))))))))))))))))))))⟩

set_option maxRecDepth 100000 in
set_option maxHeartbeats 4000000 in
theorem sX5_may_112 {E : aR} {A : Nat → Nat → Int32} {R : Nat → Nat → Option Nat} {G : Nat → Nat × Nat} (d1 : Option Value) (d2 : Option Value) (d3 : Option Value) (x4 : Int32) (x5 : Int32) (x6 : Int32) (d7 : Option Value)
    (h : ((1 < x4) → (E (some (.int 0)) (A, R, G))) ∧ ((¬ (1 < x4)) → (((x6 < x5) → (E (some (.int 0)) (A, R, G))) ∧ ((¬ (x6 < x5)) → (E (some (.int 1)) (A, R, G)))))) :
    aw tX5_may E 112 [some (.ref 48), d1, d2, d3, some (.int x4), some (.int x5), some (.int x6), d7] [] (A, R, G) := by
  by_cases c1 : 1 < x4
  · replace h := h.1 c1
    exact ⟨5, Or.inl (And.intro c1 (And.intro (Or.inl rfl) (h)))⟩
  · replace h := h.2 c1
    by_cases c2 : x6 < x5
    · replace h := h.1 c2
      exact ⟨8, Or.inr (And.intro c1 (Or.inl (And.intro c2 (And.intro (Or.inl rfl) (h)))))⟩
    · replace h := h.2 c2
      exact ⟨9, Or.inr (And.intro c1 (Or.inr (And.intro c2 (And.intro (Or.inr rfl) (h)))))⟩

set_option maxRecDepth 100000 in
set_option maxHeartbeats 4000000 in
theorem sX5_may_131 {E : aR} {A : Nat → Nat → Int32} {R : Nat → Nat → Option Nat} {G : Nat → Nat × Nat} (d1 : Option Value) (d2 : Option Value) (d3 : Option Value) (x4 : Int32) (x5 : Int32) (x6 : Int32) (x7 : Int32)
    (h : ((x4 = 0) → (((x6 < x5) → (E (some (.int 0)) (A, R, G))) ∧ ((¬ (x6 < x5)) → (((x7 = 0) → (E (some (.int 0)) (A, R, G))) ∧ ((¬ (x7 = 0)) → (E (some (.int 1)) (A, R, G))))))) ∧ ((¬ (x4 = 0)) → (E (some (.int 0)) (A, R, G)))) :
    aw tX5_may E 131 [some (.ref 48), d1, d2, d3, some (.int x4), some (.int x5), some (.int x6), some (.int x7)] [] (A, R, G) := by
  by_cases c1 : x4 = 0
  · replace h := h.1 c1
    by_cases c2 : x6 < x5
    · replace h := h.1 c2
      exact ⟨7, Or.inr (And.intro (fun z => z c1) (Or.inl (And.intro c2 (And.intro (Or.inl rfl) (h)))))⟩
    · replace h := h.2 c2
      by_cases c3 : x7 = 0
      · replace h := h.1 c3
        exact ⟨9, Or.inr (And.intro (fun z => z c1) (Or.inr (And.intro c2 (Or.inl (And.intro c3 (And.intro (Or.inl rfl) (h)))))))⟩
      · replace h := h.2 c3
        exact ⟨10, Or.inr (And.intro (fun z => z c1) (Or.inr (And.intro c2 (Or.inr (And.intro c3 (And.intro (Or.inr rfl) (h)))))))⟩
  · replace h := h.2 c1
    exact ⟨4, Or.inl (And.intro c1 (And.intro (Or.inl rfl) (h)))⟩

set_option maxRecDepth 100000 in
set_option maxHeartbeats 4000000 in
theorem sX5_may_154 {E : aR} {A : Nat → Nat → Int32} {R : Nat → Nat → Option Nat} {G : Nat → Nat × Nat} (hG : aGS G) (x1 : Int32) (d2 : Option Value) (x3 : Int32) (x4 : Int32) (x5 : Int32) (x6 : Int32) (d7 : Option Value)
    (h : (vp_in x1 6) ∧ (((x3 = (1 <<< ((A 50 x1.toNatClampNeg) &&& 31))) → (E (some (.int 1)) (A, R, G))) ∧ ((¬ (x3 = (1 <<< ((A 50 x1.toNatClampNeg) &&& 31)))) → (((1 < x4) → (E (some (.int 0)) (A, R, G))) ∧ ((¬ (1 < x4)) → (((x6 < x5) → (E (some (.int 0)) (A, R, G))) ∧ ((¬ (x6 < x5)) → ((((ones x3) < 3) → (E (some (.int 0)) (A, R, G))) ∧ ((¬ ((ones x3) < 3)) → (E (some (.int 1)) (A, R, G))))))))))) :
    aw tX5_may E 154 [some (.ref 48), some (.int x1), d2, some (.int x3), some (.int x4), some (.int x5), some (.int x6), d7] [] (A, R, G) := by
  obtain ⟨q1, h⟩ := h
  by_cases c2 : x3 = (1 <<< ((A 50 x1.toNatClampNeg) &&& 31))
  · replace h := h.1 c2
    exact ⟨11, And.intro (gt48 hG) (And.intro (gt50 hG) (And.intro (vin_len (gl50 hG) q1) (Or.inl (And.intro c2 (And.intro (Or.inr rfl) (h))))))⟩
  · replace h := h.2 c2
    by_cases c3 : 1 < x4
    · replace h := h.1 c3
      exact ⟨13, And.intro (gt48 hG) (And.intro (gt50 hG) (And.intro (vin_len (gl50 hG) q1) (Or.inr (And.intro c2 (Or.inl (And.intro c3 (And.intro (Or.inl rfl) (h))))))))⟩
    · replace h := h.2 c3
      by_cases c4 : x6 < x5
      · replace h := h.1 c4
        exact ⟨16, And.intro (gt48 hG) (And.intro (gt50 hG) (And.intro (vin_len (gl50 hG) q1) (Or.inr (And.intro c2 (Or.inr (And.intro c3 (Or.inl (And.intro c4 (And.intro (Or.inl rfl) (h))))))))))⟩
      · replace h := h.2 c4
        by_cases c5 : (ones x3) < 3
        · replace h := h.1 c5
          exact ⟨20, And.intro (gt48 hG) (And.intro (gt50 hG) (And.intro (vin_len (gl50 hG) q1) (Or.inr (And.intro c2 (Or.inr (And.intro c3 (Or.inr (And.intro c4 (Exists.intro _ (Exists.intro _ (And.intro (Nat.le_of_ble_eq_true rfl) (And.intro (Nat.le_of_ble_eq_true rfl) (And.intro (pX5_onesOf _) (Or.inl (And.intro c5 (And.intro (Or.inl rfl) (h)))))))))))))))))⟩
        · replace h := h.2 c5
          exact ⟨21, And.intro (gt48 hG) (And.intro (gt50 hG) (And.intro (vin_len (gl50 hG) q1) (Or.inr (And.intro c2 (Or.inr (And.intro c3 (Or.inr (And.intro c4 (Exists.intro _ (Exists.intro _ (And.intro (Nat.le_of_ble_eq_true rfl) (And.intro (Nat.le_of_ble_eq_true rfl) (And.intro (pX5_onesOf _) (Or.inr (And.intro c5 (And.intro (Or.inr rfl) (h)))))))))))))))))⟩

set_option maxRecDepth 100000 in
set_option maxHeartbeats 4000000 in
theorem sX5_may_193 {E : aR} {A : Nat → Nat → Int32} {R : Nat → Nat → Option Nat} {G : Nat → Nat × Nat} (d1 : Option Value) (d2 : Option Value) (d3 : Option Value) (x4 : Int32) (x5 : Int32) (x6 : Int32) (x7 : Int32)
    (h : ((x4 = 0) → (((x6 < (2 * x5)) → (E (some (.int 0)) (A, R, G))) ∧ ((¬ (x6 < (2 * x5))) → (((x7 = 0) → (E (some (.int 0)) (A, R, G))) ∧ ((¬ (x7 = 0)) → (E (some (.int 1)) (A, R, G))))))) ∧ ((¬ (x4 = 0)) → (E (some (.int 0)) (A, R, G)))) :
    aw tX5_may E 193 [some (.ref 48), d1, d2, d3, some (.int x4), some (.int x5), some (.int x6), some (.int x7)] [] (A, R, G) := by
  by_cases c1 : x4 = 0
  · replace h := h.1 c1
    by_cases c2 : x6 < (2 * x5)
    · replace h := h.1 c2
      exact ⟨9, Or.inr (And.intro (fun z => z c1) (Or.inl (And.intro c2 (And.intro (Or.inl rfl) (h)))))⟩
    · replace h := h.2 c2
      by_cases c3 : x7 = 0
      · replace h := h.1 c3
        exact ⟨11, Or.inr (And.intro (fun z => z c1) (Or.inr (And.intro c2 (Or.inl (And.intro c3 (And.intro (Or.inl rfl) (h)))))))⟩
      · replace h := h.2 c3
        exact ⟨12, Or.inr (And.intro (fun z => z c1) (Or.inr (And.intro c2 (Or.inr (And.intro c3 (And.intro (Or.inr rfl) (h)))))))⟩
  · replace h := h.2 c1
    exact ⟨4, Or.inl (And.intro c1 (And.intro (Or.inl rfl) (h)))⟩

set_option maxRecDepth 100000 in
set_option maxHeartbeats 4000000 in
theorem sX5_may_218 {E : aR} {A : Nat → Nat → Int32} {R : Nat → Nat → Option Nat} {G : Nat → Nat × Nat} (hG : aGS G) (x1 : Int32) (d2 : Option Value) (d3 : Option Value) (d4 : Option Value) (d5 : Option Value) (d6 : Option Value) (d7 : Option Value)
    (h : (vp_in x1 6) ∧ (((((A 48 5) - (A 48 5) / 7 * 7) = (A 50 x1.toNatClampNeg)) → (E (some (.int 1)) (A, R, G))) ∧ ((¬ (((A 48 5) - (A 48 5) / 7 * 7) = (A 50 x1.toNatClampNeg))) → (E (some (.int 0)) (A, R, G))))) :
    aw tX5_may E 218 [some (.ref 48), some (.int x1), d2, d3, d4, d5, d6, d7] [] (A, R, G) := by
  obtain ⟨q1, h⟩ := h
  by_cases c2 : ((A 48 5) - (A 48 5) / 7 * 7) = (A 50 x1.toNatClampNeg)
  · replace h := h.1 c2
    exact ⟨12, And.intro (gt48 hG) (And.intro (by decide) (And.intro (gt48 hG) (And.intro (gt50 hG) (And.intro (vin_len (gl50 hG) q1) (Or.inr (And.intro (fun z => z c2) (And.intro (Or.inr rfl) (h))))))))⟩
  · replace h := h.2 c2
    exact ⟨11, And.intro (gt48 hG) (And.intro (by decide) (And.intro (gt48 hG) (And.intro (gt50 hG) (And.intro (vin_len (gl50 hG) q1) (Or.inl (And.intro c2 (And.intro (Or.inl rfl) (h))))))))⟩

set_option maxRecDepth 100000 in
set_option maxHeartbeats 4000000 in
theorem sX5_may_240 {E : aR} {A : Nat → Nat → Int32} {R : Nat → Nat → Option Nat} {G : Nat → Nat × Nat} (d1 : Option Value) (d2 : Option Value) (d3 : Option Value) (x4 : Int32) (x5 : Int32) (x6 : Int32) (d7 : Option Value)
    (h : ((x4 = 0) → (((x6 < x5) → (E (some (.int 0)) (A, R, G))) ∧ ((¬ (x6 < x5)) → (E (some (.int 1)) (A, R, G))))) ∧ ((¬ (x4 = 0)) → (E (some (.int 0)) (A, R, G)))) :
    aw tX5_may E 240 [some (.ref 48), d1, d2, d3, some (.int x4), some (.int x5), some (.int x6), d7] [] (A, R, G) := by
  by_cases c1 : x4 = 0
  · replace h := h.1 c1
    by_cases c2 : x6 < x5
    · replace h := h.1 c2
      exact ⟨7, Or.inr (And.intro (fun z => z c1) (Or.inl (And.intro c2 (And.intro (Or.inl rfl) (h)))))⟩
    · replace h := h.2 c2
      exact ⟨8, Or.inr (And.intro (fun z => z c1) (Or.inr (And.intro c2 (And.intro (Or.inr rfl) (h)))))⟩
  · replace h := h.2 c1
    exact ⟨4, Or.inl (And.intro c1 (And.intro (Or.inl rfl) (h)))⟩

set_option maxRecDepth 100000 in
set_option maxHeartbeats 4000000 in
theorem sX5_takesOf_0 {E : aR} {A : Nat → Nat → Int32} {R : Nat → Nat → Option Nat} {G : Nat → Nat × Nat} (hG : aGS G) (x1 : Int32) (x2 : Int32)
    (h : ∃ (v1 : Int32) (μ1 : aM), CX5_asksOf [.ref 48, .int 1, .int x1, .int x2] (A, R, G) (some (.int v1)) μ1 ∧ aw tX5_takesOf E 7 [some (.ref 48), some (.int x1), some (.int x2), none, none] [.int v1] μ1) :
    aw tX5_takesOf E 0 [some (.ref 48), some (.int x1), some (.int x2), none, none] [] (A, R, G) := by
  obtain ⟨v1, μ1, h1, n, h⟩ := h
  exact ⟨n + 5, Exists.intro _ (Exists.intro _ (Exists.intro _ (Exists.intro _ (And.intro rfl (And.intro (gt48 hG) (And.intro (Nat.le_of_ble_eq_true rfl) (And.intro h1 (h))))))))⟩

set_option maxRecDepth 100000 in
set_option maxHeartbeats 4000000 in
theorem sX5_takesOf_7 {E : aR} {A : Nat → Nat → Int32} {R : Nat → Nat → Option Nat} {G : Nat → Nat × Nat} (hG : aGS G) (x1 : Int32) (d2 : Option Value) (d3 : Option Value) (d4 : Option Value) (y0 : Int32)
    (h : (vp_in x1 6) ∧ ((((A 49 x1.toNatClampNeg) = 1) → (((1 ≤ (y0 + (A 50 x1.toNatClampNeg))) → (E (some (.int (y0 + (A 50 x1.toNatClampNeg)))) (A, R, G))) ∧ ((¬ (1 ≤ (y0 + (A 50 x1.toNatClampNeg)))) → (E (some (.int 1)) (A, R, G))))) ∧ ((¬ ((A 49 x1.toNatClampNeg) = 1)) → ((((A 49 x1.toNatClampNeg) = 3) → (((1 ≤ (y0 + (A 50 x1.toNatClampNeg))) → (E (some (.int (y0 + (A 50 x1.toNatClampNeg)))) (A, R, G))) ∧ ((¬ (1 ≤ (y0 + (A 50 x1.toNatClampNeg)))) → (E (some (.int 1)) (A, R, G))))) ∧ ((¬ ((A 49 x1.toNatClampNeg) = 3)) → ((((A 49 x1.toNatClampNeg) = 4) → (((1 ≤ (2 * y0)) → (E (some (.int (2 * y0))) (A, R, G))) ∧ ((¬ (1 ≤ (2 * y0))) → (E (some (.int 1)) (A, R, G))))) ∧ ((¬ ((A 49 x1.toNatClampNeg) = 4)) → (((1 ≤ y0) → (E (some (.int y0)) (A, R, G))) ∧ ((¬ (1 ≤ y0)) → (E (some (.int 1)) (A, R, G))))))))))) :
    aw tX5_takesOf E 7 [some (.ref 48), some (.int x1), d2, d3, d4] [.int y0] (A, R, G) := by
  obtain ⟨q1, h⟩ := h
  by_cases c2 : (A 49 x1.toNatClampNeg) = 1
  · replace h := h.1 c2
    by_cases c3 : 1 ≤ (y0 + (A 50 x1.toNatClampNeg))
    · replace h := h.1 c3
      exact ⟨20, And.intro (gt48 hG) (And.intro (gt49 hG) (And.intro (vin_len (gl49 hG) q1) (Or.inl (And.intro c2 (And.intro (gt48 hG) (And.intro (gt50 hG) (And.intro (vin_len (gl50 hG) q1) (Or.inl (And.intro c3 (h))))))))))⟩
    · replace h := h.2 c3
      exact ⟨21, And.intro (gt48 hG) (And.intro (gt49 hG) (And.intro (vin_len (gl49 hG) q1) (Or.inl (And.intro c2 (And.intro (gt48 hG) (And.intro (gt50 hG) (And.intro (vin_len (gl50 hG) q1) (Or.inr (And.intro c3 (h))))))))))⟩
  · replace h := h.2 c2
    by_cases c4 : (A 49 x1.toNatClampNeg) = 3
    · replace h := h.1 c4
      by_cases c5 : 1 ≤ (y0 + (A 50 x1.toNatClampNeg))
      · replace h := h.1 c5
        exact ⟨26, And.intro (gt48 hG) (And.intro (gt49 hG) (And.intro (vin_len (gl49 hG) q1) (Or.inr (And.intro c2 (And.intro (gt48 hG) (And.intro (gt49 hG) (And.intro (vin_len (gl49 hG) q1) (Or.inr (And.intro (fun z => z c4) (And.intro (gt48 hG) (And.intro (gt50 hG) (And.intro (vin_len (gl50 hG) q1) (Or.inl (And.intro c5 (h)))))))))))))))⟩
      · replace h := h.2 c5
        exact ⟨27, And.intro (gt48 hG) (And.intro (gt49 hG) (And.intro (vin_len (gl49 hG) q1) (Or.inr (And.intro c2 (And.intro (gt48 hG) (And.intro (gt49 hG) (And.intro (vin_len (gl49 hG) q1) (Or.inr (And.intro (fun z => z c4) (And.intro (gt48 hG) (And.intro (gt50 hG) (And.intro (vin_len (gl50 hG) q1) (Or.inr (And.intro c5 (h)))))))))))))))⟩
    · replace h := h.2 c4
      by_cases c6 : (A 49 x1.toNatClampNeg) = 4
      · replace h := h.1 c6
        by_cases c7 : 1 ≤ (2 * y0)
        · replace h := h.1 c7
          exact ⟨29, And.intro (gt48 hG) (And.intro (gt49 hG) (And.intro (vin_len (gl49 hG) q1) (Or.inr (And.intro c2 (And.intro (gt48 hG) (And.intro (gt49 hG) (And.intro (vin_len (gl49 hG) q1) (Or.inl (And.intro c4 (And.intro (gt48 hG) (And.intro (gt49 hG) (And.intro (vin_len (gl49 hG) q1) (Or.inr (And.intro (fun z => z c6) (Or.inl (And.intro c7 (h)))))))))))))))))⟩
        · replace h := h.2 c7
          exact ⟨30, And.intro (gt48 hG) (And.intro (gt49 hG) (And.intro (vin_len (gl49 hG) q1) (Or.inr (And.intro c2 (And.intro (gt48 hG) (And.intro (gt49 hG) (And.intro (vin_len (gl49 hG) q1) (Or.inl (And.intro c4 (And.intro (gt48 hG) (And.intro (gt49 hG) (And.intro (vin_len (gl49 hG) q1) (Or.inr (And.intro (fun z => z c6) (Or.inr (And.intro c7 (h)))))))))))))))))⟩
      · replace h := h.2 c6
        by_cases c8 : 1 ≤ y0
        · replace h := h.1 c8
          exact ⟨26, And.intro (gt48 hG) (And.intro (gt49 hG) (And.intro (vin_len (gl49 hG) q1) (Or.inr (And.intro c2 (And.intro (gt48 hG) (And.intro (gt49 hG) (And.intro (vin_len (gl49 hG) q1) (Or.inl (And.intro c4 (And.intro (gt48 hG) (And.intro (gt49 hG) (And.intro (vin_len (gl49 hG) q1) (Or.inl (And.intro c6 (Or.inl (And.intro c8 (h)))))))))))))))))⟩
        · replace h := h.2 c8
          exact ⟨27, And.intro (gt48 hG) (And.intro (gt49 hG) (And.intro (vin_len (gl49 hG) q1) (Or.inr (And.intro c2 (And.intro (gt48 hG) (And.intro (gt49 hG) (And.intro (vin_len (gl49 hG) q1) (Or.inl (And.intro c4 (And.intro (gt48 hG) (And.intro (gt49 hG) (And.intro (vin_len (gl49 hG) q1) (Or.inl (And.intro c6 (Or.inr (And.intro c8 (h)))))))))))))))))⟩

set_option maxRecDepth 100000 in
set_option maxHeartbeats 4000000 in
theorem sX5_judgesOf_0 {E : aR} {A : Nat → Nat → Int32} {R : Nat → Nat → Option Nat} {G : Nat → Nat × Nat} (hG : aGS G) (x1 : Int32) (x2 : Int32)
    (h : ∃ (v1 : Int32) (μ1 : aM), CX5_asksOf [.ref 48, .int 2, .int x1, .int x2] (A, R, G) (some (.int v1)) μ1 ∧ aw tX5_judgesOf E 7 [some (.ref 48), some (.int x1), some (.int x2), none] [.int v1] μ1) :
    aw tX5_judgesOf E 0 [some (.ref 48), some (.int x1), some (.int x2), none] [] (A, R, G) := by
  obtain ⟨v1, μ1, h1, n, h⟩ := h
  exact ⟨n + 5, Exists.intro _ (Exists.intro _ (Exists.intro _ (Exists.intro _ (And.intro rfl (And.intro (gt48 hG) (And.intro (Nat.le_of_ble_eq_true rfl) (And.intro h1 (h))))))))⟩

set_option maxRecDepth 100000 in
set_option maxHeartbeats 4000000 in
theorem sX5_judgesOf_7 {E : aR} {A : Nat → Nat → Int32} {R : Nat → Nat → Option Nat} {G : Nat → Nat × Nat} (hG : aGS G) (x1 : Int32) (d2 : Option Value) (d3 : Option Value) (y0 : Int32)
    (h : (vp_in x1 6) ∧ ((((A 49 x1.toNatClampNeg) = 2) → (E (some (.int (y0 + (A 50 x1.toNatClampNeg)))) (A, R, G))) ∧ ((¬ ((A 49 x1.toNatClampNeg) = 2)) → ((((A 49 x1.toNatClampNeg) = 3) → (E (some (.int (y0 / 2))) (A, R, G))) ∧ ((¬ ((A 49 x1.toNatClampNeg) = 3)) → ((((A 49 x1.toNatClampNeg) = 4) → (E (some (.int (y0 + (A 50 x1.toNatClampNeg)))) (A, R, G))) ∧ ((¬ ((A 49 x1.toNatClampNeg) = 4)) → ((((A 49 x1.toNatClampNeg) = 5) → (E (some (.int (-y0))) (A, R, G))) ∧ ((¬ ((A 49 x1.toNatClampNeg) = 5)) → (E (some (.int y0)) (A, R, G))))))))))) :
    aw tX5_judgesOf E 7 [some (.ref 48), some (.int x1), d2, d3] [.int y0] (A, R, G) := by
  obtain ⟨q1, h⟩ := h
  by_cases c2 : (A 49 x1.toNatClampNeg) = 2
  · replace h := h.1 c2
    exact ⟨13, And.intro (gt48 hG) (And.intro (gt49 hG) (And.intro (vin_len (gl49 hG) q1) (Or.inl (And.intro c2 (And.intro (gt48 hG) (And.intro (gt50 hG) (And.intro (vin_len (gl50 hG) q1) (h))))))))⟩
  · replace h := h.2 c2
    by_cases c3 : (A 49 x1.toNatClampNeg) = 3
    · replace h := h.1 c3
      exact ⟨10, And.intro (gt48 hG) (And.intro (gt49 hG) (And.intro (vin_len (gl49 hG) q1) (Or.inr (And.intro c2 (Or.inl (And.intro c3 (And.intro (by decide) (h))))))))⟩
    · replace h := h.2 c3
      by_cases c4 : (A 49 x1.toNatClampNeg) = 4
      · replace h := h.1 c4
        exact ⟨13, And.intro (gt48 hG) (And.intro (gt49 hG) (And.intro (vin_len (gl49 hG) q1) (Or.inr (And.intro c2 (Or.inr (And.intro c3 (Or.inl (And.intro c4 (And.intro (gt48 hG) (And.intro (gt50 hG) (And.intro (vin_len (gl50 hG) q1) (h))))))))))))⟩
      · replace h := h.2 c4
        by_cases c5 : (A 49 x1.toNatClampNeg) = 5
        · replace h := h.1 c5
          exact ⟨9, And.intro (gt48 hG) (And.intro (gt49 hG) (And.intro (vin_len (gl49 hG) q1) (Or.inr (And.intro c2 (Or.inr (And.intro c3 (Or.inr (And.intro c4 (Or.inl (And.intro c5 (h)))))))))))⟩
        · replace h := h.2 c5
          exact ⟨8, And.intro (gt48 hG) (And.intro (gt49 hG) (And.intro (vin_len (gl49 hG) q1) (Or.inr (And.intro c2 (Or.inr (And.intro c3 (Or.inr (And.intro c4 (Or.inr (And.intro c5 (h)))))))))))⟩

set_option maxRecDepth 100000 in
set_option maxHeartbeats 4000000 in
theorem sX5_can_0 {E : aR} {A : Nat → Nat → Int32} {R : Nat → Nat → Option Nat} {G : Nat → Nat × Nat} (hG : aGS G) (x1 : Int32) (x2 : Int32)
    (h : (vp_in ((3 * x1) + 2) 18) ∧ ((((A 51 ((3 * x1) + 2).toNatClampNeg) = 0) → (∃ (v1 : Int32) (μ1 : aM), CX5_may [.ref 48, .int x1, .int x2] (A, R, G) (some (.int v1)) μ1 ∧ aw tX5_can E 19 [some (.ref 48), some (.int x1), some (.int x2)] [.int v1] μ1)) ∧ ((¬ ((A 51 ((3 * x1) + 2).toNatClampNeg) = 0)) → (E (some (.int 0)) (A, R, G))))) :
    aw tX5_can E 0 [some (.ref 48), some (.int x1), some (.int x2)] [] (A, R, G) := by
  obtain ⟨q1, h⟩ := h
  by_cases c2 : (A 51 ((3 * x1) + 2).toNatClampNeg) = 0
  · replace h := h.1 c2
    obtain ⟨v1, μ1, h1, n, h⟩ := h
    exact ⟨n + 13, And.intro (gt48 hG) (And.intro (gt51 hG) (And.intro (vin_len (gl51 hG) q1) (Or.inr (And.intro (fun z => z c2) (Exists.intro _ (Exists.intro _ (Exists.intro _ (Exists.intro _ (And.intro rfl (And.intro (gt48 hG) (And.intro (Nat.le_of_ble_eq_true rfl) (And.intro h1 (h)))))))))))))⟩
  · replace h := h.2 c2
    exact ⟨11, And.intro (gt48 hG) (And.intro (gt51 hG) (And.intro (vin_len (gl51 hG) q1) (Or.inl (And.intro c2 (And.intro (Or.inl rfl) (h))))))⟩

set_option maxRecDepth 100000 in
set_option maxHeartbeats 4000000 in
theorem sX5_can_19 {E : aR} {A : Nat → Nat → Int32} {R : Nat → Nat → Option Nat} {G : Nat → Nat × Nat} (d1 : Option Value) (d2 : Option Value) (y0 : Int32)
    (h : ((y0 = 0) → (E (some (.int 0)) (A, R, G))) ∧ ((¬ (y0 = 0)) → (E (some (.int 1)) (A, R, G)))) :
    aw tX5_can E 19 [some (.ref 48), d1, d2] [.int y0] (A, R, G) := by
  by_cases c1 : y0 = 0
  · replace h := h.1 c1
    exact ⟨3, Or.inl (And.intro c1 (And.intro (Or.inl rfl) (h)))⟩
  · replace h := h.2 c1
    exact ⟨4, Or.inr (And.intro c1 (And.intro (Or.inr rfl) (h)))⟩

set_option maxRecDepth 100000 in
set_option maxHeartbeats 4000000 in
theorem sX5_hears_0 {E : aR} {A : Nat → Nat → Int32} {R : Nat → Nat → Option Nat} {G : Nat → Nat × Nat} (hG : aGS G) (x1 : Int32) (x2 : Int32)
    (h : ∃ (v1 : Int32) (μ1 : aM), CX5_judgesOf [.ref 48, .int x1, .int x2] (A, R, G) (some (.int v1)) μ1 ∧ aw tX5_hears E 6 [some (.ref 48), some (.int x1), some (.int x2), none, none, none] [.int v1] μ1) :
    aw tX5_hears E 0 [some (.ref 48), some (.int x1), some (.int x2), none, none, none] [] (A, R, G) := by
  obtain ⟨v1, μ1, h1, n, h⟩ := h
  exact ⟨n + 4, Exists.intro _ (Exists.intro _ (Exists.intro _ (Exists.intro _ (And.intro rfl (And.intro (gt48 hG) (And.intro (Nat.le_of_ble_eq_true rfl) (And.intro h1 (h))))))))⟩

set_option maxRecDepth 100000 in
set_option maxHeartbeats 4000000 in
theorem sX5_hears_6 {E : aR} {A : Nat → Nat → Int32} {R : Nat → Nat → Option Nat} {G : Nat → Nat × Nat} (hG : aGS G) (x1 : Int32) (x2 : Int32) (d3 : Option Value) (d4 : Option Value) (d5 : Option Value) (y0 : Int32)
    (h : ∃ (v1 : Int32) (μ1 : aM), CX5_takesOf [.ref 48, .int x1, .int x2] (A, R, G) (some (.int v1)) μ1 ∧ aw tX5_hears E 13 [some (.ref 48), some (.int x1), some (.int x2), some (.int y0), d4, d5] [.int v1] μ1) :
    aw tX5_hears E 6 [some (.ref 48), some (.int x1), some (.int x2), d3, d4, d5] [.int y0] (A, R, G) := by
  obtain ⟨v1, μ1, h1, n, h⟩ := h
  exact ⟨n + 5, Exists.intro _ (Exists.intro _ (Exists.intro _ (Exists.intro _ (And.intro rfl (And.intro (gt48 hG) (And.intro (Nat.le_of_ble_eq_true rfl) (And.intro h1 (h))))))))⟩

set_option maxRecDepth 100000 in
set_option maxHeartbeats 4000000 in
theorem sX5_hears_13 {E : aR} {A : Nat → Nat → Int32} {R : Nat → Nat → Option Nat} {G : Nat → Nat × Nat} (hG : aGS G) (x1 : Int32) (x2 : Int32) (x3 : Int32) (d4 : Option Value) (d5 : Option Value) (y0 : Int32)
    (h : (vp_in (3 * x1) 18) ∧ ((vp_in (3 * x2) 24) ∧ ((vp_in ((3 * x1) + 2) 18) ∧ (∀ v4 : Int32, v4 = (((au A 51 ((3 * x1) + 2).toNatClampNeg y0) 51 (3 * x1).toNatClampNeg) &&& ((((A 51 (3 * x1).toNatClampNeg) &&& (A 52 (3 * x2).toNatClampNeg)) &&& (-((A 51 (3 * x1).toNatClampNeg) &&& (A 52 (3 * x2).toNatClampNeg)))) ^^^ (-1))) → ((vp_in ((3 * x1) + 1) 18) ∧ (aw tX5_hears E 93 [some (.ref 48), some (.int x1), some (.int x2), some (.int x3), some (.int y0), some (.int ((A 51 (3 * x1).toNatClampNeg) &&& (A 52 (3 * x2).toNatClampNeg)))] [] ((au (au (au A 51 ((3 * x1) + 2).toNatClampNeg y0) 51 (3 * x1).toNatClampNeg v4) 51 ((3 * x1) + 1).toNatClampNeg (clI (((au (au A 51 ((3 * x1) + 2).toNatClampNeg y0) 51 (3 * x1).toNatClampNeg v4) 51 ((3 * x1) + 1).toNatClampNeg) + x3) 0 99)), R, G))))))) :
    aw tX5_hears E 13 [some (.ref 48), some (.int x1), some (.int x2), some (.int x3), d4, d5] [.int y0] (A, R, G) := by
  obtain ⟨q1, h⟩ := h
  obtain ⟨q2, h⟩ := h
  obtain ⟨q3, h⟩ := h
  obtain ⟨v4, hv4⟩ : ∃ z : Int32, z = (((au A 51 ((3 * x1) + 2).toNatClampNeg y0) 51 (3 * x1).toNatClampNeg) &&& ((((A 51 (3 * x1).toNatClampNeg) &&& (A 52 (3 * x2).toNatClampNeg)) &&& (-((A 51 (3 * x1).toNatClampNeg) &&& (A 52 (3 * x2).toNatClampNeg)))) ^^^ (-1))) := ⟨_, rfl⟩
  replace h := h v4 hv4
  obtain ⟨q5, h⟩ := h
  obtain ⟨n, h⟩ := h
  subst hv4
  exact ⟨n + 60, And.intro (gt48 hG) (And.intro (gt51 hG) (And.intro (vin_len (gl51 hG) q1) (And.intro (gt48 hG) (And.intro (gt52 hG) (And.intro (vin_len (gl52 hG) q2) (And.intro (gt48 hG) (And.intro (gt51 hG) (And.intro (vin_len (gl51 hG) q3) (And.intro (gt48 hG) (And.intro rfl (And.intro rfl (And.intro (gt51 hG) (And.intro (vin_len (gl51 hG) q1) (And.intro (gt51 hG) (And.intro (vin_len (gl51 hG) q1) (And.intro (gt48 hG) (And.intro (gt48 hG) (And.intro (gt51 hG) (And.intro (vin_len (gl51 hG) q5) (Exists.intro _ (Exists.intro _ (And.intro (Nat.le_of_ble_eq_true rfl) (And.intro (Nat.le_of_ble_eq_true rfl) (And.intro (pX5_within _ _ _) (And.intro (gt51 hG) (And.intro (vin_len (gl51 hG) q5) (h)))))))))))))))))))))))))))⟩

set_option maxRecDepth 100000 in
set_option maxHeartbeats 4000000 in
theorem sX5_hears_93 {E : aR} {A : Nat → Nat → Int32} {R : Nat → Nat → Option Nat} {G : Nat → Nat × Nat} (hG : aGS G) (d1 : Option Value) (x2 : Int32) (x3 : Int32) (d4 : Option Value) (d5 : Option Value)
    (h : (vp_in (3 * x2) 24) ∧ (E (some (.int x3)) ((au (au A 52 (3 * x2).toNatClampNeg 0) 48 6 (clI ((((au A 52 (3 * x2).toNatClampNeg 0)) 48 6) + 1) 0 999)), R, G))) :
    aw tX5_hears E 93 [some (.ref 48), d1, some (.int x2), some (.int x3), d4, d5] [] (A, R, G) := by
  obtain ⟨q1, h⟩ := h
  exact ⟨18, And.intro (gt48 hG) (And.intro (gt52 hG) (And.intro (vin_len (gl52 hG) q1) (And.intro (gt48 hG) (Exists.intro _ (Exists.intro _ (And.intro (Nat.le_of_ble_eq_true rfl) (And.intro (Nat.le_of_ble_eq_true rfl) (And.intro (pX5_within _ _ _) (And.intro (gt48 hG) (h))))))))))⟩

set_option maxRecDepth 100000 in
set_option maxHeartbeats 4000000 in
theorem sX5_isHeard_0 {E : aR} {A : Nat → Nat → Int32} {R : Nat → Nat → Option Nat} {G : Nat → Nat × Nat} (x1 : Int32)
    (h : aw tX5_isHeard E 2 [some (.ref 48), some (.int x1), some (.int 0)] [] (A, R, G)) :
    aw tX5_isHeard E 0 [some (.ref 48), some (.int x1), none] [] (A, R, G) := by
  obtain ⟨n, h⟩ := h
  exact ⟨n + 2, h⟩

set_option maxRecDepth 100000 in
set_option maxHeartbeats 4000000 in
theorem sX5_isHeard_2 {E : aR} {A : Nat → Nat → Int32} {R : Nat → Nat → Option Nat} {G : Nat → Nat × Nat} (hG : aGS G) (x1 : Int32) (x2 : Int32)
    (h : (((A 48 0) ≤ x2) → (E (some (.int 0)) (A, R, G))) ∧ ((¬ ((A 48 0) ≤ x2)) → (∃ (v1 : Int32) (μ1 : aM), CX5_can [.ref 48, .int x2, .int x1] (A, R, G) (some (.int v1)) μ1 ∧ aw tX5_isHeard E 16 [some (.ref 48), some (.int x1), some (.int x2)] [.int v1] μ1))) :
    aw tX5_isHeard E 2 [some (.ref 48), some (.int x1), some (.int x2)] [] (A, R, G) := by
  by_cases c1 : (A 48 0) ≤ x2
  · replace h := h.1 c1
    exact ⟨6, And.intro (gt48 hG) (Or.inl (And.intro c1 (And.intro (Or.inl rfl) (h))))⟩
  · replace h := h.2 c1
    obtain ⟨v1, μ1, h1, n, h⟩ := h
    exact ⟨n + 8, And.intro (gt48 hG) (Or.inr (And.intro c1 (Exists.intro _ (Exists.intro _ (Exists.intro _ (Exists.intro _ (And.intro rfl (And.intro (gt48 hG) (And.intro (Nat.le_of_ble_eq_true rfl) (And.intro h1 (h)))))))))))⟩

set_option maxRecDepth 100000 in
set_option maxHeartbeats 4000000 in
theorem sX5_isHeard_16 {E : aR} {A : Nat → Nat → Int32} {R : Nat → Nat → Option Nat} {G : Nat → Nat × Nat} (hG : aGS G) (x1 : Int32) (x2 : Int32) (y0 : Int32)
    (h : ((y0 = 0) → (aw tX5_isHeard E 2 [some (.ref 48), some (.int x1), some (.int (x2 + 1))] [] (A, R, G))) ∧ ((¬ (y0 = 0)) → (∃ (v1 : Int32) (μ1 : aM), CX5_hears [.ref 48, .int x2, .int x1] (A, R, G) (some (.int v1)) μ1 ∧ aw tX5_isHeard E 25 [some (.ref 48), some (.int x1), some (.int x2)] [.int v1] μ1))) :
    aw tX5_isHeard E 16 [some (.ref 48), some (.int x1), some (.int x2)] [.int y0] (A, R, G) := by
  by_cases c1 : y0 = 0
  · replace h := h.1 c1
    obtain ⟨n, h⟩ := h
    exact ⟨n + 3, Or.inl (And.intro c1 (h))⟩
  · replace h := h.2 c1
    obtain ⟨v1, μ1, h1, n, h⟩ := h
    exact ⟨n + 5, Or.inr (And.intro c1 (Exists.intro _ (Exists.intro _ (Exists.intro _ (Exists.intro _ (And.intro rfl (And.intro (gt48 hG) (And.intro (Nat.le_of_ble_eq_true rfl) (And.intro h1 (h))))))))))⟩

set_option maxRecDepth 100000 in
set_option maxHeartbeats 4000000 in
theorem sX5_isHeard_25 {E : aR} {A : Nat → Nat → Int32} {R : Nat → Nat → Option Nat} {G : Nat → Nat × Nat} (d1 : Option Value) (d2 : Option Value) (y0 : Int32)
    (h : E (some (.int 1)) (A, R, G)) :
    aw tX5_isHeard E 25 [some (.ref 48), d1, d2] [.int y0] (A, R, G) := by
  exact ⟨3, And.intro rfl (And.intro (Or.inr rfl) (h))⟩

set_option maxRecDepth 100000 in
set_option maxHeartbeats 4000000 in
theorem sX5_dayOf_0 {E : aR} {A : Nat → Nat → Int32} {R : Nat → Nat → Option Nat} {G : Nat → Nat × Nat}
    (h : aw tX5_dayOf E 4 [some (.ref 48), some (.int 0), some (.int 0)] [] (A, R, G)) :
    aw tX5_dayOf E 0 [some (.ref 48), none, none] [] (A, R, G) := by
  obtain ⟨n, h⟩ := h
  exact ⟨n + 4, h⟩

set_option maxRecDepth 100000 in
set_option maxHeartbeats 4000000 in
theorem sX5_dayOf_4 {E : aR} {A : Nat → Nat → Int32} {R : Nat → Nat → Option Nat} {G : Nat → Nat × Nat} (hG : aGS G) (x1 : Int32) (x2 : Int32)
    (h : (((A 48 0) ≤ x2) → (aw tX5_dayOf E 51 [some (.ref 48), some (.int x1), some (.int 0)] [] (A, R, G))) ∧ ((¬ ((A 48 0) ≤ x2)) → ((vp_in ((3 * x2) + 2) 18) ∧ ((((A 51 ((3 * x2) + 2).toNatClampNeg) ≤ 0) → (aw tX5_dayOf E 4 [some (.ref 48), some (.int x1), some (.int (x2 + 1))] [] ((au A 51 ((3 * x2) + 2).toNatClampNeg ((A 51 ((3 * x2) + 2).toNatClampNeg) - 0)), R, G))) ∧ ((¬ ((A 51 ((3 * x2) + 2).toNatClampNeg) ≤ 0)) → (aw tX5_dayOf E 4 [some (.ref 48), some (.int x1), some (.int (x2 + 1))] [] ((au A 51 ((3 * x2) + 2).toNatClampNeg ((A 51 ((3 * x2) + 2).toNatClampNeg) - 1)), R, G))))))) :
    aw tX5_dayOf E 4 [some (.ref 48), some (.int x1), some (.int x2)] [] (A, R, G) := by
  by_cases c1 : (A 48 0) ≤ x2
  · replace h := h.1 c1
    obtain ⟨n, h⟩ := h
    exact ⟨n + 6, And.intro (gt48 hG) (Or.inl (And.intro c1 (h)))⟩
  · replace h := h.2 c1
    obtain ⟨q2, h⟩ := h
    by_cases c3 : (A 51 ((3 * x2) + 2).toNatClampNeg) ≤ 0
    · replace h := h.1 c3
      obtain ⟨n, h⟩ := h
      exact ⟨n + 27, And.intro (gt48 hG) (Or.inr (And.intro c1 (And.intro (gt48 hG) (And.intro rfl (And.intro rfl (And.intro (gt51 hG) (And.intro (vin_len (gl51 hG) q2) (And.intro (gt48 hG) (And.intro (gt51 hG) (And.intro (vin_len (gl51 hG) q2) (Or.inl (And.intro c3 (And.intro (gt51 hG) (And.intro (vin_len (gl51 hG) q2) (h)))))))))))))))⟩
    · replace h := h.2 c3
      obtain ⟨n, h⟩ := h
      exact ⟨n + 28, And.intro (gt48 hG) (Or.inr (And.intro c1 (And.intro (gt48 hG) (And.intro rfl (And.intro rfl (And.intro (gt51 hG) (And.intro (vin_len (gl51 hG) q2) (And.intro (gt48 hG) (And.intro (gt51 hG) (And.intro (vin_len (gl51 hG) q2) (Or.inr (And.intro c3 (And.intro (gt51 hG) (And.intro (vin_len (gl51 hG) q2) (h)))))))))))))))⟩

set_option maxRecDepth 100000 in
set_option maxHeartbeats 4000000 in
theorem sX5_dayOf_51 {E : aR} {A : Nat → Nat → Int32} {R : Nat → Nat → Option Nat} {G : Nat → Nat × Nat} (hG : aGS G) (x1 : Int32) (x2 : Int32)
    (h : ((8 ≤ x2) → (E (some (.int x1)) ((au A 48 5 ((A 48 5) + 1)), R, G))) ∧ ((¬ (8 ≤ x2)) → (((thM A x2) → (∃ (v1 : Int32) (μ1 : aM), CX5_isHeard [.ref 48, .int x2] (A, R, G) (some (.int v1)) μ1 ∧ aw tX5_dayOf E 70 [some (.ref 48), some (.int x1), some (.int x2)] [.int v1] μ1)) ∧ ((¬ (thM A x2)) → (aw tX5_dayOf E 51 [some (.ref 48), some (.int x1), some (.int (x2 + 1))] [] (A, R, G)))))) :
    aw tX5_dayOf E 51 [some (.ref 48), some (.int x1), some (.int x2)] [] (A, R, G) := by
  by_cases c1 : 8 ≤ x2
  · replace h := h.1 c1
    exact ⟨11, Or.inl (And.intro c1 (And.intro rfl (And.intro (gt48 hG) (And.intro (gt48 hG) (h)))))⟩
  · replace h := h.2 c1
    by_cases c2 : thM A x2
    · replace h := h.1 c2
      obtain ⟨v1, μ1, h1, n, h⟩ := h
      exact ⟨n + 10, Or.inr (And.intro c1 (Exists.intro _ (Exists.intro _ (Exists.intro _ (Exists.intro _ (And.intro rfl (And.intro (gt48 hG) (And.intro (Nat.le_of_ble_eq_true rfl) (And.intro (pX5_isThere hG _) (Or.inr (And.intro (bI_neq c2) (Exists.intro _ (Exists.intro _ (Exists.intro _ (Exists.intro _ (And.intro rfl (And.intro (gt48 hG) (And.intro (Nat.le_of_ble_eq_true rfl) (And.intro h1 (h))))))))))))))))))))⟩
    · replace h := h.2 c2
      obtain ⟨n, h⟩ := h
      exact ⟨n + 9, Or.inr (And.intro c1 (Exists.intro _ (Exists.intro _ (Exists.intro _ (Exists.intro _ (And.intro rfl (And.intro (gt48 hG) (And.intro (Nat.le_of_ble_eq_true rfl) (And.intro (pX5_isThere hG _) (Or.inl (And.intro (bI_eq c2) (h))))))))))))⟩

set_option maxRecDepth 100000 in
set_option maxHeartbeats 4000000 in
theorem sX5_dayOf_70 {E : aR} {A : Nat → Nat → Int32} {R : Nat → Nat → Option Nat} {G : Nat → Nat × Nat} (hG : aGS G) (x1 : Int32) (x2 : Int32) (y0 : Int32)
    (h : ((y0 = 0) → ((vp_in ((3 * x2) + 2) 24) ∧ (aw tX5_dayOf E 51 [some (.ref 48), some (.int x1), some (.int (x2 + 1))] [] ((au A 52 ((3 * x2) + 2).toNatClampNeg (clI ((A 52 ((3 * x2) + 2).toNatClampNeg) + 1) 0 99)), R, G)))) ∧ ((¬ (y0 = 0)) → (aw tX5_dayOf E 51 [some (.ref 48), some (.int (x1 ||| (1 <<< (x2 &&& 31)))), some (.int (x2 + 1))] [] (A, R, G)))) :
    aw tX5_dayOf E 70 [some (.ref 48), some (.int x1), some (.int x2)] [.int y0] (A, R, G) := by
  by_cases c1 : y0 = 0
  · replace h := h.1 c1
    obtain ⟨q2, h⟩ := h
    obtain ⟨n, h⟩ := h
    exact ⟨n + 24, Or.inl (And.intro c1 (And.intro (gt48 hG) (And.intro (gt48 hG) (And.intro (gt52 hG) (And.intro (vin_len (gl52 hG) q2) (Exists.intro _ (Exists.intro _ (And.intro (Nat.le_of_ble_eq_true rfl) (And.intro (Nat.le_of_ble_eq_true rfl) (And.intro (pX5_within _ _ _) (And.intro (gt52 hG) (And.intro (vin_len (gl52 hG) q2) (h)))))))))))))⟩
  · replace h := h.2 c1
    obtain ⟨n, h⟩ := h
    exact ⟨n + 10, Or.inr (And.intro c1 (h))⟩
