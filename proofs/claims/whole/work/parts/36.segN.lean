theorem aw_inc {tb : aT} {E : aR} {pc : Nat} {L : aL} {st : List Value} {μ : aM} {i nx : Nat} {v x : Int32} (h1 : alk tb pc = o_inc i v nx) (h2 : ag L i = some (.int x)) (h : aw tb E nx (as1 L i (.int (x + v))) st μ) : aw tb E pc L st μ := by
  obtain ⟨n, h⟩ := h
  refine ⟨n + 1, ?_⟩
  show alk tb pc L st μ (arun tb E n) E
  rw [h1]
  unfold o_inc
  simp only [h2]
  exact h

set_option maxRecDepth 100000 in
set_option maxHeartbeats 4000000 in
theorem sX5_mayHear_0 {E : aR} {A : Nat → Nat → Int32} {R : Nat → Nat → Option Nat} {G : Nat → Nat × Nat} (x1 : Int32)
    (h : aw tX5_mayHear E 4 [some (.ref 48), some (.int x1), some (.int 0), some (.int 0)] [] (A, R, G)) :
    aw tX5_mayHear E 0 [some (.ref 48), some (.int x1), none, none] [] (A, R, G) := by
  obtain ⟨n, h⟩ := h
  exact ⟨n + 4, h⟩

set_option maxRecDepth 100000 in
set_option maxHeartbeats 4000000 in
theorem sX5_mayHear_4 {E : aR} {A : Nat → Nat → Int32} {R : Nat → Nat → Option Nat} {G : Nat → Nat × Nat} (hG : aGS G) (x1 : Int32) (x2 : Int32) (x3 : Int32)
    (h : ((8 ≤ x3) → (E (some (.int x2)) (A, R, G))) ∧ ((¬ (8 ≤ x3)) → (((thM A x3) → (∃ (v1 : Int32) (μ1 : aM), CX5_may [.ref 48, .int x1, .int x3] (A, R, G) (some (.int v1)) μ1 ∧ aw tX5_mayHear E 25 [some (.ref 48), some (.int x1), some (.int x2), some (.int x3)] [.int v1, .int x2] μ1)) ∧ ((¬ (thM A x3)) → (aw tX5_mayHear E 4 [some (.ref 48), some (.int x1), some (.int x2), some (.int (x3 + 1))] [] (A, R, G)))))) :
    aw tX5_mayHear E 4 [some (.ref 48), some (.int x1), some (.int x2), some (.int x3)] [] (A, R, G) := by
  by_cases c1 : 8 ≤ x3
  · replace h := h.1 c1
    exact ⟨5, Or.inl (And.intro c1 (h))⟩
  · replace h := h.2 c1
    by_cases c2 : thM A x3
    · replace h := h.1 c2
      obtain ⟨v1, μ1, h1, n, h⟩ := h
      exact ⟨n + 12, Or.inr (And.intro c1 (Exists.intro _ (Exists.intro _ (Exists.intro _ (Exists.intro _ (And.intro rfl (And.intro (gt48 hG) (And.intro (Nat.le_of_ble_eq_true rfl) (And.intro (pX5_isThere hG _) (Or.inr (And.intro (bI_neq c2) (Exists.intro _ (Exists.intro _ (Exists.intro _ (Exists.intro _ (And.intro rfl (And.intro (gt48 hG) (And.intro (Nat.le_of_ble_eq_true rfl) (And.intro h1 (h))))))))))))))))))))⟩
    · replace h := h.2 c2
      obtain ⟨n, h⟩ := h
      exact ⟨n + 9, Or.inr (And.intro c1 (Exists.intro _ (Exists.intro _ (Exists.intro _ (Exists.intro _ (And.intro rfl (And.intro (gt48 hG) (And.intro (Nat.le_of_ble_eq_true rfl) (And.intro (pX5_isThere hG _) (Or.inl (And.intro (bI_eq c2) (h))))))))))))⟩

set_option maxRecDepth 100000 in
set_option maxHeartbeats 4000000 in
theorem sX5_mayHear_25 {E : aR} {A : Nat → Nat → Int32} {R : Nat → Nat → Option Nat} {G : Nat → Nat × Nat} (x1 : Int32) (d2 : Option Value) (x3 : Int32) (y0 : Int32) (y1 : Int32)
    (h : ((y0 = 0) → (aw tX5_mayHear E 4 [some (.ref 48), some (.int x1), some (.int (y1 ||| 0)), some (.int (x3 + 1))] [] (A, R, G))) ∧ ((¬ (y0 = 0)) → (aw tX5_mayHear E 4 [some (.ref 48), some (.int x1), some (.int (y1 ||| ((1 : Int32) <<< (x3 &&& 31)))), some (.int (x3 + 1))] [] (A, R, G)))) :
    aw tX5_mayHear E 25 [some (.ref 48), some (.int x1), d2, some (.int x3)] [.int y0, .int y1] (A, R, G) := by
  by_cases c1 : y0 = 0
  · replace h := h.1 c1
    obtain ⟨n, h⟩ := h
    exact ⟨n + 6, Or.inl (And.intro c1 (h))⟩
  · replace h := h.2 c1
    obtain ⟨n, h⟩ := h
    exact ⟨n + 9, Or.inr (And.intro c1 (h))⟩

set_option maxRecDepth 100000 in
set_option maxHeartbeats 4000000 in
theorem sX5_whoMay_0 {E : aR} {A : Nat → Nat → Int32} {R : Nat → Nat → Option Nat} {G : Nat → Nat × Nat} (x1 : Int32)
    (h : aw tX5_whoMay E 4 [some (.ref 48), some (.int x1), some (.int 0), some (.int 0)] [] (A, R, G)) :
    aw tX5_whoMay E 0 [some (.ref 48), some (.int x1), none, none] [] (A, R, G) := by
  obtain ⟨n, h⟩ := h
  exact ⟨n + 4, h⟩

set_option maxRecDepth 100000 in
set_option maxHeartbeats 4000000 in
theorem sX5_whoMay_4 {E : aR} {A : Nat → Nat → Int32} {R : Nat → Nat → Option Nat} {G : Nat → Nat × Nat} (hG : aGS G) (x1 : Int32) (x2 : Int32) (x3 : Int32)
    (h : (((A 48 0) ≤ x3) → (E (some (.int x2)) (A, R, G))) ∧ ((¬ ((A 48 0) ≤ x3)) → (∃ (v1 : Int32) (μ1 : aM), CX5_may [.ref 48, .int x3, .int x1] (A, R, G) (some (.int v1)) μ1 ∧ aw tX5_whoMay E 19 [some (.ref 48), some (.int x1), some (.int x2), some (.int x3)] [.int v1, .int x2] μ1))) :
    aw tX5_whoMay E 4 [some (.ref 48), some (.int x1), some (.int x2), some (.int x3)] [] (A, R, G) := by
  by_cases c1 : (A 48 0) ≤ x3
  · replace h := h.1 c1
    exact ⟨6, And.intro (gt48 hG) (Or.inl (And.intro c1 (h)))⟩
  · replace h := h.2 c1
    obtain ⟨v1, μ1, h1, n, h⟩ := h
    exact ⟨n + 9, And.intro (gt48 hG) (Or.inr (And.intro c1 (Exists.intro _ (Exists.intro _ (Exists.intro _ (Exists.intro _ (And.intro rfl (And.intro (gt48 hG) (And.intro (Nat.le_of_ble_eq_true rfl) (And.intro h1 (h)))))))))))⟩

set_option maxRecDepth 100000 in
set_option maxHeartbeats 4000000 in
theorem sX5_whoMay_19 {E : aR} {A : Nat → Nat → Int32} {R : Nat → Nat → Option Nat} {G : Nat → Nat × Nat} (x1 : Int32) (d2 : Option Value) (x3 : Int32) (y0 : Int32) (y1 : Int32)
    (h : ((y0 = 0) → (aw tX5_whoMay E 4 [some (.ref 48), some (.int x1), some (.int (y1 ||| 0)), some (.int (x3 + 1))] [] (A, R, G))) ∧ ((¬ (y0 = 0)) → (aw tX5_whoMay E 4 [some (.ref 48), some (.int x1), some (.int (y1 ||| ((1 : Int32) <<< (x3 &&& 31)))), some (.int (x3 + 1))] [] (A, R, G)))) :
    aw tX5_whoMay E 19 [some (.ref 48), some (.int x1), d2, some (.int x3)] [.int y0, .int y1] (A, R, G) := by
  by_cases c1 : y0 = 0
  · replace h := h.1 c1
    obtain ⟨n, h⟩ := h
    exact ⟨n + 6, Or.inl (And.intro c1 (h))⟩
  · replace h := h.2 c1
    obtain ⟨n, h⟩ := h
    exact ⟨n + 9, Or.inr (And.intro c1 (h))⟩

set_option maxRecDepth 100000 in
set_option maxHeartbeats 4000000 in
theorem sX5_keeps_0 {E : aR} {A : Nat → Nat → Int32} {R : Nat → Nat → Option Nat} {G : Nat → Nat × Nat}
    (h : aw tX5_keeps E 2 [some (.ref 48), some (.int 0)] [] (A, R, G)) :
    aw tX5_keeps E 0 [some (.ref 48), none] [] (A, R, G) := by
  obtain ⟨n, h⟩ := h
  exact ⟨n + 2, h⟩

set_option maxRecDepth 100000 in
set_option maxHeartbeats 4000000 in
theorem sX5_keeps_2 {E : aR} {A : Nat → Nat → Int32} {R : Nat → Nat → Option Nat} {G : Nat → Nat × Nat} (hG : aGS G) (x1 : Int32)
    (h : ((18 ≤ x1) → (aw tX5_keeps E 28 [some (.ref 48), some (.int 0)] [] (A, R, G))) ∧ ((¬ (18 ≤ x1)) → ((vp_in x1 18) ∧ ((vp_in x1 44) ∧ (aw tX5_keeps E 2 [some (.ref 48), some (.int (x1 + 1))] [] ((au A 66 x1.toNatClampNeg (A 51 x1.toNatClampNeg)), R, G)))))) :
    aw tX5_keeps E 2 [some (.ref 48), some (.int x1)] [] (A, R, G) := by
  by_cases c1 : 18 ≤ x1
  · replace h := h.1 c1
    obtain ⟨n, h⟩ := h
    exact ⟨n + 5, Or.inl (And.intro c1 (h))⟩
  · replace h := h.2 c1
    obtain ⟨q2, h⟩ := h
    obtain ⟨q3, h⟩ := h
    obtain ⟨n, h⟩ := h
    exact ⟨n + 13, Or.inr (And.intro c1 (And.intro (gt48 hG) (And.intro (gt48 hG) (And.intro (gt51 hG) (And.intro (vin_len (gl51 hG) q2) (And.intro (gt66 hG) (And.intro (vin_len (gl66 hG) q3) (h))))))))⟩

set_option maxRecDepth 100000 in
set_option maxHeartbeats 4000000 in
theorem sX5_keeps_28 {E : aR} {A : Nat → Nat → Int32} {R : Nat → Nat → Option Nat} {G : Nat → Nat × Nat} (hG : aGS G) (x1 : Int32)
    (h : ((24 ≤ x1) → (E none ((au (au A 66 42 (A 48 5)) 66 43 (((au A 66 42 (A 48 5))) 48 6)), R, G))) ∧ ((¬ (24 ≤ x1)) → ((vp_in x1 24) ∧ ((vp_in (18 + x1) 44) ∧ (aw tX5_keeps E 28 [some (.ref 48), some (.int (x1 + 1))] [] ((au A 66 (18 + x1).toNatClampNeg (A 52 x1.toNatClampNeg)), R, G)))))) :
    aw tX5_keeps E 28 [some (.ref 48), some (.int x1)] [] (A, R, G) := by
  by_cases c1 : 24 ≤ x1
  · replace h := h.1 c1
    exact ⟨16, Or.inl (And.intro c1 (And.intro (gt48 hG) (And.intro (gt48 hG) (And.intro (gt66 hG) (And.intro (vin_len (gl66 hG) (by unfold vp_in; decide)) (And.intro (gt48 hG) (And.intro (gt48 hG) (And.intro (gt66 hG) (And.intro (vin_len (gl66 hG) (by unfold vp_in; decide)) (h))))))))))⟩
  · replace h := h.2 c1
    obtain ⟨q2, h⟩ := h
    obtain ⟨q3, h⟩ := h
    obtain ⟨n, h⟩ := h
    exact ⟨n + 15, Or.inr (And.intro c1 (And.intro (gt48 hG) (And.intro (gt48 hG) (And.intro (gt52 hG) (And.intro (vin_len (gl52 hG) q2) (And.intro (gt66 hG) (And.intro (vin_len (gl66 hG) q3) (h))))))))⟩

set_option maxRecDepth 100000 in
set_option maxHeartbeats 4000000 in
theorem sX5_lays_0 {E : aR} {A : Nat → Nat → Int32} {R : Nat → Nat → Option Nat} {G : Nat → Nat × Nat}
    (h : aw tX5_lays E 2 [some (.ref 48), some (.int 0)] [] (A, R, G)) :
    aw tX5_lays E 0 [some (.ref 48), none] [] (A, R, G) := by
  obtain ⟨n, h⟩ := h
  exact ⟨n + 2, h⟩

set_option maxRecDepth 100000 in
set_option maxHeartbeats 4000000 in
theorem sX5_lays_2 {E : aR} {A : Nat → Nat → Int32} {R : Nat → Nat → Option Nat} {G : Nat → Nat × Nat} (hG : aGS G) (x1 : Int32)
    (h : ((18 ≤ x1) → (aw tX5_lays E 28 [some (.ref 48), some (.int 0)] [] (A, R, G))) ∧ ((¬ (18 ≤ x1)) → ((vp_in x1 44) ∧ ((vp_in x1 18) ∧ (aw tX5_lays E 2 [some (.ref 48), some (.int (x1 + 1))] [] ((au A 51 x1.toNatClampNeg (A 66 x1.toNatClampNeg)), R, G)))))) :
    aw tX5_lays E 2 [some (.ref 48), some (.int x1)] [] (A, R, G) := by
  by_cases c1 : 18 ≤ x1
  · replace h := h.1 c1
    obtain ⟨n, h⟩ := h
    exact ⟨n + 5, Or.inl (And.intro c1 (h))⟩
  · replace h := h.2 c1
    obtain ⟨q2, h⟩ := h
    obtain ⟨q3, h⟩ := h
    obtain ⟨n, h⟩ := h
    exact ⟨n + 13, Or.inr (And.intro c1 (And.intro (gt48 hG) (And.intro (gt48 hG) (And.intro (gt66 hG) (And.intro (vin_len (gl66 hG) q2) (And.intro (gt51 hG) (And.intro (vin_len (gl51 hG) q3) (h))))))))⟩

set_option maxRecDepth 100000 in
set_option maxHeartbeats 4000000 in
theorem sX5_lays_28 {E : aR} {A : Nat → Nat → Int32} {R : Nat → Nat → Option Nat} {G : Nat → Nat × Nat} (hG : aGS G) (x1 : Int32)
    (h : ((24 ≤ x1) → (E none ((au (au A 48 5 (A 66 42)) 48 6 ((au A 48 5 (A 66 42)) 66 43)), R, G))) ∧ ((¬ (24 ≤ x1)) → ((vp_in (18 + x1) 44) ∧ ((vp_in x1 24) ∧ (aw tX5_lays E 28 [some (.ref 48), some (.int (x1 + 1))] [] ((au A 52 x1.toNatClampNeg (A 66 (18 + x1).toNatClampNeg)), R, G)))))) :
    aw tX5_lays E 28 [some (.ref 48), some (.int x1)] [] (A, R, G) := by
  by_cases c1 : 24 ≤ x1
  · replace h := h.1 c1
    exact ⟨16, Or.inl (And.intro c1 (And.intro (gt48 hG) (And.intro (gt66 hG) (And.intro (vin_len (gl66 hG) (by unfold vp_in; decide)) (And.intro (gt48 hG) (And.intro (gt48 hG) (And.intro (gt66 hG) (And.intro (vin_len (gl66 hG) (by unfold vp_in; decide)) (And.intro (gt48 hG) (h))))))))))⟩
  · replace h := h.2 c1
    obtain ⟨q2, h⟩ := h
    obtain ⟨q3, h⟩ := h
    obtain ⟨n, h⟩ := h
    exact ⟨n + 15, Or.inr (And.intro c1 (And.intro (gt48 hG) (And.intro (gt48 hG) (And.intro (gt66 hG) (And.intro (vin_len (gl66 hG) q2) (And.intro (gt52 hG) (And.intro (vin_len (gl52 hG) q3) (h))))))))⟩

set_option maxRecDepth 100000 in
set_option maxHeartbeats 4000000 in
theorem sX5_goes_0 {E : aR} {A : Nat → Nat → Int32} {R : Nat → Nat → Option Nat} {G : Nat → Nat × Nat} (x1 : Int32)
    (h : aw tX5_goes E 4 [some (.ref 48), some (.int x1), some (.int 0), some (.int 0)] [] (A, R, G)) :
    aw tX5_goes E 0 [some (.ref 48), some (.int x1), none, none] [] (A, R, G) := by
  obtain ⟨n, h⟩ := h
  exact ⟨n + 4, h⟩

set_option maxRecDepth 100000 in
set_option maxHeartbeats 4000000 in
theorem sX5_goes_4 {E : aR} {A : Nat → Nat → Int32} {R : Nat → Nat → Option Nat} {G : Nat → Nat × Nat} (hG : aGS G) (x1 : Int32) (x2 : Int32) (x3 : Int32)
    (h : ((x1 ≤ x3) → (E (some (.int x2)) (A, R, G))) ∧ ((¬ (x1 ≤ x3)) → (∃ (v1 : Int32) (μ1 : aM), CX5_dayOf [.ref 48] (A, R, G) (some (.int v1)) μ1 ∧ aw tX5_goes E 14 [some (.ref 48), some (.int x1), some (.int x2), some (.int x3)] [.int v1, .int x2] μ1))) :
    aw tX5_goes E 4 [some (.ref 48), some (.int x1), some (.int x2), some (.int x3)] [] (A, R, G) := by
  by_cases c1 : x1 ≤ x3
  · replace h := h.1 c1
    exact ⟨5, Or.inl (And.intro c1 (h))⟩
  · replace h := h.2 c1
    obtain ⟨v1, μ1, h1, n, h⟩ := h
    exact ⟨n + 6, Or.inr (And.intro c1 (Exists.intro _ (Exists.intro _ (Exists.intro _ (Exists.intro _ (And.intro rfl (And.intro (gt48 hG) (And.intro (Nat.le_of_ble_eq_true rfl) (And.intro h1 (h))))))))))⟩

set_option maxRecDepth 100000 in
set_option maxHeartbeats 4000000 in
theorem sX5_goes_14 {E : aR} {A : Nat → Nat → Int32} {R : Nat → Nat → Option Nat} {G : Nat → Nat × Nat} (x1 : Int32) (d2 : Option Value) (x3 : Int32) (y0 : Int32) (y1 : Int32)
    (h : aw tX5_goes E 4 [some (.ref 48), some (.int x1), some (.int (y1 + (ones y0))), some (.int (x3 + 1))] [] (A, R, G)) :
    aw tX5_goes E 14 [some (.ref 48), some (.int x1), d2, some (.int x3)] [.int y0, .int y1] (A, R, G) := by
  obtain ⟨n, h⟩ := h
  exact ⟨n + 5, Exists.intro _ (Exists.intro _ (And.intro (Nat.le_of_ble_eq_true rfl) (And.intro (Nat.le_of_ble_eq_true rfl) (And.intro (pX5_onesOf _) (h)))))⟩

set_option maxRecDepth 100000 in
set_option maxHeartbeats 4000000 in
theorem sX5_waitedAll_0 {E : aR} {A : Nat → Nat → Int32} {R : Nat → Nat → Option Nat} {G : Nat → Nat × Nat}
    (h : aw tX5_waitedAll E 4 [some (.ref 48), some (.int 0), some (.int 0)] [] (A, R, G)) :
    aw tX5_waitedAll E 0 [some (.ref 48), none, none] [] (A, R, G) := by
  obtain ⟨n, h⟩ := h
  exact ⟨n + 4, h⟩

set_option maxRecDepth 100000 in
set_option maxHeartbeats 4000000 in
theorem sX5_waitedAll_4 {E : aR} {A : Nat → Nat → Int32} {R : Nat → Nat → Option Nat} {G : Nat → Nat × Nat} (hG : aGS G) (x1 : Int32) (x2 : Int32)
    (h : ((8 ≤ x2) → (E (some (.int x1)) (A, R, G))) ∧ ((¬ (8 ≤ x2)) → (((thM A x2) → ((vp_in ((3 * x2) + 2) 24) ∧ (aw tX5_waitedAll E 4 [some (.ref 48), some (.int (x1 + (A 52 ((3 * x2) + 2).toNatClampNeg))), some (.int (x2 + 1))] [] (A, R, G)))) ∧ ((¬ (thM A x2)) → (aw tX5_waitedAll E 4 [some (.ref 48), some (.int (x1 + 0)), some (.int (x2 + 1))] [] (A, R, G)))))) :
    aw tX5_waitedAll E 4 [some (.ref 48), some (.int x1), some (.int x2)] [] (A, R, G) := by
  by_cases c1 : 8 ≤ x2
  · replace h := h.1 c1
    exact ⟨5, Or.inl (And.intro c1 (h))⟩
  · replace h := h.2 c1
    by_cases c2 : thM A x2
    · replace h := h.1 c2
      obtain ⟨q3, h⟩ := h
      obtain ⟨n, h⟩ := h
      exact ⟨n + 21, Or.inr (And.intro c1 (Exists.intro _ (Exists.intro _ (Exists.intro _ (Exists.intro _ (And.intro rfl (And.intro (gt48 hG) (And.intro (Nat.le_of_ble_eq_true rfl) (And.intro (pX5_isThere hG _) (Or.inr (And.intro (bI_neq c2) (And.intro (gt48 hG) (And.intro (gt52 hG) (And.intro (vin_len (gl52 hG) q3) (h)))))))))))))))⟩
    · replace h := h.2 c2
      obtain ⟨n, h⟩ := h
      exact ⟨n + 13, Or.inr (And.intro c1 (Exists.intro _ (Exists.intro _ (Exists.intro _ (Exists.intro _ (And.intro rfl (And.intro (gt48 hG) (And.intro (Nat.le_of_ble_eq_true rfl) (And.intro (pX5_isThere hG _) (Or.inl (And.intro (bI_eq c2) (h))))))))))))⟩

set_option maxRecDepth 100000 in
set_option maxHeartbeats 4000000 in
theorem sX5_unlike_0 {E : aR} {A : Nat → Nat → Int32} {R : Nat → Nat → Option Nat} {G : Nat → Nat × Nat} (hG : aGS G) (x1 : Int32)
    (h : ∃ (μ1 : aM), CX5_keeps [.ref 48] (A, R, G) none μ1 ∧ aw tX5_unlike E 6 [some (.ref 48), some (.int x1), some (.int (-1)), none] [] μ1) :
    aw tX5_unlike E 0 [some (.ref 48), some (.int x1), none, none] [] (A, R, G) := by
  obtain ⟨μ1, h1, n, h⟩ := h
  exact ⟨n + 4, Exists.intro _ (Exists.intro _ (Exists.intro _ (Exists.intro _ (And.intro rfl (And.intro (gt48 hG) (And.intro (Nat.le_of_ble_eq_true rfl) (And.intro h1 (h))))))))⟩

set_option maxRecDepth 100000 in
set_option maxHeartbeats 4000000 in
theorem sX5_unlike_6 {E : aR} {A : Nat → Nat → Int32} {R : Nat → Nat → Option Nat} {G : Nat → Nat × Nat} (x1 : Int32) (x2 : Int32) (d3 : Option Value)
    (h : aw tX5_unlike E 8 [some (.ref 48), some (.int x1), some (.int x2), some (.int 0)] [] (A, R, G)) :
    aw tX5_unlike E 6 [some (.ref 48), some (.int x1), some (.int x2), d3] [] (A, R, G) := by
  obtain ⟨n, h⟩ := h
  exact ⟨n + 2, h⟩

set_option maxRecDepth 100000 in
set_option maxHeartbeats 4000000 in
theorem sX5_unlike_8 {E : aR} {A : Nat → Nat → Int32} {R : Nat → Nat → Option Nat} {G : Nat → Nat × Nat} (hG : aGS G) (x1 : Int32) (x2 : Int32) (x3 : Int32)
    (h : (vp_in x1 4) ∧ ((((A 59 x1.toNatClampNeg) ≤ x3) → (∃ (μ1 : aM), CX5_lays [.ref 48] (A, R, G) none μ1 ∧ aw tX5_unlike E 60 [some (.ref 48), some (.int x1), some (.int x2), some (.int x3)] [] μ1)) ∧ ((¬ ((A 59 x1.toNatClampNeg) ≤ x3)) → (((x2 = (-1)) → ((vp_in ((40 * x1) + x3) 160) ∧ (∃ (v1 : Int32) (μ1 : aM), CX5_dayOf [.ref 48] (A, R, G) (some (.int v1)) μ1 ∧ aw tX5_unlike E 38 [some (.ref 48), some (.int x1), some (.int x2), some (.int x3)] [.int v1, .int (A 60 ((40 * x1) + x3).toNatClampNeg)] μ1))) ∧ ((¬ (x2 = (-1))) → (∃ (μ1 : aM), CX5_lays [.ref 48] (A, R, G) none μ1 ∧ aw tX5_unlike E 60 [some (.ref 48), some (.int x1), some (.int x2), some (.int x3)] [] μ1)))))) :
    aw tX5_unlike E 8 [some (.ref 48), some (.int x1), some (.int x2), some (.int x3)] [] (A, R, G) := by
  obtain ⟨q1, h⟩ := h
  by_cases c2 : (A 59 x1.toNatClampNeg) ≤ x3
  · replace h := h.1 c2
    obtain ⟨μ1, h1, n, h⟩ := h
    exact ⟨n + 8, And.intro (gt48 hG) (And.intro (gt59 hG) (And.intro (vin_len (gl59 hG) q1) (Or.inl (And.intro c2 (Exists.intro _ (Exists.intro _ (Exists.intro _ (Exists.intro _ (And.intro rfl (And.intro (gt48 hG) (And.intro (Nat.le_of_ble_eq_true rfl) (And.intro h1 (h)))))))))))))⟩
  · replace h := h.2 c2
    by_cases c3 : x2 = (-1)
    · replace h := h.1 c3
      obtain ⟨q4, h⟩ := h
      obtain ⟨v1, μ1, h1, n, h⟩ := h
      exact ⟨n + 19, And.intro (gt48 hG) (And.intro (gt59 hG) (And.intro (vin_len (gl59 hG) q1) (Or.inr (And.intro c2 (Or.inr (And.intro (fun z => z c3) (And.intro (gt48 hG) (And.intro (gt60 hG) (And.intro (vin_len (gl60 hG) q4) (Exists.intro _ (Exists.intro _ (Exists.intro _ (Exists.intro _ (And.intro rfl (And.intro (gt48 hG) (And.intro (Nat.le_of_ble_eq_true rfl) (And.intro h1 (h))))))))))))))))))⟩
    · replace h := h.2 c3
      obtain ⟨μ1, h1, n, h⟩ := h
      exact ⟨n + 11, And.intro (gt48 hG) (And.intro (gt59 hG) (And.intro (vin_len (gl59 hG) q1) (Or.inr (And.intro c2 (Or.inl (And.intro c3 (Exists.intro _ (Exists.intro _ (Exists.intro _ (Exists.intro _ (And.intro rfl (And.intro (gt48 hG) (And.intro (Nat.le_of_ble_eq_true rfl) (And.intro h1 (h)))))))))))))))⟩

set_option maxRecDepth 100000 in
set_option maxHeartbeats 4000000 in
theorem sX5_unlike_38 {E : aR} {A : Nat → Nat → Int32} {R : Nat → Nat → Option Nat} {G : Nat → Nat × Nat} (x1 : Int32) (d2 : Option Value) (x3 : Int32) (y0 : Int32) (y1 : Int32)
    (h : ((y1 = (ones y0)) → (aw tX5_unlike E 8 [some (.ref 48), some (.int x1), some (.int (-1)), some (.int (x3 + 1))] [] (A, R, G))) ∧ ((¬ (y1 = (ones y0))) → (aw tX5_unlike E 8 [some (.ref 48), some (.int x1), some (.int x3), some (.int (x3 + 1))] [] (A, R, G)))) :
    aw tX5_unlike E 38 [some (.ref 48), some (.int x1), d2, some (.int x3)] [.int y0, .int y1] (A, R, G) := by
  by_cases c1 : y1 = (ones y0)
  · replace h := h.1 c1
    obtain ⟨n, h⟩ := h
    exact ⟨n + 7, Exists.intro _ (Exists.intro _ (And.intro (Nat.le_of_ble_eq_true rfl) (And.intro (Nat.le_of_ble_eq_true rfl) (And.intro (pX5_onesOf _) (Or.inr (And.intro (fun z => z c1) (h)))))))⟩
  · replace h := h.2 c1
    obtain ⟨n, h⟩ := h
    exact ⟨n + 6, Exists.intro _ (Exists.intro _ (And.intro (Nat.le_of_ble_eq_true rfl) (And.intro (Nat.le_of_ble_eq_true rfl) (And.intro (pX5_onesOf _) (Or.inl (And.intro c1 (h)))))))⟩

set_option maxRecDepth 100000 in
set_option maxHeartbeats 4000000 in
theorem sX5_unlike_60 {E : aR} {A : Nat → Nat → Int32} {R : Nat → Nat → Option Nat} {G : Nat → Nat × Nat} (d1 : Option Value) (x2 : Int32) (d3 : Option Value)
    (h : E (some (.int x2)) (A, R, G)) :
    aw tX5_unlike E 60 [some (.ref 48), d1, some (.int x2), d3] [] (A, R, G) := by
  exact ⟨2, h⟩

set_option maxRecDepth 100000 in
set_option maxHeartbeats 4000000 in
theorem sX5_burglars_0 {E : aR} {A : Nat → Nat → Int32} {R : Nat → Nat → Option Nat} {G : Nat → Nat × Nat} (hG : aGS G) (x1 : Int32)
    (h : ∃ (μ1 : aM), CX5_keeps [.ref 48] (A, R, G) none μ1 ∧ aw tX5_burglars E 12 [some (.ref 48), some (.int x1), some (.long (((x1 : Int32).toInt64) + 1)), none, some (.int 0), none, none] [] μ1) :
    aw tX5_burglars E 0 [some (.ref 48), some (.int x1), none, none, none, none, none] [] (A, R, G) := by
  obtain ⟨μ1, h1, n, h⟩ := h
  exact ⟨n + 9, Exists.intro _ (Exists.intro _ (Exists.intro _ (Exists.intro _ (And.intro rfl (And.intro (gt48 hG) (And.intro (Nat.le_of_ble_eq_true rfl) (And.intro h1 (h))))))))⟩

set_option maxRecDepth 100000 in
set_option maxHeartbeats 4000000 in
theorem sX5_burglars_12 {E : aR} {A : Nat → Nat → Int32} {R : Nat → Nat → Option Nat} {G : Nat → Nat × Nat} (d1 : Option Value) (x2 : Int64) (x4 : Int32) (d5 : Option Value) (d6 : Option Value)
    (h : aw tX5_burglars E 15 [some (.ref 48), d1, some (.long x2), none, some (.int x4), some (.int 0), d6] [] (A, R, G)) :
    aw tX5_burglars E 12 [some (.ref 48), d1, some (.long x2), none, some (.int x4), d5, d6] [] (A, R, G) := by
  obtain ⟨n, h⟩ := h
  exact ⟨n + 2, h⟩

set_option maxRecDepth 100000 in
set_option maxHeartbeats 4000000 in
theorem sX5_burglars_15 {E : aR} {A : Nat → Nat → Int32} {R : Nat → Nat → Option Nat} {G : Nat → Nat × Nat} (hG : aGS G) (d1 : Option Value) (x2 : Int64) (x4 : Int32) (x5 : Int32) (d6 : Option Value)
    (h : ((10 ≤ x5) → (∃ (μ1 : aM), CX5_lays [.ref 48] ((au A 48 34 (csM A)), R, G) none μ1 ∧ aw tX5_burglars E 109 [some (.ref 48), none, some (.long x2), none, some (.int x4), some (.int x5), none] [] μ1)) ∧ ((¬ (10 ≤ x5)) → ((((A 48 0) ≤ ((((x2 * 48271) - (x2 * 48271) / 2147483647 * 2147483647) - ((x2 * 48271) - (x2 * 48271) / 2147483647 * 2147483647) / 6 * 6) : Int64).toInt32) → (∃ (v1 : Int32) (μ1 : aM), CX5_dayOf [.ref 48] (A, R, G) (some (.int v1)) μ1 ∧ aw tX5_burglars E 85 [some (.ref 48), none, some (.long ((((x2 * 48271) - (x2 * 48271) / 2147483647 * 2147483647) * 48271) - (((x2 * 48271) - (x2 * 48271) / 2147483647 * 2147483647) * 48271) / 2147483647 * 2147483647)), none, some (.int x4), some (.int x5), some (.int (((((x2 * 48271) - (x2 * 48271) / 2147483647 * 2147483647) - ((x2 * 48271) - (x2 * 48271) / 2147483647 * 2147483647) / 6 * 6) : Int64).toInt32))] [.int v1, .int x4] μ1)) ∧ ((¬ ((A 48 0) ≤ ((((x2 * 48271) - (x2 * 48271) / 2147483647 * 2147483647) - ((x2 * 48271) - (x2 * 48271) / 2147483647 * 2147483647) / 6 * 6) : Int64).toInt32)) → ((vp_in (3 * (((((x2 * 48271) - (x2 * 48271) / 2147483647 * 2147483647) - ((x2 * 48271) - (x2 * 48271) / 2147483647 * 2147483647) / 6 * 6) : Int64).toInt32)) 18) ∧ (∀ v4 : Int32, v4 = ((1 : Int32) <<< ((((((((x2 * 48271) - (x2 * 48271) / 2147483647 * 2147483647) * 48271) - (((x2 * 48271) - (x2 * 48271) / 2147483647 * 2147483647) * 48271) / 2147483647 * 2147483647) - ((((x2 * 48271) - (x2 * 48271) / 2147483647 * 2147483647) * 48271) - (((x2 * 48271) - (x2 * 48271) / 2147483647 * 2147483647) * 48271) / 2147483647 * 2147483647) / 10 * 10) : Int64).toInt32) &&& 31)) → (∀ v5 : Int32, v5 = ((A 51 (3 * (((((x2 * 48271) - (x2 * 48271) / 2147483647 * 2147483647) - ((x2 * 48271) - (x2 * 48271) / 2147483647 * 2147483647) / 6 * 6) : Int64).toInt32)).toNatClampNeg) ^^^ v4) → (aw tX5_burglars E 79 [some (.ref 48), none, some (.long ((((x2 * 48271) - (x2 * 48271) / 2147483647 * 2147483647) * 48271) - (((x2 * 48271) - (x2 * 48271) / 2147483647 * 2147483647) * 48271) / 2147483647 * 2147483647)), none, some (.int x4), some (.int x5), some (.int (((((x2 * 48271) - (x2 * 48271) / 2147483647 * 2147483647) - ((x2 * 48271) - (x2 * 48271) / 2147483647 * 2147483647) / 6 * 6) : Int64).toInt32))] [] ((au A 51 (3 * (((((x2 * 48271) - (x2 * 48271) / 2147483647 * 2147483647) - ((x2 * 48271) - (x2 * 48271) / 2147483647 * 2147483647) / 6 * 6) : Int64).toInt32)).toNatClampNeg v5), R, G))))))))) :
    aw tX5_burglars E 15 [some (.ref 48), d1, some (.long x2), none, some (.int x4), some (.int x5), d6] [] (A, R, G) := by
  by_cases c1 : 10 ≤ x5
  · replace h := h.1 c1
    obtain ⟨μ1, h1, n, h⟩ := h
    exact ⟨n + 9, Or.inl (And.intro c1 (Exists.intro _ (Exists.intro _ (Exists.intro _ (Exists.intro _ (And.intro rfl (And.intro (gt48 hG) (And.intro (Nat.le_of_ble_eq_true rfl) (And.intro (pX5_caseSet hG ) (And.intro (gt48 hG) (Exists.intro _ (Exists.intro _ (Exists.intro _ (Exists.intro _ (And.intro rfl (And.intro (gt48 hG) (And.intro (Nat.le_of_ble_eq_true rfl) (And.intro h1 (h)))))))))))))))))))⟩
  · replace h := h.2 c1
    by_cases c2 : (A 48 0) ≤ ((((x2 * 48271) - (x2 * 48271) / 2147483647 * 2147483647) - ((x2 * 48271) - (x2 * 48271) / 2147483647 * 2147483647) / 6 * 6) : Int64).toInt32
    · replace h := h.1 c2
      obtain ⟨v1, μ1, h1, n, h⟩ := h
      exact ⟨n + 27, Or.inr (And.intro c1 (And.intro (by decide) (And.intro (by decide) (And.intro (by decide) (And.intro (gt48 hG) (Or.inl (And.intro c2 (Exists.intro _ (Exists.intro _ (Exists.intro _ (Exists.intro _ (And.intro rfl (And.intro (gt48 hG) (And.intro (Nat.le_of_ble_eq_true rfl) (And.intro h1 (h))))))))))))))))⟩
    · replace h := h.2 c2
      obtain ⟨q3, h⟩ := h
      obtain ⟨v4, hv4⟩ : ∃ z : Int32, z = ((1 : Int32) <<< ((((((((x2 * 48271) - (x2 * 48271) / 2147483647 * 2147483647) * 48271) - (((x2 * 48271) - (x2 * 48271) / 2147483647 * 2147483647) * 48271) / 2147483647 * 2147483647) - ((((x2 * 48271) - (x2 * 48271) / 2147483647 * 2147483647) * 48271) - (((x2 * 48271) - (x2 * 48271) / 2147483647 * 2147483647) * 48271) / 2147483647 * 2147483647) / 10 * 10) : Int64).toInt32) &&& 31)) := ⟨_, rfl⟩
      replace h := h v4 hv4
      obtain ⟨v5, hv5⟩ : ∃ z : Int32, z = ((A 51 (3 * (((((x2 * 48271) - (x2 * 48271) / 2147483647 * 2147483647) - ((x2 * 48271) - (x2 * 48271) / 2147483647 * 2147483647) / 6 * 6) : Int64).toInt32)).toNatClampNeg) ^^^ v4) := ⟨_, rfl⟩
      replace h := h v5 hv5
      obtain ⟨n, h⟩ := h
      subst hv5
      subst hv4
      exact ⟨n + 39, Or.inr (And.intro c1 (And.intro (by decide) (And.intro (by decide) (And.intro (by decide) (And.intro (gt48 hG) (Or.inr (And.intro c2 (And.intro (gt48 hG) (And.intro rfl (And.intro rfl (And.intro (gt51 hG) (And.intro (vin_len (gl51 hG) q3) (And.intro (by decide) (And.intro (gt51 hG) (And.intro (vin_len (gl51 hG) q3) (h))))))))))))))))⟩

set_option maxRecDepth 100000 in
set_option maxHeartbeats 4000000 in
theorem sX5_burglars_79 {E : aR} {A : Nat → Nat → Int32} {R : Nat → Nat → Option Nat} {G : Nat → Nat × Nat} (hG : aGS G) (d1 : Option Value) (x2 : Int64) (x4 : Int32) (x5 : Int32) (d6 : Option Value)
    (h : ∃ (v1 : Int32) (μ1 : aM), CX5_dayOf [.ref 48] (A, R, G) (some (.int v1)) μ1 ∧ aw tX5_burglars E 85 [some (.ref 48), d1, some (.long x2), none, some (.int x4), some (.int x5), d6] [.int v1, .int x4] μ1) :
    aw tX5_burglars E 79 [some (.ref 48), d1, some (.long x2), none, some (.int x4), some (.int x5), d6] [] (A, R, G) := by
  obtain ⟨v1, μ1, h1, n, h⟩ := h
  exact ⟨n + 3, Exists.intro _ (Exists.intro _ (Exists.intro _ (Exists.intro _ (And.intro rfl (And.intro (gt48 hG) (And.intro (Nat.le_of_ble_eq_true rfl) (And.intro h1 (h))))))))⟩

set_option maxRecDepth 100000 in
set_option maxHeartbeats 4000000 in
theorem sX5_burglars_85 {E : aR} {A : Nat → Nat → Int32} {R : Nat → Nat → Option Nat} {G : Nat → Nat × Nat} (d1 : Option Value) (x2 : Int64) (d4 : Option Value) (x5 : Int32) (d6 : Option Value) (y0 : Int32) (y1 : Int32)
    (h : aw tX5_burglars E 15 [some (.ref 48), d1, some (.long x2), none, some (.int (y1 + (ones y0))), some (.int (x5 + 1)), d6] [] (A, R, G)) :
    aw tX5_burglars E 85 [some (.ref 48), d1, some (.long x2), none, d4, some (.int x5), d6] [.int y0, .int y1] (A, R, G) := by
  obtain ⟨n, h⟩ := h
  exact ⟨n + 5, Exists.intro _ (Exists.intro _ (And.intro (Nat.le_of_ble_eq_true rfl) (And.intro (Nat.le_of_ble_eq_true rfl) (And.intro (pX5_onesOf _) (h)))))⟩

set_option maxRecDepth 100000 in
set_option maxHeartbeats 4000000 in
theorem sX5_burglars_109 {E : aR} {A : Nat → Nat → Int32} {R : Nat → Nat → Option Nat} {G : Nat → Nat × Nat} (d1 : Option Value) (d2 : Option Value) (x4 : Int32) (d5 : Option Value) (d6 : Option Value)
    (h : E (some (.int x4)) (A, R, G)) :
    aw tX5_burglars E 109 [some (.ref 48), d1, d2, none, some (.int x4), d5, d6] [] (A, R, G) := by
  exact ⟨2, h⟩

set_option maxRecDepth 100000 in
set_option maxHeartbeats 4000000 in
theorem sX5_sheetWrong_0 {E : aR} {A : Nat → Nat → Int32} {R : Nat → Nat → Option Nat} {G : Nat → Nat × Nat} (hG : aGS G) (x1 : Int32)
    (h : ((0 ≤ x1 ∧ x1 ≤ 3) → ((vp_in x1 4) ∧ ((((A 58 x1.toNatClampNeg) = (-1)) → (E (some (.int (-11))) (A, R, G))) ∧ ((¬ ((A 58 x1.toNatClampNeg) = (-1))) → ((((A 59 x1.toNatClampNeg) ≤ 20) → (E (some (.int 0)) (A, R, G))) ∧ ((¬ ((A 59 x1.toNatClampNeg) ≤ 20)) → (E (some (.int (-2))) (A, R, G)))))))) ∧ ((¬ (0 ≤ x1 ∧ x1 ≤ 3)) → (E (some (.int (-2))) (A, R, G)))) :
    aw tX5_sheetWrong E 0 [some (.ref 48), some (.int x1)] [] (A, R, G) := by
  by_cases c1 : 0 ≤ x1 ∧ x1 ≤ 3
  · replace h := h.1 c1
    obtain ⟨q2, h⟩ := h
    by_cases c3 : (A 58 x1.toNatClampNeg) = (-1)
    · replace h := h.1 c3
      exact ⟨13, Exists.intro _ (Exists.intro _ (And.intro (Nat.le_of_ble_eq_true rfl) (And.intro (Nat.le_of_ble_eq_true rfl) (And.intro (pX5_in _ _ _) (Or.inl (And.intro (bI_ne c1) (And.intro (gt48 hG) (And.intro (gt58 hG) (And.intro (vin_len (gl58 hG) q2) (Or.inr (And.intro (fun z => z c3) (h))))))))))))⟩
    · replace h := h.2 c3
      by_cases c4 : (A 59 x1.toNatClampNeg) ≤ 20
      · replace h := h.1 c4
        exact ⟨19, Exists.intro _ (Exists.intro _ (And.intro (Nat.le_of_ble_eq_true rfl) (And.intro (Nat.le_of_ble_eq_true rfl) (And.intro (pX5_in _ _ _) (Or.inl (And.intro (bI_ne c1) (And.intro (gt48 hG) (And.intro (gt58 hG) (And.intro (vin_len (gl58 hG) q2) (Or.inl (And.intro c3 (And.intro (gt48 hG) (And.intro (gt59 hG) (And.intro (vin_len (gl59 hG) q2) (Or.inl (And.intro c4 (h)))))))))))))))))⟩
      · replace h := h.2 c4
        exact ⟨20, Exists.intro _ (Exists.intro _ (And.intro (Nat.le_of_ble_eq_true rfl) (And.intro (Nat.le_of_ble_eq_true rfl) (And.intro (pX5_in _ _ _) (Or.inl (And.intro (bI_ne c1) (And.intro (gt48 hG) (And.intro (gt58 hG) (And.intro (vin_len (gl58 hG) q2) (Or.inl (And.intro c3 (And.intro (gt48 hG) (And.intro (gt59 hG) (And.intro (vin_len (gl59 hG) q2) (Or.inr (And.intro c4 (h)))))))))))))))))⟩
  · replace h := h.2 c1
    exact ⟨7, Exists.intro _ (Exists.intro _ (And.intro (Nat.le_of_ble_eq_true rfl) (And.intro (Nat.le_of_ble_eq_true rfl) (And.intro (pX5_in _ _ _) (Or.inr (And.intro (bI_nne c1) (h)))))))⟩

set_option maxRecDepth 100000 in
set_option maxHeartbeats 4000000 in
theorem sX5_lowest_0 {E : aR} {A : Nat → Nat → Int32} {R : Nat → Nat → Option Nat} {G : Nat → Nat × Nat} (x0 : Int64) (x2 : Int64) (x4 : Int32)
    (h : (((lg_cmp x0 0) = 0) → (E (some (.long ((x4 : Int32).toInt64))) (A, R, G))) ∧ ((¬ ((lg_cmp x0 0) = 0)) → (aw tX5_lowest E 16 [some (.long x0), none, some (.long x2), none, some (.int x4), some (.long x0), none, some (.long x2), none, none, none] [] (A, R, G)))) :
    aw tX5_lowest E 0 [some (.long x0), none, some (.long x2), none, some (.int x4), none, none, none, none, none, none] [] (A, R, G) := by
  by_cases c1 : (lg_cmp x0 0) = 0
  · replace h := h.1 c1
    exact ⟨7, Or.inr (And.intro (fun z => z c1) (h))⟩
  · replace h := h.2 c1
    obtain ⟨n, h⟩ := h
    exact ⟨n + 8, Or.inl (And.intro c1 (h))⟩

set_option maxRecDepth 100000 in
set_option maxHeartbeats 4000000 in
theorem sX5_lowest_16 {E : aR} {A : Nat → Nat → Int32} {R : Nat → Nat → Option Nat} {G : Nat → Nat × Nat} (x0 : Int64) (x2 : Int64) (x4 : Int32) (x5 : Int64) (x7 : Int64) (d9 : Option Value) (d10 : Option Value)
    (h : (((lg_cmp x7 0) = 0) → (((x4 = 0) → ((¬ (x5 : Int64) = 0) ∧ (E (some (.long (x0 / x5))) (A, R, G)))) ∧ ((¬ (x4 = 0)) → ((¬ (x5 : Int64) = 0) ∧ (E (some (.long (x2 / x5))) (A, R, G)))))) ∧ ((¬ ((lg_cmp x7 0) = 0)) → ((¬ (x7 : Int64) = 0) ∧ (aw tX5_lowest E 16 [some (.long x0), none, some (.long x2), none, some (.int x4), some (.long x7), none, some (.long (x5 - x5 / x7 * x7)), none, some (.long (x5 - x5 / x7 * x7)), none] [] (A, R, G))))) :
    aw tX5_lowest E 16 [some (.long x0), none, some (.long x2), none, some (.int x4), some (.long x5), none, some (.long x7), none, d9, d10] [] (A, R, G) := by
  by_cases c1 : (lg_cmp x7 0) = 0
  · replace h := h.1 c1
    by_cases c2 : x4 = 0
    · replace h := h.1 c2
      obtain ⟨q3, h⟩ := h
      exact ⟨11, Or.inl (And.intro c1 (Or.inr (And.intro (fun z => z c2) (And.intro q3 (h)))))⟩
    · replace h := h.2 c2
      obtain ⟨q4, h⟩ := h
      exact ⟨10, Or.inl (And.intro c1 (Or.inl (And.intro c2 (And.intro q4 (h)))))⟩
  · replace h := h.2 c1
    obtain ⟨q5, h⟩ := h
    obtain ⟨n, h⟩ := h
    exact ⟨n + 13, Or.inr (And.intro c1 (And.intro q5 (h)))⟩

set_option maxRecDepth 100000 in
set_option maxHeartbeats 4000000 in
theorem sX5_tellsSittings_0 {E : aR} {A : Nat → Nat → Int32} {R : Nat → Nat → Option Nat} {G : Nat → Nat × Nat}
    (h : aw tX5_tellsSittings E 2 [some (.ref 48), some (.int 0), none, none, none, none] [] (A, R, G)) :
    aw tX5_tellsSittings E 0 [some (.ref 48), none, none, none, none, none] [] (A, R, G) := by
  obtain ⟨n, h⟩ := h
  exact ⟨n + 2, h⟩

set_option maxRecDepth 100000 in
set_option maxHeartbeats 4000000 in
theorem sX5_tellsSittings_2 {E : aR} {A : Nat → Nat → Int32} {R : Nat → Nat → Option Nat} {G : Nat → Nat × Nat} (hG : aGS G) (x1 : Int32) (d2 : Option Value) (d3 : Option Value) (d4 : Option Value) (d5 : Option Value)
    (h : ((8 ≤ x1) → (aw tX5_tellsSittings E 72 [some (.ref 48), some (.int 0), none, none, none, none] [] (A, R, G))) ∧ ((¬ (8 ≤ x1)) → ((vp_in x1 8) ∧ (aw tX5_tellsSittings E 17 [some (.ref 48), some (.int x1), some (.int 0), none, none, none] [] ((au A 68 x1.toNatClampNeg 0), R, G))))) :
    aw tX5_tellsSittings E 2 [some (.ref 48), some (.int x1), d2, d3, d4, d5] [] (A, R, G) := by
  by_cases c1 : 8 ≤ x1
  · replace h := h.1 c1
    obtain ⟨n, h⟩ := h
    exact ⟨n + 5, Or.inl (And.intro c1 (h))⟩
  · replace h := h.2 c1
    obtain ⟨q2, h⟩ := h
    obtain ⟨n, h⟩ := h
    exact ⟨n + 10, Or.inr (And.intro c1 (And.intro (gt48 hG) (And.intro (gt68 hG) (And.intro (vin_len (gl68 hG) q2) (h)))))⟩

set_option maxRecDepth 100000 in
set_option maxHeartbeats 4000000 in
theorem sX5_tellsSittings_17 {E : aR} {A : Nat → Nat → Int32} {R : Nat → Nat → Option Nat} {G : Nat → Nat × Nat} (hG : aGS G) (x1 : Int32) (x2 : Int32) (d3 : Option Value) (d4 : Option Value) (d5 : Option Value)
    (h : (((A 48 0) ≤ x2) → (aw tX5_tellsSittings E 2 [some (.ref 48), some (.int (x1 + 1)), some (.int x2), none, none, none] [] (A, R, G))) ∧ ((¬ ((A 48 0) ≤ x2)) → (((thM A x1) → ((vp_in x1 8) ∧ (∃ (v1 : Int32) (μ1 : aM), CX5_can [.ref 48, .int x2, .int x1] (A, R, G) (some (.int v1)) μ1 ∧ aw tX5_tellsSittings E 46 [some (.ref 48), some (.int x1), some (.int x2), none, none, none] [.int v1, .int (A 68 x1.toNatClampNeg), .int x1, .ref 68] μ1))) ∧ ((¬ (thM A x1)) → (aw tX5_tellsSittings E 2 [some (.ref 48), some (.int (x1 + 1)), some (.int x2), none, none, none] [] (A, R, G)))))) :
    aw tX5_tellsSittings E 17 [some (.ref 48), some (.int x1), some (.int x2), d3, d4, d5] [] (A, R, G) := by
  by_cases c1 : (A 48 0) ≤ x2
  · replace h := h.1 c1
    obtain ⟨n, h⟩ := h
    exact ⟨n + 6, And.intro (gt48 hG) (Or.inl (And.intro c1 (h)))⟩
  · replace h := h.2 c1
    by_cases c2 : thM A x1
    · replace h := h.1 c2
      obtain ⟨q3, h⟩ := h
      obtain ⟨v1, μ1, h1, n, h⟩ := h
      exact ⟨n + 17, And.intro (gt48 hG) (Or.inr (And.intro c1 (Exists.intro _ (Exists.intro _ (Exists.intro _ (Exists.intro _ (And.intro rfl (And.intro (gt48 hG) (And.intro (Nat.le_of_ble_eq_true rfl) (And.intro (pX5_isThere hG _) (Or.inr (And.intro (bI_neq c2) (And.intro (gt48 hG) (And.intro rfl (And.intro rfl (And.intro (gt68 hG) (And.intro (vin_len (gl68 hG) q3) (Exists.intro _ (Exists.intro _ (Exists.intro _ (Exists.intro _ (And.intro rfl (And.intro (gt48 hG) (And.intro (Nat.le_of_ble_eq_true rfl) (And.intro h1 (h))))))))))))))))))))))))))⟩
    · replace h := h.2 c2
      obtain ⟨n, h⟩ := h
      exact ⟨n + 10, And.intro (gt48 hG) (Or.inr (And.intro c1 (Exists.intro _ (Exists.intro _ (Exists.intro _ (Exists.intro _ (And.intro rfl (And.intro (gt48 hG) (And.intro (Nat.le_of_ble_eq_true rfl) (And.intro (pX5_isThere hG _) (Or.inl (And.intro (bI_eq c2) (h)))))))))))))⟩

set_option maxRecDepth 100000 in
set_option maxHeartbeats 4000000 in
theorem sX5_tellsSittings_46 {E : aR} {A : Nat → Nat → Int32} {R : Nat → Nat → Option Nat} {G : Nat → Nat × Nat} (x1 : Int32) (x2 : Int32) (d3 : Option Value) (d4 : Option Value) (d5 : Option Value) (y0 : Int32) (y1 : Int32) (y2 : Int32) (y3 : Nat)
    (h : ((y0 = 0) → (((G y3).1 = 1) ∧ ((vp_in y2 (G y3).2) ∧ (aw tX5_tellsSittings E 17 [some (.ref 48), some (.int x1), some (.int (x2 + 1)), d3, d4, d5] [] ((au A y3 y2.toNatClampNeg (y1 ||| 0)), R, G))))) ∧ ((¬ (y0 = 0)) → (((G y3).1 = 1) ∧ ((vp_in y2 (G y3).2) ∧ (aw tX5_tellsSittings E 17 [some (.ref 48), some (.int x1), some (.int (x2 + 1)), d3, d4, d5] [] ((au A y3 y2.toNatClampNeg (y1 ||| ((1 : Int32) <<< (x2 &&& 31)))), R, G)))))) :
    aw tX5_tellsSittings E 46 [some (.ref 48), some (.int x1), some (.int x2), d3, d4, d5] [.int y0, .int y1, .int y2, .ref y3] (A, R, G) := by
  by_cases c1 : y0 = 0
  · replace h := h.1 c1
    obtain ⟨q2, h⟩ := h
    obtain ⟨q3, h⟩ := h
    obtain ⟨n, h⟩ := h
    exact ⟨n + 6, Or.inl (And.intro c1 (And.intro q2 (And.intro q3 (h))))⟩
  · replace h := h.2 c1
    obtain ⟨q4, h⟩ := h
    obtain ⟨q5, h⟩ := h
    obtain ⟨n, h⟩ := h
    exact ⟨n + 9, Or.inr (And.intro c1 (And.intro q4 (And.intro q5 (h))))⟩

set_option maxRecDepth 100000 in
set_option maxHeartbeats 4000000 in
theorem sX5_tellsSittings_72 {E : aR} {A : Nat → Nat → Int32} {R : Nat → Nat → Option Nat} {G : Nat → Nat × Nat} (hG : aGS G) (x1 : Int32) (d2 : Option Value) (d3 : Option Value) (d4 : Option Value) (d5 : Option Value)
    (h : ((64 ≤ x1) → (aw tX5_tellsSittings E 98 [some (.ref 48), some (.int 7), none, none, none, none] [] (A, R, G))) ∧ ((¬ (64 ≤ x1)) → ((vp_in (512 + x1) 576) ∧ (aw tX5_tellsSittings E 72 [some (.ref 48), some (.int (x1 + 1)), none, none, none, none] [] ((au A 67 (512 + x1).toNatClampNeg 0), R, G))))) :
    aw tX5_tellsSittings E 72 [some (.ref 48), some (.int x1), d2, d3, d4, d5] [] (A, R, G) := by
  by_cases c1 : 64 ≤ x1
  · replace h := h.1 c1
    obtain ⟨n, h⟩ := h
    exact ⟨n + 5, Or.inl (And.intro c1 (h))⟩
  · replace h := h.2 c1
    obtain ⟨q2, h⟩ := h
    obtain ⟨n, h⟩ := h
    exact ⟨n + 12, Or.inr (And.intro c1 (And.intro (gt48 hG) (And.intro (gt67 hG) (And.intro (vin_len (gl67 hG) q2) (h)))))⟩

set_option maxRecDepth 100000 in
set_option maxHeartbeats 4000000 in
theorem sX5_tellsSittings_98 {E : aR} {A : Nat → Nat → Int32} {R : Nat → Nat → Option Nat} {G : Nat → Nat × Nat} (x1 : Int32) (d2 : Option Value) (d3 : Option Value) (d4 : Option Value) (d5 : Option Value)
    (h : ((x1 < 0) → (E none (A, R, G))) ∧ ((¬ (x1 < 0)) → (aw tX5_tellsSittings E 104 [some (.ref 48), some (.int x1), some (.int 0), none, none, none] [] (A, R, G)))) :
    aw tX5_tellsSittings E 98 [some (.ref 48), some (.int x1), d2, d3, d4, d5] [] (A, R, G) := by
  by_cases c1 : x1 < 0
  · replace h := h.1 c1
    exact ⟨3, Or.inl (And.intro c1 (h))⟩
  · replace h := h.2 c1
    obtain ⟨n, h⟩ := h
    exact ⟨n + 4, Or.inr (And.intro c1 (h))⟩

set_option maxRecDepth 100000 in
set_option maxHeartbeats 4000000 in
theorem sX5_tellsSittings_104 {E : aR} {A : Nat → Nat → Int32} {R : Nat → Nat → Option Nat} {G : Nat → Nat × Nat} (hG : aGS G) (x1 : Int32) (x2 : Int32) (d3 : Option Value) (d4 : Option Value) (d5 : Option Value)
    (h : ((64 ≤ x2) → (aw tX5_tellsSittings E 219 [some (.ref 48), some (.int x1), some (.int x2), none, none, none] [] (A, R, G))) ∧ ((¬ (64 ≤ x2)) → ((vp_in (((64 * x1) + 64) + x2) 576) ∧ (aw tX5_tellsSittings E 128 [some (.ref 48), some (.int x1), some (.int x2), some (.int (A 67 (((64 * x1) + 64) + x2).toNatClampNeg)), some (.int 0), none] [] (A, R, G))))) :
    aw tX5_tellsSittings E 104 [some (.ref 48), some (.int x1), some (.int x2), d3, d4, d5] [] (A, R, G) := by
  by_cases c1 : 64 ≤ x2
  · replace h := h.1 c1
    obtain ⟨n, h⟩ := h
    exact ⟨n + 3, Or.inl (And.intro c1 (h))⟩
  · replace h := h.2 c1
    obtain ⟨q2, h⟩ := h
    obtain ⟨n, h⟩ := h
    exact ⟨n + 16, Or.inr (And.intro c1 (And.intro (gt48 hG) (And.intro (gt67 hG) (And.intro (vin_len (gl67 hG) q2) (h)))))⟩

set_option maxRecDepth 100000 in
set_option maxHeartbeats 4000000 in
theorem sX5_tellsSittings_128 {E : aR} {A : Nat → Nat → Int32} {R : Nat → Nat → Option Nat} {G : Nat → Nat × Nat} (hG : aGS G) (x1 : Int32) (x2 : Int32) (x3 : Int32) (x4 : Int32) (d5 : Option Value)
    (h : ((6 ≤ x4) → ((vp_in ((64 * x1) + x2) 576) ∧ (aw tX5_tellsSittings E 104 [some (.ref 48), some (.int x1), some (.int (x2 + 1)), some (.int x3), some (.int x4), none] [] ((au A 67 ((64 * x1) + x2).toNatClampNeg x3), R, G)))) ∧ ((¬ (6 ≤ x4)) → ((vp_in x1 8) ∧ ((((((A 68 x1.toNatClampNeg) >>> (x4 &&& 31)) &&& 1) = 1) → (((((x2 >>> (x4 &&& 31)) &&& 1) = 0) → ((vp_in (((64 * x1) + 64) + (x2 ||| ((1 : Int32) <<< (x4 &&& 31)))) 576) ∧ ((((1 + (A 67 (((64 * x1) + 64) + (x2 ||| ((1 : Int32) <<< (x4 &&& 31)))).toNatClampNeg)) ≤ x3) → (aw tX5_tellsSittings E 128 [some (.ref 48), some (.int x1), some (.int x2), some (.int x3), some (.int (x4 + 1)), some (.int (1 + (A 67 (((64 * x1) + 64) + (x2 ||| ((1 : Int32) <<< (x4 &&& 31)))).toNatClampNeg)))] [] (A, R, G))) ∧ ((¬ ((1 + (A 67 (((64 * x1) + 64) + (x2 ||| ((1 : Int32) <<< (x4 &&& 31)))).toNatClampNeg)) ≤ x3)) → (aw tX5_tellsSittings E 128 [some (.ref 48), some (.int x1), some (.int x2), some (.int (1 + (A 67 (((64 * x1) + 64) + (x2 ||| ((1 : Int32) <<< (x4 &&& 31)))).toNatClampNeg))), some (.int (x4 + 1)), some (.int (1 + (A 67 (((64 * x1) + 64) + (x2 ||| ((1 : Int32) <<< (x4 &&& 31)))).toNatClampNeg)))] [] (A, R, G)))))) ∧ ((¬ (((x2 >>> (x4 &&& 31)) &&& 1) = 0)) → (aw tX5_tellsSittings E 128 [some (.ref 48), some (.int x1), some (.int x2), some (.int x3), some (.int (x4 + 1)), none] [] (A, R, G))))) ∧ ((¬ ((((A 68 x1.toNatClampNeg) >>> (x4 &&& 31)) &&& 1) = 1)) → (aw tX5_tellsSittings E 128 [some (.ref 48), some (.int x1), some (.int x2), some (.int x3), some (.int (x4 + 1)), none] [] (A, R, G))))))) :
    aw tX5_tellsSittings E 128 [some (.ref 48), some (.int x1), some (.int x2), some (.int x3), some (.int x4), d5] [] (A, R, G) := by
  by_cases c1 : 6 ≤ x4
  · replace h := h.1 c1
    obtain ⟨q2, h⟩ := h
    obtain ⟨n, h⟩ := h
    exact ⟨n + 14, Or.inl (And.intro c1 (And.intro (gt48 hG) (And.intro (gt67 hG) (And.intro (vin_len (gl67 hG) q2) (h)))))⟩
  · replace h := h.2 c1
    obtain ⟨q3, h⟩ := h
    by_cases c4 : (((A 68 x1.toNatClampNeg) >>> (x4 &&& 31)) &&& 1) = 1
    · replace h := h.1 c4
      by_cases c5 : ((x2 >>> (x4 &&& 31)) &&& 1) = 0
      · replace h := h.1 c5
        obtain ⟨q6, h⟩ := h
        by_cases c7 : (1 + (A 67 (((64 * x1) + 64) + (x2 ||| ((1 : Int32) <<< (x4 &&& 31)))).toNatClampNeg)) ≤ x3
        · replace h := h.1 c7
          obtain ⟨n, h⟩ := h
          exact ⟨n + 43, Or.inr (And.intro c1 (And.intro (gt48 hG) (And.intro (gt68 hG) (And.intro (vin_len (gl68 hG) q3) (Or.inr (And.intro (fun z => z c4) (Or.inr (And.intro (fun z => z c5) (And.intro (gt48 hG) (And.intro (gt67 hG) (And.intro (vin_len (gl67 hG) q6) (Or.inl (And.intro c7 (h))))))))))))))⟩
        · replace h := h.2 c7
          obtain ⟨n, h⟩ := h
          exact ⟨n + 44, Or.inr (And.intro c1 (And.intro (gt48 hG) (And.intro (gt68 hG) (And.intro (vin_len (gl68 hG) q3) (Or.inr (And.intro (fun z => z c4) (Or.inr (And.intro (fun z => z c5) (And.intro (gt48 hG) (And.intro (gt67 hG) (And.intro (vin_len (gl67 hG) q6) (Or.inr (And.intro c7 (h))))))))))))))⟩
      · replace h := h.2 c5
        obtain ⟨n, h⟩ := h
        exact ⟨n + 21, Or.inr (And.intro c1 (And.intro (gt48 hG) (And.intro (gt68 hG) (And.intro (vin_len (gl68 hG) q3) (Or.inr (And.intro (fun z => z c4) (Or.inl (And.intro c5 (h)))))))))⟩
    · replace h := h.2 c4
      obtain ⟨n, h⟩ := h
      exact ⟨n + 15, Or.inr (And.intro c1 (And.intro (gt48 hG) (And.intro (gt68 hG) (And.intro (vin_len (gl68 hG) q3) (Or.inl (And.intro c4 (h)))))))⟩

set_option maxRecDepth 100000 in
set_option maxHeartbeats 4000000 in
theorem sX5_tellsSittings_219 {E : aR} {A : Nat → Nat → Int32} {R : Nat → Nat → Option Nat} {G : Nat → Nat × Nat} (x1 : Int32) (d2 : Option Value) (d3 : Option Value) (d4 : Option Value) (d5 : Option Value)
    (h : aw tX5_tellsSittings E 222 [some (.ref 48), some (.int (x1 + (-1))), d2, d3, d4, d5] [] (A, R, G)) :
    aw tX5_tellsSittings E 219 [some (.ref 48), some (.int x1), d2, d3, d4, d5] [] (A, R, G) := by
  exact aw_inc (show alk tX5_tellsSittings 219 = o_inc 1 (-1) 222 from rfl) rfl h

set_option maxRecDepth 100000 in
set_option maxHeartbeats 4000000 in
theorem sX5_tellsSittings_222 {E : aR} {A : Nat → Nat → Int32} {R : Nat → Nat → Option Nat} {G : Nat → Nat × Nat} (x1 : Int32) (d2 : Option Value) (d3 : Option Value) (d4 : Option Value) (d5 : Option Value)
    (h : aw tX5_tellsSittings E 98 [some (.ref 48), some (.int x1), d2, d3, d4, d5] [] (A, R, G)) :
    aw tX5_tellsSittings E 222 [some (.ref 48), some (.int x1), d2, d3, d4, d5] [] (A, R, G) := by
  obtain ⟨n, h⟩ := h
  exact ⟨n + 1, h⟩

set_option maxRecDepth 100000 in
set_option maxHeartbeats 4000000 in
theorem sX5_leastSitting_0 {E : aR} {A : Nat → Nat → Int32} {R : Nat → Nat → Option Nat} {G : Nat → Nat × Nat}
    (h : aw tX5_leastSitting E 6 [some (.ref 48), some (.int 0), some (.int 0), some (.int 0), none, none, none] [] (A, R, G)) :
    aw tX5_leastSitting E 0 [some (.ref 48), none, none, none, none, none, none] [] (A, R, G) := by
  obtain ⟨n, h⟩ := h
  exact ⟨n + 6, h⟩

set_option maxRecDepth 100000 in
set_option maxHeartbeats 4000000 in
theorem sX5_leastSitting_6 {E : aR} {A : Nat → Nat → Int32} {R : Nat → Nat → Option Nat} {G : Nat → Nat × Nat} (hG : aGS G) (x1 : Int32) (x2 : Int32) (x3 : Int32) (d4 : Option Value) (d5 : Option Value) (d6 : Option Value)
    (h : ((8 ≤ x3) → (E (some (.int x1)) (A, R, G))) ∧ ((¬ (8 ≤ x3)) → ((vp_in ((64 * x3) + x2) 576) ∧ ((vp_in (((64 * x3) + 64) + x2) 576) ∧ ((((A 67 (((64 * x3) + 64) + x2).toNatClampNeg) = (A 67 ((64 * x3) + x2).toNatClampNeg)) → (aw tX5_leastSitting E 54 [some (.ref 48), some (.int x1), some (.int x2), some (.int x3), some (.int (A 67 ((64 * x3) + x2).toNatClampNeg)), some (.int 0), some (.int 0)] [] (A, R, G))) ∧ ((¬ ((A 67 (((64 * x3) + 64) + x2).toNatClampNeg) = (A 67 ((64 * x3) + x2).toNatClampNeg))) → (aw tX5_leastSitting E 54 [some (.ref 48), some (.int x1), some (.int x2), some (.int x3), some (.int (A 67 ((64 * x3) + x2).toNatClampNeg)), some (.int (-1)), some (.int 0)] [] (A, R, G)))))))) :
    aw tX5_leastSitting E 6 [some (.ref 48), some (.int x1), some (.int x2), some (.int x3), d4, d5, d6] [] (A, R, G) := by
  by_cases c1 : 8 ≤ x3
  · replace h := h.1 c1
    exact ⟨5, Or.inl (And.intro c1 (h))⟩
  · replace h := h.2 c1
    obtain ⟨q2, h⟩ := h
    obtain ⟨q3, h⟩ := h
    by_cases c4 : (A 67 (((64 * x3) + 64) + x2).toNatClampNeg) = (A 67 ((64 * x3) + x2).toNatClampNeg)
    · replace h := h.1 c4
      obtain ⟨n, h⟩ := h
      exact ⟨n + 29, Or.inr (And.intro c1 (And.intro (gt48 hG) (And.intro (gt67 hG) (And.intro (vin_len (gl67 hG) q2) (And.intro (gt48 hG) (And.intro (gt67 hG) (And.intro (vin_len (gl67 hG) q3) (Or.inr (And.intro (fun z => z c4) (h))))))))))⟩
    · replace h := h.2 c4
      obtain ⟨n, h⟩ := h
      exact ⟨n + 28, Or.inr (And.intro c1 (And.intro (gt48 hG) (And.intro (gt67 hG) (And.intro (vin_len (gl67 hG) q2) (And.intro (gt48 hG) (And.intro (gt67 hG) (And.intro (vin_len (gl67 hG) q3) (Or.inl (And.intro c4 (h))))))))))⟩

set_option maxRecDepth 100000 in
set_option maxHeartbeats 4000000 in
theorem sX5_leastSitting_54 {E : aR} {A : Nat → Nat → Int32} {R : Nat → Nat → Option Nat} {G : Nat → Nat × Nat} (hG : aGS G) (x1 : Int32) (x2 : Int32) (x3 : Int32) (x4 : Int32) (x5 : Int32) (x6 : Int32)
    (h : ((6 ≤ x6) → (((x5 ≤ 0) → (aw tX5_leastSitting E 6 [some (.ref 48), some (.int ((10 * x1) + x5)), some (.int (x2 ||| 0)), some (.int (x3 + 1)), some (.int x4), some (.int x5), some (.int x6)] [] (A, R, G))) ∧ ((¬ (x5 ≤ 0)) → (aw tX5_leastSitting E 6 [some (.ref 48), some (.int ((10 * x1) + x5)), some (.int (x2 ||| ((1 : Int32) <<< ((x5 - 1) &&& 31)))), some (.int (x3 + 1)), some (.int x4), some (.int x5), some (.int x6)] [] (A, R, G))))) ∧ ((¬ (6 ≤ x6)) → (((x5 = (-1)) → ((vp_in x3 8) ∧ ((((((A 68 x3.toNatClampNeg) >>> (x6 &&& 31)) &&& 1) = 1) → (((((x2 >>> (x6 &&& 31)) &&& 1) = 0) → ((vp_in (((64 * x3) + 64) + (x2 ||| ((1 : Int32) <<< (x6 &&& 31)))) 576) ∧ ((((1 + (A 67 (((64 * x3) + 64) + (x2 ||| ((1 : Int32) <<< (x6 &&& 31)))).toNatClampNeg)) = x4) → (aw tX5_leastSitting E 54 [some (.ref 48), some (.int x1), some (.int x2), some (.int x3), some (.int x4), some (.int (x6 + 1)), some (.int (x6 + 1))] [] (A, R, G))) ∧ ((¬ ((1 + (A 67 (((64 * x3) + 64) + (x2 ||| ((1 : Int32) <<< (x6 &&& 31)))).toNatClampNeg)) = x4)) → (aw tX5_leastSitting E 54 [some (.ref 48), some (.int x1), some (.int x2), some (.int x3), some (.int x4), some (.int (-1)), some (.int (x6 + 1))] [] (A, R, G)))))) ∧ ((¬ (((x2 >>> (x6 &&& 31)) &&& 1) = 0)) → (aw tX5_leastSitting E 54 [some (.ref 48), some (.int x1), some (.int x2), some (.int x3), some (.int x4), some (.int x5), some (.int (x6 + 1))] [] (A, R, G))))) ∧ ((¬ ((((A 68 x3.toNatClampNeg) >>> (x6 &&& 31)) &&& 1) = 1)) → (aw tX5_leastSitting E 54 [some (.ref 48), some (.int x1), some (.int x2), some (.int x3), some (.int x4), some (.int x5), some (.int (x6 + 1))] [] (A, R, G)))))) ∧ ((¬ (x5 = (-1))) → (((x5 ≤ 0) → (aw tX5_leastSitting E 6 [some (.ref 48), some (.int ((10 * x1) + x5)), some (.int (x2 ||| 0)), some (.int (x3 + 1)), some (.int x4), some (.int x5), some (.int x6)] [] (A, R, G))) ∧ ((¬ (x5 ≤ 0)) → (aw tX5_leastSitting E 6 [some (.ref 48), some (.int ((10 * x1) + x5)), some (.int (x2 ||| ((1 : Int32) <<< ((x5 - 1) &&& 31)))), some (.int (x3 + 1)), some (.int x4), some (.int x5), some (.int x6)] [] (A, R, G)))))))) :
    aw tX5_leastSitting E 54 [some (.ref 48), some (.int x1), some (.int x2), some (.int x3), some (.int x4), some (.int x5), some (.int x6)] [] (A, R, G) := by
  by_cases c1 : 6 ≤ x6
  · replace h := h.1 c1
    by_cases c2 : x5 ≤ 0
    · replace h := h.1 c2
      obtain ⟨n, h⟩ := h
      exact ⟨n + 17, Or.inl (And.intro c1 (Or.inl (And.intro c2 (h))))⟩
    · replace h := h.2 c2
      obtain ⟨n, h⟩ := h
      exact ⟨n + 22, Or.inl (And.intro c1 (Or.inr (And.intro c2 (h))))⟩
  · replace h := h.2 c1
    by_cases c3 : x5 = (-1)
    · replace h := h.1 c3
      obtain ⟨q4, h⟩ := h
      by_cases c5 : (((A 68 x3.toNatClampNeg) >>> (x6 &&& 31)) &&& 1) = 1
      · replace h := h.1 c5
        by_cases c6 : ((x2 >>> (x6 &&& 31)) &&& 1) = 0
        · replace h := h.1 c6
          obtain ⟨q7, h⟩ := h
          by_cases c8 : (1 + (A 67 (((64 * x3) + 64) + (x2 ||| ((1 : Int32) <<< (x6 &&& 31)))).toNatClampNeg)) = x4
          · replace h := h.1 c8
            obtain ⟨n, h⟩ := h
            exact ⟨n + 47, Or.inr (And.intro c1 (Or.inr (And.intro (fun z => z c3) (And.intro (gt48 hG) (And.intro (gt68 hG) (And.intro (vin_len (gl68 hG) q4) (Or.inr (And.intro (fun z => z c5) (Or.inr (And.intro (fun z => z c6) (And.intro (gt48 hG) (And.intro (gt67 hG) (And.intro (vin_len (gl67 hG) q7) (Or.inr (And.intro (fun z => z c8) (h))))))))))))))))⟩
          · replace h := h.2 c8
            obtain ⟨n, h⟩ := h
            exact ⟨n + 44, Or.inr (And.intro c1 (Or.inr (And.intro (fun z => z c3) (And.intro (gt48 hG) (And.intro (gt68 hG) (And.intro (vin_len (gl68 hG) q4) (Or.inr (And.intro (fun z => z c5) (Or.inr (And.intro (fun z => z c6) (And.intro (gt48 hG) (And.intro (gt67 hG) (And.intro (vin_len (gl67 hG) q7) (Or.inl (And.intro c8 (h))))))))))))))))⟩
        · replace h := h.2 c6
          obtain ⟨n, h⟩ := h
          exact ⟨n + 24, Or.inr (And.intro c1 (Or.inr (And.intro (fun z => z c3) (And.intro (gt48 hG) (And.intro (gt68 hG) (And.intro (vin_len (gl68 hG) q4) (Or.inr (And.intro (fun z => z c5) (Or.inl (And.intro c6 (h)))))))))))⟩
      · replace h := h.2 c5
        obtain ⟨n, h⟩ := h
        exact ⟨n + 18, Or.inr (And.intro c1 (Or.inr (And.intro (fun z => z c3) (And.intro (gt48 hG) (And.intro (gt68 hG) (And.intro (vin_len (gl68 hG) q4) (Or.inl (And.intro c5 (h)))))))))⟩
    · replace h := h.2 c3
      by_cases c9 : x5 ≤ 0
      · replace h := h.1 c9
        obtain ⟨n, h⟩ := h
        exact ⟨n + 20, Or.inr (And.intro c1 (Or.inl (And.intro c3 (Or.inl (And.intro c9 (h))))))⟩
      · replace h := h.2 c9
        obtain ⟨n, h⟩ := h
        exact ⟨n + 25, Or.inr (And.intro c1 (Or.inl (And.intro c3 (Or.inr (And.intro c9 (h))))))⟩
