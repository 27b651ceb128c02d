set_option maxRecDepth 100000 in
set_option maxHeartbeats 4000000 in
theorem sX4_burglary_0 {E : aR} {A : Nat → Nat → Int32} {R : Nat → Nat → Option Nat} {G : Nat → Nat × Nat} (hG : aGS G) (x1 : Int32) (x2 : Int32)
    (h : ((0 ≤ x1 ∧ x1 ≤ 40) → (((0 ≤ x2 ∧ x2 ≤ 1) → (∃ (μ1 : aM), CX4_think [.ref 0] (A, R, G) none μ1 ∧ aw tX4_burglary E 26 [some (.ref 0), some (.int x1), some (.int x2), none, none, none, none, none] [] μ1)) ∧ ((¬ (0 ≤ x2 ∧ x2 ≤ 1)) → (E (some (.int (-2))) (A, R, G))))) ∧ ((¬ (0 ≤ x1 ∧ x1 ≤ 40)) → (E (some (.int (-2))) (A, R, G)))) :
    aw tX4_burglary E 0 [some (.ref 0), some (.int x1), some (.int x2), none, none, none, none, none] [] (A, R, G) := by
  by_cases c1 : 0 ≤ x1 ∧ x1 ≤ 40
  · replace h := h.1 c1
    by_cases c2 : 0 ≤ x2 ∧ x2 ≤ 1
    · replace h := h.1 c2
      obtain ⟨μ1, h1, n, h⟩ := h
      exact ⟨n + 12, Exists.intro _ (Exists.intro _ (And.intro (Nat.le_of_ble_eq_true rfl) (And.intro (Nat.le_of_ble_eq_true rfl) (And.intro (pX4_within _ _ _) (Or.inr (And.intro (bI_neq c1) (Exists.intro _ (Exists.intro _ (And.intro (Nat.le_of_ble_eq_true rfl) (And.intro (Nat.le_of_ble_eq_true rfl) (And.intro (pX4_within _ _ _) (Or.inl (And.intro (bI_ne c2) (Exists.intro _ (Exists.intro _ (Exists.intro _ (Exists.intro _ (And.intro rfl (And.intro (gt0 hG) (And.intro (Nat.le_of_ble_eq_true rfl) (And.intro h1 (h))))))))))))))))))))))⟩
    · replace h := h.2 c2
      exact ⟨12, Exists.intro _ (Exists.intro _ (And.intro (Nat.le_of_ble_eq_true rfl) (And.intro (Nat.le_of_ble_eq_true rfl) (And.intro (pX4_within _ _ _) (Or.inr (And.intro (bI_neq c1) (Exists.intro _ (Exists.intro _ (And.intro (Nat.le_of_ble_eq_true rfl) (And.intro (Nat.le_of_ble_eq_true rfl) (And.intro (pX4_within _ _ _) (Or.inr (And.intro (bI_nne c2) (h))))))))))))))⟩
  · replace h := h.2 c1
    exact ⟨7, Exists.intro _ (Exists.intro _ (And.intro (Nat.le_of_ble_eq_true rfl) (And.intro (Nat.le_of_ble_eq_true rfl) (And.intro (pX4_within _ _ _) (Or.inl (And.intro (bI_eq c1) (h)))))))⟩

set_option maxRecDepth 100000 in
set_option maxHeartbeats 4000000 in
theorem sX4_burglary_26 {E : aR} {A : Nat → Nat → Int32} {R : Nat → Nat → Option Nat} {G : Nat → Nat × Nat} (hG : aGS G) (x1 : Int32) (x2 : Int32) (d3 : Option Value) (d4 : Option Value) (d5 : Option Value) (d6 : Option Value) (d7 : Option Value)
    (h : ∃ (v1 : Int32) (μ1 : aM), CX4_heardInThought [.ref 0, .int x1] (A, R, G) (some (.int v1)) μ1 ∧ aw tX4_burglary E 31 [some (.ref 0), some (.int x1), some (.int x2), d3, d4, d5, d6, d7] [.int v1] μ1) :
    aw tX4_burglary E 26 [some (.ref 0), some (.int x1), some (.int x2), d3, d4, d5, d6, d7] [] (A, R, G) := by
  obtain ⟨v1, μ1, h1, n, h⟩ := h
  exact ⟨n + 3, Exists.intro _ (Exists.intro _ (Exists.intro _ (Exists.intro _ (And.intro rfl (And.intro (gt0 hG) (And.intro (Nat.le_of_ble_eq_true rfl) (And.intro h1 (h))))))))⟩

set_option maxRecDepth 100000 in
set_option maxHeartbeats 4000000 in
theorem sX4_burglary_31 {E : aR} {A : Nat → Nat → Int32} {R : Nat → Nat → Option Nat} {G : Nat → Nat × Nat} (x1 : Int32) (x2 : Int32) (d3 : Option Value) (d4 : Option Value) (d5 : Option Value) (d6 : Option Value) (d7 : Option Value) (y0 : Int32)
    (h : aw tX4_burglary E 38 [some (.ref 0), some (.int x1), some (.int x2), some (.int y0), some (.int (-1)), some (.int 0), d6, d7] [] (A, R, G)) :
    aw tX4_burglary E 31 [some (.ref 0), some (.int x1), some (.int x2), d3, d4, d5, d6, d7] [.int y0] (A, R, G) := by
  obtain ⟨n, h⟩ := h
  exact ⟨n + 5, h⟩

set_option maxRecDepth 100000 in
set_option maxHeartbeats 4000000 in
theorem sX4_burglary_38 {E : aR} {A : Nat → Nat → Int32} {R : Nat → Nat → Option Nat} {G : Nat → Nat × Nat} (hG : aGS G) (x1 : Int32) (x2 : Int32) (x3 : Int32) (x4 : Int32) (x5 : Int32) (d6 : Option Value) (d7 : Option Value)
    (h : (((A 1 9) ≤ x5) → (((x2 = 0) → (E (some (.int x4)) (A, R, G))) ∧ ((¬ (x2 = 0)) → (E (some (.int x3)) (A, R, G))))) ∧ ((¬ ((A 1 9) ≤ x5)) → (aw tX4_burglary E 53 [some (.ref 0), some (.int x1), some (.int x2), some (.int x3), some (.int x4), some (.int x5), some (.int 0), none] [] (A, R, G)))) :
    aw tX4_burglary E 38 [some (.ref 0), some (.int x1), some (.int x2), some (.int x3), some (.int x4), some (.int x5), d6, d7] [] (A, R, G) := by
  by_cases c1 : (A 1 9) ≤ x5
  · replace h := h.1 c1
    by_cases c2 : x2 = 0
    · replace h := h.1 c2
      exact ⟨10, And.intro (gt0 hG) (And.intro (gt1 hG) (Or.inl (And.intro c1 (Or.inr (And.intro (fun z => z c2) (h))))))⟩
    · replace h := h.2 c2
      exact ⟨9, And.intro (gt0 hG) (And.intro (gt1 hG) (Or.inl (And.intro c1 (Or.inl (And.intro c2 (h))))))⟩
  · replace h := h.2 c1
    obtain ⟨n, h⟩ := h
    exact ⟨n + 7, And.intro (gt0 hG) (And.intro (gt1 hG) (Or.inr (And.intro c1 (h))))⟩

set_option maxRecDepth 100000 in
set_option maxHeartbeats 4000000 in
theorem sX4_burglary_53 {E : aR} {A : Nat → Nat → Int32} {R : Nat → Nat → Option Nat} {G : Nat → Nat × Nat} (hG : aGS G) (x1 : Int32) (x2 : Int32) (x3 : Int32) (x4 : Int32) (x5 : Int32) (x6 : Int32) (d7 : Option Value)
    (h : ((10 ≤ x6) → (aw tX4_burglary E 38 [some (.ref 0), some (.int x1), some (.int x2), some (.int x3), some (.int x4), some (.int (x5 + 1)), some (.int x6), none] [] (A, R, G))) ∧ ((¬ (10 ≤ x6)) → ((vp_in x5 6) ∧ ((((((A 4 x5.toNatClampNeg) >>> (x6 &&& 31)) &&& 1) = 0) → (∃ (μ1 : aM), CX4_think [.ref 0] (A, R, G) none μ1 ∧ aw tX4_burglary E 82 [some (.ref 0), some (.int x1), some (.int x2), some (.int x3), some (.int x4), some (.int x5), some (.int x6), none] [] μ1)) ∧ ((¬ ((((A 4 x5.toNatClampNeg) >>> (x6 &&& 31)) &&& 1) = 0)) → (aw tX4_burglary E 53 [some (.ref 0), some (.int x1), some (.int x2), some (.int x3), some (.int x4), some (.int x5), some (.int (x6 + 1)), none] [] (A, R, G))))))) :
    aw tX4_burglary E 53 [some (.ref 0), some (.int x1), some (.int x2), some (.int x3), some (.int x4), some (.int x5), some (.int x6), d7] [] (A, R, G) := by
  by_cases c1 : 10 ≤ x6
  · replace h := h.1 c1
    obtain ⟨n, h⟩ := h
    exact ⟨n + 5, Or.inl (And.intro c1 (h))⟩
  · replace h := h.2 c1
    obtain ⟨q2, h⟩ := h
    by_cases c3 : (((A 4 x5.toNatClampNeg) >>> (x6 &&& 31)) &&& 1) = 0
    · replace h := h.1 c3
      obtain ⟨μ1, h1, n, h⟩ := h
      exact ⟨n + 15, Or.inr (And.intro c1 (And.intro (gt0 hG) (And.intro (gt1 hG) (And.intro (gt4 hG) (And.intro (vin_len (gl4 hG) q2) (Or.inr (And.intro (fun z => z c3) (Exists.intro _ (Exists.intro _ (Exists.intro _ (Exists.intro _ (And.intro rfl (And.intro (gt0 hG) (And.intro (Nat.le_of_ble_eq_true rfl) (And.intro h1 (h))))))))))))))))⟩
    · replace h := h.2 c3
      obtain ⟨n, h⟩ := h
      exact ⟨n + 15, Or.inr (And.intro c1 (And.intro (gt0 hG) (And.intro (gt1 hG) (And.intro (gt4 hG) (And.intro (vin_len (gl4 hG) q2) (Or.inl (And.intro c3 (h))))))))⟩

set_option maxRecDepth 100000 in
set_option maxHeartbeats 4000000 in
theorem sX4_burglary_82 {E : aR} {A : Nat → Nat → Int32} {R : Nat → Nat → Option Nat} {G : Nat → Nat × Nat} (hG : aGS G) (x1 : Int32) (x2 : Int32) (x3 : Int32) (x4 : Int32) (x5 : Int32) (x6 : Int32) (d7 : Option Value)
    (h : (vp_in x5 6) ∧ (∃ (v1 : Int32) (μ1 : aM), CX4_heardInThought [.ref 0, .int x1] ((au A 14 x5.toNatClampNeg ((A 14 x5.toNatClampNeg) ||| ((1 : Int32) <<< (x6 &&& 31)))), R, G) (some (.int v1)) μ1 ∧ aw tX4_burglary E 104 [some (.ref 0), some (.int x1), some (.int x2), some (.int x3), some (.int x4), some (.int x5), some (.int x6), d7] [.int v1] μ1)) :
    aw tX4_burglary E 82 [some (.ref 0), some (.int x1), some (.int x2), some (.int x3), some (.int x4), some (.int x5), some (.int x6), d7] [] (A, R, G) := by
  obtain ⟨q1, h⟩ := h
  obtain ⟨v1, μ1, h1, n, h⟩ := h
  exact ⟨n + 14, And.intro (gt0 hG) (And.intro (gt11 hG) (And.intro rfl (And.intro rfl (And.intro (gt14 hG) (And.intro (vin_len (gl14 hG) q1) (And.intro (gt14 hG) (And.intro (vin_len (gl14 hG) q1) (Exists.intro _ (Exists.intro _ (Exists.intro _ (Exists.intro _ (And.intro rfl (And.intro (gt0 hG) (And.intro (Nat.le_of_ble_eq_true rfl) (And.intro h1 (h))))))))))))))))⟩

set_option maxRecDepth 100000 in
set_option maxHeartbeats 4000000 in
theorem sX4_burglary_104 {E : aR} {A : Nat → Nat → Int32} {R : Nat → Nat → Option Nat} {G : Nat → Nat × Nat} (x1 : Int32) (x2 : Int32) (x3 : Int32) (x4 : Int32) (x5 : Int32) (x6 : Int32) (d7 : Option Value) (y0 : Int32)
    (h : ((y0 ≤ x3) → (aw tX4_burglary E 53 [some (.ref 0), some (.int x1), some (.int x2), some (.int x3), some (.int x4), some (.int x5), some (.int (x6 + 1)), some (.int y0)] [] (A, R, G))) ∧ ((¬ (y0 ≤ x3)) → (aw tX4_burglary E 53 [some (.ref 0), some (.int x1), some (.int x2), some (.int y0), some (.int ((10 * x5) + x6)), some (.int x5), some (.int (x6 + 1)), some (.int y0)] [] (A, R, G)))) :
    aw tX4_burglary E 104 [some (.ref 0), some (.int x1), some (.int x2), some (.int x3), some (.int x4), some (.int x5), some (.int x6), d7] [.int y0] (A, R, G) := by
  by_cases c1 : y0 ≤ x3
  · replace h := h.1 c1
    obtain ⟨n, h⟩ := h
    exact ⟨n + 6, Or.inl (And.intro c1 (h))⟩
  · replace h := h.2 c1
    obtain ⟨n, h⟩ := h
    exact ⟨n + 14, Or.inr (And.intro c1 (h))⟩

set_option maxRecDepth 100000 in
set_option maxHeartbeats 4000000 in
theorem sX4_wants_0 {E : aR} {A : Nat → Nat → Int32} {R : Nat → Nat → Option Nat} {G : Nat → Nat × Nat} (hG : aGS G) (x1 : Int32) (x2 : Int32) (x3 : Int32)
    (h : ((0 ≤ x1 ∧ x1 < A 1 9) → (((thX A 1 x2) → (((0 ≤ x3 ∧ x3 ≤ 1) → (∃ (v1 : Int32) (μ1 : aM), CX4_fewestLosses [.ref 0, .int x1, .int x2] (A, R, G) (some (.int v1)) μ1 ∧ aw tX4_wants E 46 [some (.ref 0), some (.int x1), some (.int x2), some (.int x3), none] [.int v1] μ1)) ∧ ((¬ (0 ≤ x3 ∧ x3 ≤ 1)) → (E (some (.int (-7))) (A, R, G))))) ∧ ((¬ (thX A 1 x2)) → (E (some (.int (-6))) (A, R, G))))) ∧ ((¬ (0 ≤ x1 ∧ x1 < A 1 9)) → (E (some (.int (-5))) (A, R, G)))) :
    aw tX4_wants E 0 [some (.ref 0), some (.int x1), some (.int x2), some (.int x3), none] [] (A, R, G) := by
  by_cases c1 : 0 ≤ x1 ∧ x1 < A 1 9
  · replace h := h.1 c1
    by_cases c2 : thX A 1 x2
    · replace h := h.1 c2
      by_cases c3 : 0 ≤ x3 ∧ x3 ≤ 1
      · replace h := h.1 c3
        obtain ⟨v1, μ1, h1, n, h⟩ := h
        exact ⟨n + 19, And.intro (gt0 hG) (Exists.intro _ (Exists.intro _ (Exists.intro _ (Exists.intro _ (And.intro rfl (And.intro (gt1 hG) (And.intro (Nat.le_of_ble_eq_true rfl) (And.intro (pX0_hasJudge (gB1 hG) _) (Or.inl (And.intro (bI_ne c1) (And.intro (gt0 hG) (Exists.intro _ (Exists.intro _ (Exists.intro _ (Exists.intro _ (And.intro rfl (And.intro (gt1 hG) (And.intro (Nat.le_of_ble_eq_true rfl) (And.intro (pX0_hasCase (gB1 hG) _) (Or.inl (And.intro (bI_ne c2) (Exists.intro _ (Exists.intro _ (And.intro (Nat.le_of_ble_eq_true rfl) (And.intro (Nat.le_of_ble_eq_true rfl) (And.intro (pX4_within _ _ _) (Or.inl (And.intro (bI_ne c3) (Exists.intro _ (Exists.intro _ (Exists.intro _ (Exists.intro _ (And.intro rfl (And.intro (gt0 hG) (And.intro (Nat.le_of_ble_eq_true rfl) (And.intro h1 (h)))))))))))))))))))))))))))))))))))))⟩
      · replace h := h.2 c3
        exact ⟨17, And.intro (gt0 hG) (Exists.intro _ (Exists.intro _ (Exists.intro _ (Exists.intro _ (And.intro rfl (And.intro (gt1 hG) (And.intro (Nat.le_of_ble_eq_true rfl) (And.intro (pX0_hasJudge (gB1 hG) _) (Or.inl (And.intro (bI_ne c1) (And.intro (gt0 hG) (Exists.intro _ (Exists.intro _ (Exists.intro _ (Exists.intro _ (And.intro rfl (And.intro (gt1 hG) (And.intro (Nat.le_of_ble_eq_true rfl) (And.intro (pX0_hasCase (gB1 hG) _) (Or.inl (And.intro (bI_ne c2) (Exists.intro _ (Exists.intro _ (And.intro (Nat.le_of_ble_eq_true rfl) (And.intro (Nat.le_of_ble_eq_true rfl) (And.intro (pX4_within _ _ _) (Or.inr (And.intro (bI_nne c3) (h)))))))))))))))))))))))))))))⟩
    · replace h := h.2 c2
      exact ⟨12, And.intro (gt0 hG) (Exists.intro _ (Exists.intro _ (Exists.intro _ (Exists.intro _ (And.intro rfl (And.intro (gt1 hG) (And.intro (Nat.le_of_ble_eq_true rfl) (And.intro (pX0_hasJudge (gB1 hG) _) (Or.inl (And.intro (bI_ne c1) (And.intro (gt0 hG) (Exists.intro _ (Exists.intro _ (Exists.intro _ (Exists.intro _ (And.intro rfl (And.intro (gt1 hG) (And.intro (Nat.le_of_ble_eq_true rfl) (And.intro (pX0_hasCase (gB1 hG) _) (Or.inr (And.intro (bI_nne c2) (h))))))))))))))))))))))⟩
  · replace h := h.2 c1
    exact ⟨7, And.intro (gt0 hG) (Exists.intro _ (Exists.intro _ (Exists.intro _ (Exists.intro _ (And.intro rfl (And.intro (gt1 hG) (And.intro (Nat.le_of_ble_eq_true rfl) (And.intro (pX0_hasJudge (gB1 hG) _) (Or.inr (And.intro (bI_nne c1) (h)))))))))))⟩

set_option maxRecDepth 100000 in
set_option maxHeartbeats 4000000 in
theorem sX4_wants_46 {E : aR} {A : Nat → Nat → Int32} {R : Nat → Nat → Option Nat} {G : Nat → Nat × Nat} (d1 : Option Value) (d2 : Option Value) (x3 : Int32) (d4 : Option Value) (y0 : Int32)
    (h : ((x3 = 0) → (E (some (.int y0)) (A, R, G))) ∧ ((¬ (x3 = 0)) → (((y0 = (-1)) → (E (some (.int y0)) (A, R, G))) ∧ ((¬ (y0 = (-1))) → (E (some (.int (popc y0))) (A, R, G)))))) :
    aw tX4_wants E 46 [some (.ref 0), d1, d2, some (.int x3), d4] [.int y0] (A, R, G) := by
  by_cases c1 : x3 = 0
  · replace h := h.1 c1
    exact ⟨6, Or.inl (And.intro c1 (h))⟩
  · replace h := h.2 c1
    by_cases c2 : y0 = (-1)
    · replace h := h.1 c2
      exact ⟨9, Or.inr (And.intro c1 (Or.inr (And.intro (fun z => z c2) (h))))⟩
    · replace h := h.2 c2
      exact ⟨9, Or.inr (And.intro c1 (Or.inl (And.intro c2 (Exists.intro _ (Exists.intro _ (And.intro (Nat.le_of_ble_eq_true rfl) (And.intro (Nat.le_of_ble_eq_true rfl) (And.intro (pJ6_bitCount _) (h)))))))))⟩

set_option maxRecDepth 100000 in
set_option maxHeartbeats 4000000 in
theorem sX4_fullest_0 {E : aR} {A : Nat → Nat → Int32} {R : Nat → Nat → Option Nat} {G : Nat → Nat × Nat} (x1 : Int32)
    (h : ((0 ≤ x1 ∧ x1 ≤ 1) → (aw tX4_fullest E 22 [some (.ref 0), some (.int x1), some (.int (-1)), some (.int 0), some (.int 0), some (.int 0), none, none] [] (A, R, G))) ∧ ((¬ (0 ≤ x1 ∧ x1 ≤ 1)) → (E (some (.int (-2))) (A, R, G)))) :
    aw tX4_fullest E 0 [some (.ref 0), some (.int x1), none, none, none, none, none, none] [] (A, R, G) := by
  by_cases c1 : 0 ≤ x1 ∧ x1 ≤ 1
  · replace h := h.1 c1
    obtain ⟨n, h⟩ := h
    exact ⟨n + 13, Exists.intro _ (Exists.intro _ (And.intro (Nat.le_of_ble_eq_true rfl) (And.intro (Nat.le_of_ble_eq_true rfl) (And.intro (pX4_within _ _ _) (Or.inl (And.intro (bI_ne c1) (h)))))))⟩
  · replace h := h.2 c1
    exact ⟨7, Exists.intro _ (Exists.intro _ (And.intro (Nat.le_of_ble_eq_true rfl) (And.intro (Nat.le_of_ble_eq_true rfl) (And.intro (pX4_within _ _ _) (Or.inr (And.intro (bI_nne c1) (h)))))))⟩

set_option maxRecDepth 100000 in
set_option maxHeartbeats 4000000 in
theorem sX4_fullest_22 {E : aR} {A : Nat → Nat → Int32} {R : Nat → Nat → Option Nat} {G : Nat → Nat × Nat} (hG : aGS G) (x1 : Int32) (x2 : Int32) (x3 : Int32) (x4 : Int32) (x5 : Int32) (d6 : Option Value) (d7 : Option Value)
    (h : (((A 1 9) ≤ x5) → (((x1 = 0) → (E (some (.int x2)) (A, R, G))) ∧ ((¬ (x1 = 0)) → (E (some (.int x3)) (A, R, G))))) ∧ ((¬ ((A 1 9) ≤ x5)) → (∃ (v1 : Int32) (μ1 : aM), CX0_casesFor [.ref 1, .int x5] (A, R, G) (some (.int v1)) μ1 ∧ aw tX4_fullest E 43 [some (.ref 0), some (.int x1), some (.int x2), some (.int x3), some (.int x4), some (.int x5), none, none] [.int v1] μ1))) :
    aw tX4_fullest E 22 [some (.ref 0), some (.int x1), some (.int x2), some (.int x3), some (.int x4), some (.int x5), d6, d7] [] (A, R, G) := by
  by_cases c1 : (A 1 9) ≤ x5
  · replace h := h.1 c1
    by_cases c2 : x1 = 0
    · replace h := h.1 c2
      exact ⟨10, And.intro (gt0 hG) (And.intro (gt1 hG) (Or.inl (And.intro c1 (Or.inr (And.intro (fun z => z c2) (h))))))⟩
    · replace h := h.2 c2
      exact ⟨9, And.intro (gt0 hG) (And.intro (gt1 hG) (Or.inl (And.intro c1 (Or.inl (And.intro c2 (h))))))⟩
  · replace h := h.2 c1
    obtain ⟨v1, μ1, h1, n, h⟩ := h
    exact ⟨n + 9, And.intro (gt0 hG) (And.intro (gt1 hG) (Or.inr (And.intro c1 (And.intro (gt0 hG) (Exists.intro _ (Exists.intro _ (Exists.intro _ (Exists.intro _ (And.intro rfl (And.intro (gt1 hG) (And.intro (Nat.le_of_ble_eq_true rfl) (And.intro h1 (h)))))))))))))⟩

set_option maxRecDepth 100000 in
set_option maxHeartbeats 4000000 in
theorem sX4_fullest_43 {E : aR} {A : Nat → Nat → Int32} {R : Nat → Nat → Option Nat} {G : Nat → Nat × Nat} (hG : aGS G) (x1 : Int32) (x2 : Int32) (x3 : Int32) (x4 : Int32) (x5 : Int32) (d6 : Option Value) (d7 : Option Value) (y0 : Int32)
    (h : (vp_in x5 6) ∧ (((x2 = (-1)) → (aw tX4_fullest E 22 [some (.ref 0), some (.int x1), some (.int x5), some (.int (popc y0)), some (.int (popc (A 4 x5.toNatClampNeg))), some (.int (x5 + 1)), some (.int (popc y0)), some (.int (popc (A 4 x5.toNatClampNeg)))] [] (A, R, G))) ∧ ((¬ (x2 = (-1))) → (((x3 < (popc y0)) → (aw tX4_fullest E 22 [some (.ref 0), some (.int x1), some (.int x5), some (.int (popc y0)), some (.int (popc (A 4 x5.toNatClampNeg))), some (.int (x5 + 1)), some (.int (popc y0)), some (.int (popc (A 4 x5.toNatClampNeg)))] [] (A, R, G))) ∧ ((¬ (x3 < (popc y0))) → ((((popc y0) = x3) → ((((popc (A 4 x5.toNatClampNeg)) ≤ x4) → (aw tX4_fullest E 22 [some (.ref 0), some (.int x1), some (.int x2), some (.int x3), some (.int x4), some (.int (x5 + 1)), some (.int (popc y0)), some (.int (popc (A 4 x5.toNatClampNeg)))] [] (A, R, G))) ∧ ((¬ ((popc (A 4 x5.toNatClampNeg)) ≤ x4)) → (aw tX4_fullest E 22 [some (.ref 0), some (.int x1), some (.int x5), some (.int (popc y0)), some (.int (popc (A 4 x5.toNatClampNeg))), some (.int (x5 + 1)), some (.int (popc y0)), some (.int (popc (A 4 x5.toNatClampNeg)))] [] (A, R, G))))) ∧ ((¬ ((popc y0) = x3)) → (aw tX4_fullest E 22 [some (.ref 0), some (.int x1), some (.int x2), some (.int x3), some (.int x4), some (.int (x5 + 1)), some (.int (popc y0)), some (.int (popc (A 4 x5.toNatClampNeg)))] [] (A, R, G))))))))) :
    aw tX4_fullest E 43 [some (.ref 0), some (.int x1), some (.int x2), some (.int x3), some (.int x4), some (.int x5), d6, d7] [.int y0] (A, R, G) := by
  obtain ⟨q1, h⟩ := h
  by_cases c2 : x2 = (-1)
  · replace h := h.1 c2
    obtain ⟨n, h⟩ := h
    exact ⟨n + 20, Exists.intro _ (Exists.intro _ (And.intro (Nat.le_of_ble_eq_true rfl) (And.intro (Nat.le_of_ble_eq_true rfl) (And.intro (pJ6_bitCount _) (And.intro (gt0 hG) (And.intro (gt1 hG) (And.intro (gt4 hG) (And.intro (vin_len (gl4 hG) q1) (Exists.intro _ (Exists.intro _ (And.intro (Nat.le_of_ble_eq_true rfl) (And.intro (Nat.le_of_ble_eq_true rfl) (And.intro (pJ6_bitCount _) (Or.inl (And.intro c2 (h))))))))))))))))⟩
  · replace h := h.2 c2
    by_cases c3 : x3 < (popc y0)
    · replace h := h.1 c3
      obtain ⟨n, h⟩ := h
      exact ⟨n + 23, Exists.intro _ (Exists.intro _ (And.intro (Nat.le_of_ble_eq_true rfl) (And.intro (Nat.le_of_ble_eq_true rfl) (And.intro (pJ6_bitCount _) (And.intro (gt0 hG) (And.intro (gt1 hG) (And.intro (gt4 hG) (And.intro (vin_len (gl4 hG) q1) (Exists.intro _ (Exists.intro _ (And.intro (Nat.le_of_ble_eq_true rfl) (And.intro (Nat.le_of_ble_eq_true rfl) (And.intro (pJ6_bitCount _) (Or.inr (And.intro c2 (Or.inl (And.intro c3 (h))))))))))))))))))⟩
    · replace h := h.2 c3
      by_cases c4 : (popc y0) = x3
      · replace h := h.1 c4
        by_cases c5 : (popc (A 4 x5.toNatClampNeg)) ≤ x4
        · replace h := h.1 c5
          obtain ⟨n, h⟩ := h
          exact ⟨n + 23, Exists.intro _ (Exists.intro _ (And.intro (Nat.le_of_ble_eq_true rfl) (And.intro (Nat.le_of_ble_eq_true rfl) (And.intro (pJ6_bitCount _) (And.intro (gt0 hG) (And.intro (gt1 hG) (And.intro (gt4 hG) (And.intro (vin_len (gl4 hG) q1) (Exists.intro _ (Exists.intro _ (And.intro (Nat.le_of_ble_eq_true rfl) (And.intro (Nat.le_of_ble_eq_true rfl) (And.intro (pJ6_bitCount _) (Or.inr (And.intro c2 (Or.inr (And.intro c3 (Or.inr (And.intro (fun z => z c4) (Or.inl (And.intro c5 (h))))))))))))))))))))))⟩
        · replace h := h.2 c5
          obtain ⟨n, h⟩ := h
          exact ⟨n + 29, Exists.intro _ (Exists.intro _ (And.intro (Nat.le_of_ble_eq_true rfl) (And.intro (Nat.le_of_ble_eq_true rfl) (And.intro (pJ6_bitCount _) (And.intro (gt0 hG) (And.intro (gt1 hG) (And.intro (gt4 hG) (And.intro (vin_len (gl4 hG) q1) (Exists.intro _ (Exists.intro _ (And.intro (Nat.le_of_ble_eq_true rfl) (And.intro (Nat.le_of_ble_eq_true rfl) (And.intro (pJ6_bitCount _) (Or.inr (And.intro c2 (Or.inr (And.intro c3 (Or.inr (And.intro (fun z => z c4) (Or.inr (And.intro c5 (h))))))))))))))))))))))⟩
      · replace h := h.2 c4
        obtain ⟨n, h⟩ := h
        exact ⟨n + 20, Exists.intro _ (Exists.intro _ (And.intro (Nat.le_of_ble_eq_true rfl) (And.intro (Nat.le_of_ble_eq_true rfl) (And.intro (pJ6_bitCount _) (And.intro (gt0 hG) (And.intro (gt1 hG) (And.intro (gt4 hG) (And.intro (vin_len (gl4 hG) q1) (Exists.intro _ (Exists.intro _ (And.intro (Nat.le_of_ble_eq_true rfl) (And.intro (Nat.le_of_ble_eq_true rfl) (And.intro (pJ6_bitCount _) (Or.inr (And.intro c2 (Or.inr (And.intro c3 (Or.inl (And.intro c4 (h))))))))))))))))))))⟩

set_option maxRecDepth 100000 in
set_option maxHeartbeats 4000000 in
theorem sX4_cruel_0 {E : aR} {A : Nat → Nat → Int32} {R : Nat → Nat → Option Nat} {G : Nat → Nat × Nat}
    (h : aw tX4_cruel E 4 [some (.ref 0), some (.int 0), some (.int 0)] [] (A, R, G)) :
    aw tX4_cruel E 0 [some (.ref 0), none, none] [] (A, R, G) := by
  obtain ⟨n, h⟩ := h
  exact ⟨n + 4, h⟩

set_option maxRecDepth 100000 in
set_option maxHeartbeats 4000000 in
theorem sX4_cruel_4 {E : aR} {A : Nat → Nat → Int32} {R : Nat → Nat → Option Nat} {G : Nat → Nat × Nat} (hG : aGS G) (x1 : Int32) (x2 : Int32)
    (h : ((8 ≤ x2) → (E (some (.int x1)) (A, R, G))) ∧ ((¬ (8 ≤ x2)) → (((thX A 1 x2) → (∃ (v1 : Int32) (μ1 : aM), CX0_judgesFor [.ref 1, .int x2] (A, R, G) (some (.int v1)) μ1 ∧ aw tX4_cruel E 29 [some (.ref 0), some (.int x1), some (.int x2)] [.int v1] μ1)) ∧ ((¬ (thX A 1 x2)) → (aw tX4_cruel E 4 [some (.ref 0), some (.int x1), some (.int (x2 + 1))] [] (A, R, G)))))) :
    aw tX4_cruel E 4 [some (.ref 0), some (.int x1), some (.int x2)] [] (A, R, G) := by
  by_cases c1 : 8 ≤ x2
  · replace h := h.1 c1
    exact ⟨5, Or.inl (And.intro c1 (h))⟩
  · replace h := h.2 c1
    by_cases c2 : thX A 1 x2
    · replace h := h.1 c2
      obtain ⟨v1, μ1, h1, n, h⟩ := h
      exact ⟨n + 12, Or.inr (And.intro c1 (And.intro (gt0 hG) (Exists.intro _ (Exists.intro _ (Exists.intro _ (Exists.intro _ (And.intro rfl (And.intro (gt1 hG) (And.intro (Nat.le_of_ble_eq_true rfl) (And.intro (pX0_hasCase (gB1 hG) _) (Or.inr (And.intro (bI_neq c2) (And.intro (gt0 hG) (Exists.intro _ (Exists.intro _ (Exists.intro _ (Exists.intro _ (And.intro rfl (And.intro (gt1 hG) (And.intro (Nat.le_of_ble_eq_true rfl) (And.intro h1 (h))))))))))))))))))))))⟩
    · replace h := h.2 c2
      obtain ⟨n, h⟩ := h
      exact ⟨n + 10, Or.inr (And.intro c1 (And.intro (gt0 hG) (Exists.intro _ (Exists.intro _ (Exists.intro _ (Exists.intro _ (And.intro rfl (And.intro (gt1 hG) (And.intro (Nat.le_of_ble_eq_true rfl) (And.intro (pX0_hasCase (gB1 hG) _) (Or.inl (And.intro (bI_eq c2) (h)))))))))))))⟩

set_option maxRecDepth 100000 in
set_option maxHeartbeats 4000000 in
theorem sX4_cruel_29 {E : aR} {A : Nat → Nat → Int32} {R : Nat → Nat → Option Nat} {G : Nat → Nat × Nat} (x1 : Int32) (x2 : Int32) (y0 : Int32)
    (h : ((y0 = 0) → (aw tX4_cruel E 4 [some (.ref 0), some (.int (x1 ||| ((1 : Int32) <<< (x2 &&& 31)))), some (.int (x2 + 1))] [] (A, R, G))) ∧ ((¬ (y0 = 0)) → (aw tX4_cruel E 4 [some (.ref 0), some (.int x1), some (.int (x2 + 1))] [] (A, R, G)))) :
    aw tX4_cruel E 29 [some (.ref 0), some (.int x1), some (.int x2)] [.int y0] (A, R, G) := by
  by_cases c1 : y0 = 0
  · replace h := h.1 c1
    obtain ⟨n, h⟩ := h
    exact ⟨n + 9, Or.inr (And.intro (fun z => z c1) (h))⟩
  · replace h := h.2 c1
    obtain ⟨n, h⟩ := h
    exact ⟨n + 3, Or.inl (And.intro c1 (h))⟩

set_option maxRecDepth 100000 in
set_option maxHeartbeats 4000000 in
theorem sX4_ruin_0 {E : aR} {A : Nat → Nat → Int32} {R : Nat → Nat → Option Nat} {G : Nat → Nat × Nat} (hG : aGS G) (x1 : Int32)
    (h : ((0 ≤ x1 ∧ x1 ≤ 1) → ((((A 1 9) = 0) → (E (some (.long (-4611686018427387904))) (A, R, G))) ∧ ((¬ ((A 1 9) = 0)) → (aw tX4_ruin E 27 [some (.ref 0), some (.int x1), some (.int 0), some (.int 0)] [] (A, R, G))))) ∧ ((¬ (0 ≤ x1 ∧ x1 ≤ 1)) → (E (some (.long (-4611686018427387904))) (A, R, G)))) :
    aw tX4_ruin E 0 [some (.ref 0), some (.int x1), none, none] [] (A, R, G) := by
  by_cases c1 : 0 ≤ x1 ∧ x1 ≤ 1
  · replace h := h.1 c1
    by_cases c2 : (A 1 9) = 0
    · replace h := h.1 c2
      exact ⟨11, Exists.intro _ (Exists.intro _ (And.intro (Nat.le_of_ble_eq_true rfl) (And.intro (Nat.le_of_ble_eq_true rfl) (And.intro (pX4_within _ _ _) (Or.inr (And.intro (bI_neq c1) (And.intro (gt0 hG) (And.intro (gt1 hG) (Or.inr (And.intro (fun z => z c2) (h)))))))))))⟩
    · replace h := h.2 c2
      obtain ⟨n, h⟩ := h
      exact ⟨n + 13, Exists.intro _ (Exists.intro _ (And.intro (Nat.le_of_ble_eq_true rfl) (And.intro (Nat.le_of_ble_eq_true rfl) (And.intro (pX4_within _ _ _) (Or.inr (And.intro (bI_neq c1) (And.intro (gt0 hG) (And.intro (gt1 hG) (Or.inl (And.intro c2 (h)))))))))))⟩
  · replace h := h.2 c1
    exact ⟨7, Exists.intro _ (Exists.intro _ (And.intro (Nat.le_of_ble_eq_true rfl) (And.intro (Nat.le_of_ble_eq_true rfl) (And.intro (pX4_within _ _ _) (Or.inl (And.intro (bI_eq c1) (h)))))))⟩

set_option maxRecDepth 100000 in
set_option maxHeartbeats 4000000 in
theorem sX4_ruin_27 {E : aR} {A : Nat → Nat → Int32} {R : Nat → Nat → Option Nat} {G : Nat → Nat × Nat} (hG : aGS G) (x1 : Int32) (x2 : Int32) (x3 : Int32)
    (h : (((A 1 9) ≤ x3) → (∃ (v1 : Int64) (μ1 : aM), CX4_partOfFraction [.int x2, .int (A 1 9), .int x1] (A, R, G) (some (.long v1)) μ1 ∧ aw tX4_ruin E 71 [some (.ref 0), some (.int x1), some (.int x2), some (.int x3)] [.long v1] μ1)) ∧ ((¬ ((A 1 9) ≤ x3)) → ((vp_in x3 6) ∧ (aw tX4_ruin E 27 [some (.ref 0), some (.int x1), some (.int (x2 + (popc (A 4 x3.toNatClampNeg)))), some (.int (x3 + 1))] [] (A, R, G))))) :
    aw tX4_ruin E 27 [some (.ref 0), some (.int x1), some (.int x2), some (.int x3)] [] (A, R, G) := by
  by_cases c1 : (A 1 9) ≤ x3
  · replace h := h.1 c1
    obtain ⟨v1, μ1, h1, n, h⟩ := h
    exact ⟨n + 11, And.intro (gt0 hG) (And.intro (gt1 hG) (Or.inl (And.intro c1 (And.intro (gt0 hG) (And.intro (gt1 hG) (Exists.intro _ (Exists.intro _ (And.intro (Nat.le_of_ble_eq_true rfl) (And.intro (Nat.le_of_ble_eq_true rfl) (And.intro h1 (h)))))))))))⟩
  · replace h := h.2 c1
    obtain ⟨q2, h⟩ := h
    obtain ⟨n, h⟩ := h
    exact ⟨n + 16, And.intro (gt0 hG) (And.intro (gt1 hG) (Or.inr (And.intro c1 (And.intro (gt0 hG) (And.intro (gt1 hG) (And.intro (gt4 hG) (And.intro (vin_len (gl4 hG) q2) (Exists.intro _ (Exists.intro _ (And.intro (Nat.le_of_ble_eq_true rfl) (And.intro (Nat.le_of_ble_eq_true rfl) (And.intro (pJ6_bitCount _) (h)))))))))))))⟩

set_option maxRecDepth 100000 in
set_option maxHeartbeats 4000000 in
theorem sX4_ruin_71 {E : aR} {A : Nat → Nat → Int32} {R : Nat → Nat → Option Nat} {G : Nat → Nat × Nat} (d1 : Option Value) (d2 : Option Value) (d3 : Option Value) (y0 : Int64)
    (h : E (some (.long y0)) (A, R, G)) :
    aw tX4_ruin E 71 [some (.ref 0), d1, d2, d3] [.long y0] (A, R, G) := by
  exact ⟨1, h⟩

set_option maxRecDepth 100000 in
set_option maxHeartbeats 4000000 in
theorem sX4_tells_0 {E : aR} {A : Nat → Nat → Int32} {R : Nat → Nat → Option Nat} {G : Nat → Nat × Nat} (hG : aGS G) (x1 : Int32)
    (h : ∃ (v1 : Int32) (μ1 : aM), CX4_refusalOfTold [.ref 0, .int x1] (A, R, G) (some (.int v1)) μ1 ∧ aw tX4_tells E 5 [some (.ref 0), some (.int x1), none] [.int v1] μ1) :
    aw tX4_tells E 0 [some (.ref 0), some (.int x1), none] [] (A, R, G) := by
  obtain ⟨v1, μ1, h1, n, h⟩ := h
  exact ⟨n + 3, Exists.intro _ (Exists.intro _ (Exists.intro _ (Exists.intro _ (And.intro rfl (And.intro (gt0 hG) (And.intro (Nat.le_of_ble_eq_true rfl) (And.intro h1 (h))))))))⟩

set_option maxRecDepth 100000 in
set_option maxHeartbeats 4000000 in
theorem sX4_tells_5 {E : aR} {A : Nat → Nat → Int32} {R : Nat → Nat → Option Nat} {G : Nat → Nat × Nat} (hG : aGS G) (x1 : Int32) (d2 : Option Value) (y0 : Int32)
    (h : ((y0 = 0) → (∃ (μ1 : aM), CX4_think [.ref 0] (A, R, G) none μ1 ∧ aw tX4_tells E 16 [some (.ref 0), some (.int x1), some (.int y0)] [] μ1)) ∧ ((¬ (y0 = 0)) → (E (some (.int y0)) (A, R, G)))) :
    aw tX4_tells E 5 [some (.ref 0), some (.int x1), d2] [.int y0] (A, R, G) := by
  by_cases c1 : y0 = 0
  · replace h := h.1 c1
    obtain ⟨μ1, h1, n, h⟩ := h
    exact ⟨n + 5, Or.inl (And.intro c1 (Exists.intro _ (Exists.intro _ (Exists.intro _ (Exists.intro _ (And.intro rfl (And.intro (gt0 hG) (And.intro (Nat.le_of_ble_eq_true rfl) (And.intro h1 (h))))))))))⟩
  · replace h := h.2 c1
    exact ⟨5, Or.inr (And.intro c1 (h))⟩

set_option maxRecDepth 100000 in
set_option maxHeartbeats 4000000 in
theorem sX4_tells_16 {E : aR} {A : Nat → Nat → Int32} {R : Nat → Nat → Option Nat} {G : Nat → Nat × Nat} (hG : aGS G) (x1 : Int32) (d2 : Option Value)
    (h : ∃ (v1 : Int32) (μ1 : aM), CX4_firstOther [.ref 0, .int x1] (A, R, G) (some (.int v1)) μ1 ∧ aw tX4_tells E 21 [some (.ref 0), some (.int x1), d2] [.int v1] μ1) :
    aw tX4_tells E 16 [some (.ref 0), some (.int x1), d2] [] (A, R, G) := by
  obtain ⟨v1, μ1, h1, n, h⟩ := h
  exact ⟨n + 3, Exists.intro _ (Exists.intro _ (Exists.intro _ (Exists.intro _ (And.intro rfl (And.intro (gt0 hG) (And.intro (Nat.le_of_ble_eq_true rfl) (And.intro h1 (h))))))))⟩

set_option maxRecDepth 100000 in
set_option maxHeartbeats 4000000 in
theorem sX4_tells_21 {E : aR} {A : Nat → Nat → Int32} {R : Nat → Nat → Option Nat} {G : Nat → Nat × Nat} (d1 : Option Value) (d2 : Option Value) (y0 : Int32)
    (h : E (some (.int y0)) (A, R, G)) :
    aw tX4_tells E 21 [some (.ref 0), d1, d2] [.int y0] (A, R, G) := by
  exact ⟨1, h⟩

set_option maxRecDepth 100000 in
set_option maxHeartbeats 4000000 in
theorem sX4_kinds_0 {E : aR} {A : Nat → Nat → Int32} {R : Nat → Nat → Option Nat} {G : Nat → Nat × Nat} (hG : aGS G) (x1 : Int32) (x2 : Int32) (x3 : Int32)
    (h : ∃ (v1 : Int32) (μ1 : aM), CX4_refusalOfTold_ [.ref 0, .int x1, .int x2] (A, R, G) (some (.int v1)) μ1 ∧ aw tX4_kinds E 6 [some (.ref 0), some (.int x1), some (.int x2), some (.int x3), none, none, none] [.int v1] μ1) :
    aw tX4_kinds E 0 [some (.ref 0), some (.int x1), some (.int x2), some (.int x3), none, none, none] [] (A, R, G) := by
  obtain ⟨v1, μ1, h1, n, h⟩ := h
  exact ⟨n + 4, Exists.intro _ (Exists.intro _ (Exists.intro _ (Exists.intro _ (And.intro rfl (And.intro (gt0 hG) (And.intro (Nat.le_of_ble_eq_true rfl) (And.intro h1 (h))))))))⟩

set_option maxRecDepth 100000 in
set_option maxHeartbeats 4000000 in
theorem sX4_kinds_6 {E : aR} {A : Nat → Nat → Int32} {R : Nat → Nat → Option Nat} {G : Nat → Nat × Nat} (x1 : Int32) (x2 : Int32) (x3 : Int32) (d4 : Option Value) (d5 : Option Value) (d6 : Option Value) (y0 : Int32)
    (h : ((y0 = 0) → (((0 ≤ x3 ∧ x3 ≤ 1) → (aw tX4_kinds E 34 [some (.ref 0), some (.int x1), some (.int x2), some (.int x3), some (.int y0), some (.int 0), some (.int 0)] [] (A, R, G))) ∧ ((¬ (0 ≤ x3 ∧ x3 ≤ 1)) → (E (some (.int (-7))) (A, R, G))))) ∧ ((¬ (y0 = 0)) → (E (some (.int y0)) (A, R, G)))) :
    aw tX4_kinds E 6 [some (.ref 0), some (.int x1), some (.int x2), some (.int x3), d4, d5, d6] [.int y0] (A, R, G) := by
  by_cases c1 : y0 = 0
  · replace h := h.1 c1
    by_cases c2 : 0 ≤ x3 ∧ x3 ≤ 1
    · replace h := h.1 c2
      obtain ⟨n, h⟩ := h
      exact ⟨n + 12, Or.inl (And.intro c1 (Exists.intro _ (Exists.intro _ (And.intro (Nat.le_of_ble_eq_true rfl) (And.intro (Nat.le_of_ble_eq_true rfl) (And.intro (pX4_within _ _ _) (Or.inl (And.intro (bI_ne c2) (h)))))))))⟩
    · replace h := h.2 c2
      exact ⟨10, Or.inl (And.intro c1 (Exists.intro _ (Exists.intro _ (And.intro (Nat.le_of_ble_eq_true rfl) (And.intro (Nat.le_of_ble_eq_true rfl) (And.intro (pX4_within _ _ _) (Or.inr (And.intro (bI_nne c2) (h)))))))))⟩
  · replace h := h.2 c1
    exact ⟨5, Or.inr (And.intro c1 (h))⟩

set_option maxRecDepth 100000 in
set_option maxHeartbeats 4000000 in
theorem sX4_kinds_34 {E : aR} {A : Nat → Nat → Int32} {R : Nat → Nat → Option Nat} {G : Nat → Nat × Nat} (hG : aGS G) (x1 : Int32) (x2 : Int32) (x3 : Int32) (d4 : Option Value) (x5 : Int32) (x6 : Int32)
    (h : ((x3 = 0) → (((6 ≤ x6) → (E (some (.int x5)) (A, R, G))) ∧ ((¬ (6 ≤ x6)) → (∃ (μ1 : aM), CX4_think [.ref 0] (A, R, G) none μ1 ∧ aw tX4_kinds E 54 [some (.ref 0), some (.int x1), some (.int x2), some (.int x3), none, some (.int x5), some (.int x6)] [] μ1)))) ∧ ((¬ (x3 = 0)) → (((10 ≤ x6) → (E (some (.int x5)) (A, R, G))) ∧ ((¬ (10 ≤ x6)) → (∃ (μ1 : aM), CX4_think [.ref 0] (A, R, G) none μ1 ∧ aw tX4_kinds E 54 [some (.ref 0), some (.int x1), some (.int x2), some (.int x3), none, some (.int x5), some (.int x6)] [] μ1))))) :
    aw tX4_kinds E 34 [some (.ref 0), some (.int x1), some (.int x2), some (.int x3), d4, some (.int x5), some (.int x6)] [] (A, R, G) := by
  by_cases c1 : x3 = 0
  · replace h := h.1 c1
    by_cases c2 : 6 ≤ x6
    · replace h := h.1 c2
      exact ⟨8, Or.inr (And.intro (fun z => z c1) (Or.inl (And.intro c2 (h))))⟩
    · replace h := h.2 c2
      obtain ⟨μ1, h1, n, h⟩ := h
      exact ⟨n + 8, Or.inr (And.intro (fun z => z c1) (Or.inr (And.intro c2 (Exists.intro _ (Exists.intro _ (Exists.intro _ (Exists.intro _ (And.intro rfl (And.intro (gt0 hG) (And.intro (Nat.le_of_ble_eq_true rfl) (And.intro h1 (h))))))))))))⟩
  · replace h := h.2 c1
    by_cases c3 : 10 ≤ x6
    · replace h := h.1 c3
      exact ⟨7, Or.inl (And.intro c1 (Or.inl (And.intro c3 (h))))⟩
    · replace h := h.2 c3
      obtain ⟨μ1, h1, n, h⟩ := h
      exact ⟨n + 7, Or.inl (And.intro c1 (Or.inr (And.intro c3 (Exists.intro _ (Exists.intro _ (Exists.intro _ (Exists.intro _ (And.intro rfl (And.intro (gt0 hG) (And.intro (Nat.le_of_ble_eq_true rfl) (And.intro h1 (h))))))))))))⟩

set_option maxRecDepth 100000 in
set_option maxHeartbeats 4000000 in
theorem sX4_kinds_54 {E : aR} {A : Nat → Nat → Int32} {R : Nat → Nat → Option Nat} {G : Nat → Nat × Nat} (hG : aGS G) (x1 : Int32) (x2 : Int32) (x3 : Int32) (d4 : Option Value) (x5 : Int32) (x6 : Int32)
    (h : ((x3 = 0) → ((vp_in x2 6) ∧ (∃ (v1 : Int32) (μ1 : aM), CX4_firstOther [.ref 0, .int x1] ((au A 12 x2.toNatClampNeg x6), R, G) (some (.int v1)) μ1 ∧ aw tX4_kinds E 88 [some (.ref 0), some (.int x1), some (.int x2), some (.int x3), d4, some (.int x5), some (.int x6)] [.int v1] μ1))) ∧ ((¬ (x3 = 0)) → ((vp_in x2 6) ∧ (∃ (v1 : Int32) (μ1 : aM), CX4_firstOther [.ref 0, .int x1] ((au A 13 x2.toNatClampNeg x6), R, G) (some (.int v1)) μ1 ∧ aw tX4_kinds E 88 [some (.ref 0), some (.int x1), some (.int x2), some (.int x3), d4, some (.int x5), some (.int x6)] [.int v1] μ1)))) :
    aw tX4_kinds E 54 [some (.ref 0), some (.int x1), some (.int x2), some (.int x3), d4, some (.int x5), some (.int x6)] [] (A, R, G) := by
  by_cases c1 : x3 = 0
  · replace h := h.1 c1
    obtain ⟨q2, h⟩ := h
    obtain ⟨v1, μ1, h1, n, h⟩ := h
    exact ⟨n + 12, Or.inr (And.intro (fun z => z c1) (And.intro (gt0 hG) (And.intro (gt11 hG) (And.intro (gt12 hG) (And.intro (vin_len (gl12 hG) q2) (Exists.intro _ (Exists.intro _ (Exists.intro _ (Exists.intro _ (And.intro rfl (And.intro (gt0 hG) (And.intro (Nat.le_of_ble_eq_true rfl) (And.intro h1 (h))))))))))))))⟩
  · replace h := h.2 c1
    obtain ⟨q3, h⟩ := h
    obtain ⟨v1, μ1, h1, n, h⟩ := h
    exact ⟨n + 11, Or.inl (And.intro c1 (And.intro (gt0 hG) (And.intro (gt11 hG) (And.intro (gt13 hG) (And.intro (vin_len (gl13 hG) q3) (Exists.intro _ (Exists.intro _ (Exists.intro _ (Exists.intro _ (And.intro rfl (And.intro (gt0 hG) (And.intro (Nat.le_of_ble_eq_true rfl) (And.intro h1 (h))))))))))))))⟩

set_option maxRecDepth 100000 in
set_option maxHeartbeats 4000000 in
theorem sX4_kinds_88 {E : aR} {A : Nat → Nat → Int32} {R : Nat → Nat → Option Nat} {G : Nat → Nat × Nat} (x1 : Int32) (x2 : Int32) (x3 : Int32) (d4 : Option Value) (x5 : Int32) (x6 : Int32) (y0 : Int32)
    (h : ((y0 = (-1)) → (aw tX4_kinds E 34 [some (.ref 0), some (.int x1), some (.int x2), some (.int x3), (bif ac2 d4 then none else d4), some (.int (x5 ||| ((1 : Int32) <<< (x6 &&& 31)))), some (.int (x6 + 1))] [] (A, R, G))) ∧ ((¬ (y0 = (-1))) → (aw tX4_kinds E 34 [some (.ref 0), some (.int x1), some (.int x2), some (.int x3), d4, some (.int x5), some (.int (x6 + 1))] [] (A, R, G)))) :
    aw tX4_kinds E 88 [some (.ref 0), some (.int x1), some (.int x2), some (.int x3), d4, some (.int x5), some (.int x6)] [.int y0] (A, R, G) := by
  by_cases c1 : y0 = (-1)
  · replace h := h.1 c1
    obtain ⟨n, h⟩ := h
    exact ⟨n + 10, Or.inr (And.intro (fun z => z c1) (h))⟩
  · replace h := h.2 c1
    obtain ⟨n, h⟩ := h
    exact ⟨n + 4, Or.inl (And.intro c1 (h))⟩

set_option maxRecDepth 100000 in
set_option maxHeartbeats 4000000 in
theorem sX4_turned_0 {E : aR} {A : Nat → Nat → Int32} {R : Nat → Nat → Option Nat} {G : Nat → Nat × Nat} (hG : aGS G) (x1 : Int32) (x2 : Int32)
    (h : ∃ (v1 : Int32) (μ1 : aM), CX4_refusalOfTold_ [.ref 0, .int x1, .int x2] (A, R, G) (some (.int v1)) μ1 ∧ aw tX4_turned E 6 [some (.ref 0), some (.int x1), some (.int x2), none, none, none] [.int v1] μ1) :
    aw tX4_turned E 0 [some (.ref 0), some (.int x1), some (.int x2), none, none, none] [] (A, R, G) := by
  obtain ⟨v1, μ1, h1, n, h⟩ := h
  exact ⟨n + 4, Exists.intro _ (Exists.intro _ (Exists.intro _ (Exists.intro _ (And.intro rfl (And.intro (gt0 hG) (And.intro (Nat.le_of_ble_eq_true rfl) (And.intro h1 (h))))))))⟩

set_option maxRecDepth 100000 in
set_option maxHeartbeats 4000000 in
theorem sX4_turned_6 {E : aR} {A : Nat → Nat → Int32} {R : Nat → Nat → Option Nat} {G : Nat → Nat × Nat} (x1 : Int32) (x2 : Int32) (d3 : Option Value) (d4 : Option Value) (d5 : Option Value) (y0 : Int32)
    (h : ((y0 = 0) → (aw tX4_turned E 19 [some (.ref 0), some (.int x1), some (.int x2), some (.int y0), some (.int 0), some (.int 0)] [] (A, R, G))) ∧ ((¬ (y0 = 0)) → (E (some (.int y0)) (A, R, G)))) :
    aw tX4_turned E 6 [some (.ref 0), some (.int x1), some (.int x2), d3, d4, d5] [.int y0] (A, R, G) := by
  by_cases c1 : y0 = 0
  · replace h := h.1 c1
    obtain ⟨n, h⟩ := h
    exact ⟨n + 7, Or.inl (And.intro c1 (h))⟩
  · replace h := h.2 c1
    exact ⟨5, Or.inr (And.intro c1 (h))⟩

set_option maxRecDepth 100000 in
set_option maxHeartbeats 4000000 in
theorem sX4_turned_19 {E : aR} {A : Nat → Nat → Int32} {R : Nat → Nat → Option Nat} {G : Nat → Nat × Nat} (hG : aGS G) (x1 : Int32) (x2 : Int32) (d3 : Option Value) (x4 : Int32) (x5 : Int32)
    (h : ((10 ≤ x5) → (E (some (.int x4)) (A, R, G))) ∧ ((¬ (10 ≤ x5)) → (∃ (μ1 : aM), CX4_think [.ref 0] (A, R, G) none μ1 ∧ aw tX4_turned E 30 [some (.ref 0), some (.int x1), some (.int x2), none, some (.int x4), some (.int x5)] [] μ1))) :
    aw tX4_turned E 19 [some (.ref 0), some (.int x1), some (.int x2), d3, some (.int x4), some (.int x5)] [] (A, R, G) := by
  by_cases c1 : 10 ≤ x5
  · replace h := h.1 c1
    exact ⟨5, Or.inl (And.intro c1 (h))⟩
  · replace h := h.2 c1
    obtain ⟨μ1, h1, n, h⟩ := h
    exact ⟨n + 5, Or.inr (And.intro c1 (Exists.intro _ (Exists.intro _ (Exists.intro _ (Exists.intro _ (And.intro rfl (And.intro (gt0 hG) (And.intro (Nat.le_of_ble_eq_true rfl) (And.intro h1 (h))))))))))⟩

set_option maxRecDepth 100000 in
set_option maxHeartbeats 4000000 in
theorem sX4_turned_30 {E : aR} {A : Nat → Nat → Int32} {R : Nat → Nat → Option Nat} {G : Nat → Nat × Nat} (hG : aGS G) (x1 : Int32) (x2 : Int32) (d3 : Option Value) (x4 : Int32) (x5 : Int32)
    (h : (vp_in x2 6) ∧ (∃ (v1 : Int32) (μ1 : aM), CX4_firstOther [.ref 0, .int x1] ((au A 14 x2.toNatClampNeg ((A 14 x2.toNatClampNeg) ^^^ ((1 : Int32) <<< (x5 &&& 31)))), R, G) (some (.int v1)) μ1 ∧ aw tX4_turned E 51 [some (.ref 0), some (.int x1), some (.int x2), d3, some (.int x4), some (.int x5)] [.int v1] μ1)) :
    aw tX4_turned E 30 [some (.ref 0), some (.int x1), some (.int x2), d3, some (.int x4), some (.int x5)] [] (A, R, G) := by
  obtain ⟨q1, h⟩ := h
  obtain ⟨v1, μ1, h1, n, h⟩ := h
  exact ⟨n + 14, And.intro (gt0 hG) (And.intro (gt11 hG) (And.intro rfl (And.intro rfl (And.intro (gt14 hG) (And.intro (vin_len (gl14 hG) q1) (And.intro (gt14 hG) (And.intro (vin_len (gl14 hG) q1) (Exists.intro _ (Exists.intro _ (Exists.intro _ (Exists.intro _ (And.intro rfl (And.intro (gt0 hG) (And.intro (Nat.le_of_ble_eq_true rfl) (And.intro h1 (h))))))))))))))))⟩

set_option maxRecDepth 100000 in
set_option maxHeartbeats 4000000 in
theorem sX4_turned_51 {E : aR} {A : Nat → Nat → Int32} {R : Nat → Nat → Option Nat} {G : Nat → Nat × Nat} (x1 : Int32) (x2 : Int32) (d3 : Option Value) (x4 : Int32) (x5 : Int32) (y0 : Int32)
    (h : ((y0 = (-1)) → (aw tX4_turned E 19 [some (.ref 0), some (.int x1), some (.int x2), (bif ac2 d3 then none else d3), some (.int (x4 ||| ((1 : Int32) <<< (x5 &&& 31)))), some (.int (x5 + 1))] [] (A, R, G))) ∧ ((¬ (y0 = (-1))) → (aw tX4_turned E 19 [some (.ref 0), some (.int x1), some (.int x2), d3, some (.int x4), some (.int (x5 + 1))] [] (A, R, G)))) :
    aw tX4_turned E 51 [some (.ref 0), some (.int x1), some (.int x2), d3, some (.int x4), some (.int x5)] [.int y0] (A, R, G) := by
  by_cases c1 : y0 = (-1)
  · replace h := h.1 c1
    obtain ⟨n, h⟩ := h
    exact ⟨n + 10, Or.inr (And.intro (fun z => z c1) (h))⟩
  · replace h := h.2 c1
    obtain ⟨n, h⟩ := h
    exact ⟨n + 4, Or.inl (And.intro c1 (h))⟩

set_option maxRecDepth 100000 in
set_option maxHeartbeats 4000000 in
theorem sX4_states_0 {E : aR} {A : Nat → Nat → Int32} {R : Nat → Nat → Option Nat} {G : Nat → Nat × Nat} (hG : aGS G) (x1 : Int32) (x2 : Int32) (x3 : Int32) (x4 : Int32)
    (h : ∃ (v1 : Int32) (μ1 : aM), CX4_refusalOfTold_ [.ref 0, .int x1, .int x2] (A, R, G) (some (.int v1)) μ1 ∧ aw tX4_states E 6 [some (.ref 0), some (.int x1), some (.int x2), some (.int x3), some (.int x4), none, none, none, none] [.int v1] μ1) :
    aw tX4_states E 0 [some (.ref 0), some (.int x1), some (.int x2), some (.int x3), some (.int x4), none, none, none, none] [] (A, R, G) := by
  obtain ⟨v1, μ1, h1, n, h⟩ := h
  exact ⟨n + 4, Exists.intro _ (Exists.intro _ (Exists.intro _ (Exists.intro _ (And.intro rfl (And.intro (gt0 hG) (And.intro (Nat.le_of_ble_eq_true rfl) (And.intro h1 (h))))))))⟩

set_option maxRecDepth 100000 in
set_option maxHeartbeats 4000000 in
theorem sX4_states_6 {E : aR} {A : Nat → Nat → Int32} {R : Nat → Nat → Option Nat} {G : Nat → Nat × Nat} (x1 : Int32) (x2 : Int32) (x3 : Int32) (x4 : Int32) (d5 : Option Value) (d6 : Option Value) (d7 : Option Value) (d8 : Option Value) (y0 : Int32)
    (h : ((y0 = 0) → (((1 ≤ x3 ∧ x3 ≤ 2) → (((0 ≤ x4 ∧ x4 ≤ 1) → (aw tX4_states E 47 [some (.ref 0), some (.int x1), some (.int x2), some (.int x3), some (.int x4), some (.int y0), some (.int 0), some (.int (-1)), some (.int 0)] [] (A, R, G))) ∧ ((¬ (0 ≤ x4 ∧ x4 ≤ 1)) → (E (some (.int (-7))) (A, R, G))))) ∧ ((¬ (1 ≤ x3 ∧ x3 ≤ 2)) → (E (some (.int (-7))) (A, R, G))))) ∧ ((¬ (y0 = 0)) → (E (some (.int y0)) (A, R, G)))) :
    aw tX4_states E 6 [some (.ref 0), some (.int x1), some (.int x2), some (.int x3), some (.int x4), d5, d6, d7, d8] [.int y0] (A, R, G) := by
  by_cases c1 : y0 = 0
  · replace h := h.1 c1
    by_cases c2 : 1 ≤ x3 ∧ x3 ≤ 2
    · replace h := h.1 c2
      by_cases c3 : 0 ≤ x4 ∧ x4 ≤ 1
      · replace h := h.1 c3
        obtain ⟨n, h⟩ := h
        exact ⟨n + 19, Or.inl (And.intro c1 (Exists.intro _ (Exists.intro _ (And.intro (Nat.le_of_ble_eq_true rfl) (And.intro (Nat.le_of_ble_eq_true rfl) (And.intro (pX4_within _ _ _) (Or.inr (And.intro (bI_neq c2) (Exists.intro _ (Exists.intro _ (And.intro (Nat.le_of_ble_eq_true rfl) (And.intro (Nat.le_of_ble_eq_true rfl) (And.intro (pX4_within _ _ _) (Or.inl (And.intro (bI_ne c3) (h))))))))))))))))⟩
      · replace h := h.2 c3
        exact ⟨15, Or.inl (And.intro c1 (Exists.intro _ (Exists.intro _ (And.intro (Nat.le_of_ble_eq_true rfl) (And.intro (Nat.le_of_ble_eq_true rfl) (And.intro (pX4_within _ _ _) (Or.inr (And.intro (bI_neq c2) (Exists.intro _ (Exists.intro _ (And.intro (Nat.le_of_ble_eq_true rfl) (And.intro (Nat.le_of_ble_eq_true rfl) (And.intro (pX4_within _ _ _) (Or.inr (And.intro (bI_nne c3) (h))))))))))))))))⟩
    · replace h := h.2 c2
      exact ⟨10, Or.inl (And.intro c1 (Exists.intro _ (Exists.intro _ (And.intro (Nat.le_of_ble_eq_true rfl) (And.intro (Nat.le_of_ble_eq_true rfl) (And.intro (pX4_within _ _ _) (Or.inl (And.intro (bI_eq c2) (h)))))))))⟩
  · replace h := h.2 c1
    exact ⟨5, Or.inr (And.intro c1 (h))⟩

set_option maxRecDepth 100000 in
set_option maxHeartbeats 4000000 in
theorem sX4_states_47 {E : aR} {A : Nat → Nat → Int32} {R : Nat → Nat → Option Nat} {G : Nat → Nat × Nat} (hG : aGS G) (x1 : Int32) (x2 : Int32) (x3 : Int32) (x4 : Int32) (d5 : Option Value) (x6 : Int32) (x7 : Int32) (x8 : Int32)
    (h : ((99 < x8) → (((x4 = 0) → (E (some (.int x6)) (A, R, G))) ∧ ((¬ (x4 = 0)) → (E (some (.int x7)) (A, R, G))))) ∧ ((¬ (99 < x8)) → (∃ (μ1 : aM), CX4_think [.ref 0] (A, R, G) none μ1 ∧ aw tX4_states E 58 [some (.ref 0), some (.int x1), some (.int x2), some (.int x3), some (.int x4), none, some (.int x6), some (.int x7), some (.int x8)] [] μ1))) :
    aw tX4_states E 47 [some (.ref 0), some (.int x1), some (.int x2), some (.int x3), some (.int x4), d5, some (.int x6), some (.int x7), some (.int x8)] [] (A, R, G) := by
  by_cases c1 : 99 < x8
  · replace h := h.1 c1
    by_cases c2 : x4 = 0
    · replace h := h.1 c2
      exact ⟨8, Or.inl (And.intro c1 (Or.inr (And.intro (fun z => z c2) (h))))⟩
    · replace h := h.2 c2
      exact ⟨7, Or.inl (And.intro c1 (Or.inl (And.intro c2 (h))))⟩
  · replace h := h.2 c1
    obtain ⟨μ1, h1, n, h⟩ := h
    exact ⟨n + 5, Or.inr (And.intro c1 (Exists.intro _ (Exists.intro _ (Exists.intro _ (Exists.intro _ (And.intro rfl (And.intro (gt0 hG) (And.intro (Nat.le_of_ble_eq_true rfl) (And.intro h1 (h))))))))))⟩

set_option maxRecDepth 100000 in
set_option maxHeartbeats 4000000 in
theorem sX4_states_58 {E : aR} {A : Nat → Nat → Int32} {R : Nat → Nat → Option Nat} {G : Nat → Nat × Nat} (hG : aGS G) (x1 : Int32) (x2 : Int32) (x3 : Int32) (x4 : Int32) (d5 : Option Value) (x6 : Int32) (x7 : Int32) (x8 : Int32)
    (h : ((x3 = 1) → ((vp_in x2 6) ∧ (∃ (v1 : Int32) (μ1 : aM), CX4_firstOther [.ref 0, .int x1] ((au A 15 x2.toNatClampNeg x8), R, G) (some (.int v1)) μ1 ∧ aw tX4_states E 93 [some (.ref 0), some (.int x1), some (.int x2), some (.int x3), some (.int x4), d5, some (.int x6), some (.int x7), some (.int x8)] [.int v1] μ1))) ∧ ((¬ (x3 = 1)) → ((vp_in x2 6) ∧ (∃ (v1 : Int32) (μ1 : aM), CX4_firstOther [.ref 0, .int x1] ((au A 16 x2.toNatClampNeg x8), R, G) (some (.int v1)) μ1 ∧ aw tX4_states E 93 [some (.ref 0), some (.int x1), some (.int x2), some (.int x3), some (.int x4), d5, some (.int x6), some (.int x7), some (.int x8)] [.int v1] μ1)))) :
    aw tX4_states E 58 [some (.ref 0), some (.int x1), some (.int x2), some (.int x3), some (.int x4), d5, some (.int x6), some (.int x7), some (.int x8)] [] (A, R, G) := by
  by_cases c1 : x3 = 1
  · replace h := h.1 c1
    obtain ⟨q2, h⟩ := h
    obtain ⟨v1, μ1, h1, n, h⟩ := h
    exact ⟨n + 13, Or.inr (And.intro (fun z => z c1) (And.intro (gt0 hG) (And.intro (gt11 hG) (And.intro (gt15 hG) (And.intro (vin_len (gl15 hG) q2) (Exists.intro _ (Exists.intro _ (Exists.intro _ (Exists.intro _ (And.intro rfl (And.intro (gt0 hG) (And.intro (Nat.le_of_ble_eq_true rfl) (And.intro h1 (h))))))))))))))⟩
  · replace h := h.2 c1
    obtain ⟨q3, h⟩ := h
    obtain ⟨v1, μ1, h1, n, h⟩ := h
    exact ⟨n + 12, Or.inl (And.intro c1 (And.intro (gt0 hG) (And.intro (gt11 hG) (And.intro (gt16 hG) (And.intro (vin_len (gl16 hG) q3) (Exists.intro _ (Exists.intro _ (Exists.intro _ (Exists.intro _ (And.intro rfl (And.intro (gt0 hG) (And.intro (Nat.le_of_ble_eq_true rfl) (And.intro h1 (h))))))))))))))⟩

set_option maxRecDepth 100000 in
set_option maxHeartbeats 4000000 in
theorem sX4_states_93 {E : aR} {A : Nat → Nat → Int32} {R : Nat → Nat → Option Nat} {G : Nat → Nat × Nat} (x1 : Int32) (x2 : Int32) (x3 : Int32) (x4 : Int32) (d5 : Option Value) (x6 : Int32) (x7 : Int32) (x8 : Int32) (y0 : Int32)
    (h : ((y0 = (-1)) → (((x7 = (-1)) → (aw tX4_states E 47 [some (.ref 0), some (.int x1), some (.int x2), some (.int x3), some (.int x4), (bif ac2 d5 then none else d5), some (.int (x6 + 1)), some (.int x8), some (.int (x8 + 1))] [] (A, R, G))) ∧ ((¬ (x7 = (-1))) → (aw tX4_states E 47 [some (.ref 0), some (.int x1), some (.int x2), some (.int x3), some (.int x4), (bif ac2 d5 then none else d5), some (.int (x6 + 1)), some (.int x7), some (.int (x8 + 1))] [] (A, R, G))))) ∧ ((¬ (y0 = (-1))) → (aw tX4_states E 47 [some (.ref 0), some (.int x1), some (.int x2), some (.int x3), some (.int x4), d5, some (.int x6), some (.int x7), some (.int (x8 + 1))] [] (A, R, G)))) :
    aw tX4_states E 93 [some (.ref 0), some (.int x1), some (.int x2), some (.int x3), some (.int x4), d5, some (.int x6), some (.int x7), some (.int x8)] [.int y0] (A, R, G) := by
  by_cases c1 : y0 = (-1)
  · replace h := h.1 c1
    by_cases c2 : x7 = (-1)
    · replace h := h.1 c2
      obtain ⟨n, h⟩ := h
      exact ⟨n + 11, Or.inr (And.intro (fun z => z c1) (Or.inr (And.intro (fun z => z c2) (h))))⟩
    · replace h := h.2 c2
      obtain ⟨n, h⟩ := h
      exact ⟨n + 10, Or.inr (And.intro (fun z => z c1) (Or.inl (And.intro c2 (h))))⟩
  · replace h := h.2 c1
    obtain ⟨n, h⟩ := h
    exact ⟨n + 4, Or.inl (And.intro c1 (h))⟩

set_option maxRecDepth 100000 in
set_option maxHeartbeats 4000000 in
theorem sX4_dropped_0 {E : aR} {A : Nat → Nat → Int32} {R : Nat → Nat → Option Nat} {G : Nat → Nat × Nat} (hG : aGS G) (x1 : Int32)
    (h : ∃ (v1 : Int32) (μ1 : aM), CX4_refusalOfTold [.ref 0, .int x1] (A, R, G) (some (.int v1)) μ1 ∧ aw tX4_dropped E 5 [some (.ref 0), some (.int x1), none, none, none] [.int v1] μ1) :
    aw tX4_dropped E 0 [some (.ref 0), some (.int x1), none, none, none] [] (A, R, G) := by
  obtain ⟨v1, μ1, h1, n, h⟩ := h
  exact ⟨n + 3, Exists.intro _ (Exists.intro _ (Exists.intro _ (Exists.intro _ (And.intro rfl (And.intro (gt0 hG) (And.intro (Nat.le_of_ble_eq_true rfl) (And.intro h1 (h))))))))⟩

set_option maxRecDepth 100000 in
set_option maxHeartbeats 4000000 in
theorem sX4_dropped_5 {E : aR} {A : Nat → Nat → Int32} {R : Nat → Nat → Option Nat} {G : Nat → Nat × Nat} (x1 : Int32) (d2 : Option Value) (d3 : Option Value) (d4 : Option Value) (y0 : Int32)
    (h : ((y0 = 0) → (aw tX4_dropped E 17 [some (.ref 0), some (.int x1), some (.int y0), some (.int 0), some (.int 0)] [] (A, R, G))) ∧ ((¬ (y0 = 0)) → (E (some (.int y0)) (A, R, G)))) :
    aw tX4_dropped E 5 [some (.ref 0), some (.int x1), d2, d3, d4] [.int y0] (A, R, G) := by
  by_cases c1 : y0 = 0
  · replace h := h.1 c1
    obtain ⟨n, h⟩ := h
    exact ⟨n + 7, Or.inl (And.intro c1 (h))⟩
  · replace h := h.2 c1
    exact ⟨5, Or.inr (And.intro c1 (h))⟩

set_option maxRecDepth 100000 in
set_option maxHeartbeats 4000000 in
theorem sX4_dropped_17 {E : aR} {A : Nat → Nat → Int32} {R : Nat → Nat → Option Nat} {G : Nat → Nat × Nat} (hG : aGS G) (x1 : Int32) (d2 : Option Value) (x3 : Int32) (x4 : Int32)
    (h : ((8 ≤ x4) → (E (some (.int x3)) (A, R, G))) ∧ ((¬ (8 ≤ x4)) → (((thX A 1 x4) → (∃ (μ1 : aM), CX4_think [.ref 0] (A, R, G) none μ1 ∧ aw tX4_dropped E 40 [some (.ref 0), some (.int x1), none, some (.int x3), some (.int x4)] [] μ1)) ∧ ((¬ (thX A 1 x4)) → (aw tX4_dropped E 17 [some (.ref 0), some (.int x1), none, some (.int x3), some (.int (x4 + 1))] [] (A, R, G)))))) :
    aw tX4_dropped E 17 [some (.ref 0), some (.int x1), d2, some (.int x3), some (.int x4)] [] (A, R, G) := by
  by_cases c1 : 8 ≤ x4
  · replace h := h.1 c1
    exact ⟨5, Or.inl (And.intro c1 (h))⟩
  · replace h := h.2 c1
    by_cases c2 : thX A 1 x4
    · replace h := h.1 c2
      obtain ⟨μ1, h1, n, h⟩ := h
      exact ⟨n + 10, Or.inr (And.intro c1 (And.intro (gt0 hG) (Exists.intro _ (Exists.intro _ (Exists.intro _ (Exists.intro _ (And.intro rfl (And.intro (gt1 hG) (And.intro (Nat.le_of_ble_eq_true rfl) (And.intro (pX0_hasCase (gB1 hG) _) (Or.inr (And.intro (bI_neq c2) (Exists.intro _ (Exists.intro _ (Exists.intro _ (Exists.intro _ (And.intro rfl (And.intro (gt0 hG) (And.intro (Nat.le_of_ble_eq_true rfl) (And.intro h1 (h)))))))))))))))))))))⟩
    · replace h := h.2 c2
      obtain ⟨n, h⟩ := h
      exact ⟨n + 10, Or.inr (And.intro c1 (And.intro (gt0 hG) (Exists.intro _ (Exists.intro _ (Exists.intro _ (Exists.intro _ (And.intro rfl (And.intro (gt1 hG) (And.intro (Nat.le_of_ble_eq_true rfl) (And.intro (pX0_hasCase (gB1 hG) _) (Or.inl (And.intro (bI_eq c2) (h)))))))))))))⟩

set_option maxRecDepth 100000 in
set_option maxHeartbeats 4000000 in
theorem sX4_dropped_40 {E : aR} {A : Nat → Nat → Int32} {R : Nat → Nat → Option Nat} {G : Nat → Nat × Nat} (hG : aGS G) (x1 : Int32) (d2 : Option Value) (x3 : Int32) (x4 : Int32)
    (h : ∃ (v1 : Int32) (μ1 : aM), CX4_firstOther [.ref 0, .int x1] ((au A 11 10 ((A 11 10) &&& (((1 : Int32) <<< (x4 &&& 31)) ^^^ (-1)))), R, G) (some (.int v1)) μ1 ∧ aw tX4_dropped E 63 [some (.ref 0), some (.int x1), d2, some (.int x3), some (.int x4)] [.int v1] μ1) :
    aw tX4_dropped E 40 [some (.ref 0), some (.int x1), d2, some (.int x3), some (.int x4)] [] (A, R, G) := by
  obtain ⟨v1, μ1, h1, n, h⟩ := h
  exact ⟨n + 14, And.intro (gt0 hG) (And.intro rfl (And.intro (gt11 hG) (And.intro (gt11 hG) (Exists.intro _ (Exists.intro _ (Exists.intro _ (Exists.intro _ (And.intro rfl (And.intro (gt0 hG) (And.intro (Nat.le_of_ble_eq_true rfl) (And.intro h1 (h))))))))))))⟩

set_option maxRecDepth 100000 in
set_option maxHeartbeats 4000000 in
theorem sX4_dropped_63 {E : aR} {A : Nat → Nat → Int32} {R : Nat → Nat → Option Nat} {G : Nat → Nat × Nat} (x1 : Int32) (d2 : Option Value) (x3 : Int32) (x4 : Int32) (y0 : Int32)
    (h : ((y0 = (-1)) → (aw tX4_dropped E 17 [some (.ref 0), some (.int x1), (bif ac2 d2 then none else d2), some (.int (x3 ||| ((1 : Int32) <<< (x4 &&& 31)))), some (.int (x4 + 1))] [] (A, R, G))) ∧ ((¬ (y0 = (-1))) → (aw tX4_dropped E 17 [some (.ref 0), some (.int x1), d2, some (.int x3), some (.int (x4 + 1))] [] (A, R, G)))) :
    aw tX4_dropped E 63 [some (.ref 0), some (.int x1), d2, some (.int x3), some (.int x4)] [.int y0] (A, R, G) := by
  by_cases c1 : y0 = (-1)
  · replace h := h.1 c1
    obtain ⟨n, h⟩ := h
    exact ⟨n + 10, Or.inr (And.intro (fun z => z c1) (h))⟩
  · replace h := h.2 c1
    obtain ⟨n, h⟩ := h
    exact ⟨n + 4, Or.inl (And.intro c1 (h))⟩

set_option maxRecDepth 100000 in
set_option maxHeartbeats 4000000 in
theorem sX4_laws_0 {E : aR} {A : Nat → Nat → Int32} {R : Nat → Nat → Option Nat} {G : Nat → Nat × Nat} (hG : aGS G) (x1 : Int32)
    (h : ∃ (v1 : Int32) (μ1 : aM), CX4_refusalOfTold [.ref 0, .int x1] (A, R, G) (some (.int v1)) μ1 ∧ aw tX4_laws E 5 [some (.ref 0), some (.int x1), none, none, none] [.int v1] μ1) :
    aw tX4_laws E 0 [some (.ref 0), some (.int x1), none, none, none] [] (A, R, G) := by
  obtain ⟨v1, μ1, h1, n, h⟩ := h
  exact ⟨n + 3, Exists.intro _ (Exists.intro _ (Exists.intro _ (Exists.intro _ (And.intro rfl (And.intro (gt0 hG) (And.intro (Nat.le_of_ble_eq_true rfl) (And.intro h1 (h))))))))⟩

set_option maxRecDepth 100000 in
set_option maxHeartbeats 4000000 in
theorem sX4_laws_5 {E : aR} {A : Nat → Nat → Int32} {R : Nat → Nat → Option Nat} {G : Nat → Nat × Nat} (x1 : Int32) (d2 : Option Value) (d3 : Option Value) (d4 : Option Value) (y0 : Int32)
    (h : ((y0 = 0) → (aw tX4_laws E 17 [some (.ref 0), some (.int x1), some (.int y0), some (.int 0), some (.int 0)] [] (A, R, G))) ∧ ((¬ (y0 = 0)) → (E (some (.int y0)) (A, R, G)))) :
    aw tX4_laws E 5 [some (.ref 0), some (.int x1), d2, d3, d4] [.int y0] (A, R, G) := by
  by_cases c1 : y0 = 0
  · replace h := h.1 c1
    obtain ⟨n, h⟩ := h
    exact ⟨n + 7, Or.inl (And.intro c1 (h))⟩
  · replace h := h.2 c1
    exact ⟨5, Or.inr (And.intro c1 (h))⟩

set_option maxRecDepth 100000 in
set_option maxHeartbeats 4000000 in
theorem sX4_laws_17 {E : aR} {A : Nat → Nat → Int32} {R : Nat → Nat → Option Nat} {G : Nat → Nat × Nat} (hG : aGS G) (x1 : Int32) (d2 : Option Value) (x3 : Int32) (x4 : Int32)
    (h : (((A 0 5) ≤ x4) → (E (some (.int x3)) (A, R, G))) ∧ ((¬ ((A 0 5) ≤ x4)) → (∃ (μ1 : aM), CX4_think [.ref 0] (A, R, G) none μ1 ∧ aw tX4_laws E 30 [some (.ref 0), some (.int x1), none, some (.int x3), some (.int x4)] [] μ1))) :
    aw tX4_laws E 17 [some (.ref 0), some (.int x1), d2, some (.int x3), some (.int x4)] [] (A, R, G) := by
  by_cases c1 : (A 0 5) ≤ x4
  · replace h := h.1 c1
    exact ⟨6, And.intro (gt0 hG) (Or.inl (And.intro c1 (h)))⟩
  · replace h := h.2 c1
    obtain ⟨μ1, h1, n, h⟩ := h
    exact ⟨n + 6, And.intro (gt0 hG) (Or.inr (And.intro c1 (Exists.intro _ (Exists.intro _ (Exists.intro _ (Exists.intro _ (And.intro rfl (And.intro (gt0 hG) (And.intro (Nat.le_of_ble_eq_true rfl) (And.intro h1 (h)))))))))))⟩

set_option maxRecDepth 100000 in
set_option maxHeartbeats 4000000 in
theorem sX4_laws_30 {E : aR} {A : Nat → Nat → Int32} {R : Nat → Nat → Option Nat} {G : Nat → Nat × Nat} (hG : aGS G) (x1 : Int32) (d2 : Option Value) (x3 : Int32) (x4 : Int32)
    (h : (vp_in x4 6) ∧ (∃ w2 : Nat, (R 37 x4.toNatClampNeg = some w2) ∧ (∃ (μ1 : aM), CX0_obey [.ref 11, .ref w2, .int x4] (A, R, G) none μ1 ∧ aw tX4_laws E 46 [some (.ref 0), some (.int x1), d2, some (.int x3), some (.int x4)] [] μ1))) :
    aw tX4_laws E 30 [some (.ref 0), some (.int x1), d2, some (.int x3), some (.int x4)] [] (A, R, G) := by
  obtain ⟨q1, h⟩ := h
  obtain ⟨w2, e2, h⟩ := h
  obtain ⟨μ1, h1, n, h⟩ := h
  exact ⟨n + 8, And.intro (gt0 hG) (And.intro (gt0 hG) (And.intro (gt37 hG) (And.intro (vin_len (gl37 hG) q1) (Exists.intro w2 (And.intro e2 (Exists.intro _ (Exists.intro _ (Exists.intro _ (Exists.intro _ (And.intro rfl (And.intro (gt11 hG) (And.intro (Nat.le_of_ble_eq_true rfl) (And.intro h1 (h))))))))))))))⟩

set_option maxRecDepth 100000 in
set_option maxHeartbeats 4000000 in
theorem sX4_laws_46 {E : aR} {A : Nat → Nat → Int32} {R : Nat → Nat → Option Nat} {G : Nat → Nat × Nat} (hG : aGS G) (x1 : Int32) (d2 : Option Value) (x3 : Int32) (x4 : Int32)
    (h : ∃ (v1 : Int32) (μ1 : aM), CX4_firstOther [.ref 0, .int x1] (A, R, G) (some (.int v1)) μ1 ∧ aw tX4_laws E 51 [some (.ref 0), some (.int x1), d2, some (.int x3), some (.int x4)] [.int v1] μ1) :
    aw tX4_laws E 46 [some (.ref 0), some (.int x1), d2, some (.int x3), some (.int x4)] [] (A, R, G) := by
  obtain ⟨v1, μ1, h1, n, h⟩ := h
  exact ⟨n + 3, Exists.intro _ (Exists.intro _ (Exists.intro _ (Exists.intro _ (And.intro rfl (And.intro (gt0 hG) (And.intro (Nat.le_of_ble_eq_true rfl) (And.intro h1 (h))))))))⟩

set_option maxRecDepth 100000 in
set_option maxHeartbeats 4000000 in
theorem sX4_laws_51 {E : aR} {A : Nat → Nat → Int32} {R : Nat → Nat → Option Nat} {G : Nat → Nat × Nat} (x1 : Int32) (d2 : Option Value) (x3 : Int32) (x4 : Int32) (y0 : Int32)
    (h : ((y0 = (-1)) → (aw tX4_laws E 17 [some (.ref 0), some (.int x1), (bif ac2 d2 then none else d2), some (.int (x3 ||| ((1 : Int32) <<< (x4 &&& 31)))), some (.int (x4 + 1))] [] (A, R, G))) ∧ ((¬ (y0 = (-1))) → (aw tX4_laws E 17 [some (.ref 0), some (.int x1), d2, some (.int x3), some (.int (x4 + 1))] [] (A, R, G)))) :
    aw tX4_laws E 51 [some (.ref 0), some (.int x1), d2, some (.int x3), some (.int x4)] [.int y0] (A, R, G) := by
  by_cases c1 : y0 = (-1)
  · replace h := h.1 c1
    obtain ⟨n, h⟩ := h
    exact ⟨n + 10, Or.inr (And.intro (fun z => z c1) (h))⟩
  · replace h := h.2 c1
    obtain ⟨n, h⟩ := h
    exact ⟨n + 4, Or.inl (And.intro c1 (h))⟩

set_option maxRecDepth 100000 in
set_option maxHeartbeats 4000000 in
theorem sX4_film_0 {E : aR} {A : Nat → Nat → Int32} {R : Nat → Nat → Option Nat} {G : Nat → Nat × Nat} (hG : aGS G) (x1 : Int32) (x2 : Int32)
    (h : ((0 ≤ x1 ∧ x1 ≤ 3) → (((0 ≤ x2 ∧ x2 ≤ 20) → (∃ (μ1 : aM), CX4_think [.ref 0] (A, R, G) none μ1 ∧ aw tX4_film E 29 [some (.ref 0), some (.int x1), some (.int x2), none] [] μ1)) ∧ ((¬ (0 ≤ x2 ∧ x2 ≤ 20)) → (E (some (.int (-7))) (A, R, G))))) ∧ ((¬ (0 ≤ x1 ∧ x1 ≤ 3)) → (E (some (.int (-2))) (A, R, G)))) :
    aw tX4_film E 0 [some (.ref 0), some (.int x1), some (.int x2), none] [] (A, R, G) := by
  by_cases c1 : 0 ≤ x1 ∧ x1 ≤ 3
  · replace h := h.1 c1
    by_cases c2 : 0 ≤ x2 ∧ x2 ≤ 20
    · replace h := h.1 c2
      obtain ⟨μ1, h1, n, h⟩ := h
      exact ⟨n + 12, Exists.intro _ (Exists.intro _ (And.intro (Nat.le_of_ble_eq_true rfl) (And.intro (Nat.le_of_ble_eq_true rfl) (And.intro (pX4_within _ _ _) (Or.inl (And.intro (bI_ne c1) (Exists.intro _ (Exists.intro _ (And.intro (Nat.le_of_ble_eq_true rfl) (And.intro (Nat.le_of_ble_eq_true rfl) (And.intro (pX4_within _ _ _) (Or.inl (And.intro (bI_ne c2) (Exists.intro _ (Exists.intro _ (Exists.intro _ (Exists.intro _ (And.intro rfl (And.intro (gt0 hG) (And.intro (Nat.le_of_ble_eq_true rfl) (And.intro h1 (h))))))))))))))))))))))⟩
    · replace h := h.2 c2
      exact ⟨12, Exists.intro _ (Exists.intro _ (And.intro (Nat.le_of_ble_eq_true rfl) (And.intro (Nat.le_of_ble_eq_true rfl) (And.intro (pX4_within _ _ _) (Or.inl (And.intro (bI_ne c1) (Exists.intro _ (Exists.intro _ (And.intro (Nat.le_of_ble_eq_true rfl) (And.intro (Nat.le_of_ble_eq_true rfl) (And.intro (pX4_within _ _ _) (Or.inr (And.intro (bI_nne c2) (h))))))))))))))⟩
  · replace h := h.2 c1
    exact ⟨7, Exists.intro _ (Exists.intro _ (And.intro (Nat.le_of_ble_eq_true rfl) (And.intro (Nat.le_of_ble_eq_true rfl) (And.intro (pX4_within _ _ _) (Or.inr (And.intro (bI_nne c1) (h)))))))⟩

set_option maxRecDepth 100000 in
set_option maxHeartbeats 4000000 in
theorem sX4_film_29 {E : aR} {A : Nat → Nat → Int32} {R : Nat → Nat → Option Nat} {G : Nat → Nat × Nat} (hG : aGS G) (x1 : Int32) (x2 : Int32) (d3 : Option Value)
    (h : (vp_in x1 4) ∧ (∃ w2 : Nat, (R 38 x1.toNatClampNeg = some w2) ∧ (((G w2).1 = 2 + 4) ∧ (∃ (μ1 : aM), CX2_renew [.ref w2, .int 0, .int x2] (A, R, G) none μ1 ∧ aw tX4_film E 40 [some (.ref 0), some (.int x1), some (.int x2), d3] [] μ1)))) :
    aw tX4_film E 29 [some (.ref 0), some (.int x1), some (.int x2), d3] [] (A, R, G) := by
  obtain ⟨q1, h⟩ := h
  obtain ⟨w2, e2, h⟩ := h
  obtain ⟨q3, h⟩ := h
  obtain ⟨μ1, h1, n, h⟩ := h
  exact ⟨n + 7, And.intro (gt0 hG) (And.intro (gt38 hG) (And.intro (vin_len (gl38 hG) q1) (Exists.intro w2 (And.intro e2 (Exists.intro _ (Exists.intro _ (Exists.intro _ (Exists.intro _ (And.intro rfl (And.intro q3 (And.intro (Nat.le_of_ble_eq_true rfl) (And.intro h1 (h)))))))))))))⟩

set_option maxRecDepth 100000 in
set_option maxHeartbeats 4000000 in
theorem sX4_film_40 {E : aR} {A : Nat → Nat → Int32} {R : Nat → Nat → Option Nat} {G : Nat → Nat × Nat} (x1 : Int32) (x2 : Int32) (d3 : Option Value)
    (h : aw tX4_film E 42 [some (.ref 0), some (.int x1), some (.int x2), some (.int 0)] [] (A, R, G)) :
    aw tX4_film E 40 [some (.ref 0), some (.int x1), some (.int x2), d3] [] (A, R, G) := by
  obtain ⟨n, h⟩ := h
  exact ⟨n + 2, h⟩

set_option maxRecDepth 100000 in
set_option maxHeartbeats 4000000 in
theorem sX4_film_42 {E : aR} {A : Nat → Nat → Int32} {R : Nat → Nat → Option Nat} {G : Nat → Nat × Nat} (hG : aGS G) (x1 : Int32) (x2 : Int32) (x3 : Int32)
    (h : ((x2 ≤ x3) → (E (some (.int x2)) (A, R, G))) ∧ ((¬ (x2 ≤ x3)) → ((vp_in x1 4) ∧ (∃ w3 : Nat, (R 38 x1.toNatClampNeg = some w3) ∧ (((G w3).1 = 2 + 4) ∧ (∃ (v1 : Int32) (μ1 : aM), CX0_passDay [.ref 11] (A, R, G) (some (.int v1)) μ1 ∧ aw tX4_film E 64 [some (.ref 0), some (.int x1), some (.int x2), some (.int x3)] [.int v1, .int x3, .ref (w3 + 1)] μ1)))))) :
    aw tX4_film E 42 [some (.ref 0), some (.int x1), some (.int x2), some (.int x3)] [] (A, R, G) := by
  by_cases c1 : x2 ≤ x3
  · replace h := h.1 c1
    exact ⟨5, Or.inl (And.intro c1 (h))⟩
  · replace h := h.2 c1
    obtain ⟨q2, h⟩ := h
    obtain ⟨w3, e3, h⟩ := h
    obtain ⟨q4, h⟩ := h
    obtain ⟨v1, μ1, h1, n, h⟩ := h
    exact ⟨n + 12, Or.inr (And.intro c1 (And.intro (gt0 hG) (And.intro (gt38 hG) (And.intro (vin_len (gl38 hG) q2) (Exists.intro w3 (And.intro e3 (And.intro q4 (And.intro (gt0 hG) (Exists.intro _ (Exists.intro _ (Exists.intro _ (Exists.intro _ (And.intro rfl (And.intro (gt11 hG) (And.intro (Nat.le_of_ble_eq_true rfl) (And.intro h1 (h)))))))))))))))))⟩

set_option maxRecDepth 100000 in
set_option maxHeartbeats 4000000 in
theorem sX4_film_64 {E : aR} {A : Nat → Nat → Int32} {R : Nat → Nat → Option Nat} {G : Nat → Nat × Nat} (x1 : Int32) (x2 : Int32) (x3 : Int32) (y0 : Int32) (y1 : Int32) (y2 : Nat)
    (h : ((G y2).1 = 1) ∧ ((vp_in y1 (G y2).2) ∧ (aw tX4_film E 42 [some (.ref 0), some (.int x1), some (.int x2), some (.int (x3 + 1))] [] ((au A y2 y1.toNatClampNeg (popc y0)), R, G)))) :
    aw tX4_film E 64 [some (.ref 0), some (.int x1), some (.int x2), some (.int x3)] [.int y0, .int y1, .ref y2] (A, R, G) := by
  obtain ⟨q1, h⟩ := h
  obtain ⟨q2, h⟩ := h
  obtain ⟨n, h⟩ := h
  exact ⟨n + 4, Exists.intro _ (Exists.intro _ (And.intro (Nat.le_of_ble_eq_true rfl) (And.intro (Nat.le_of_ble_eq_true rfl) (And.intro (pJ6_bitCount _) (And.intro q1 (And.intro q2 (h)))))))⟩

set_option maxRecDepth 100000 in
set_option maxHeartbeats 4000000 in
theorem sX4_drawn_0 {E : aR} {A : Nat → Nat → Int32} {R : Nat → Nat → Option Nat} {G : Nat → Nat × Nat} (hG : aGS G) (x1 : Int32) (x2 : Int32)
    (h : ((0 ≤ x1 ∧ x1 ≤ 99999) → (((0 ≤ x2 ∧ x2 ≤ 1) → (∃ (v1 : Int32) (μ1 : aM), CX4_heardAmongBurglars [.ref 0, .int x1] (A, R, G) (some (.int v1)) μ1 ∧ aw tX4_drawn E 27 [some (.ref 0), some (.int x1), some (.int x2), none] [.int v1] μ1)) ∧ ((¬ (0 ≤ x2 ∧ x2 ≤ 1)) → (E (some (.int (-2))) (A, R, G))))) ∧ ((¬ (0 ≤ x1 ∧ x1 ≤ 99999)) → (E (some (.int (-2))) (A, R, G)))) :
    aw tX4_drawn E 0 [some (.ref 0), some (.int x1), some (.int x2), none] [] (A, R, G) := by
  by_cases c1 : 0 ≤ x1 ∧ x1 ≤ 99999
  · replace h := h.1 c1
    by_cases c2 : 0 ≤ x2 ∧ x2 ≤ 1
    · replace h := h.1 c2
      obtain ⟨v1, μ1, h1, n, h⟩ := h
      exact ⟨n + 13, Exists.intro _ (Exists.intro _ (And.intro (Nat.le_of_ble_eq_true rfl) (And.intro (Nat.le_of_ble_eq_true rfl) (And.intro (pX4_within _ _ _) (Or.inr (And.intro (bI_neq c1) (Exists.intro _ (Exists.intro _ (And.intro (Nat.le_of_ble_eq_true rfl) (And.intro (Nat.le_of_ble_eq_true rfl) (And.intro (pX4_within _ _ _) (Or.inl (And.intro (bI_ne c2) (Exists.intro _ (Exists.intro _ (Exists.intro _ (Exists.intro _ (And.intro rfl (And.intro (gt0 hG) (And.intro (Nat.le_of_ble_eq_true rfl) (And.intro h1 (h))))))))))))))))))))))⟩
    · replace h := h.2 c2
      exact ⟨12, Exists.intro _ (Exists.intro _ (And.intro (Nat.le_of_ble_eq_true rfl) (And.intro (Nat.le_of_ble_eq_true rfl) (And.intro (pX4_within _ _ _) (Or.inr (And.intro (bI_neq c1) (Exists.intro _ (Exists.intro _ (And.intro (Nat.le_of_ble_eq_true rfl) (And.intro (Nat.le_of_ble_eq_true rfl) (And.intro (pX4_within _ _ _) (Or.inr (And.intro (bI_nne c2) (h))))))))))))))⟩
  · replace h := h.2 c1
    exact ⟨7, Exists.intro _ (Exists.intro _ (And.intro (Nat.le_of_ble_eq_true rfl) (And.intro (Nat.le_of_ble_eq_true rfl) (And.intro (pX4_within _ _ _) (Or.inl (And.intro (bI_eq c1) (h)))))))⟩

set_option maxRecDepth 100000 in
set_option maxHeartbeats 4000000 in
theorem sX4_drawn_27 {E : aR} {A : Nat → Nat → Int32} {R : Nat → Nat → Option Nat} {G : Nat → Nat × Nat} (hG : aGS G) (d1 : Option Value) (x2 : Int32) (d3 : Option Value) (y0 : Int32)
    (h : ((x2 = 0) → (E (some (.int y0)) (A, R, G))) ∧ ((¬ (x2 = 0)) → (E (some (.int (A 11 10))) (A, R, G)))) :
    aw tX4_drawn E 27 [some (.ref 0), d1, some (.int x2), d3] [.int y0] (A, R, G) := by
  by_cases c1 : x2 = 0
  · replace h := h.1 c1
    exact ⟨6, Or.inr (And.intro (fun z => z c1) (h))⟩
  · replace h := h.2 c1
    exact ⟨7, Or.inl (And.intro c1 (And.intro (gt0 hG) (And.intro (gt11 hG) (h))))⟩

set_option maxRecDepth 100000 in
set_option maxHeartbeats 4000000 in
theorem sX4_odds_0 {E : aR} {A : Nat → Nat → Int32} {R : Nat → Nat → Option Nat} {G : Nat → Nat × Nat} (x1 : Int32) (x2 : Int32) (x3 : Int32) (x4 : Int32)
    (h : ((0 ≤ x1 ∧ x1 ≤ 99999) → (((1 ≤ x2 ∧ x2 ≤ 40) → (((0 ≤ x3 ∧ x3 ≤ 8) → (((0 ≤ x4 ∧ x4 ≤ 1) → (aw tX4_odds E 54 [some (.ref 0), some (.int x1), some (.int x2), some (.int x3), some (.int x4), some (.int 0), some (.int 0)] [] (A, R, G))) ∧ ((¬ (0 ≤ x4 ∧ x4 ≤ 1)) → (E (some (.long (-4611686018427387904))) (A, R, G))))) ∧ ((¬ (0 ≤ x3 ∧ x3 ≤ 8)) → (E (some (.long (-4611686018427387904))) (A, R, G))))) ∧ ((¬ (1 ≤ x2 ∧ x2 ≤ 40)) → (E (some (.long (-4611686018427387904))) (A, R, G))))) ∧ ((¬ (0 ≤ x1 ∧ x1 ≤ 99999)) → (E (some (.long (-4611686018427387904))) (A, R, G)))) :
    aw tX4_odds E 0 [some (.ref 0), some (.int x1), some (.int x2), some (.int x3), some (.int x4), none, none] [] (A, R, G) := by
  by_cases c1 : 0 ≤ x1 ∧ x1 ≤ 99999
  · replace h := h.1 c1
    by_cases c2 : 1 ≤ x2 ∧ x2 ≤ 40
    · replace h := h.1 c2
      by_cases c3 : 0 ≤ x3 ∧ x3 ≤ 8
      · replace h := h.1 c3
        by_cases c4 : 0 ≤ x4 ∧ x4 ≤ 1
        · replace h := h.1 c4
          obtain ⟨n, h⟩ := h
          exact ⟨n + 24, Exists.intro _ (Exists.intro _ (And.intro (Nat.le_of_ble_eq_true rfl) (And.intro (Nat.le_of_ble_eq_true rfl) (And.intro (pX4_within _ _ _) (Or.inr (And.intro (bI_neq c1) (Exists.intro _ (Exists.intro _ (And.intro (Nat.le_of_ble_eq_true rfl) (And.intro (Nat.le_of_ble_eq_true rfl) (And.intro (pX4_within _ _ _) (Or.inl (And.intro (bI_ne c2) (Exists.intro _ (Exists.intro _ (And.intro (Nat.le_of_ble_eq_true rfl) (And.intro (Nat.le_of_ble_eq_true rfl) (And.intro (pX4_within _ _ _) (Or.inr (And.intro (bI_neq c3) (Exists.intro _ (Exists.intro _ (And.intro (Nat.le_of_ble_eq_true rfl) (And.intro (Nat.le_of_ble_eq_true rfl) (And.intro (pX4_within _ _ _) (Or.inl (And.intro (bI_ne c4) (h))))))))))))))))))))))))))))⟩
        · replace h := h.2 c4
          exact ⟨22, Exists.intro _ (Exists.intro _ (And.intro (Nat.le_of_ble_eq_true rfl) (And.intro (Nat.le_of_ble_eq_true rfl) (And.intro (pX4_within _ _ _) (Or.inr (And.intro (bI_neq c1) (Exists.intro _ (Exists.intro _ (And.intro (Nat.le_of_ble_eq_true rfl) (And.intro (Nat.le_of_ble_eq_true rfl) (And.intro (pX4_within _ _ _) (Or.inl (And.intro (bI_ne c2) (Exists.intro _ (Exists.intro _ (And.intro (Nat.le_of_ble_eq_true rfl) (And.intro (Nat.le_of_ble_eq_true rfl) (And.intro (pX4_within _ _ _) (Or.inr (And.intro (bI_neq c3) (Exists.intro _ (Exists.intro _ (And.intro (Nat.le_of_ble_eq_true rfl) (And.intro (Nat.le_of_ble_eq_true rfl) (And.intro (pX4_within _ _ _) (Or.inr (And.intro (bI_nne c4) (h))))))))))))))))))))))))))))⟩
      · replace h := h.2 c3
        exact ⟨17, Exists.intro _ (Exists.intro _ (And.intro (Nat.le_of_ble_eq_true rfl) (And.intro (Nat.le_of_ble_eq_true rfl) (And.intro (pX4_within _ _ _) (Or.inr (And.intro (bI_neq c1) (Exists.intro _ (Exists.intro _ (And.intro (Nat.le_of_ble_eq_true rfl) (And.intro (Nat.le_of_ble_eq_true rfl) (And.intro (pX4_within _ _ _) (Or.inl (And.intro (bI_ne c2) (Exists.intro _ (Exists.intro _ (And.intro (Nat.le_of_ble_eq_true rfl) (And.intro (Nat.le_of_ble_eq_true rfl) (And.intro (pX4_within _ _ _) (Or.inl (And.intro (bI_eq c3) (h)))))))))))))))))))))⟩
    · replace h := h.2 c2
      exact ⟨12, Exists.intro _ (Exists.intro _ (And.intro (Nat.le_of_ble_eq_true rfl) (And.intro (Nat.le_of_ble_eq_true rfl) (And.intro (pX4_within _ _ _) (Or.inr (And.intro (bI_neq c1) (Exists.intro _ (Exists.intro _ (And.intro (Nat.le_of_ble_eq_true rfl) (And.intro (Nat.le_of_ble_eq_true rfl) (And.intro (pX4_within _ _ _) (Or.inr (And.intro (bI_nne c2) (h))))))))))))))⟩
  · replace h := h.2 c1
    exact ⟨7, Exists.intro _ (Exists.intro _ (And.intro (Nat.le_of_ble_eq_true rfl) (And.intro (Nat.le_of_ble_eq_true rfl) (And.intro (pX4_within _ _ _) (Or.inl (And.intro (bI_eq c1) (h)))))))⟩

set_option maxRecDepth 100000 in
set_option maxHeartbeats 4000000 in
theorem sX4_odds_54 {E : aR} {A : Nat → Nat → Int32} {R : Nat → Nat → Option Nat} {G : Nat → Nat × Nat} (hG : aGS G) (x1 : Int32) (x2 : Int32) (x3 : Int32) (x4 : Int32) (x5 : Int32) (x6 : Int32)
    (h : ((x2 ≤ x6) → (∃ (v1 : Int64) (μ1 : aM), CX4_partOfFraction [.int x5, .int x2, .int x4] (A, R, G) (some (.long v1)) μ1 ∧ aw tX4_odds E 89 [some (.ref 0), some (.int x1), some (.int x2), some (.int x3), some (.int x4), some (.int x5), some (.int x6)] [.long v1] μ1)) ∧ ((¬ (x2 ≤ x6)) → (∃ (v1 : Int32) (μ1 : aM), CX4_heardAmongBurglars [.ref 0, .int (x1 + x6)] (A, R, G) (some (.int v1)) μ1 ∧ aw tX4_odds E 68 [some (.ref 0), some (.int x1), some (.int x2), some (.int x3), some (.int x4), some (.int x5), some (.int x6)] [.int v1] μ1))) :
    aw tX4_odds E 54 [some (.ref 0), some (.int x1), some (.int x2), some (.int x3), some (.int x4), some (.int x5), some (.int x6)] [] (A, R, G) := by
  by_cases c1 : x2 ≤ x6
  · replace h := h.1 c1
    obtain ⟨v1, μ1, h1, n, h⟩ := h
    exact ⟨n + 7, Or.inl (And.intro c1 (Exists.intro _ (Exists.intro _ (And.intro (Nat.le_of_ble_eq_true rfl) (And.intro (Nat.le_of_ble_eq_true rfl) (And.intro h1 (h)))))))⟩
  · replace h := h.2 c1
    obtain ⟨v1, μ1, h1, n, h⟩ := h
    exact ⟨n + 8, Or.inr (And.intro c1 (Exists.intro _ (Exists.intro _ (Exists.intro _ (Exists.intro _ (And.intro rfl (And.intro (gt0 hG) (And.intro (Nat.le_of_ble_eq_true rfl) (And.intro h1 (h))))))))))⟩

set_option maxRecDepth 100000 in
set_option maxHeartbeats 4000000 in
theorem sX4_odds_68 {E : aR} {A : Nat → Nat → Int32} {R : Nat → Nat → Option Nat} {G : Nat → Nat × Nat} (x1 : Int32) (x2 : Int32) (x3 : Int32) (x4 : Int32) (x5 : Int32) (x6 : Int32) (y0 : Int32)
    (h : ((y0 < x3) → (aw tX4_odds E 54 [some (.ref 0), some (.int x1), some (.int x2), some (.int x3), some (.int x4), some (.int x5), some (.int (x6 + 1))] [] (A, R, G))) ∧ ((¬ (y0 < x3)) → (aw tX4_odds E 54 [some (.ref 0), some (.int x1), some (.int x2), some (.int x3), some (.int x4), some (.int (x5 + 1)), some (.int (x6 + 1))] [] (A, R, G)))) :
    aw tX4_odds E 68 [some (.ref 0), some (.int x1), some (.int x2), some (.int x3), some (.int x4), some (.int x5), some (.int x6)] [.int y0] (A, R, G) := by
  by_cases c1 : y0 < x3
  · replace h := h.1 c1
    obtain ⟨n, h⟩ := h
    exact ⟨n + 4, Or.inl (And.intro c1 (h))⟩
  · replace h := h.2 c1
    obtain ⟨n, h⟩ := h
    exact ⟨n + 5, Or.inr (And.intro c1 (h))⟩

set_option maxRecDepth 100000 in
set_option maxHeartbeats 4000000 in
theorem sX4_odds_89 {E : aR} {A : Nat → Nat → Int32} {R : Nat → Nat → Option Nat} {G : Nat → Nat × Nat} (d1 : Option Value) (d2 : Option Value) (d3 : Option Value) (d4 : Option Value) (d5 : Option Value) (d6 : Option Value) (y0 : Int64)
    (h : E (some (.long y0)) (A, R, G)) :
    aw tX4_odds E 89 [some (.ref 0), d1, d2, d3, d4, d5, d6] [.long y0] (A, R, G) := by
  exact ⟨1, h⟩

set_option maxRecDepth 100000 in
set_option maxHeartbeats 4000000 in
theorem sX4_image_0 {E : aR} {A : Nat → Nat → Int32} {R : Nat → Nat → Option Nat} {G : Nat → Nat × Nat} (hG : aGS G)
    (h : ∃ (μ1 : aM), CX0_become [.ref 21, .ref 1] (A, R, G) none μ1 ∧ aw tX4_image E 11 [some (.ref 0)] [] μ1) :
    aw tX4_image E 0 [some (.ref 0)] [] (A, R, G) := by
  obtain ⟨μ1, h1, n, h⟩ := h
  exact ⟨n + 5, And.intro (gt0 hG) (And.intro (gt0 hG) (Exists.intro _ (Exists.intro _ (Exists.intro _ (Exists.intro _ (And.intro rfl (And.intro (gt21 hG) (And.intro (Nat.le_of_ble_eq_true rfl) (And.intro h1 (h))))))))))⟩

set_option maxRecDepth 100000 in
set_option maxHeartbeats 4000000 in
theorem sX4_image_11 {E : aR} {A : Nat → Nat → Int32} {R : Nat → Nat → Option Nat} {G : Nat → Nat × Nat} (hG : aGS G)
    (h : E (some (.int (((au A 0 3 1)) 1 9))) ((au A 0 3 1), R, G)) :
    aw tX4_image E 11 [some (.ref 0)] [] (A, R, G) := by
  exact ⟨7, And.intro (Or.inr rfl) (And.intro (gt0 hG) (And.intro (gt0 hG) (And.intro (gt1 hG) (h))))⟩

set_option maxRecDepth 100000 in
set_option maxHeartbeats 4000000 in
theorem sX4_back_0 {E : aR} {A : Nat → Nat → Int32} {R : Nat → Nat → Option Nat} {G : Nat → Nat × Nat} (hG : aGS G)
    (h : (((A 0 3) = 0) → (E (some (.int (-3))) (A, R, G))) ∧ ((¬ ((A 0 3) = 0)) → (∃ (μ1 : aM), CX0_become [.ref 1, .ref 21] (A, R, G) none μ1 ∧ aw tX4_back E 21 [some (.ref 0)] [] μ1))) :
    aw tX4_back E 0 [some (.ref 0)] [] (A, R, G) := by
  by_cases c1 : (A 0 3) = 0
  · replace h := h.1 c1
    exact ⟨5, And.intro (gt0 hG) (Or.inr (And.intro (fun z => z c1) (h)))⟩
  · replace h := h.2 c1
    obtain ⟨μ1, h1, n, h⟩ := h
    exact ⟨n + 8, And.intro (gt0 hG) (Or.inl (And.intro c1 (And.intro (gt0 hG) (And.intro (gt0 hG) (Exists.intro _ (Exists.intro _ (Exists.intro _ (Exists.intro _ (And.intro rfl (And.intro (gt1 hG) (And.intro (Nat.le_of_ble_eq_true rfl) (And.intro h1 (h)))))))))))))⟩

set_option maxRecDepth 100000 in
set_option maxHeartbeats 4000000 in
theorem sX4_back_21 {E : aR} {A : Nat → Nat → Int32} {R : Nat → Nat → Option Nat} {G : Nat → Nat × Nat} (hG : aGS G)
    (h : E (some (.int (A 1 9))) (A, R, G)) :
    aw tX4_back E 21 [some (.ref 0)] [] (A, R, G) := by
  exact ⟨4, And.intro (gt0 hG) (And.intro (gt1 hG) (h))⟩

set_option maxRecDepth 100000 in
set_option maxHeartbeats 4000000 in
theorem sX4_sheet_0 {E : aR} {A : Nat → Nat → Int32} {R : Nat → Nat → Option Nat} {G : Nat → Nat × Nat} (hG : aGS G) (x1 : Int32) (x2 : Int32) (x3 : Int32)
    (h : ((0 ≤ x1 ∧ x1 ≤ 3) → ((((-1) ≤ x2 ∧ x2 ≤ 2) → (((x2 = (-1)) → ((vp_in x1 4) ∧ (∃ w5 : Nat, (R 38 x1.toNatClampNeg = some w5) ∧ (((G w5).1 = 2 + 4) ∧ (∃ (μ1 : aM), CX2_renew [.ref w5, .int x2, .int 0] (A, R, G) none μ1 ∧ aw tX4_sheet E 37 [some (.ref 0), some (.int x1), some (.int x2), some (.int x3)] [] μ1))))) ∧ ((¬ (x2 = (-1))) → (((x3 ≤ 40) → (((0 ≤ x3) → ((vp_in x1 4) ∧ (∃ w10 : Nat, (R 38 x1.toNatClampNeg = some w10) ∧ (((G w10).1 = 2 + 4) ∧ (∃ (μ1 : aM), CX2_renew [.ref w10, .int x2, .int x3] (A, R, G) none μ1 ∧ aw tX4_sheet E 66 [some (.ref 0), some (.int x1), some (.int x2), some (.int x3)] [] μ1))))) ∧ ((¬ (0 ≤ x3)) → (E (some (.int (-14))) (A, R, G))))) ∧ ((¬ (x3 ≤ 40)) → (E (some (.int (-2))) (A, R, G))))))) ∧ ((¬ ((-1) ≤ x2 ∧ x2 ≤ 2)) → (E (some (.int (-2))) (A, R, G))))) ∧ ((¬ (0 ≤ x1 ∧ x1 ≤ 3)) → (E (some (.int (-2))) (A, R, G)))) :
    aw tX4_sheet E 0 [some (.ref 0), some (.int x1), some (.int x2), some (.int x3)] [] (A, R, G) := by
  by_cases c1 : 0 ≤ x1 ∧ x1 ≤ 3
  · replace h := h.1 c1
    by_cases c2 : (-1) ≤ x2 ∧ x2 ≤ 2
    · replace h := h.1 c2
      by_cases c3 : x2 = (-1)
      · replace h := h.1 c3
        obtain ⟨q4, h⟩ := h
        obtain ⟨w5, e5, h⟩ := h
        obtain ⟨q6, h⟩ := h
        obtain ⟨μ1, h1, n, h⟩ := h
        exact ⟨n + 20, Exists.intro _ (Exists.intro _ (And.intro (Nat.le_of_ble_eq_true rfl) (And.intro (Nat.le_of_ble_eq_true rfl) (And.intro (pX4_within _ _ _) (Or.inr (And.intro (bI_neq c1) (Exists.intro _ (Exists.intro _ (And.intro (Nat.le_of_ble_eq_true rfl) (And.intro (Nat.le_of_ble_eq_true rfl) (And.intro (pX4_within _ _ _) (Or.inl (And.intro (bI_ne c2) (Or.inr (And.intro (fun z => z c3) (And.intro (gt0 hG) (And.intro (gt38 hG) (And.intro (vin_len (gl38 hG) q4) (Exists.intro w5 (And.intro e5 (Exists.intro _ (Exists.intro _ (Exists.intro _ (Exists.intro _ (And.intro rfl (And.intro q6 (And.intro (Nat.le_of_ble_eq_true rfl) (And.intro h1 (h)))))))))))))))))))))))))))))⟩
      · replace h := h.2 c3
        by_cases c7 : x3 ≤ 40
        · replace h := h.1 c7
          by_cases c8 : 0 ≤ x3
          · replace h := h.1 c8
            obtain ⟨q9, h⟩ := h
            obtain ⟨w10, e10, h⟩ := h
            obtain ⟨q11, h⟩ := h
            obtain ⟨μ1, h1, n, h⟩ := h
            exact ⟨n + 25, Exists.intro _ (Exists.intro _ (And.intro (Nat.le_of_ble_eq_true rfl) (And.intro (Nat.le_of_ble_eq_true rfl) (And.intro (pX4_within _ _ _) (Or.inr (And.intro (bI_neq c1) (Exists.intro _ (Exists.intro _ (And.intro (Nat.le_of_ble_eq_true rfl) (And.intro (Nat.le_of_ble_eq_true rfl) (And.intro (pX4_within _ _ _) (Or.inl (And.intro (bI_ne c2) (Or.inl (And.intro c3 (Or.inl (And.intro c7 (Or.inl (And.intro c8 (And.intro (gt0 hG) (And.intro (gt38 hG) (And.intro (vin_len (gl38 hG) q9) (Exists.intro w10 (And.intro e10 (Exists.intro _ (Exists.intro _ (Exists.intro _ (Exists.intro _ (And.intro rfl (And.intro q11 (And.intro (Nat.le_of_ble_eq_true rfl) (And.intro h1 (h)))))))))))))))))))))))))))))))))⟩
          · replace h := h.2 c8
            exact ⟨20, Exists.intro _ (Exists.intro _ (And.intro (Nat.le_of_ble_eq_true rfl) (And.intro (Nat.le_of_ble_eq_true rfl) (And.intro (pX4_within _ _ _) (Or.inr (And.intro (bI_neq c1) (Exists.intro _ (Exists.intro _ (And.intro (Nat.le_of_ble_eq_true rfl) (And.intro (Nat.le_of_ble_eq_true rfl) (And.intro (pX4_within _ _ _) (Or.inl (And.intro (bI_ne c2) (Or.inl (And.intro c3 (Or.inl (And.intro c7 (Or.inr (And.intro c8 (h))))))))))))))))))))⟩
        · replace h := h.2 c7
          exact ⟨18, Exists.intro _ (Exists.intro _ (And.intro (Nat.le_of_ble_eq_true rfl) (And.intro (Nat.le_of_ble_eq_true rfl) (And.intro (pX4_within _ _ _) (Or.inr (And.intro (bI_neq c1) (Exists.intro _ (Exists.intro _ (And.intro (Nat.le_of_ble_eq_true rfl) (And.intro (Nat.le_of_ble_eq_true rfl) (And.intro (pX4_within _ _ _) (Or.inl (And.intro (bI_ne c2) (Or.inl (And.intro c3 (Or.inr (And.intro c7 (h))))))))))))))))))⟩
    · replace h := h.2 c2
      exact ⟨12, Exists.intro _ (Exists.intro _ (And.intro (Nat.le_of_ble_eq_true rfl) (And.intro (Nat.le_of_ble_eq_true rfl) (And.intro (pX4_within _ _ _) (Or.inr (And.intro (bI_neq c1) (Exists.intro _ (Exists.intro _ (And.intro (Nat.le_of_ble_eq_true rfl) (And.intro (Nat.le_of_ble_eq_true rfl) (And.intro (pX4_within _ _ _) (Or.inr (And.intro (bI_nne c2) (h))))))))))))))⟩
  · replace h := h.2 c1
    exact ⟨7, Exists.intro _ (Exists.intro _ (And.intro (Nat.le_of_ble_eq_true rfl) (And.intro (Nat.le_of_ble_eq_true rfl) (And.intro (pX4_within _ _ _) (Or.inl (And.intro (bI_eq c1) (h)))))))⟩

set_option maxRecDepth 100000 in
set_option maxHeartbeats 4000000 in
theorem sX4_sheet_37 {E : aR} {A : Nat → Nat → Int32} {R : Nat → Nat → Option Nat} {G : Nat → Nat × Nat} (d1 : Option Value) (d2 : Option Value) (d3 : Option Value)
    (h : E (some (.int 1)) (A, R, G)) :
    aw tX4_sheet E 37 [some (.ref 0), d1, d2, d3] [] (A, R, G) := by
  exact ⟨2, h⟩

set_option maxRecDepth 100000 in
set_option maxHeartbeats 4000000 in
theorem sX4_sheet_66 {E : aR} {A : Nat → Nat → Int32} {R : Nat → Nat → Option Nat} {G : Nat → Nat × Nat} (d1 : Option Value) (d2 : Option Value) (d3 : Option Value)
    (h : E (some (.int 1)) (A, R, G)) :
    aw tX4_sheet E 66 [some (.ref 0), d1, d2, d3] [] (A, R, G) := by
  exact ⟨2, h⟩

set_option maxRecDepth 100000 in
set_option maxHeartbeats 4000000 in
theorem sX4_cell_0 {E : aR} {A : Nat → Nat → Int32} {R : Nat → Nat → Option Nat} {G : Nat → Nat × Nat} (hG : aGS G) (x1 : Int32) (x2 : Int32) (x3 : Int32)
    (h : ((0 ≤ x1 ∧ x1 ≤ 3) → ((vp_in x1 4) ∧ (∃ w3 : Nat, (R 38 x1.toNatClampNeg = some w3) ∧ ((aGs G w3) ∧ (((G w3).1 = 2 + 4) ∧ (((A w3 1 = -1) → (E (some (.int (-11))) (A, R, G))) ∧ ((¬ (A w3 1 = -1)) → (((0 ≤ x2 ∧ x2 ≤ ((A w3 2) - 1)) → (((G (w3 + 1)).1 = 1) ∧ ((vp_in x2 (G (w3 + 1)).2) ∧ (E (some (.int 1)) ((au A (w3 + 1) x2.toNatClampNeg (cutX (A w3 1) x3)), R, G))))) ∧ ((¬ (0 ≤ x2 ∧ x2 ≤ ((A w3 2) - 1))) → (E (some (.int (-12))) (A, R, G))))))))))) ∧ ((¬ (0 ≤ x1 ∧ x1 ≤ 3)) → (E (some (.int (-2))) (A, R, G)))) :
    aw tX4_cell E 0 [some (.ref 0), some (.int x1), some (.int x2), some (.int x3), none] [] (A, R, G) := by
  by_cases c1 : 0 ≤ x1 ∧ x1 ≤ 3
  · replace h := h.1 c1
    obtain ⟨q2, h⟩ := h
    obtain ⟨w3, e3, h⟩ := h
    obtain ⟨q4, h⟩ := h
    obtain ⟨q5, h⟩ := h
    by_cases c6 : A w3 1 = -1
    · replace h := h.1 c6
      exact ⟨15, Exists.intro _ (Exists.intro _ (And.intro (Nat.le_of_ble_eq_true rfl) (And.intro (Nat.le_of_ble_eq_true rfl) (And.intro (pX4_within _ _ _) (Or.inl (And.intro (bI_ne c1) (And.intro (gt0 hG) (And.intro (gt38 hG) (And.intro (vin_len (gl38 hG) q2) (Exists.intro w3 (And.intro e3 (Exists.intro _ (Exists.intro _ (Exists.intro _ (Exists.intro _ (And.intro rfl (And.intro q5 (And.intro (Nat.le_of_ble_eq_true rfl) (And.intro (pX2_isMissing q4 ) (Or.inr (And.intro (bI_neq c6) (h))))))))))))))))))))))⟩
    · replace h := h.2 c6
      by_cases c7 : 0 ≤ x2 ∧ x2 ≤ ((A w3 2) - 1)
      · replace h := h.1 c7
        obtain ⟨q8, h⟩ := h
        obtain ⟨q9, h⟩ := h
        exact ⟨30, Exists.intro _ (Exists.intro _ (And.intro (Nat.le_of_ble_eq_true rfl) (And.intro (Nat.le_of_ble_eq_true rfl) (And.intro (pX4_within _ _ _) (Or.inl (And.intro (bI_ne c1) (And.intro (gt0 hG) (And.intro (gt38 hG) (And.intro (vin_len (gl38 hG) q2) (Exists.intro w3 (And.intro e3 (Exists.intro _ (Exists.intro _ (Exists.intro _ (Exists.intro _ (And.intro rfl (And.intro q5 (And.intro (Nat.le_of_ble_eq_true rfl) (And.intro (pX2_isMissing q4 ) (Or.inl (And.intro (bI_eq c6) (And.intro q5 (Exists.intro _ (Exists.intro _ (And.intro (Nat.le_of_ble_eq_true rfl) (And.intro (Nat.le_of_ble_eq_true rfl) (And.intro (pX4_within _ _ _) (Or.inl (And.intro (bI_ne c7) (And.intro q5 (Exists.intro _ (Exists.intro _ (Exists.intro _ (Exists.intro _ (And.intro rfl (And.intro q5 (And.intro (Nat.le_of_ble_eq_true rfl) (And.intro (pX2_cut q4 _) (And.intro q8 (And.intro q9 (h)))))))))))))))))))))))))))))))))))))))))⟩
      · replace h := h.2 c7
        exact ⟨23, Exists.intro _ (Exists.intro _ (And.intro (Nat.le_of_ble_eq_true rfl) (And.intro (Nat.le_of_ble_eq_true rfl) (And.intro (pX4_within _ _ _) (Or.inl (And.intro (bI_ne c1) (And.intro (gt0 hG) (And.intro (gt38 hG) (And.intro (vin_len (gl38 hG) q2) (Exists.intro w3 (And.intro e3 (Exists.intro _ (Exists.intro _ (Exists.intro _ (Exists.intro _ (And.intro rfl (And.intro q5 (And.intro (Nat.le_of_ble_eq_true rfl) (And.intro (pX2_isMissing q4 ) (Or.inl (And.intro (bI_eq c6) (And.intro q5 (Exists.intro _ (Exists.intro _ (And.intro (Nat.le_of_ble_eq_true rfl) (And.intro (Nat.le_of_ble_eq_true rfl) (And.intro (pX4_within _ _ _) (Or.inr (And.intro (bI_nne c7) (h))))))))))))))))))))))))))))))⟩
  · replace h := h.2 c1
    exact ⟨7, Exists.intro _ (Exists.intro _ (And.intro (Nat.le_of_ble_eq_true rfl) (And.intro (Nat.le_of_ble_eq_true rfl) (And.intro (pX4_within _ _ _) (Or.inr (And.intro (bI_nne c1) (h)))))))⟩

set_option maxRecDepth 100000 in
set_option maxHeartbeats 4000000 in
theorem sX4_copy_0 {E : aR} {A : Nat → Nat → Int32} {R : Nat → Nat → Option Nat} {G : Nat → Nat × Nat} (hG : aGS G) (x1 : Int32) (x2 : Int32) (x3 : Int32) (x4 : Int32) (x5 : Int32)
    (h : ((0 ≤ x1 ∧ x1 ≤ 3) → (((0 ≤ x3 ∧ x3 ≤ 3) → ((vp_in x1 4) ∧ (∃ w4 : Nat, (R 38 x1.toNatClampNeg = some w4) ∧ ((vp_in x3 4) ∧ (∃ w6 : Nat, (R 38 x3.toNatClampNeg = some w6) ∧ ((aGs G w4) ∧ (((G w4).1 = 2 + 4) ∧ (((A w4 1 = -1) → (E (some (.int (-11))) (A, R, G))) ∧ ((¬ (A w4 1 = -1)) → ((aGs G w6) ∧ (((G w6).1 = 2 + 4) ∧ (((A w6 1 = -1) → (E (some (.int (-11))) (A, R, G))) ∧ ((¬ (A w6 1 = -1)) → ((((A w4 1) = (A w6 1)) → (((hdX (A w4 2) x2 x5) → (((hdX (A w6 2) x4 x5) → (((G (w4 + 1)).1 = 1) ∧ (((G (w6 + 1)).1 = 1) ∧ ((¬ x2 < 0) ∧ ((¬ x4 < 0) ∧ ((¬ x5 < 0) ∧ ((x2.toNatClampNeg + x5.toNatClampNeg ≤ (G (w4 + 1)).2) ∧ ((x4.toNatClampNeg + x5.toNatClampNeg ≤ (G (w6 + 1)).2) ∧ (aw tX4_copy E 116 [some (.ref 0), some (.int x1), some (.int x2), some (.int x3), some (.int x4), some (.int x5), some (.ref w4), some (.ref w6)] [] ((ap A (w6 + 1) (va_cpy (A (w4 + 1)) (A (w6 + 1)) (x2 : Int32).toNatClampNeg (x4 : Int32).toNatClampNeg (x5 : Int32).toNatClampNeg)), R, G)))))))))) ∧ ((¬ (hdX (A w6 2) x4 x5)) → (E (some (.int (-12))) (A, R, G))))) ∧ ((¬ (hdX (A w4 2) x2 x5)) → (E (some (.int (-12))) (A, R, G))))) ∧ ((¬ ((A w4 1) = (A w6 1))) → (E (some (.int (-13))) (A, R, G))))))))))))))))) ∧ ((¬ (0 ≤ x3 ∧ x3 ≤ 3)) → (E (some (.int (-2))) (A, R, G))))) ∧ ((¬ (0 ≤ x1 ∧ x1 ≤ 3)) → (E (some (.int (-2))) (A, R, G)))) :
    aw tX4_copy E 0 [some (.ref 0), some (.int x1), some (.int x2), some (.int x3), some (.int x4), some (.int x5), none, none] [] (A, R, G) := by
  by_cases c1 : 0 ≤ x1 ∧ x1 ≤ 3
  · replace h := h.1 c1
    by_cases c2 : 0 ≤ x3 ∧ x3 ≤ 3
    · replace h := h.1 c2
      obtain ⟨q3, h⟩ := h
      obtain ⟨w4, e4, h⟩ := h
      obtain ⟨q5, h⟩ := h
      obtain ⟨w6, e6, h⟩ := h
      obtain ⟨q7, h⟩ := h
      obtain ⟨q8, h⟩ := h
      by_cases c9 : A w4 1 = -1
      · replace h := h.1 c9
        exact ⟨25, Exists.intro _ (Exists.intro _ (And.intro (Nat.le_of_ble_eq_true rfl) (And.intro (Nat.le_of_ble_eq_true rfl) (And.intro (pX4_within _ _ _) (Or.inr (And.intro (bI_neq c1) (Exists.intro _ (Exists.intro _ (And.intro (Nat.le_of_ble_eq_true rfl) (And.intro (Nat.le_of_ble_eq_true rfl) (And.intro (pX4_within _ _ _) (Or.inl (And.intro (bI_ne c2) (And.intro (gt0 hG) (And.intro (gt38 hG) (And.intro (vin_len (gl38 hG) q3) (Exists.intro w4 (And.intro e4 (And.intro (gt0 hG) (And.intro (gt38 hG) (And.intro (vin_len (gl38 hG) q5) (Exists.intro w6 (And.intro e6 (Exists.intro _ (Exists.intro _ (Exists.intro _ (Exists.intro _ (And.intro rfl (And.intro q8 (And.intro (Nat.le_of_ble_eq_true rfl) (And.intro (pX2_isMissing q7 ) (Or.inl (And.intro (bI_ne c9) (h))))))))))))))))))))))))))))))))))⟩
      · replace h := h.2 c9
        obtain ⟨q10, h⟩ := h
        obtain ⟨q11, h⟩ := h
        by_cases c12 : A w6 1 = -1
        · replace h := h.1 c12
          exact ⟨28, Exists.intro _ (Exists.intro _ (And.intro (Nat.le_of_ble_eq_true rfl) (And.intro (Nat.le_of_ble_eq_true rfl) (And.intro (pX4_within _ _ _) (Or.inr (And.intro (bI_neq c1) (Exists.intro _ (Exists.intro _ (And.intro (Nat.le_of_ble_eq_true rfl) (And.intro (Nat.le_of_ble_eq_true rfl) (And.intro (pX4_within _ _ _) (Or.inl (And.intro (bI_ne c2) (And.intro (gt0 hG) (And.intro (gt38 hG) (And.intro (vin_len (gl38 hG) q3) (Exists.intro w4 (And.intro e4 (And.intro (gt0 hG) (And.intro (gt38 hG) (And.intro (vin_len (gl38 hG) q5) (Exists.intro w6 (And.intro e6 (Exists.intro _ (Exists.intro _ (Exists.intro _ (Exists.intro _ (And.intro rfl (And.intro q8 (And.intro (Nat.le_of_ble_eq_true rfl) (And.intro (pX2_isMissing q7 ) (Or.inr (And.intro (bI_nne c9) (Exists.intro _ (Exists.intro _ (Exists.intro _ (Exists.intro _ (And.intro rfl (And.intro q11 (And.intro (Nat.le_of_ble_eq_true rfl) (And.intro (pX2_isMissing q10 ) (Or.inr (And.intro (bI_neq c12) (h))))))))))))))))))))))))))))))))))))))))))))⟩
        · replace h := h.2 c12
          by_cases c13 : (A w4 1) = (A w6 1)
          · replace h := h.1 c13
            by_cases c14 : hdX (A w4 2) x2 x5
            · replace h := h.1 c14
              by_cases c15 : hdX (A w6 2) x4 x5
              · replace h := h.1 c15
                obtain ⟨q16, h⟩ := h
                obtain ⟨q17, h⟩ := h
                obtain ⟨q18, h⟩ := h
                obtain ⟨q19, h⟩ := h
                obtain ⟨q20, h⟩ := h
                obtain ⟨q21, h⟩ := h
                obtain ⟨q22, h⟩ := h
                obtain ⟨n, h⟩ := h
                exact ⟨n + 49, Exists.intro _ (Exists.intro _ (And.intro (Nat.le_of_ble_eq_true rfl) (And.intro (Nat.le_of_ble_eq_true rfl) (And.intro (pX4_within _ _ _) (Or.inr (And.intro (bI_neq c1) (Exists.intro _ (Exists.intro _ (And.intro (Nat.le_of_ble_eq_true rfl) (And.intro (Nat.le_of_ble_eq_true rfl) (And.intro (pX4_within _ _ _) (Or.inl (And.intro (bI_ne c2) (And.intro (gt0 hG) (And.intro (gt38 hG) (And.intro (vin_len (gl38 hG) q3) (Exists.intro w4 (And.intro e4 (And.intro (gt0 hG) (And.intro (gt38 hG) (And.intro (vin_len (gl38 hG) q5) (Exists.intro w6 (And.intro e6 (Exists.intro _ (Exists.intro _ (Exists.intro _ (Exists.intro _ (And.intro rfl (And.intro q8 (And.intro (Nat.le_of_ble_eq_true rfl) (And.intro (pX2_isMissing q7 ) (Or.inr (And.intro (bI_nne c9) (Exists.intro _ (Exists.intro _ (Exists.intro _ (Exists.intro _ (And.intro rfl (And.intro q11 (And.intro (Nat.le_of_ble_eq_true rfl) (And.intro (pX2_isMissing q10 ) (Or.inl (And.intro (bI_eq c12) (And.intro q8 (And.intro q11 (Or.inl (And.intro c13 (Exists.intro _ (Exists.intro _ (Exists.intro _ (Exists.intro _ (And.intro rfl (And.intro q8 (And.intro (Nat.le_of_ble_eq_true rfl) (And.intro (pX2_holds q7 _ _) (Or.inr (And.intro (bI_neq c14) (Exists.intro _ (Exists.intro _ (Exists.intro _ (Exists.intro _ (And.intro rfl (And.intro q11 (And.intro (Nat.le_of_ble_eq_true rfl) (And.intro (pX2_holds q10 _ _) (Or.inl (And.intro (bI_ne c15) (And.intro q8 (And.intro q11 (And.intro (Nat.le_of_ble_eq_true rfl) (And.intro q16 (And.intro q17 (And.intro q18 (And.intro q19 (And.intro q20 (And.intro q21 (And.intro q22 (h))))))))))))))))))))))))))))))))))))))))))))))))))))))))))))))))))))))))))))))⟩
              · replace h := h.2 c15
                exact ⟨43, Exists.intro _ (Exists.intro _ (And.intro (Nat.le_of_ble_eq_true rfl) (And.intro (Nat.le_of_ble_eq_true rfl) (And.intro (pX4_within _ _ _) (Or.inr (And.intro (bI_neq c1) (Exists.intro _ (Exists.intro _ (And.intro (Nat.le_of_ble_eq_true rfl) (And.intro (Nat.le_of_ble_eq_true rfl) (And.intro (pX4_within _ _ _) (Or.inl (And.intro (bI_ne c2) (And.intro (gt0 hG) (And.intro (gt38 hG) (And.intro (vin_len (gl38 hG) q3) (Exists.intro w4 (And.intro e4 (And.intro (gt0 hG) (And.intro (gt38 hG) (And.intro (vin_len (gl38 hG) q5) (Exists.intro w6 (And.intro e6 (Exists.intro _ (Exists.intro _ (Exists.intro _ (Exists.intro _ (And.intro rfl (And.intro q8 (And.intro (Nat.le_of_ble_eq_true rfl) (And.intro (pX2_isMissing q7 ) (Or.inr (And.intro (bI_nne c9) (Exists.intro _ (Exists.intro _ (Exists.intro _ (Exists.intro _ (And.intro rfl (And.intro q11 (And.intro (Nat.le_of_ble_eq_true rfl) (And.intro (pX2_isMissing q10 ) (Or.inl (And.intro (bI_eq c12) (And.intro q8 (And.intro q11 (Or.inl (And.intro c13 (Exists.intro _ (Exists.intro _ (Exists.intro _ (Exists.intro _ (And.intro rfl (And.intro q8 (And.intro (Nat.le_of_ble_eq_true rfl) (And.intro (pX2_holds q7 _ _) (Or.inr (And.intro (bI_neq c14) (Exists.intro _ (Exists.intro _ (Exists.intro _ (Exists.intro _ (And.intro rfl (And.intro q11 (And.intro (Nat.le_of_ble_eq_true rfl) (And.intro (pX2_holds q10 _ _) (Or.inr (And.intro (bI_nne c15) (h))))))))))))))))))))))))))))))))))))))))))))))))))))))))))))))))))))⟩
            · replace h := h.2 c14
              exact ⟨38, Exists.intro _ (Exists.intro _ (And.intro (Nat.le_of_ble_eq_true rfl) (And.intro (Nat.le_of_ble_eq_true rfl) (And.intro (pX4_within _ _ _) (Or.inr (And.intro (bI_neq c1) (Exists.intro _ (Exists.intro _ (And.intro (Nat.le_of_ble_eq_true rfl) (And.intro (Nat.le_of_ble_eq_true rfl) (And.intro (pX4_within _ _ _) (Or.inl (And.intro (bI_ne c2) (And.intro (gt0 hG) (And.intro (gt38 hG) (And.intro (vin_len (gl38 hG) q3) (Exists.intro w4 (And.intro e4 (And.intro (gt0 hG) (And.intro (gt38 hG) (And.intro (vin_len (gl38 hG) q5) (Exists.intro w6 (And.intro e6 (Exists.intro _ (Exists.intro _ (Exists.intro _ (Exists.intro _ (And.intro rfl (And.intro q8 (And.intro (Nat.le_of_ble_eq_true rfl) (And.intro (pX2_isMissing q7 ) (Or.inr (And.intro (bI_nne c9) (Exists.intro _ (Exists.intro _ (Exists.intro _ (Exists.intro _ (And.intro rfl (And.intro q11 (And.intro (Nat.le_of_ble_eq_true rfl) (And.intro (pX2_isMissing q10 ) (Or.inl (And.intro (bI_eq c12) (And.intro q8 (And.intro q11 (Or.inl (And.intro c13 (Exists.intro _ (Exists.intro _ (Exists.intro _ (Exists.intro _ (And.intro rfl (And.intro q8 (And.intro (Nat.le_of_ble_eq_true rfl) (And.intro (pX2_holds q7 _ _) (Or.inl (And.intro (bI_eq c14) (h))))))))))))))))))))))))))))))))))))))))))))))))))))))))))⟩
          · replace h := h.2 c13
            exact ⟨33, Exists.intro _ (Exists.intro _ (And.intro (Nat.le_of_ble_eq_true rfl) (And.intro (Nat.le_of_ble_eq_true rfl) (And.intro (pX4_within _ _ _) (Or.inr (And.intro (bI_neq c1) (Exists.intro _ (Exists.intro _ (And.intro (Nat.le_of_ble_eq_true rfl) (And.intro (Nat.le_of_ble_eq_true rfl) (And.intro (pX4_within _ _ _) (Or.inl (And.intro (bI_ne c2) (And.intro (gt0 hG) (And.intro (gt38 hG) (And.intro (vin_len (gl38 hG) q3) (Exists.intro w4 (And.intro e4 (And.intro (gt0 hG) (And.intro (gt38 hG) (And.intro (vin_len (gl38 hG) q5) (Exists.intro w6 (And.intro e6 (Exists.intro _ (Exists.intro _ (Exists.intro _ (Exists.intro _ (And.intro rfl (And.intro q8 (And.intro (Nat.le_of_ble_eq_true rfl) (And.intro (pX2_isMissing q7 ) (Or.inr (And.intro (bI_nne c9) (Exists.intro _ (Exists.intro _ (Exists.intro _ (Exists.intro _ (And.intro rfl (And.intro q11 (And.intro (Nat.le_of_ble_eq_true rfl) (And.intro (pX2_isMissing q10 ) (Or.inl (And.intro (bI_eq c12) (And.intro q8 (And.intro q11 (Or.inr (And.intro c13 (h))))))))))))))))))))))))))))))))))))))))))))))))⟩
    · replace h := h.2 c2
      exact ⟨12, Exists.intro _ (Exists.intro _ (And.intro (Nat.le_of_ble_eq_true rfl) (And.intro (Nat.le_of_ble_eq_true rfl) (And.intro (pX4_within _ _ _) (Or.inr (And.intro (bI_neq c1) (Exists.intro _ (Exists.intro _ (And.intro (Nat.le_of_ble_eq_true rfl) (And.intro (Nat.le_of_ble_eq_true rfl) (And.intro (pX4_within _ _ _) (Or.inr (And.intro (bI_nne c2) (h))))))))))))))⟩
  · replace h := h.2 c1
    exact ⟨7, Exists.intro _ (Exists.intro _ (And.intro (Nat.le_of_ble_eq_true rfl) (And.intro (Nat.le_of_ble_eq_true rfl) (And.intro (pX4_within _ _ _) (Or.inl (And.intro (bI_eq c1) (h)))))))⟩

set_option maxRecDepth 100000 in
set_option maxHeartbeats 4000000 in
theorem sX4_copy_116 {E : aR} {A : Nat → Nat → Int32} {R : Nat → Nat → Option Nat} {G : Nat → Nat × Nat} (d1 : Option Value) (d2 : Option Value) (d3 : Option Value) (d4 : Option Value) (x5 : Int32) (d6 : Option Value) (d7 : Option Value)
    (h : E (some (.int x5)) (A, R, G)) :
    aw tX4_copy E 116 [some (.ref 0), d1, d2, d3, d4, some (.int x5), d6, d7] [] (A, R, G) := by
  exact ⟨2, h⟩

set_option maxRecDepth 100000 in
set_option maxHeartbeats 4000000 in
theorem sX4_judgesBy_0 {E : aR} {A : Nat → Nat → Int32} {R : Nat → Nat → Option Nat} {G : Nat → Nat × Nat} (hG : aGS G) (x1 : Int32) (x2 : Int32) (x3 : Int32) (x4 : Int32)
    (h : ((0 ≤ x1 ∧ x1 ≤ 3) → (((0 ≤ x2 ∧ x2 ≤ 2) → (((0 ≤ x4 ∧ x4 ≤ 6) → ((vp_in x1 4) ∧ (∃ w5 : Nat, (R 38 x1.toNatClampNeg = some w5) ∧ ((aGs G w5) ∧ (((G w5).1 = 2 + 4) ∧ (((A w5 1 = -1) → (E (some (.int (-11))) (A, R, G))) ∧ ((¬ (A w5 1 = -1)) → ((((A w5 1) = x2) → (aw tX4_judgesBy E 69 [some (.ref 0), some (.int x1), some (.int x2), some (.int x3), some (.int x4), some (.ref w5), some (.int 0), some (.int 0), none] [] (A, R, G))) ∧ ((¬ ((A w5 1) = x2)) → (E (some (.int (-13))) (A, R, G))))))))))) ∧ ((¬ (0 ≤ x4 ∧ x4 ≤ 6)) → (E (some (.int (-2))) (A, R, G))))) ∧ ((¬ (0 ≤ x2 ∧ x2 ≤ 2)) → (E (some (.int (-2))) (A, R, G))))) ∧ ((¬ (0 ≤ x1 ∧ x1 ≤ 3)) → (E (some (.int (-2))) (A, R, G)))) :
    aw tX4_judgesBy E 0 [some (.ref 0), some (.int x1), some (.int x2), some (.int x3), some (.int x4), none, none, none, none] [] (A, R, G) := by
  by_cases c1 : 0 ≤ x1 ∧ x1 ≤ 3
  · replace h := h.1 c1
    by_cases c2 : 0 ≤ x2 ∧ x2 ≤ 2
    · replace h := h.1 c2
      by_cases c3 : 0 ≤ x4 ∧ x4 ≤ 6
      · replace h := h.1 c3
        obtain ⟨q4, h⟩ := h
        obtain ⟨w5, e5, h⟩ := h
        obtain ⟨q6, h⟩ := h
        obtain ⟨q7, h⟩ := h
        by_cases c8 : A w5 1 = -1
        · replace h := h.1 c8
          exact ⟨25, Exists.intro _ (Exists.intro _ (And.intro (Nat.le_of_ble_eq_true rfl) (And.intro (Nat.le_of_ble_eq_true rfl) (And.intro (pX4_within _ _ _) (Or.inr (And.intro (bI_neq c1) (Exists.intro _ (Exists.intro _ (And.intro (Nat.le_of_ble_eq_true rfl) (And.intro (Nat.le_of_ble_eq_true rfl) (And.intro (pX4_within _ _ _) (Or.inr (And.intro (bI_neq c2) (Exists.intro _ (Exists.intro _ (And.intro (Nat.le_of_ble_eq_true rfl) (And.intro (Nat.le_of_ble_eq_true rfl) (And.intro (pX4_within _ _ _) (Or.inl (And.intro (bI_ne c3) (And.intro (gt0 hG) (And.intro (gt38 hG) (And.intro (vin_len (gl38 hG) q4) (Exists.intro w5 (And.intro e5 (Exists.intro _ (Exists.intro _ (Exists.intro _ (Exists.intro _ (And.intro rfl (And.intro q7 (And.intro (Nat.le_of_ble_eq_true rfl) (And.intro (pX2_isMissing q6 ) (Or.inr (And.intro (bI_neq c8) (h))))))))))))))))))))))))))))))))))))⟩
        · replace h := h.2 c8
          by_cases c9 : (A w5 1) = x2
          · replace h := h.1 c9
            obtain ⟨n, h⟩ := h
            exact ⟨n + 31, Exists.intro _ (Exists.intro _ (And.intro (Nat.le_of_ble_eq_true rfl) (And.intro (Nat.le_of_ble_eq_true rfl) (And.intro (pX4_within _ _ _) (Or.inr (And.intro (bI_neq c1) (Exists.intro _ (Exists.intro _ (And.intro (Nat.le_of_ble_eq_true rfl) (And.intro (Nat.le_of_ble_eq_true rfl) (And.intro (pX4_within _ _ _) (Or.inr (And.intro (bI_neq c2) (Exists.intro _ (Exists.intro _ (And.intro (Nat.le_of_ble_eq_true rfl) (And.intro (Nat.le_of_ble_eq_true rfl) (And.intro (pX4_within _ _ _) (Or.inl (And.intro (bI_ne c3) (And.intro (gt0 hG) (And.intro (gt38 hG) (And.intro (vin_len (gl38 hG) q4) (Exists.intro w5 (And.intro e5 (Exists.intro _ (Exists.intro _ (Exists.intro _ (Exists.intro _ (And.intro rfl (And.intro q7 (And.intro (Nat.le_of_ble_eq_true rfl) (And.intro (pX2_isMissing q6 ) (Or.inl (And.intro (bI_eq c8) (And.intro q7 (Or.inl (And.intro c9 (h)))))))))))))))))))))))))))))))))))))))⟩
          · replace h := h.2 c9
            exact ⟨29, Exists.intro _ (Exists.intro _ (And.intro (Nat.le_of_ble_eq_true rfl) (And.intro (Nat.le_of_ble_eq_true rfl) (And.intro (pX4_within _ _ _) (Or.inr (And.intro (bI_neq c1) (Exists.intro _ (Exists.intro _ (And.intro (Nat.le_of_ble_eq_true rfl) (And.intro (Nat.le_of_ble_eq_true rfl) (And.intro (pX4_within _ _ _) (Or.inr (And.intro (bI_neq c2) (Exists.intro _ (Exists.intro _ (And.intro (Nat.le_of_ble_eq_true rfl) (And.intro (Nat.le_of_ble_eq_true rfl) (And.intro (pX4_within _ _ _) (Or.inl (And.intro (bI_ne c3) (And.intro (gt0 hG) (And.intro (gt38 hG) (And.intro (vin_len (gl38 hG) q4) (Exists.intro w5 (And.intro e5 (Exists.intro _ (Exists.intro _ (Exists.intro _ (Exists.intro _ (And.intro rfl (And.intro q7 (And.intro (Nat.le_of_ble_eq_true rfl) (And.intro (pX2_isMissing q6 ) (Or.inl (And.intro (bI_eq c8) (And.intro q7 (Or.inr (And.intro c9 (h)))))))))))))))))))))))))))))))))))))))⟩
      · replace h := h.2 c3
        exact ⟨17, Exists.intro _ (Exists.intro _ (And.intro (Nat.le_of_ble_eq_true rfl) (And.intro (Nat.le_of_ble_eq_true rfl) (And.intro (pX4_within _ _ _) (Or.inr (And.intro (bI_neq c1) (Exists.intro _ (Exists.intro _ (And.intro (Nat.le_of_ble_eq_true rfl) (And.intro (Nat.le_of_ble_eq_true rfl) (And.intro (pX4_within _ _ _) (Or.inr (And.intro (bI_neq c2) (Exists.intro _ (Exists.intro _ (And.intro (Nat.le_of_ble_eq_true rfl) (And.intro (Nat.le_of_ble_eq_true rfl) (And.intro (pX4_within _ _ _) (Or.inr (And.intro (bI_nne c3) (h)))))))))))))))))))))⟩
    · replace h := h.2 c2
      exact ⟨12, Exists.intro _ (Exists.intro _ (And.intro (Nat.le_of_ble_eq_true rfl) (And.intro (Nat.le_of_ble_eq_true rfl) (And.intro (pX4_within _ _ _) (Or.inr (And.intro (bI_neq c1) (Exists.intro _ (Exists.intro _ (And.intro (Nat.le_of_ble_eq_true rfl) (And.intro (Nat.le_of_ble_eq_true rfl) (And.intro (pX4_within _ _ _) (Or.inl (And.intro (bI_eq c2) (h))))))))))))))⟩
  · replace h := h.2 c1
    exact ⟨7, Exists.intro _ (Exists.intro _ (And.intro (Nat.le_of_ble_eq_true rfl) (And.intro (Nat.le_of_ble_eq_true rfl) (And.intro (pX4_within _ _ _) (Or.inl (And.intro (bI_eq c1) (h)))))))⟩

set_option maxRecDepth 100000 in
set_option maxHeartbeats 4000000 in
theorem sX4_judgesBy_69 {E : aR} {A : Nat → Nat → Int32} {R : Nat → Nat → Option Nat} {G : Nat → Nat × Nat} (hG : aGS G) (d1 : Option Value) (d2 : Option Value) (x3 : Int32) (x4 : Int32) (x5 : Nat) (x6 : Int32) (x7 : Int32) (d8 : Option Value)
    (h : ((x4 ≤ x7) → (E (some (.int x6)) (A, R, G))) ∧ ((¬ (x4 ≤ x7)) → (((G x5).1 = 2 + 4) ∧ (((0 ≤ x3 ∧ x3 ≤ (A x5 2)) → ((aGs G x5) ∧ (((hdX (A x5 2) (x3 + (3 * x7)) 3) → (((G (x5 + 1)).1 = 1) ∧ ((vp_in (x3 + (3 * x7)) (G (x5 + 1)).2) ∧ ((vp_in ((x3 + (3 * x7)) + 1) (G (x5 + 1)).2) ∧ ((vp_in ((x3 + (3 * x7)) + 2) (G (x5 + 1)).2) ∧ (∃ (v1 : Int32) (μ1 : aM), CX4_judge [.ref 0, .int (A (x5 + 1) (x3 + (3 * x7)).toNatClampNeg), .int (A (x5 + 1) ((x3 + (3 * x7)) + 1).toNatClampNeg), .int (A (x5 + 1) ((x3 + (3 * x7)) + 2).toNatClampNeg)] (A, R, G) (some (.int v1)) μ1 ∧ aw tX4_judgesBy E 147 [some (.ref 0), none, none, some (.int x3), some (.int x4), some (.ref x5), some (.int x6), some (.int x7), some (.int (x3 + (3 * x7)))] [.int v1] μ1)))))) ∧ ((¬ (hdX (A x5 2) (x3 + (3 * x7)) 3)) → (E (some (.int (-12))) (A, R, G)))))) ∧ ((¬ (0 ≤ x3 ∧ x3 ≤ (A x5 2))) → (E (some (.int (-12))) (A, R, G))))))) :
    aw tX4_judgesBy E 69 [some (.ref 0), d1, d2, some (.int x3), some (.int x4), some (.ref x5), some (.int x6), some (.int x7), d8] [] (A, R, G) := by
  by_cases c1 : x4 ≤ x7
  · replace h := h.1 c1
    exact ⟨5, Or.inl (And.intro c1 (h))⟩
  · replace h := h.2 c1
    obtain ⟨q2, h⟩ := h
    by_cases c3 : 0 ≤ x3 ∧ x3 ≤ (A x5 2)
    · replace h := h.1 c3
      obtain ⟨q4, h⟩ := h
      by_cases c5 : hdX (A x5 2) (x3 + (3 * x7)) 3
      · replace h := h.1 c5
        obtain ⟨q6, h⟩ := h
        obtain ⟨q7, h⟩ := h
        obtain ⟨q8, h⟩ := h
        obtain ⟨q9, h⟩ := h
        obtain ⟨v1, μ1, h1, n, h⟩ := h
        exact ⟨n + 42, Or.inr (And.intro c1 (And.intro q2 (Exists.intro _ (Exists.intro _ (And.intro (Nat.le_of_ble_eq_true rfl) (And.intro (Nat.le_of_ble_eq_true rfl) (And.intro (pX4_within _ _ _) (Or.inr (And.intro (bI_neq c3) (Exists.intro _ (Exists.intro _ (Exists.intro _ (Exists.intro _ (And.intro rfl (And.intro q2 (And.intro (Nat.le_of_ble_eq_true rfl) (And.intro (pX2_holds q4 _ _) (Or.inl (And.intro (bI_ne c5) (And.intro q2 (And.intro q6 (And.intro q7 (And.intro q2 (And.intro q6 (And.intro q8 (And.intro q2 (And.intro q6 (And.intro q9 (Exists.intro _ (Exists.intro _ (Exists.intro _ (Exists.intro _ (And.intro rfl (And.intro (gt0 hG) (And.intro (Nat.le_of_ble_eq_true rfl) (And.intro h1 (h)))))))))))))))))))))))))))))))))))))⟩
      · replace h := h.2 c5
        exact ⟨20, Or.inr (And.intro c1 (And.intro q2 (Exists.intro _ (Exists.intro _ (And.intro (Nat.le_of_ble_eq_true rfl) (And.intro (Nat.le_of_ble_eq_true rfl) (And.intro (pX4_within _ _ _) (Or.inr (And.intro (bI_neq c3) (Exists.intro _ (Exists.intro _ (Exists.intro _ (Exists.intro _ (And.intro rfl (And.intro q2 (And.intro (Nat.le_of_ble_eq_true rfl) (And.intro (pX2_holds q4 _ _) (Or.inr (And.intro (bI_nne c5) (h))))))))))))))))))))⟩
    · replace h := h.2 c3
      exact ⟨11, Or.inr (And.intro c1 (And.intro q2 (Exists.intro _ (Exists.intro _ (And.intro (Nat.le_of_ble_eq_true rfl) (And.intro (Nat.le_of_ble_eq_true rfl) (And.intro (pX4_within _ _ _) (Or.inl (And.intro (bI_eq c3) (h))))))))))⟩

set_option maxRecDepth 100000 in
set_option maxHeartbeats 4000000 in
theorem sX4_judgesBy_147 {E : aR} {A : Nat → Nat → Int32} {R : Nat → Nat → Option Nat} {G : Nat → Nat × Nat} (d1 : Option Value) (d2 : Option Value) (x3 : Int32) (x4 : Int32) (x5 : Nat) (x6 : Int32) (x7 : Int32) (d8 : Option Value) (y0 : Int32)
    (h : ((y0 < 0) → (aw tX4_judgesBy E 69 [some (.ref 0), d1, d2, some (.int x3), some (.int x4), some (.ref x5), some (.int x6), some (.int (x7 + 1)), d8] [] (A, R, G))) ∧ ((¬ (y0 < 0)) → (aw tX4_judgesBy E 69 [some (.ref 0), d1, d2, some (.int x3), some (.int x4), some (.ref x5), some (.int (x6 + 1)), some (.int (x7 + 1)), d8] [] (A, R, G)))) :
    aw tX4_judgesBy E 147 [some (.ref 0), d1, d2, some (.int x3), some (.int x4), some (.ref x5), some (.int x6), some (.int x7), d8] [.int y0] (A, R, G) := by
  by_cases c1 : y0 < 0
  · replace h := h.1 c1
    obtain ⟨n, h⟩ := h
    exact ⟨n + 3, Or.inl (And.intro c1 (h))⟩
  · replace h := h.2 c1
    obtain ⟨n, h⟩ := h
    exact ⟨n + 4, Or.inr (And.intro c1 (h))⟩

set_option maxRecDepth 100000 in
set_option maxHeartbeats 4000000 in
theorem sX4_taken_0 {E : aR} {A : Nat → Nat → Int32} {R : Nat → Nat → Option Nat} {G : Nat → Nat × Nat} (hG : aGS G) (x1 : Int32) (x2 : Int32)
    (h : ((0 ≤ x2 ∧ x2 ≤ 6) → (((0 ≤ x1 ∧ x1 ≤ 13) → (((6 ≤ x1) → (((thX A 1 (x1 - 6)) → (((x2 = 6) → ((vp_in (x1 - 6) 8) ∧ (E (some (.int (A 7 (x1 - 6).toNatClampNeg))) (A, R, G)))) ∧ ((¬ (x2 = 6)) → (E (some (.int (-13))) (A, R, G))))) ∧ ((¬ (thX A 1 (x1 - 6))) → (E (some (.int (-11))) (A, R, G))))) ∧ ((¬ (6 ≤ x1)) → (((0 ≤ x1 ∧ x1 < A 1 9) → (∃ (v1 : Int32) (μ1 : aM), CX0_isOf [.ref 1, .int x1, .int x2] (A, R, G) (some (.int v1)) μ1 ∧ aw tX4_taken E 86 [some (.ref 0), some (.int x1), some (.int x2), some (.int 1)] [.int v1] μ1)) ∧ ((¬ (0 ≤ x1 ∧ x1 < A 1 9)) → (E (some (.int (-11))) (A, R, G))))))) ∧ ((¬ (0 ≤ x1 ∧ x1 ≤ 13)) → (E (some (.int (-12))) (A, R, G))))) ∧ ((¬ (0 ≤ x2 ∧ x2 ≤ 6)) → (E (some (.int (-2))) (A, R, G)))) :
    aw tX4_taken E 0 [some (.ref 0), some (.int x1), some (.int x2), none] [] (A, R, G) := by
  by_cases c1 : 0 ≤ x2 ∧ x2 ≤ 6
  · replace h := h.1 c1
    by_cases c2 : 0 ≤ x1 ∧ x1 ≤ 13
    · replace h := h.1 c2
      by_cases c3 : 6 ≤ x1
      · replace h := h.1 c3
        by_cases c4 : thX A 1 (x1 - 6)
        · replace h := h.1 c4
          by_cases c5 : x2 = 6
          · replace h := h.1 c5
            obtain ⟨q6, h⟩ := h
            exact ⟨38, Exists.intro _ (Exists.intro _ (And.intro (Nat.le_of_ble_eq_true rfl) (And.intro (Nat.le_of_ble_eq_true rfl) (And.intro (pX4_within _ _ _) (Or.inl (And.intro (bI_ne c1) (Exists.intro _ (Exists.intro _ (And.intro (Nat.le_of_ble_eq_true rfl) (And.intro (Nat.le_of_ble_eq_true rfl) (And.intro (pX4_within _ _ _) (Or.inl (And.intro (bI_ne c2) (Or.inl (And.intro c3 (Or.inl (And.intro (by decide) (And.intro (gt0 hG) (Exists.intro _ (Exists.intro _ (Exists.intro _ (Exists.intro _ (And.intro rfl (And.intro (gt1 hG) (And.intro (Nat.le_of_ble_eq_true rfl) (And.intro (pX0_hasCase (gB1 hG) _) (Or.inl (And.intro (bI_ne c4) (Or.inl (And.intro (by decide) (Or.inr (And.intro (fun z => z c5) (And.intro (gt0 hG) (And.intro (gt1 hG) (And.intro (gt7 hG) (And.intro (vin_len (gl7 hG) q6) (h)))))))))))))))))))))))))))))))))))))⟩
          · replace h := h.2 c5
            exact ⟨31, Exists.intro _ (Exists.intro _ (And.intro (Nat.le_of_ble_eq_true rfl) (And.intro (Nat.le_of_ble_eq_true rfl) (And.intro (pX4_within _ _ _) (Or.inl (And.intro (bI_ne c1) (Exists.intro _ (Exists.intro _ (And.intro (Nat.le_of_ble_eq_true rfl) (And.intro (Nat.le_of_ble_eq_true rfl) (And.intro (pX4_within _ _ _) (Or.inl (And.intro (bI_ne c2) (Or.inl (And.intro c3 (Or.inl (And.intro (by decide) (And.intro (gt0 hG) (Exists.intro _ (Exists.intro _ (Exists.intro _ (Exists.intro _ (And.intro rfl (And.intro (gt1 hG) (And.intro (Nat.le_of_ble_eq_true rfl) (And.intro (pX0_hasCase (gB1 hG) _) (Or.inl (And.intro (bI_ne c4) (Or.inl (And.intro (by decide) (Or.inl (And.intro c5 (h)))))))))))))))))))))))))))))))))⟩
        · replace h := h.2 c4
          exact ⟨26, Exists.intro _ (Exists.intro _ (And.intro (Nat.le_of_ble_eq_true rfl) (And.intro (Nat.le_of_ble_eq_true rfl) (And.intro (pX4_within _ _ _) (Or.inl (And.intro (bI_ne c1) (Exists.intro _ (Exists.intro _ (And.intro (Nat.le_of_ble_eq_true rfl) (And.intro (Nat.le_of_ble_eq_true rfl) (And.intro (pX4_within _ _ _) (Or.inl (And.intro (bI_ne c2) (Or.inl (And.intro c3 (Or.inl (And.intro (by decide) (And.intro (gt0 hG) (Exists.intro _ (Exists.intro _ (Exists.intro _ (Exists.intro _ (And.intro rfl (And.intro (gt1 hG) (And.intro (Nat.le_of_ble_eq_true rfl) (And.intro (pX0_hasCase (gB1 hG) _) (Or.inr (And.intro (bI_nne c4) (h)))))))))))))))))))))))))))))⟩
      · replace h := h.2 c3
        by_cases c7 : 0 ≤ x1 ∧ x1 < A 1 9
        · replace h := h.1 c7
          obtain ⟨v1, μ1, h1, n, h⟩ := h
          exact ⟨n + 30, Exists.intro _ (Exists.intro _ (And.intro (Nat.le_of_ble_eq_true rfl) (And.intro (Nat.le_of_ble_eq_true rfl) (And.intro (pX4_within _ _ _) (Or.inl (And.intro (bI_ne c1) (Exists.intro _ (Exists.intro _ (And.intro (Nat.le_of_ble_eq_true rfl) (And.intro (Nat.le_of_ble_eq_true rfl) (And.intro (pX4_within _ _ _) (Or.inl (And.intro (bI_ne c2) (Or.inr (And.intro c3 (Or.inr (And.intro (by decide) (And.intro (gt0 hG) (Exists.intro _ (Exists.intro _ (Exists.intro _ (Exists.intro _ (And.intro rfl (And.intro (gt1 hG) (And.intro (Nat.le_of_ble_eq_true rfl) (And.intro (pX0_hasJudge (gB1 hG) _) (Or.inl (And.intro (bI_ne c7) (Or.inr (And.intro (by decide) (And.intro (gt0 hG) (Exists.intro _ (Exists.intro _ (Exists.intro _ (Exists.intro _ (And.intro rfl (And.intro (gt1 hG) (And.intro (Nat.le_of_ble_eq_true rfl) (And.intro h1 (h))))))))))))))))))))))))))))))))))))))))⟩
        · replace h := h.2 c7
          exact ⟨26, Exists.intro _ (Exists.intro _ (And.intro (Nat.le_of_ble_eq_true rfl) (And.intro (Nat.le_of_ble_eq_true rfl) (And.intro (pX4_within _ _ _) (Or.inl (And.intro (bI_ne c1) (Exists.intro _ (Exists.intro _ (And.intro (Nat.le_of_ble_eq_true rfl) (And.intro (Nat.le_of_ble_eq_true rfl) (And.intro (pX4_within _ _ _) (Or.inl (And.intro (bI_ne c2) (Or.inr (And.intro c3 (Or.inr (And.intro (by decide) (And.intro (gt0 hG) (Exists.intro _ (Exists.intro _ (Exists.intro _ (Exists.intro _ (And.intro rfl (And.intro (gt1 hG) (And.intro (Nat.le_of_ble_eq_true rfl) (And.intro (pX0_hasJudge (gB1 hG) _) (Or.inr (And.intro (bI_nne c7) (h)))))))))))))))))))))))))))))⟩
    · replace h := h.2 c2
      exact ⟨12, Exists.intro _ (Exists.intro _ (And.intro (Nat.le_of_ble_eq_true rfl) (And.intro (Nat.le_of_ble_eq_true rfl) (And.intro (pX4_within _ _ _) (Or.inl (And.intro (bI_ne c1) (Exists.intro _ (Exists.intro _ (And.intro (Nat.le_of_ble_eq_true rfl) (And.intro (Nat.le_of_ble_eq_true rfl) (And.intro (pX4_within _ _ _) (Or.inr (And.intro (bI_nne c2) (h))))))))))))))⟩
  · replace h := h.2 c1
    exact ⟨7, Exists.intro _ (Exists.intro _ (And.intro (Nat.le_of_ble_eq_true rfl) (And.intro (Nat.le_of_ble_eq_true rfl) (And.intro (pX4_within _ _ _) (Or.inr (And.intro (bI_nne c1) (h)))))))⟩

set_option maxRecDepth 100000 in
set_option maxHeartbeats 4000000 in
theorem sX4_taken_86 {E : aR} {A : Nat → Nat → Int32} {R : Nat → Nat → Option Nat} {G : Nat → Nat × Nat} (x1 : Int32) (d2 : Option Value) (d3 : Option Value) (y0 : Int32)
    (h : ((y0 = 0) → (E (some (.int (-13))) (A, R, G))) ∧ ((¬ (y0 = 0)) → (E (some (.int x1)) (A, R, G)))) :
    aw tX4_taken E 86 [some (.ref 0), some (.int x1), d2, d3] [.int y0] (A, R, G) := by
  by_cases c1 : y0 = 0
  · replace h := h.1 c1
    exact ⟨3, Or.inl (And.intro c1 (h))⟩
  · replace h := h.2 c1
    exact ⟨4, Or.inr (And.intro c1 (h))⟩
