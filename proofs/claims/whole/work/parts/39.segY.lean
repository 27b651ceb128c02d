
set_option maxRecDepth 100000 in
set_option maxHeartbeats 4000000 in
theorem sX2_renew_0 {E : aR} {A : Nat → Nat → Int32} {R : Nat → Nat → Option Nat} {G : Nat → Nat × Nat} {o : Nat} (ho : aGs G o) (x1 : Int32) (x2 : Int32)
    (h : aw tX2_renew E 21 [some (.ref o), some (.int x1), some (.int x2), some (.int 0)] [] ((au (au A o 1 x1) o 2 (if 0 < (if x2 < 40 then x2 else 40) then (if x2 < 40 then x2 else 40) else 0)), R, G)) :
    aw tX2_renew E 0 [some (.ref o), some (.int x1), some (.int x2), none] [] (A, R, G) := by
  obtain ⟨n, h⟩ := h
  exact ⟨n + 12, And.intro (gs0 ho) (And.intro (Nat.le_of_ble_eq_true rfl) (And.intro (Nat.le_of_ble_eq_true rfl) (And.intro (gs0 ho) (h))))⟩

set_option maxRecDepth 100000 in
set_option maxHeartbeats 4000000 in
theorem sX2_renew_21 {E : aR} {A : Nat → Nat → Int32} {R : Nat → Nat → Option Nat} {G : Nat → Nat × Nat} {o : Nat} (ho : aGs G o) (d1 : Option Value) (d2 : Option Value) (x3 : Int32)
    (h : ((40 ≤ x3) → (E none (A, R, G))) ∧ ((¬ (40 ≤ x3)) → ((vp_in x3 40) ∧ (aw tX2_renew E 21 [some (.ref o), none, none, some (.int (x3 + 1))] [] ((au A (o + 1) x3.toNatClampNeg 0), R, G))))) :
    aw tX2_renew E 21 [some (.ref o), d1, d2, some (.int x3)] [] (A, R, G) := by
  by_cases c1 : 40 ≤ x3
  · replace h := h.1 c1
    exact ⟨4, Or.inl (And.intro c1 (h))⟩
  · replace h := h.2 c1
    obtain ⟨q2, h⟩ := h
    obtain ⟨n, h⟩ := h
    exact ⟨n + 10, Or.inr (And.intro c1 (And.intro (gs0 ho) (And.intro (gs1 ho) (And.intro (vin_len (gsl1 ho) q2) (h)))))⟩

set_option maxRecDepth 100000 in
set_option maxHeartbeats 4000000 in
theorem sX4_think_0 {E : aR} {A : Nat → Nat → Int32} {R : Nat → Nat → Option Nat} {G : Nat → Nat × Nat} (hG : aGS G)
    (h : ∃ (μ1 : aM), CX0_become [.ref 11, .ref 1] (A, R, G) none μ1 ∧ aw tX4_think E 11 [some (.ref 0)] [] μ1) :
    aw tX4_think E 0 [some (.ref 0)] [] (A, R, G) := by
  obtain ⟨μ1, h1, n, h⟩ := h
  exact ⟨n + 5, And.intro (gt0 hG) (And.intro (gt0 hG) (Exists.intro _ (Exists.intro _ (Exists.intro _ (Exists.intro _ (And.intro rfl (And.intro (gt11 hG) (And.intro (Nat.le_of_ble_eq_true rfl) (And.intro h1 (h))))))))))⟩

set_option maxRecDepth 100000 in
set_option maxHeartbeats 4000000 in
theorem sX4_think_11 {E : aR} {A : Nat → Nat → Int32} {R : Nat → Nat → Option Nat} {G : Nat → Nat × Nat}
    (h : E none (A, R, G)) :
    aw tX4_think E 11 [some (.ref 0)] [] (A, R, G) := by
  exact ⟨1, h⟩

set_option maxRecDepth 100000 in
set_option maxHeartbeats 4000000 in
theorem sX4_heardInThought_0 {E : aR} {A : Nat → Nat → Int32} {R : Nat → Nat → Option Nat} {G : Nat → Nat × Nat} (x1 : Int32)
    (h : aw tX4_heardInThought E 4 [some (.ref 0), some (.int x1), some (.int 0), some (.int 0)] [] (A, R, G)) :
    aw tX4_heardInThought E 0 [some (.ref 0), some (.int x1), none, none] [] (A, R, G) := by
  obtain ⟨n, h⟩ := h
  exact ⟨n + 4, h⟩

set_option maxRecDepth 100000 in
set_option maxHeartbeats 4000000 in
theorem sX4_heardInThought_4 {E : aR} {A : Nat → Nat → Int32} {R : Nat → Nat → Option Nat} {G : Nat → Nat × Nat} (hG : aGS G) (x1 : Int32) (x2 : Int32) (x3 : Int32)
    (h : ((x1 ≤ x3) → (E (some (.int x2)) (A, R, G))) ∧ ((¬ (x1 ≤ x3)) → ((((A 11 10) = 0) → (E (some (.int x2)) (A, R, G))) ∧ ((¬ ((A 11 10) = 0)) → (∃ (v1 : Int32) (μ1 : aM), CX0_passDay [.ref 11] (A, R, G) (some (.int v1)) μ1 ∧ aw tX4_heardInThought E 27 [some (.ref 0), some (.int x1), some (.int x2), some (.int x3)] [.int v1, .int x2] μ1))))) :
    aw tX4_heardInThought E 4 [some (.ref 0), some (.int x1), some (.int x2), some (.int x3)] [] (A, R, G) := by
  by_cases c1 : x1 ≤ x3
  · replace h := h.1 c1
    exact ⟨5, Or.inl (And.intro c1 (h))⟩
  · replace h := h.2 c1
    by_cases c2 : (A 11 10) = 0
    · replace h := h.1 c2
      exact ⟨9, Or.inr (And.intro c1 (And.intro (gt0 hG) (And.intro (gt11 hG) (Or.inl (And.intro c2 (h))))))⟩
    · replace h := h.2 c2
      obtain ⟨v1, μ1, h1, n, h⟩ := h
      exact ⟨n + 11, Or.inr (And.intro c1 (And.intro (gt0 hG) (And.intro (gt11 hG) (Or.inr (And.intro c2 (And.intro (gt0 hG) (Exists.intro _ (Exists.intro _ (Exists.intro _ (Exists.intro _ (And.intro rfl (And.intro (gt11 hG) (And.intro (Nat.le_of_ble_eq_true rfl) (And.intro h1 (h)))))))))))))))⟩

set_option maxRecDepth 100000 in
set_option maxHeartbeats 4000000 in
theorem sX4_heardInThought_27 {E : aR} {A : Nat → Nat → Int32} {R : Nat → Nat → Option Nat} {G : Nat → Nat × Nat} (x1 : Int32) (d2 : Option Value) (x3 : Int32) (y0 : Int32) (y1 : Int32)
    (h : aw tX4_heardInThought E 4 [some (.ref 0), some (.int x1), some (.int (y1 + (popc y0))), some (.int (x3 + 1))] [] (A, R, G)) :
    aw tX4_heardInThought E 27 [some (.ref 0), some (.int x1), d2, some (.int x3)] [.int y0, .int y1] (A, R, G) := by
  obtain ⟨n, h⟩ := h
  exact ⟨n + 5, Exists.intro _ (Exists.intro _ (And.intro (Nat.le_of_ble_eq_true rfl) (And.intro (Nat.le_of_ble_eq_true rfl) (And.intro (pJ6_bitCount _) (h)))))⟩

set_option maxRecDepth 100000 in
set_option maxHeartbeats 4000000 in
theorem sX4_canRunTell_0 {E : aR} {A : Nat → Nat → Int32} {R : Nat → Nat → Option Nat} {G : Nat → Nat × Nat} (hG : aGS G) (x1 : Int32)
    (h : ((0 ≤ x1 ∧ x1 ≤ 2) → (E (some (.int 1)) (A, R, G))) ∧ ((¬ (0 ≤ x1 ∧ x1 ≤ 2)) → (((10 ≤ x1 ∧ x1 ≤ ((10 + (A 1 9)) - 1)) → (E (some (.int 1)) (A, R, G))) ∧ ((¬ (10 ≤ x1 ∧ x1 ≤ ((10 + (A 1 9)) - 1))) → (((20 ≤ x1 ∧ x1 ≤ ((20 + (A 1 9)) - 1)) → (E (some (.int 1)) (A, R, G))) ∧ ((¬ (20 ≤ x1 ∧ x1 ≤ ((20 + (A 1 9)) - 1))) → (E (some (.int 0)) (A, R, G)))))))) :
    aw tX4_canRunTell E 0 [some (.ref 0), some (.int x1)] [] (A, R, G) := by
  by_cases c1 : 0 ≤ x1 ∧ x1 ≤ 2
  · replace h := h.1 c1
    exact ⟨8, Exists.intro _ (Exists.intro _ (And.intro (Nat.le_of_ble_eq_true rfl) (And.intro (Nat.le_of_ble_eq_true rfl) (And.intro (pX4_within _ _ _) (Or.inl (And.intro (bI_ne c1) (And.intro (Or.inr rfl) (h))))))))⟩
  · replace h := h.2 c1
    by_cases c2 : 10 ≤ x1 ∧ x1 ≤ ((10 + (A 1 9)) - 1)
    · replace h := h.1 c2
      exact ⟨19, Exists.intro _ (Exists.intro _ (And.intro (Nat.le_of_ble_eq_true rfl) (And.intro (Nat.le_of_ble_eq_true rfl) (And.intro (pX4_within _ _ _) (Or.inr (And.intro (bI_nne c1) (And.intro (gt0 hG) (And.intro (gt1 hG) (Exists.intro _ (Exists.intro _ (And.intro (Nat.le_of_ble_eq_true rfl) (And.intro (Nat.le_of_ble_eq_true rfl) (And.intro (pX4_within _ _ _) (Or.inl (And.intro (bI_ne c2) (And.intro (Or.inr rfl) (h)))))))))))))))))⟩
    · replace h := h.2 c2
      by_cases c3 : 20 ≤ x1 ∧ x1 ≤ ((20 + (A 1 9)) - 1)
      · replace h := h.1 c3
        exact ⟨30, Exists.intro _ (Exists.intro _ (And.intro (Nat.le_of_ble_eq_true rfl) (And.intro (Nat.le_of_ble_eq_true rfl) (And.intro (pX4_within _ _ _) (Or.inr (And.intro (bI_nne c1) (And.intro (gt0 hG) (And.intro (gt1 hG) (Exists.intro _ (Exists.intro _ (And.intro (Nat.le_of_ble_eq_true rfl) (And.intro (Nat.le_of_ble_eq_true rfl) (And.intro (pX4_within _ _ _) (Or.inr (And.intro (bI_nne c2) (And.intro (gt0 hG) (And.intro (gt1 hG) (Exists.intro _ (Exists.intro _ (And.intro (Nat.le_of_ble_eq_true rfl) (And.intro (Nat.le_of_ble_eq_true rfl) (And.intro (pX4_within _ _ _) (Or.inr (And.intro (bI_neq c3) (And.intro (Or.inr rfl) (h))))))))))))))))))))))))))⟩
      · replace h := h.2 c3
        exact ⟨29, Exists.intro _ (Exists.intro _ (And.intro (Nat.le_of_ble_eq_true rfl) (And.intro (Nat.le_of_ble_eq_true rfl) (And.intro (pX4_within _ _ _) (Or.inr (And.intro (bI_nne c1) (And.intro (gt0 hG) (And.intro (gt1 hG) (Exists.intro _ (Exists.intro _ (And.intro (Nat.le_of_ble_eq_true rfl) (And.intro (Nat.le_of_ble_eq_true rfl) (And.intro (pX4_within _ _ _) (Or.inr (And.intro (bI_nne c2) (And.intro (gt0 hG) (And.intro (gt1 hG) (Exists.intro _ (Exists.intro _ (And.intro (Nat.le_of_ble_eq_true rfl) (And.intro (Nat.le_of_ble_eq_true rfl) (And.intro (pX4_within _ _ _) (Or.inl (And.intro (bI_eq c3) (And.intro (Or.inl rfl) (h))))))))))))))))))))))))))⟩

set_option maxRecDepth 100000 in
set_option maxHeartbeats 4000000 in
theorem sX4_fillMost_0 {E : aR} {A : Nat → Nat → Int32} {R : Nat → Nat → Option Nat} {G : Nat → Nat × Nat}
    (h : aw tX4_fillMost E 5 [some (.ref 0), some (.int 64), some (.int 0), none, none, none, none] [] (A, R, G)) :
    aw tX4_fillMost E 0 [some (.ref 0), none, none, none, none, none, none] [] (A, R, G) := by
  obtain ⟨n, h⟩ := h
  exact ⟨n + 4, h⟩

set_option maxRecDepth 100000 in
set_option maxHeartbeats 4000000 in
theorem sX4_fillMost_5 {E : aR} {A : Nat → Nat → Int32} {R : Nat → Nat → Option Nat} {G : Nat → Nat × Nat} (hG : aGS G) (x1 : Int32) (x2 : Int32) (d3 : Option Value) (d4 : Option Value) (d5 : Option Value) (d6 : Option Value)
    (h : ((x1 ≤ x2) → (aw tX4_fillMost E 30 [some (.ref 0), some (.int x1), some (.int 7), none, none, none, none] [] (A, R, G))) ∧ ((¬ (x1 ≤ x2)) → ((vp_in (512 + x2) 576) ∧ (aw tX4_fillMost E 5 [some (.ref 0), some (.int x1), some (.int (x2 + 1)), none, none, none, none] [] ((au A 39 (512 + x2).toNatClampNeg 0), R, G))))) :
    aw tX4_fillMost E 5 [some (.ref 0), some (.int x1), some (.int x2), d3, d4, d5, d6] [] (A, R, G) := by
  by_cases c1 : x1 ≤ x2
  · replace h := h.1 c1
    obtain ⟨n, h⟩ := h
    exact ⟨n + 5, Or.inl (And.intro c1 (h))⟩
  · replace h := h.2 c1
    obtain ⟨q2, h⟩ := h
    obtain ⟨n, h⟩ := h
    exact ⟨n + 12, Or.inr (And.intro c1 (And.intro (gt0 hG) (And.intro (gt39 hG) (And.intro (vin_len (gl39 hG) q2) (h)))))⟩

set_option maxRecDepth 100000 in
set_option maxHeartbeats 4000000 in
theorem sX4_fillMost_30 {E : aR} {A : Nat → Nat → Int32} {R : Nat → Nat → Option Nat} {G : Nat → Nat × Nat} (hG : aGS G) (x1 : Int32) (x2 : Int32) (d3 : Option Value) (d4 : Option Value) (d5 : Option Value) (d6 : Option Value)
    (h : ((x2 < 0) → (E none (A, R, G))) ∧ ((¬ (x2 < 0)) → (((thX A 1 x2) → (∃ (v1 : Int32) (μ1 : aM), CX0_whoCan [.ref 1, .int x2] (A, R, G) (some (.int v1)) μ1 ∧ aw tX4_fillMost E 53 [some (.ref 0), some (.int x1), some (.int x2), none, none, none, none] [.int v1] μ1)) ∧ ((¬ (thX A 1 x2)) → (aw tX4_fillMost E 61 [some (.ref 0), some (.int x1), some (.int x2), some (.int 0), some (.int 0), none, none] [] (A, R, G)))))) :
    aw tX4_fillMost E 30 [some (.ref 0), some (.int x1), some (.int x2), d3, d4, d5, d6] [] (A, R, G) := by
  by_cases c1 : x2 < 0
  · replace h := h.1 c1
    exact ⟨3, Or.inl (And.intro c1 (h))⟩
  · replace h := h.2 c1
    by_cases c2 : thX A 1 x2
    · replace h := h.1 c2
      obtain ⟨v1, μ1, h1, n, h⟩ := h
      exact ⟨n + 11, Or.inr (And.intro c1 (And.intro (gt0 hG) (Exists.intro _ (Exists.intro _ (Exists.intro _ (Exists.intro _ (And.intro rfl (And.intro (gt1 hG) (And.intro (Nat.le_of_ble_eq_true rfl) (And.intro (pX0_hasCase (gB1 hG) _) (Or.inr (And.intro (bI_neq c2) (And.intro (gt0 hG) (Exists.intro _ (Exists.intro _ (Exists.intro _ (Exists.intro _ (And.intro rfl (And.intro (gt1 hG) (And.intro (Nat.le_of_ble_eq_true rfl) (And.intro h1 (h))))))))))))))))))))))⟩
    · replace h := h.2 c2
      obtain ⟨n, h⟩ := h
      exact ⟨n + 11, Or.inr (And.intro c1 (And.intro (gt0 hG) (Exists.intro _ (Exists.intro _ (Exists.intro _ (Exists.intro _ (And.intro rfl (And.intro (gt1 hG) (And.intro (Nat.le_of_ble_eq_true rfl) (And.intro (pX0_hasCase (gB1 hG) _) (Or.inl (And.intro (bI_eq c2) (h)))))))))))))⟩

set_option maxRecDepth 100000 in
set_option maxHeartbeats 4000000 in
theorem sX4_fillMost_53 {E : aR} {A : Nat → Nat → Int32} {R : Nat → Nat → Option Nat} {G : Nat → Nat × Nat} (x1 : Int32) (x2 : Int32) (d3 : Option Value) (d4 : Option Value) (d5 : Option Value) (d6 : Option Value) (y0 : Int32)
    (h : aw tX4_fillMost E 61 [some (.ref 0), some (.int x1), some (.int x2), some (.int y0), some (.int 0), d5, d6] [] (A, R, G)) :
    aw tX4_fillMost E 53 [some (.ref 0), some (.int x1), some (.int x2), d3, d4, d5, d6] [.int y0] (A, R, G) := by
  obtain ⟨n, h⟩ := h
  exact ⟨n + 4, h⟩

set_option maxRecDepth 100000 in
set_option maxHeartbeats 4000000 in
theorem sX4_fillMost_61 {E : aR} {A : Nat → Nat → Int32} {R : Nat → Nat → Option Nat} {G : Nat → Nat × Nat} (hG : aGS G) (x1 : Int32) (x2 : Int32) (x3 : Int32) (x4 : Int32) (d5 : Option Value) (d6 : Option Value)
    (h : ((x1 ≤ x4) → (aw tX4_fillMost E 147 [some (.ref 0), some (.int x1), some (.int x2), some (.int x3), some (.int x4), none, none] [] (A, R, G))) ∧ ((¬ (x1 ≤ x4)) → ((vp_in (((x2 + 1) <<< ((6 : Int32) &&& 31)) + x4) 576) ∧ (aw tX4_fillMost E 79 [some (.ref 0), some (.int x1), some (.int x2), some (.int x3), some (.int x4), some (.int (mbX A x2 x4)), some (.int 0)] [] (A, R, G))))) :
    aw tX4_fillMost E 61 [some (.ref 0), some (.int x1), some (.int x2), some (.int x3), some (.int x4), d5, d6] [] (A, R, G) := by
  by_cases c1 : x1 ≤ x4
  · replace h := h.1 c1
    obtain ⟨n, h⟩ := h
    exact ⟨n + 3, Or.inl (And.intro c1 (h))⟩
  · replace h := h.2 c1
    obtain ⟨q2, h⟩ := h
    obtain ⟨n, h⟩ := h
    exact ⟨n + 10, Or.inr (And.intro c1 (Exists.intro _ (Exists.intro _ (Exists.intro _ (Exists.intro _ (And.intro rfl (And.intro (gt0 hG) (And.intro (Nat.le_of_ble_eq_true rfl) (And.intro (pX4_mostBehind hG _ _ q2) (h))))))))))⟩

set_option maxRecDepth 100000 in
set_option maxHeartbeats 4000000 in
theorem sX4_fillMost_79 {E : aR} {A : Nat → Nat → Int32} {R : Nat → Nat → Option Nat} {G : Nat → Nat × Nat} (hG : aGS G) (x1 : Int32) (x2 : Int32) (x3 : Int32) (x4 : Int32) (x5 : Int32) (x6 : Int32)
    (h : ((6 ≤ x6) → ((vp_in ((x2 <<< (6 &&& 31)) + x4) 576) ∧ (aw tX4_fillMost E 61 [some (.ref 0), some (.int x1), some (.int x2), some (.int x3), some (.int (x4 + 1)), some (.int x5), some (.int x6)] [] ((au A 39 ((x2 <<< (6 &&& 31)) + x4).toNatClampNeg x5), R, G)))) ∧ ((¬ (6 ≤ x6)) → (((((x3 &&& (x4 ^^^ (-1))) &&& ((1 : Int32) <<< (x6 &&& 31))) = 0) → (aw tX4_fillMost E 79 [some (.ref 0), some (.int x1), some (.int x2), some (.int x3), some (.int x4), some (.int x5), some (.int (x6 + 1))] [] (A, R, G))) ∧ ((¬ (((x3 &&& (x4 ^^^ (-1))) &&& ((1 : Int32) <<< (x6 &&& 31))) = 0)) → ((vp_in (((x2 + 1) <<< ((6 : Int32) &&& 31)) + (x4 ||| ((1 : Int32) <<< (x6 &&& 31)))) 576) ∧ (aw tX4_fillMost E 79 [some (.ref 0), some (.int x1), some (.int x2), some (.int x3), some (.int x4), some (.int (if x5 < (1 + (mbX A x2 (x4 ||| ((1 : Int32) <<< (x6 &&& 31))))) then (1 + (mbX A x2 (x4 ||| ((1 : Int32) <<< (x6 &&& 31))))) else x5)), some (.int (x6 + 1))] [] (A, R, G))))))) :
    aw tX4_fillMost E 79 [some (.ref 0), some (.int x1), some (.int x2), some (.int x3), some (.int x4), some (.int x5), some (.int x6)] [] (A, R, G) := by
  by_cases c1 : 6 ≤ x6
  · replace h := h.1 c1
    obtain ⟨q2, h⟩ := h
    obtain ⟨n, h⟩ := h
    exact ⟨n + 14, Or.inl (And.intro c1 (And.intro (gt0 hG) (And.intro (gt39 hG) (And.intro (vin_len (gl39 hG) q2) (h)))))⟩
  · replace h := h.2 c1
    by_cases c3 : ((x3 &&& (x4 ^^^ (-1))) &&& ((1 : Int32) <<< (x6 &&& 31))) = 0
    · replace h := h.1 c3
      obtain ⟨n, h⟩ := h
      exact ⟨n + 15, Or.inr (And.intro c1 (Or.inl (And.intro c3 (h))))⟩
    · replace h := h.2 c3
      obtain ⟨q4, h⟩ := h
      obtain ⟨n, h⟩ := h
      exact ⟨n + 28, Or.inr (And.intro c1 (Or.inr (And.intro c3 (Exists.intro _ (Exists.intro _ (Exists.intro _ (Exists.intro _ (And.intro rfl (And.intro (gt0 hG) (And.intro (Nat.le_of_ble_eq_true rfl) (And.intro (pX4_mostBehind hG _ _ q4) (And.intro (Nat.le_of_ble_eq_true rfl) (h)))))))))))))⟩

set_option maxRecDepth 100000 in
set_option maxHeartbeats 4000000 in
theorem sX4_fillMost_147 {E : aR} {A : Nat → Nat → Int32} {R : Nat → Nat → Option Nat} {G : Nat → Nat × Nat} (x1 : Int32) (x2 : Int32) (d3 : Option Value) (d4 : Option Value) (d5 : Option Value) (d6 : Option Value)
    (h : aw tX4_fillMost E 150 [some (.ref 0), some (.int x1), some (.int (x2 + (-1))), d3, d4, d5, d6] [] (A, R, G)) :
    aw tX4_fillMost E 147 [some (.ref 0), some (.int x1), some (.int x2), d3, d4, d5, d6] [] (A, R, G) := by
  exact aw_inc (show alk tX4_fillMost 147 = o_inc 2 (-1) 150 from rfl) rfl h

set_option maxRecDepth 100000 in
set_option maxHeartbeats 4000000 in
theorem sX4_fillMost_150 {E : aR} {A : Nat → Nat → Int32} {R : Nat → Nat → Option Nat} {G : Nat → Nat × Nat} (x1 : Int32) (x2 : Int32) (d3 : Option Value) (d4 : Option Value) (d5 : Option Value) (d6 : Option Value)
    (h : aw tX4_fillMost E 30 [some (.ref 0), some (.int x1), some (.int x2), d3, d4, d5, d6] [] (A, R, G)) :
    aw tX4_fillMost E 150 [some (.ref 0), some (.int x1), some (.int x2), d3, d4, d5, d6] [] (A, R, G) := by
  obtain ⟨n, h⟩ := h
  exact ⟨n + 1, h⟩

set_option maxRecDepth 100000 in
set_option maxHeartbeats 4000000 in
theorem sX4_leastDigit_0 {E : aR} {A : Nat → Nat → Int32} {R : Nat → Nat → Option Nat} {G : Nat → Nat × Nat} (hG : aGS G) (x1 : Int32) (x2 : Int32)
    (h : (vp_in ((x1 <<< (6 &&& 31)) + x2) 576) ∧ ((vp_in (((x1 + 1) <<< ((6 : Int32) &&& 31)) + x2) 576) ∧ ((((mbX A x1 x2) = (A 39 ((x1 <<< (6 &&& 31)) + x2).toNatClampNeg)) → (E (some (.int 0)) (A, R, G))) ∧ ((¬ ((mbX A x1 x2) = (A 39 ((x1 <<< (6 &&& 31)) + x2).toNatClampNeg))) → (((thX A 1 x1) → (∃ (v1 : Int32) (μ1 : aM), CX0_whoCan [.ref 1, .int x1] (A, R, G) (some (.int v1)) μ1 ∧ aw tX4_leastDigit E 43 [some (.ref 0), some (.int x1), some (.int x2), some (.int (A 39 ((x1 <<< (6 &&& 31)) + x2).toNatClampNeg)), none, none] [.int v1] μ1)) ∧ ((¬ (thX A 1 x1)) → (aw tX4_leastDigit E 56 [some (.ref 0), some (.int x1), some (.int x2), some (.int (A 39 ((x1 <<< (6 &&& 31)) + x2).toNatClampNeg)), some (.int 0), some (.int 0)] [] (A, R, G)))))))) :
    aw tX4_leastDigit E 0 [some (.ref 0), some (.int x1), some (.int x2), none, none, none] [] (A, R, G) := by
  obtain ⟨q1, h⟩ := h
  obtain ⟨q2, h⟩ := h
  by_cases c3 : (mbX A x1 x2) = (A 39 ((x1 <<< (6 &&& 31)) + x2).toNatClampNeg)
  · replace h := h.1 c3
    exact ⟨17, And.intro (gt0 hG) (And.intro (gt39 hG) (And.intro (vin_len (gl39 hG) q1) (Exists.intro _ (Exists.intro _ (Exists.intro _ (Exists.intro _ (And.intro rfl (And.intro (gt0 hG) (And.intro (Nat.le_of_ble_eq_true rfl) (And.intro (pX4_mostBehind hG _ _ q2) (Or.inr (And.intro (fun z => z c3) (h)))))))))))))⟩
  · replace h := h.2 c3
    by_cases c4 : thX A 1 x1
    · replace h := h.1 c4
      obtain ⟨v1, μ1, h1, n, h⟩ := h
      exact ⟨n + 24, And.intro (gt0 hG) (And.intro (gt39 hG) (And.intro (vin_len (gl39 hG) q1) (Exists.intro _ (Exists.intro _ (Exists.intro _ (Exists.intro _ (And.intro rfl (And.intro (gt0 hG) (And.intro (Nat.le_of_ble_eq_true rfl) (And.intro (pX4_mostBehind hG _ _ q2) (Or.inl (And.intro c3 (And.intro (gt0 hG) (Exists.intro _ (Exists.intro _ (Exists.intro _ (Exists.intro _ (And.intro rfl (And.intro (gt1 hG) (And.intro (Nat.le_of_ble_eq_true rfl) (And.intro (pX0_hasCase (gB1 hG) _) (Or.inr (And.intro (bI_neq c4) (And.intro (gt0 hG) (Exists.intro _ (Exists.intro _ (Exists.intro _ (Exists.intro _ (And.intro rfl (And.intro (gt1 hG) (And.intro (Nat.le_of_ble_eq_true rfl) (And.intro h1 (h)))))))))))))))))))))))))))))))))⟩
    · replace h := h.2 c4
      obtain ⟨n, h⟩ := h
      exact ⟨n + 24, And.intro (gt0 hG) (And.intro (gt39 hG) (And.intro (vin_len (gl39 hG) q1) (Exists.intro _ (Exists.intro _ (Exists.intro _ (Exists.intro _ (And.intro rfl (And.intro (gt0 hG) (And.intro (Nat.le_of_ble_eq_true rfl) (And.intro (pX4_mostBehind hG _ _ q2) (Or.inl (And.intro c3 (And.intro (gt0 hG) (Exists.intro _ (Exists.intro _ (Exists.intro _ (Exists.intro _ (And.intro rfl (And.intro (gt1 hG) (And.intro (Nat.le_of_ble_eq_true rfl) (And.intro (pX0_hasCase (gB1 hG) _) (Or.inl (And.intro (bI_eq c4) (h))))))))))))))))))))))))⟩

set_option maxRecDepth 100000 in
set_option maxHeartbeats 4000000 in
theorem sX4_leastDigit_43 {E : aR} {A : Nat → Nat → Int32} {R : Nat → Nat → Option Nat} {G : Nat → Nat × Nat} (x1 : Int32) (x2 : Int32) (x3 : Int32) (d4 : Option Value) (d5 : Option Value) (y0 : Int32)
    (h : aw tX4_leastDigit E 56 [some (.ref 0), some (.int x1), some (.int x2), some (.int x3), some (.int (y0 &&& (x2 ^^^ (-1)))), some (.int 0)] [] (A, R, G)) :
    aw tX4_leastDigit E 43 [some (.ref 0), some (.int x1), some (.int x2), some (.int x3), d4, d5] [.int y0] (A, R, G) := by
  obtain ⟨n, h⟩ := h
  exact ⟨n + 8, h⟩

set_option maxRecDepth 100000 in
set_option maxHeartbeats 4000000 in
theorem sX4_leastDigit_56 {E : aR} {A : Nat → Nat → Int32} {R : Nat → Nat → Option Nat} {G : Nat → Nat × Nat} (hG : aGS G) (x1 : Int32) (x2 : Int32) (x3 : Int32) (x4 : Int32) (x5 : Int32)
    (h : ((6 ≤ x5) → (E (some (.int 0)) (A, R, G))) ∧ ((¬ (6 ≤ x5)) → ((((x4 &&& ((1 : Int32) <<< (x5 &&& 31))) = 0) → (aw tX4_leastDigit E 56 [some (.ref 0), some (.int x1), some (.int x2), some (.int x3), some (.int x4), some (.int (x5 + 1))] [] (A, R, G))) ∧ ((¬ ((x4 &&& ((1 : Int32) <<< (x5 &&& 31))) = 0)) → ((vp_in (((x1 + 1) <<< ((6 : Int32) &&& 31)) + (x2 ||| ((1 : Int32) <<< (x5 &&& 31)))) 576) ∧ ((((1 + (mbX A x1 (x2 ||| ((1 : Int32) <<< (x5 &&& 31))))) = x3) → (E (some (.int (x5 + 1))) (A, R, G))) ∧ ((¬ ((1 + (mbX A x1 (x2 ||| ((1 : Int32) <<< (x5 &&& 31))))) = x3)) → (aw tX4_leastDigit E 56 [some (.ref 0), some (.int x1), some (.int x2), some (.int x3), some (.int x4), some (.int (x5 + 1))] [] (A, R, G))))))))) :
    aw tX4_leastDigit E 56 [some (.ref 0), some (.int x1), some (.int x2), some (.int x3), some (.int x4), some (.int x5)] [] (A, R, G) := by
  by_cases c1 : 6 ≤ x5
  · replace h := h.1 c1
    exact ⟨5, Or.inl (And.intro c1 (h))⟩
  · replace h := h.2 c1
    by_cases c2 : (x4 &&& ((1 : Int32) <<< (x5 &&& 31))) = 0
    · replace h := h.1 c2
      obtain ⟨n, h⟩ := h
      exact ⟨n + 11, Or.inr (And.intro c1 (Or.inl (And.intro c2 (h))))⟩
    · replace h := h.2 c2
      obtain ⟨q3, h⟩ := h
      by_cases c4 : (1 + (mbX A x1 (x2 ||| ((1 : Int32) <<< (x5 &&& 31))))) = x3
      · replace h := h.1 c4
        exact ⟨25, Or.inr (And.intro c1 (Or.inr (And.intro c2 (Exists.intro _ (Exists.intro _ (Exists.intro _ (Exists.intro _ (And.intro rfl (And.intro (gt0 hG) (And.intro (Nat.le_of_ble_eq_true rfl) (And.intro (pX4_mostBehind hG _ _ q3) (Or.inr (And.intro (fun z => z c4) (h))))))))))))))⟩
      · replace h := h.2 c4
        obtain ⟨n, h⟩ := h
        exact ⟨n + 23, Or.inr (And.intro c1 (Or.inr (And.intro c2 (Exists.intro _ (Exists.intro _ (Exists.intro _ (Exists.intro _ (And.intro rfl (And.intro (gt0 hG) (And.intro (Nat.le_of_ble_eq_true rfl) (And.intro (pX4_mostBehind hG _ _ q3) (Or.inl (And.intro c4 (h))))))))))))))⟩

set_option maxRecDepth 100000 in
set_option maxHeartbeats 4000000 in
theorem sX4_fewestLosses_0 {E : aR} {A : Nat → Nat → Int32} {R : Nat → Nat → Option Nat} {G : Nat → Nat × Nat} (hG : aGS G) (x1 : Int32) (x2 : Int32)
    (h : (vp_in x1 6) ∧ (∃ (μ1 : aM), CX4_think [.ref 0] (A, R, G) none μ1 ∧ aw tX4_fewestLosses E 21 [some (.ref 0), some (.int x1), some (.int x2), some (.int (A 4 x1.toNatClampNeg)), some (.int (-1)), some (.int 11), none] [] μ1)) :
    aw tX4_fewestLosses E 0 [some (.ref 0), some (.int x1), some (.int x2), none, none, none, none] [] (A, R, G) := by
  obtain ⟨q1, h⟩ := h
  obtain ⟨μ1, h1, n, h⟩ := h
  exact ⟨n + 12, And.intro (gt0 hG) (And.intro (gt1 hG) (And.intro (gt4 hG) (And.intro (vin_len (gl4 hG) q1) (Exists.intro _ (Exists.intro _ (Exists.intro _ (Exists.intro _ (And.intro rfl (And.intro (gt0 hG) (And.intro (Nat.le_of_ble_eq_true rfl) (And.intro h1 (h))))))))))))⟩

set_option maxRecDepth 100000 in
set_option maxHeartbeats 4000000 in
theorem sX4_fewestLosses_21 {E : aR} {A : Nat → Nat → Int32} {R : Nat → Nat → Option Nat} {G : Nat → Nat × Nat} (x1 : Int32) (x2 : Int32) (x3 : Int32) (x4 : Int32) (x5 : Int32) (d6 : Option Value)
    (h : aw tX4_fewestLosses E 24 [some (.ref 0), some (.int x1), some (.int x2), some (.int x3), some (.int x4), some (.int x5), some (.int 0)] [] (A, R, G)) :
    aw tX4_fewestLosses E 21 [some (.ref 0), some (.int x1), some (.int x2), some (.int x3), some (.int x4), some (.int x5), d6] [] (A, R, G) := by
  obtain ⟨n, h⟩ := h
  exact ⟨n + 2, h⟩

set_option maxRecDepth 100000 in
set_option maxHeartbeats 4000000 in
theorem sX4_fewestLosses_24 {E : aR} {A : Nat → Nat → Int32} {R : Nat → Nat → Option Nat} {G : Nat → Nat × Nat} (hG : aGS G) (x1 : Int32) (x2 : Int32) (x3 : Int32) (x4 : Int32) (x5 : Int32) (x6 : Int32)
    (h : ((1023 < x6) → (E (some (.int x4)) (A, R, G))) ∧ ((¬ (1023 < x6)) → ((((x6 &&& x3) = 0) → (((x5 ≤ (popc x6)) → (aw tX4_fewestLosses E 24 [some (.ref 0), some (.int x1), some (.int x2), some (.int x3), some (.int x4), some (.int x5), some (.int (x6 + 1))] [] (A, R, G))) ∧ ((¬ (x5 ≤ (popc x6))) → ((vp_in x1 6) ∧ (∃ (v1 : Int32) (μ1 : aM), CX0_may [.ref 11, .int x1, .int x2] ((au A 14 x1.toNatClampNeg (x3 ||| x6)), R, G) (some (.int v1)) μ1 ∧ aw tX4_fewestLosses E 71 [some (.ref 0), some (.int x1), some (.int x2), some (.int x3), some (.int x4), some (.int x5), some (.int x6)] [.int v1] μ1))))) ∧ ((¬ ((x6 &&& x3) = 0)) → (aw tX4_fewestLosses E 24 [some (.ref 0), some (.int x1), some (.int x2), some (.int x3), some (.int x4), some (.int x5), some (.int (x6 + 1))] [] (A, R, G)))))) :
    aw tX4_fewestLosses E 24 [some (.ref 0), some (.int x1), some (.int x2), some (.int x3), some (.int x4), some (.int x5), some (.int x6)] [] (A, R, G) := by
  by_cases c1 : 1023 < x6
  · replace h := h.1 c1
    exact ⟨5, Or.inl (And.intro c1 (h))⟩
  · replace h := h.2 c1
    by_cases c2 : (x6 &&& x3) = 0
    · replace h := h.1 c2
      by_cases c3 : x5 ≤ (popc x6)
      · replace h := h.1 c3
        obtain ⟨n, h⟩ := h
        exact ⟨n + 13, Or.inr (And.intro c1 (Or.inr (And.intro (fun z => z c2) (Exists.intro _ (Exists.intro _ (And.intro (Nat.le_of_ble_eq_true rfl) (And.intro (Nat.le_of_ble_eq_true rfl) (And.intro (pJ6_bitCount _) (Or.inl (And.intro c3 (h)))))))))))⟩
      · replace h := h.2 c3
        obtain ⟨q4, h⟩ := h
        obtain ⟨v1, μ1, h1, n, h⟩ := h
        exact ⟨n + 24, Or.inr (And.intro c1 (Or.inr (And.intro (fun z => z c2) (Exists.intro _ (Exists.intro _ (And.intro (Nat.le_of_ble_eq_true rfl) (And.intro (Nat.le_of_ble_eq_true rfl) (And.intro (pJ6_bitCount _) (Or.inr (And.intro c3 (And.intro (gt0 hG) (And.intro (gt11 hG) (And.intro (gt14 hG) (And.intro (vin_len (gl14 hG) q4) (And.intro (gt0 hG) (Exists.intro _ (Exists.intro _ (Exists.intro _ (Exists.intro _ (And.intro rfl (And.intro (gt11 hG) (And.intro (Nat.le_of_ble_eq_true rfl) (And.intro h1 (h))))))))))))))))))))))))⟩
    · replace h := h.2 c2
      obtain ⟨n, h⟩ := h
      exact ⟨n + 9, Or.inr (And.intro c1 (Or.inl (And.intro c2 (h))))⟩

set_option maxRecDepth 100000 in
set_option maxHeartbeats 4000000 in
theorem sX4_fewestLosses_71 {E : aR} {A : Nat → Nat → Int32} {R : Nat → Nat → Option Nat} {G : Nat → Nat × Nat} (x1 : Int32) (x2 : Int32) (x3 : Int32) (x4 : Int32) (x5 : Int32) (x6 : Int32) (y0 : Int32)
    (h : ((y0 = 0) → (aw tX4_fewestLosses E 24 [some (.ref 0), some (.int x1), some (.int x2), some (.int x3), some (.int x4), some (.int x5), some (.int (x6 + 1))] [] (A, R, G))) ∧ ((¬ (y0 = 0)) → (aw tX4_fewestLosses E 24 [some (.ref 0), some (.int x1), some (.int x2), some (.int x3), some (.int x6), some (.int (popc x6)), some (.int (x6 + 1))] [] (A, R, G)))) :
    aw tX4_fewestLosses E 71 [some (.ref 0), some (.int x1), some (.int x2), some (.int x3), some (.int x4), some (.int x5), some (.int x6)] [.int y0] (A, R, G) := by
  by_cases c1 : y0 = 0
  · replace h := h.1 c1
    obtain ⟨n, h⟩ := h
    exact ⟨n + 3, Or.inl (And.intro c1 (h))⟩
  · replace h := h.2 c1
    obtain ⟨n, h⟩ := h
    exact ⟨n + 8, Or.inr (And.intro c1 (Exists.intro _ (Exists.intro _ (And.intro (Nat.le_of_ble_eq_true rfl) (And.intro (Nat.le_of_ble_eq_true rfl) (And.intro (pJ6_bitCount _) (h)))))))⟩

set_option maxRecDepth 100000 in
set_option maxHeartbeats 4000000 in
theorem sX4_commonDivisor_0 {E : aR} {A : Nat → Nat → Int32} {R : Nat → Nat → Option Nat} {G : Nat → Nat × Nat} (x0 : Int32) (x1 : Int32)
    (h : aw tX4_commonDivisor E 7 [some (.int x0), some (.int x1), some (.int x0), some (.int x1), some (.int 0), none] [] (A, R, G)) :
    aw tX4_commonDivisor E 0 [some (.int x0), some (.int x1), none, none, none, none] [] (A, R, G) := by
  obtain ⟨n, h⟩ := h
  exact ⟨n + 6, h⟩

set_option maxRecDepth 100000 in
set_option maxHeartbeats 4000000 in
theorem sX4_commonDivisor_7 {E : aR} {A : Nat → Nat → Int32} {R : Nat → Nat → Option Nat} {G : Nat → Nat × Nat} (d0 : Option Value) (d1 : Option Value) (x2 : Int32) (x3 : Int32) (x4 : Int32) (d5 : Option Value)
    (h : ((50 ≤ x4) → (E (some (.int x2)) (A, R, G))) ∧ ((¬ (50 ≤ x4)) → (((x3 = 0) → (E (some (.int x2)) (A, R, G))) ∧ ((¬ (x3 = 0)) → ((¬ (x3 : Int32) = 0) ∧ (aw tX4_commonDivisor E 7 [none, none, some (.int x3), some (.int (x2 - x2 / x3 * x3)), some (.int (x4 + 1)), some (.int (x2 - x2 / x3 * x3))] [] (A, R, G))))))) :
    aw tX4_commonDivisor E 7 [d0, d1, some (.int x2), some (.int x3), some (.int x4), d5] [] (A, R, G) := by
  by_cases c1 : 50 ≤ x4
  · replace h := h.1 c1
    exact ⟨5, Or.inl (And.intro c1 (h))⟩
  · replace h := h.2 c1
    by_cases c2 : x3 = 0
    · replace h := h.1 c2
      exact ⟨7, Or.inr (And.intro c1 (Or.inl (And.intro c2 (h))))⟩
    · replace h := h.2 c2
      obtain ⟨q3, h⟩ := h
      obtain ⟨n, h⟩ := h
      exact ⟨n + 15, Or.inr (And.intro c1 (Or.inr (And.intro c2 (And.intro q3 (h)))))⟩

set_option maxRecDepth 100000 in
set_option maxHeartbeats 4000000 in
theorem sX4_partOfFraction_0 {E : aR} {A : Nat → Nat → Int32} {R : Nat → Nat → Option Nat} {G : Nat → Nat × Nat} (x0 : Int32) (x1 : Int32) (x2 : Int32)
    (h : ∃ (v1 : Int32) (μ1 : aM), CX4_commonDivisor [.int x0, .int x1] (A, R, G) (some (.int v1)) μ1 ∧ aw tX4_partOfFraction E 5 [some (.int x0), some (.int x1), some (.int x2), none] [.int v1] μ1) :
    aw tX4_partOfFraction E 0 [some (.int x0), some (.int x1), some (.int x2), none] [] (A, R, G) := by
  obtain ⟨v1, μ1, h1, n, h⟩ := h
  exact ⟨n + 3, Exists.intro _ (Exists.intro _ (And.intro (Nat.le_of_ble_eq_true rfl) (And.intro (Nat.le_of_ble_eq_true rfl) (And.intro h1 (h)))))⟩

set_option maxRecDepth 100000 in
set_option maxHeartbeats 4000000 in
theorem sX4_partOfFraction_5 {E : aR} {A : Nat → Nat → Int32} {R : Nat → Nat → Option Nat} {G : Nat → Nat × Nat} (x0 : Int32) (x1 : Int32) (x2 : Int32) (d3 : Option Value) (y0 : Int32)
    (h : ((y0 = 0) → (E (some (.long (-4611686018427387904))) (A, R, G))) ∧ ((¬ (y0 = 0)) → (((x2 = 0) → ((¬ (y0 : Int32) = 0) ∧ (E (some (.long (((x0 / y0) : Int32).toInt64))) (A, R, G)))) ∧ ((¬ (x2 = 0)) → ((¬ (y0 : Int32) = 0) ∧ (E (some (.long (((x1 / y0) : Int32).toInt64))) (A, R, G))))))) :
    aw tX4_partOfFraction E 5 [some (.int x0), some (.int x1), some (.int x2), d3] [.int y0] (A, R, G) := by
  by_cases c1 : y0 = 0
  · replace h := h.1 c1
    exact ⟨5, Or.inr (And.intro (fun z => z c1) (h))⟩
  · replace h := h.2 c1
    by_cases c2 : x2 = 0
    · replace h := h.1 c2
      obtain ⟨q3, h⟩ := h
      exact ⟨11, Or.inl (And.intro c1 (Or.inr (And.intro (fun z => z c2) (And.intro q3 (h)))))⟩
    · replace h := h.2 c2
      obtain ⟨q4, h⟩ := h
      exact ⟨10, Or.inl (And.intro c1 (Or.inl (And.intro c2 (And.intro q4 (h)))))⟩

set_option maxRecDepth 100000 in
set_option maxHeartbeats 4000000 in
theorem sX4_refusalOfTold_0 {E : aR} {A : Nat → Nat → Int32} {R : Nat → Nat → Option Nat} {G : Nat → Nat × Nat} (hG : aGS G) (x1 : Int32)
    (h : ((0 ≤ x1 ∧ x1 ≤ 3) → ((vp_in x1 4) ∧ (∃ w3 : Nat, (R 38 x1.toNatClampNeg = some w3) ∧ ((aGs G w3) ∧ (((G w3).1 = 2 + 4) ∧ (((A w3 1 = -1) → (E (some (.int (-11))) (A, R, G))) ∧ ((¬ (A w3 1 = -1)) → (∃ w7 : Nat, (R 38 x1.toNatClampNeg = some w7) ∧ (((G w7).1 = 2 + 4) ∧ ((((A w7 2) ≤ 20) → (E (some (.int 0)) (A, R, G))) ∧ ((¬ ((A w7 2) ≤ 20)) → (E (some (.int (-2))) (A, R, G))))))))))))) ∧ ((¬ (0 ≤ x1 ∧ x1 ≤ 3)) → (E (some (.int (-2))) (A, R, G)))) :
    aw tX4_refusalOfTold E 0 [some (.ref 0), some (.int x1)] [] (A, R, G) := by
  by_cases c1 : 0 ≤ x1 ∧ x1 ≤ 3
  · replace h := h.1 c1
    obtain ⟨q2, h⟩ := h
    obtain ⟨w3, e3, h⟩ := h
    obtain ⟨q4, h⟩ := h
    obtain ⟨q5, h⟩ := h
    by_cases c6 : A w3 1 = -1
    · replace h := h.1 c6
      exact ⟨13, Exists.intro _ (Exists.intro _ (And.intro (Nat.le_of_ble_eq_true rfl) (And.intro (Nat.le_of_ble_eq_true rfl) (And.intro (pX4_within _ _ _) (Or.inl (And.intro (bI_ne c1) (And.intro (gt0 hG) (And.intro (gt38 hG) (And.intro (vin_len (gl38 hG) q2) (Exists.intro w3 (And.intro e3 (Exists.intro _ (Exists.intro _ (Exists.intro _ (Exists.intro _ (And.intro rfl (And.intro q5 (And.intro (Nat.le_of_ble_eq_true rfl) (And.intro (pX2_isMissing q4 ) (Or.inr (And.intro (bI_neq c6) (h))))))))))))))))))))))⟩
    · replace h := h.2 c6
      obtain ⟨w7, e7, h⟩ := h
      obtain ⟨q8, h⟩ := h
      by_cases c9 : (A w7 2) ≤ 20
      · replace h := h.1 c9
        exact ⟨20, Exists.intro _ (Exists.intro _ (And.intro (Nat.le_of_ble_eq_true rfl) (And.intro (Nat.le_of_ble_eq_true rfl) (And.intro (pX4_within _ _ _) (Or.inl (And.intro (bI_ne c1) (And.intro (gt0 hG) (And.intro (gt38 hG) (And.intro (vin_len (gl38 hG) q2) (Exists.intro w3 (And.intro e3 (Exists.intro _ (Exists.intro _ (Exists.intro _ (Exists.intro _ (And.intro rfl (And.intro q5 (And.intro (Nat.le_of_ble_eq_true rfl) (And.intro (pX2_isMissing q4 ) (Or.inl (And.intro (bI_eq c6) (And.intro (gt0 hG) (And.intro (gt38 hG) (And.intro (vin_len (gl38 hG) q2) (Exists.intro w7 (And.intro e7 (And.intro q8 (Or.inl (And.intro c9 (h))))))))))))))))))))))))))))))⟩
      · replace h := h.2 c9
        exact ⟨21, Exists.intro _ (Exists.intro _ (And.intro (Nat.le_of_ble_eq_true rfl) (And.intro (Nat.le_of_ble_eq_true rfl) (And.intro (pX4_within _ _ _) (Or.inl (And.intro (bI_ne c1) (And.intro (gt0 hG) (And.intro (gt38 hG) (And.intro (vin_len (gl38 hG) q2) (Exists.intro w3 (And.intro e3 (Exists.intro _ (Exists.intro _ (Exists.intro _ (Exists.intro _ (And.intro rfl (And.intro q5 (And.intro (Nat.le_of_ble_eq_true rfl) (And.intro (pX2_isMissing q4 ) (Or.inl (And.intro (bI_eq c6) (And.intro (gt0 hG) (And.intro (gt38 hG) (And.intro (vin_len (gl38 hG) q2) (Exists.intro w7 (And.intro e7 (And.intro q8 (Or.inr (And.intro c9 (h))))))))))))))))))))))))))))))⟩
  · replace h := h.2 c1
    exact ⟨7, Exists.intro _ (Exists.intro _ (And.intro (Nat.le_of_ble_eq_true rfl) (And.intro (Nat.le_of_ble_eq_true rfl) (And.intro (pX4_within _ _ _) (Or.inr (And.intro (bI_nne c1) (h)))))))⟩

set_option maxRecDepth 100000 in
set_option maxHeartbeats 4000000 in
theorem sX4_firstOther_0 {E : aR} {A : Nat → Nat → Int32} {R : Nat → Nat → Option Nat} {G : Nat → Nat × Nat} (hG : aGS G) (x1 : Int32)
    (h : (vp_in x1 4) ∧ (∃ w2 : Nat, (R 38 x1.toNatClampNeg = some w2) ∧ (aw tX4_firstOther E 9 [some (.ref 0), some (.int x1), some (.ref w2), some (.int 0)] [] (A, R, G)))) :
    aw tX4_firstOther E 0 [some (.ref 0), some (.int x1), none, none] [] (A, R, G) := by
  obtain ⟨q1, h⟩ := h
  obtain ⟨w2, e2, h⟩ := h
  obtain ⟨n, h⟩ := h
  exact ⟨n + 7, And.intro (gt0 hG) (And.intro (gt38 hG) (And.intro (vin_len (gl38 hG) q1) (Exists.intro w2 (And.intro e2 (h)))))⟩

set_option maxRecDepth 100000 in
set_option maxHeartbeats 4000000 in
theorem sX4_firstOther_9 {E : aR} {A : Nat → Nat → Int32} {R : Nat → Nat → Option Nat} {G : Nat → Nat × Nat} (hG : aGS G) (d1 : Option Value) (x2 : Nat) (x3 : Int32)
    (h : ((G x2).1 = 2 + 4) ∧ ((((A x2 2) ≤ x3) → (E (some (.int (-1))) (A, R, G))) ∧ ((¬ ((A x2 2) ≤ x3)) → (∃ (v1 : Int32) (μ1 : aM), CX0_passDay [.ref 11] (A, R, G) (some (.int v1)) μ1 ∧ aw tX4_firstOther E 24 [some (.ref 0), none, some (.ref x2), some (.int x3)] [.int v1] μ1)))) :
    aw tX4_firstOther E 9 [some (.ref 0), d1, some (.ref x2), some (.int x3)] [] (A, R, G) := by
  obtain ⟨q1, h⟩ := h
  by_cases c2 : (A x2 2) ≤ x3
  · replace h := h.1 c2
    exact ⟨6, And.intro q1 (Or.inl (And.intro c2 (h)))⟩
  · replace h := h.2 c2
    obtain ⟨v1, μ1, h1, n, h⟩ := h
    exact ⟨n + 7, And.intro q1 (Or.inr (And.intro c2 (And.intro (gt0 hG) (Exists.intro _ (Exists.intro _ (Exists.intro _ (Exists.intro _ (And.intro rfl (And.intro (gt11 hG) (And.intro (Nat.le_of_ble_eq_true rfl) (And.intro h1 (h))))))))))))⟩

set_option maxRecDepth 100000 in
set_option maxHeartbeats 4000000 in
theorem sX4_firstOther_24 {E : aR} {A : Nat → Nat → Int32} {R : Nat → Nat → Option Nat} {G : Nat → Nat × Nat} (d1 : Option Value) (x2 : Nat) (x3 : Int32) (y0 : Int32)
    (h : ((G x2).1 = 2 + 4) ∧ (((G (x2 + 1)).1 = 1) ∧ ((vp_in x3 (G (x2 + 1)).2) ∧ ((((popc y0) = (A (x2 + 1) x3.toNatClampNeg)) → (aw tX4_firstOther E 9 [some (.ref 0), d1, some (.ref x2), some (.int (x3 + 1))] [] (A, R, G))) ∧ ((¬ ((popc y0) = (A (x2 + 1) x3.toNatClampNeg))) → (E (some (.int x3)) (A, R, G))))))) :
    aw tX4_firstOther E 24 [some (.ref 0), d1, some (.ref x2), some (.int x3)] [.int y0] (A, R, G) := by
  obtain ⟨q1, h⟩ := h
  obtain ⟨q2, h⟩ := h
  obtain ⟨q3, h⟩ := h
  by_cases c4 : (popc y0) = (A (x2 + 1) x3.toNatClampNeg)
  · replace h := h.1 c4
    obtain ⟨n, h⟩ := h
    exact ⟨n + 8, Exists.intro _ (Exists.intro _ (And.intro (Nat.le_of_ble_eq_true rfl) (And.intro (Nat.le_of_ble_eq_true rfl) (And.intro (pJ6_bitCount _) (And.intro q1 (And.intro q2 (And.intro q3 (Or.inl (And.intro c4 (h))))))))))⟩
  · replace h := h.2 c4
    exact ⟨8, Exists.intro _ (Exists.intro _ (And.intro (Nat.le_of_ble_eq_true rfl) (And.intro (Nat.le_of_ble_eq_true rfl) (And.intro (pJ6_bitCount _) (And.intro q1 (And.intro q2 (And.intro q3 (Or.inr (And.intro c4 (h))))))))))⟩

set_option maxRecDepth 100000 in
set_option maxHeartbeats 4000000 in
theorem sX4_refusalOfTold__0 {E : aR} {A : Nat → Nat → Int32} {R : Nat → Nat → Option Nat} {G : Nat → Nat × Nat} (hG : aGS G) (x1 : Int32) (x2 : Int32)
    (h : ∃ (v1 : Int32) (μ1 : aM), CX4_refusalOfTold [.ref 0, .int x1] (A, R, G) (some (.int v1)) μ1 ∧ aw tX4_refusalOfTold_ E 5 [some (.ref 0), some (.int x1), some (.int x2), none] [.int v1] μ1) :
    aw tX4_refusalOfTold_ E 0 [some (.ref 0), some (.int x1), some (.int x2), none] [] (A, R, G) := by
  obtain ⟨v1, μ1, h1, n, h⟩ := h
  exact ⟨n + 3, Exists.intro _ (Exists.intro _ (Exists.intro _ (Exists.intro _ (And.intro rfl (And.intro (gt0 hG) (And.intro (Nat.le_of_ble_eq_true rfl) (And.intro h1 (h))))))))⟩

set_option maxRecDepth 100000 in
set_option maxHeartbeats 4000000 in
theorem sX4_refusalOfTold__5 {E : aR} {A : Nat → Nat → Int32} {R : Nat → Nat → Option Nat} {G : Nat → Nat × Nat} (hG : aGS G) (d1 : Option Value) (x2 : Int32) (d3 : Option Value) (y0 : Int32)
    (h : ((y0 = 0) → (((0 ≤ x2 ∧ x2 < A 1 9) → (E (some (.int 0)) (A, R, G))) ∧ ((¬ (0 ≤ x2 ∧ x2 < A 1 9)) → (E (some (.int (-5))) (A, R, G))))) ∧ ((¬ (y0 = 0)) → (E (some (.int y0)) (A, R, G)))) :
    aw tX4_refusalOfTold_ E 5 [some (.ref 0), d1, some (.int x2), d3] [.int y0] (A, R, G) := by
  by_cases c1 : y0 = 0
  · replace h := h.1 c1
    by_cases c2 : 0 ≤ x2 ∧ x2 < A 1 9
    · replace h := h.1 c2
      exact ⟨11, Or.inl (And.intro c1 (And.intro (gt0 hG) (Exists.intro _ (Exists.intro _ (Exists.intro _ (Exists.intro _ (And.intro rfl (And.intro (gt1 hG) (And.intro (Nat.le_of_ble_eq_true rfl) (And.intro (pX0_hasJudge (gB1 hG) _) (Or.inr (And.intro (bI_neq c2) (h)))))))))))))⟩
    · replace h := h.2 c2
      exact ⟨10, Or.inl (And.intro c1 (And.intro (gt0 hG) (Exists.intro _ (Exists.intro _ (Exists.intro _ (Exists.intro _ (And.intro rfl (And.intro (gt1 hG) (And.intro (Nat.le_of_ble_eq_true rfl) (And.intro (pX0_hasJudge (gB1 hG) _) (Or.inl (And.intro (bI_eq c2) (h)))))))))))))⟩
  · replace h := h.2 c1
    exact ⟨5, Or.inr (And.intro c1 (h))⟩

set_option maxRecDepth 100000 in
set_option maxHeartbeats 4000000 in
theorem sX4_heardAmongBurglars_0 {E : aR} {A : Nat → Nat → Int32} {R : Nat → Nat → Option Nat} {G : Nat → Nat × Nat} (hG : aGS G) (x1 : Int32)
    (h : ∃ (μ1 : aM), CX4_think [.ref 0] (A, R, G) none μ1 ∧ aw tX4_heardAmongBurglars E 4 [some (.ref 0), some (.int x1), none, none, none, none, none, none] [] μ1) :
    aw tX4_heardAmongBurglars E 0 [some (.ref 0), some (.int x1), none, none, none, none, none, none] [] (A, R, G) := by
  obtain ⟨μ1, h1, n, h⟩ := h
  exact ⟨n + 2, Exists.intro _ (Exists.intro _ (Exists.intro _ (Exists.intro _ (And.intro rfl (And.intro (gt0 hG) (And.intro (Nat.le_of_ble_eq_true rfl) (And.intro h1 (h))))))))⟩

set_option maxRecDepth 100000 in
set_option maxHeartbeats 4000000 in
theorem sX4_heardAmongBurglars_4 {E : aR} {A : Nat → Nat → Int32} {R : Nat → Nat → Option Nat} {G : Nat → Nat × Nat} (x1 : Int32) (d2 : Option Value) (d3 : Option Value) (d4 : Option Value) (d5 : Option Value) (d6 : Option Value) (d7 : Option Value)
    (h : aw tX4_heardAmongBurglars E 14 [some (.ref 0), some (.int x1), some (.int 0), some (.long (((x1 : Int32).toInt64) + 1)), none, some (.int 0), d6, d7] [] (A, R, G)) :
    aw tX4_heardAmongBurglars E 4 [some (.ref 0), some (.int x1), d2, d3, d4, d5, d6, d7] [] (A, R, G) := by
  obtain ⟨n, h⟩ := h
  exact ⟨n + 9, h⟩

set_option maxRecDepth 100000 in
set_option maxHeartbeats 4000000 in
theorem sX4_heardAmongBurglars_14 {E : aR} {A : Nat → Nat → Int32} {R : Nat → Nat → Option Nat} {G : Nat → Nat × Nat} (d1 : Option Value) (x2 : Int32) (x3 : Int64) (x5 : Int32) (d6 : Option Value) (d7 : Option Value)
    (h : ((10 ≤ x5) → (E (some (.int x2)) (A, R, G))) ∧ ((¬ (10 ≤ x5)) → (∃ (v1 : Int64) (μ1 : aM), CX4_nextLot [.long x3] (A, R, G) (some (.long v1)) μ1 ∧ aw tX4_heardAmongBurglars E 25 [some (.ref 0), none, some (.int x2), some (.long x3), none, some (.int x5), none, none] [.long v1] μ1))) :
    aw tX4_heardAmongBurglars E 14 [some (.ref 0), d1, some (.int x2), some (.long x3), none, some (.int x5), d6, d7] [] (A, R, G) := by
  by_cases c1 : 10 ≤ x5
  · replace h := h.1 c1
    exact ⟨5, Or.inl (And.intro c1 (h))⟩
  · replace h := h.2 c1
    obtain ⟨v1, μ1, h1, n, h⟩ := h
    exact ⟨n + 5, Or.inr (And.intro c1 (Exists.intro _ (Exists.intro _ (And.intro (Nat.le_of_ble_eq_true rfl) (And.intro (Nat.le_of_ble_eq_true rfl) (And.intro h1 (h)))))))⟩

set_option maxRecDepth 100000 in
set_option maxHeartbeats 4000000 in
theorem sX4_heardAmongBurglars_25 {E : aR} {A : Nat → Nat → Int32} {R : Nat → Nat → Option Nat} {G : Nat → Nat × Nat} (d1 : Option Value) (x2 : Int32) (d3 : Option Value) (x5 : Int32) (d6 : Option Value) (d7 : Option Value) (y0 : Int64)
    (h : ∃ (v1 : Int64) (μ1 : aM), CX4_nextLot [.long y0] (A, R, G) (some (.long v1)) μ1 ∧ aw tX4_heardAmongBurglars E 38 [some (.ref 0), d1, some (.int x2), some (.long y0), none, some (.int x5), some (.int (((y0 - y0 / 6 * 6) : Int64).toInt32)), d7] [.long v1] μ1) :
    aw tX4_heardAmongBurglars E 25 [some (.ref 0), d1, some (.int x2), d3, none, some (.int x5), d6, d7] [.long y0] (A, R, G) := by
  obtain ⟨v1, μ1, h1, n, h⟩ := h
  exact ⟨n + 8, And.intro (by decide) (Exists.intro _ (Exists.intro _ (And.intro (Nat.le_of_ble_eq_true rfl) (And.intro (Nat.le_of_ble_eq_true rfl) (And.intro h1 (h))))))⟩

set_option maxRecDepth 100000 in
set_option maxHeartbeats 4000000 in
theorem sX4_heardAmongBurglars_38 {E : aR} {A : Nat → Nat → Int32} {R : Nat → Nat → Option Nat} {G : Nat → Nat × Nat} (hG : aGS G) (d1 : Option Value) (x2 : Int32) (d3 : Option Value) (x5 : Int32) (x6 : Int32) (d7 : Option Value) (y0 : Int64)
    (h : ((0 ≤ x6 ∧ x6 < A 11 9) → ((vp_in x6 6) ∧ (∃ (v1 : Int32) (μ1 : aM), CX0_passDay [.ref 11] ((au A 14 x6.toNatClampNeg ((A 14 x6.toNatClampNeg) ^^^ ((1 : Int32) <<< ((((y0 - y0 / 10 * 10) : Int64).toInt32) &&& 31)))), R, G) (some (.int v1)) μ1 ∧ aw tX4_heardAmongBurglars E 84 [some (.ref 0), d1, some (.int x2), some (.long y0), none, some (.int x5), some (.int x6), some (.int (((y0 - y0 / 10 * 10) : Int64).toInt32))] [.int v1, .int x2] μ1))) ∧ ((¬ (0 ≤ x6 ∧ x6 < A 11 9)) → (∃ (v1 : Int32) (μ1 : aM), CX0_passDay [.ref 11] (A, R, G) (some (.int v1)) μ1 ∧ aw tX4_heardAmongBurglars E 84 [some (.ref 0), d1, some (.int x2), some (.long y0), none, some (.int x5), some (.int x6), some (.int (((y0 - y0 / 10 * 10) : Int64).toInt32))] [.int v1, .int x2] μ1))) :
    aw tX4_heardAmongBurglars E 38 [some (.ref 0), d1, some (.int x2), d3, none, some (.int x5), some (.int x6), d7] [.long y0] (A, R, G) := by
  by_cases c1 : 0 ≤ x6 ∧ x6 < A 11 9
  · replace h := h.1 c1
    obtain ⟨q2, h⟩ := h
    obtain ⟨v1, μ1, h1, n, h⟩ := h
    exact ⟨n + 26, And.intro (by decide) (And.intro (gt0 hG) (Exists.intro _ (Exists.intro _ (Exists.intro _ (Exists.intro _ (And.intro rfl (And.intro (gt11 hG) (And.intro (Nat.le_of_ble_eq_true rfl) (And.intro (pX0_hasJudge (gB11 hG) _) (Or.inr (And.intro (bI_neq c1) (And.intro (gt0 hG) (And.intro (gt11 hG) (And.intro rfl (And.intro rfl (And.intro (gt14 hG) (And.intro (vin_len (gl14 hG) q2) (And.intro (gt14 hG) (And.intro (vin_len (gl14 hG) q2) (And.intro (gt0 hG) (Exists.intro _ (Exists.intro _ (Exists.intro _ (Exists.intro _ (And.intro rfl (And.intro (gt11 hG) (And.intro (Nat.le_of_ble_eq_true rfl) (And.intro h1 (h)))))))))))))))))))))))))))))⟩
  · replace h := h.2 c1
    obtain ⟨v1, μ1, h1, n, h⟩ := h
    exact ⟨n + 15, And.intro (by decide) (And.intro (gt0 hG) (Exists.intro _ (Exists.intro _ (Exists.intro _ (Exists.intro _ (And.intro rfl (And.intro (gt11 hG) (And.intro (Nat.le_of_ble_eq_true rfl) (And.intro (pX0_hasJudge (gB11 hG) _) (Or.inl (And.intro (bI_eq c1) (And.intro (gt0 hG) (Exists.intro _ (Exists.intro _ (Exists.intro _ (Exists.intro _ (And.intro rfl (And.intro (gt11 hG) (And.intro (Nat.le_of_ble_eq_true rfl) (And.intro h1 (h)))))))))))))))))))))⟩

set_option maxRecDepth 100000 in
set_option maxHeartbeats 4000000 in
theorem sX4_heardAmongBurglars_84 {E : aR} {A : Nat → Nat → Int32} {R : Nat → Nat → Option Nat} {G : Nat → Nat × Nat} (d1 : Option Value) (d2 : Option Value) (x3 : Int64) (x5 : Int32) (d6 : Option Value) (d7 : Option Value) (y0 : Int32) (y1 : Int32)
    (h : aw tX4_heardAmongBurglars E 14 [some (.ref 0), (bif ac2 d1 then none else d1), some (.int (y1 + (popc y0))), some (.long x3), none, some (.int (x5 + 1)), d6, d7] [] (A, R, G)) :
    aw tX4_heardAmongBurglars E 84 [some (.ref 0), d1, d2, some (.long x3), none, some (.int x5), d6, d7] [.int y0, .int y1] (A, R, G) := by
  obtain ⟨n, h⟩ := h
  exact ⟨n + 5, Exists.intro _ (Exists.intro _ (And.intro (Nat.le_of_ble_eq_true rfl) (And.intro (Nat.le_of_ble_eq_true rfl) (And.intro (pJ6_bitCount _) (h)))))⟩
