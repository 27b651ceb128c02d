set_option maxRecDepth 100000 in
set_option maxHeartbeats 4000000 in
theorem sX4_isSet_0 {E : aR} {A : Nat → Nat → Int32} {R : Nat → Nat → Option Nat} {G : Nat → Nat × Nat} (x0 : Int32)
    (h : E (some (.int (bI (0 ≤ x0 ∧ x0 ≤ 1023)))) (A, R, G)) :
    aw tX4_isSet E 0 [some (.int x0)] [] (A, R, G) := by
  exact ⟨5, Exists.intro _ (Exists.intro _ (And.intro (Nat.le_of_ble_eq_true rfl) (And.intro (Nat.le_of_ble_eq_true rfl) (And.intro (pX4_within x0 0 1023) (And.intro (bI_01 _) (h))))))⟩

set_option maxRecDepth 100000 in
set_option maxHeartbeats 4000000 in
theorem sX4_isByte_0 {E : aR} {A : Nat → Nat → Int32} {R : Nat → Nat → Option Nat} {G : Nat → Nat × Nat} (x0 : Int32)
    (h : E (some (.int (bI (0 ≤ x0 ∧ x0 ≤ 255)))) (A, R, G)) :
    aw tX4_isByte E 0 [some (.int x0)] [] (A, R, G) := by
  exact ⟨5, Exists.intro _ (Exists.intro _ (And.intro (Nat.le_of_ble_eq_true rfl) (And.intro (Nat.le_of_ble_eq_true rfl) (And.intro (pX4_within x0 0 255) (And.intro (bI_01 _) (h))))))⟩

set_option maxRecDepth 100000 in
set_option maxHeartbeats 4000000 in
theorem sX5_isByte_0 {E : aR} {A : Nat → Nat → Int32} {R : Nat → Nat → Option Nat} {G : Nat → Nat × Nat} (x0 : Int32)
    (h : E (some (.int (bI (0 ≤ x0 ∧ x0 ≤ 255)))) (A, R, G)) :
    aw tX5_isByte E 0 [some (.int x0)] [] (A, R, G) := by
  exact ⟨5, Exists.intro _ (Exists.intro _ (And.intro (Nat.le_of_ble_eq_true rfl) (And.intro (Nat.le_of_ble_eq_true rfl) (And.intro (pX5_in x0 0 255) (And.intro (bI_01 _) (h))))))⟩

set_option maxRecDepth 100000 in
set_option maxHeartbeats 4000000 in
theorem sX5_isOne_0 {E : aR} {A : Nat → Nat → Int32} {R : Nat → Nat → Option Nat} {G : Nat → Nat × Nat} (hG : aGS G) (x1 : Int32)
    (h : E (some (.int (bI (0 ≤ x1 ∧ x1 ≤ ((A 48 0) - 1))))) (A, R, G)) :
    aw tX5_isOne E 0 [some (.ref 48), some (.int x1)] [] (A, R, G) := by
  exact ⟨8, And.intro (gt48 hG) (Exists.intro _ (Exists.intro _ (And.intro (Nat.le_of_ble_eq_true rfl) (And.intro (Nat.le_of_ble_eq_true rfl) (And.intro (pX5_in x1 0 ((A 48 0) - 1)) (And.intro (bI_01 _) (h)))))))⟩

set_option maxRecDepth 100000 in
set_option maxHeartbeats 4000000 in
theorem sX5_isThere_0 {E : aR} {A : Nat → Nat → Int32} {R : Nat → Nat → Option Nat} {G : Nat → Nat × Nat} (hG : aGS G) (x1 : Int32)
    (h : ((0 ≤ x1 ∧ x1 ≤ 7) → ((vp_in (3 * (clI x1 0 7)) 24) ∧ ((((A 52 (3 * (clI x1 0 7)).toNatClampNeg) = 0) → (E (some (.int 0)) (A, R, G))) ∧ ((¬ ((A 52 (3 * (clI x1 0 7)).toNatClampNeg) = 0)) → (E (some (.int 1)) (A, R, G)))))) ∧ ((¬ (0 ≤ x1 ∧ x1 ≤ 7)) → (E (some (.int 0)) (A, R, G)))) :
    aw tX5_isThere E 0 [some (.ref 48), some (.int x1)] [] (A, R, G) := by
  by_cases c1 : 0 ≤ x1 ∧ x1 ≤ 7
  · replace h := h.1 c1
    obtain ⟨q2, h⟩ := h
    by_cases c3 : (A 52 (3 * (clI x1 0 7)).toNatClampNeg) = 0
    · replace h := h.1 c3
      exact ⟨17, Exists.intro _ (Exists.intro _ (And.intro (Nat.le_of_ble_eq_true rfl) (And.intro (Nat.le_of_ble_eq_true rfl) (And.intro (pX5_in x1 0 7) (Or.inr (And.intro (bI_neq c1) (And.intro (gt48 hG) (Exists.intro _ (Exists.intro _ (And.intro (Nat.le_of_ble_eq_true rfl) (And.intro (Nat.le_of_ble_eq_true rfl) (And.intro (pX5_within x1 0 7) (And.intro (gt52 hG) (And.intro (vin_len (gl52 hG) q2) (Or.inl (And.intro c3 (And.intro (Or.inl rfl) (h))))))))))))))))))⟩
    · replace h := h.2 c3
      exact ⟨18, Exists.intro _ (Exists.intro _ (And.intro (Nat.le_of_ble_eq_true rfl) (And.intro (Nat.le_of_ble_eq_true rfl) (And.intro (pX5_in x1 0 7) (Or.inr (And.intro (bI_neq c1) (And.intro (gt48 hG) (Exists.intro _ (Exists.intro _ (And.intro (Nat.le_of_ble_eq_true rfl) (And.intro (Nat.le_of_ble_eq_true rfl) (And.intro (pX5_within x1 0 7) (And.intro (gt52 hG) (And.intro (vin_len (gl52 hG) q2) (Or.inr (And.intro c3 (And.intro (Or.inr rfl) (h))))))))))))))))))⟩
  · replace h := h.2 c1
    exact ⟨7, Exists.intro _ (Exists.intro _ (And.intro (Nat.le_of_ble_eq_true rfl) (And.intro (Nat.le_of_ble_eq_true rfl) (And.intro (pX5_in x1 0 7) (Or.inl (And.intro (bI_eq c1) (And.intro (Or.inl rfl) (h))))))))⟩
