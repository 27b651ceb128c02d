set_option maxRecDepth 100000 in
set_option maxHeartbeats 4000000 in
theorem sX5_caseSet_0 {E : aR} {A : Nat → Nat → Int32} {R : Nat → Nat → Option Nat} {G : Nat → Nat × Nat}
    (h : aw tX5_caseSet E 4 [some (.ref 48), some (.int 0), some (.int 0)] [] (A, R, G)) :
    aw tX5_caseSet E 0 [some (.ref 48), none, none] [] (A, R, G) := by
  obtain ⟨n, h⟩ := h
  exact ⟨n + 4, h⟩

set_option maxRecDepth 100000 in
set_option maxHeartbeats 4000000 in
theorem sX5_caseSet_4 {E : aR} {A : Nat → Nat → Int32} {R : Nat → Nat → Option Nat} {G : Nat → Nat × Nat} (hG : aGS G) (x1 : Int32) (x2 : Int32)
    (h : ((8 ≤ x2) → (E (some (.int x1)) (A, R, G))) ∧ ((¬ (8 ≤ x2)) → (((thM A x2) → (aw tX5_caseSet E 4 [some (.ref 48), some (.int (x1 ||| (1 <<< (x2 &&& 31)))), some (.int (x2 + 1))] [] (A, R, G))) ∧ ((¬ (thM A x2)) → (aw tX5_caseSet E 4 [some (.ref 48), some (.int (x1 ||| 0)), some (.int (x2 + 1))] [] (A, R, G)))))) :
    aw tX5_caseSet E 4 [some (.ref 48), some (.int x1), some (.int x2)] [] (A, R, G) := by
  by_cases c1 : 8 ≤ x2
  · replace h := h.1 c1
    exact ⟨5, Or.inl (And.intro c1 (h))⟩
  · replace h := h.2 c1
    by_cases c2 : thM A x2
    · replace h := h.1 c2
      obtain ⟨n, h⟩ := h
      exact ⟨n + 16, Or.inr (And.intro c1 (Exists.intro _ (Exists.intro _ (Exists.intro _ (Exists.intro _ (And.intro rfl (And.intro (gt48 hG) (And.intro (Nat.le_of_ble_eq_true rfl) (And.intro (pX5_isThere hG x2) (Or.inr (And.intro (bI_neq c2) (h))))))))))))⟩
    · replace h := h.2 c2
      obtain ⟨n, h⟩ := h
      exact ⟨n + 13, Or.inr (And.intro c1 (Exists.intro _ (Exists.intro _ (Exists.intro _ (Exists.intro _ (And.intro rfl (And.intro (gt48 hG) (And.intro (Nat.le_of_ble_eq_true rfl) (And.intro (pX5_isThere hG x2) (Or.inl (And.intro (bI_eq c2) (h))))))))))))⟩
