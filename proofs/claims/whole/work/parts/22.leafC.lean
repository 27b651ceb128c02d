section LF3
variable {A : Nat → Nat → Int32} {R : Nat → Nat → Option Nat} {G : Nat → Nat × Nat}
theorem lX5_caseSet {E : aR} (hG : aGS G) (hE : E (some (.int (csM A))) (A, R, G)) : ∀ n k, k + n = 8 → aw tX5_caseSet E 4 [some (.ref 48), some (.int (csN A k)), some (.int (nI k))] [] (A, R, G)
  | 0, k, h => sX5_caseSet_4 hG _ _ ⟨fun _ => by
      have hk : k = 8 := by omega
      subst hk
      exact hE, fun q => absurd (nI_le (a := 8) (b := k) (by omega) (by omega)) q⟩
  | n + 1, k, h => sX5_caseSet_4 hG _ _ ⟨fun q => absurd q (nI_ge (a := k) (b := 8) (by omega) (by omega)), fun _ => by
      have ih := lX5_caseSet hG hE n (k + 1) (by omega)
      refine ⟨fun h1 => ?_, fun h1 => ?_⟩
      · rw [nI_1]
        obtain ⟨j, hj, e, h2⟩ := h1
        rw [nI_eq (by omega) (by omega)] at e
        subst e
        unfold csN at ih
        rw [if_neg h2] at ih
        exact ih
      · rw [nI_1]
        have h2 : A 52 (3 * k) = 0 := Classical.byContradiction fun q => h1 ⟨k, by omega, rfl, q⟩
        unfold csN at ih
        rw [if_pos h2] at ih
        exact ih⟩
theorem pX5_caseSet (hG : aGS G) : CX5_caseSet [.ref 48] (A, R, G) (some (.int (csM A))) (A, R, G) := aC_of (Nat.le_of_ble_eq_true rfl) fun E hE => sX5_caseSet_0 (lX5_caseSet hG hE 8 0 rfl)
end LF3
