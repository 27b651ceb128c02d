set_option maxRecDepth 100000 in
set_option maxHeartbeats 4000000 in
theorem sX5_count_0 {E : aR} {A : Nat → Nat → Int32} {R : Nat → Nat → Option Nat} {G : Nat → Nat × Nat} (hG : aGS G) (x1 : Int32)
    (h : ((x1 = 0) → (E (some (.int (A 48 0))) (A, R, G))) ∧ ((¬ (x1 = 0)) → (((x1 = 1) → (E (some (.int (ones (csM A)))) (A, R, G))) ∧ ((¬ (x1 = 1)) → (((x1 = 2) → (E (some (.int (A 48 6))) (A, R, G))) ∧ ((¬ (x1 = 2)) → (((x1 = 3) → (E (some (.int (A 48 11))) (A, R, G))) ∧ ((¬ (x1 = 3)) → (((x1 = 4) → (E (some (.int (A 48 12))) (A, R, G))) ∧ ((¬ (x1 = 4)) → (((x1 = 5) → (E (some (.int (A 48 8))) (A, R, G))) ∧ ((¬ (x1 = 5)) → (((x1 = 6) → (E (some (.int (A 48 5))) (A, R, G))) ∧ ((¬ (x1 = 6)) → (E (some (.int (-2))) (A, R, G)))))))))))))))) :
    aw tX5_count E 0 [some (.ref 48), some (.int x1)] [] (A, R, G) := by
  by_cases c1 : x1 = 0
  · replace h := h.1 c1
    exact ⟨5, Or.inl (And.intro c1 (And.intro (gt48 hG) (h)))⟩
  · replace h := h.2 c1
    by_cases c2 : x1 = 1
    · replace h := h.1 c2
      exact ⟨6, Or.inr (And.intro c1 (Or.inl (And.intro c2 (Exists.intro _ (Exists.intro _ (Exists.intro _ (Exists.intro _ (And.intro rfl (And.intro (gt48 hG) (And.intro (Nat.le_of_ble_eq_true rfl) (And.intro (pX5_caseSet hG ) (Exists.intro _ (Exists.intro _ (And.intro (Nat.le_of_ble_eq_true rfl) (And.intro (Nat.le_of_ble_eq_true rfl) (And.intro (pX5_onesOf _) (h)))))))))))))))))⟩
    · replace h := h.2 c2
      by_cases c3 : x1 = 2
      · replace h := h.1 c3
        exact ⟨5, Or.inr (And.intro c1 (Or.inr (And.intro c2 (Or.inl (And.intro c3 (And.intro (gt48 hG) (h)))))))⟩
      · replace h := h.2 c3
        by_cases c4 : x1 = 3
        · replace h := h.1 c4
          exact ⟨5, Or.inr (And.intro c1 (Or.inr (And.intro c2 (Or.inr (And.intro c3 (Or.inl (And.intro c4 (And.intro (gt48 hG) (h)))))))))⟩
        · replace h := h.2 c4
          by_cases c5 : x1 = 4
          · replace h := h.1 c5
            exact ⟨5, Or.inr (And.intro c1 (Or.inr (And.intro c2 (Or.inr (And.intro c3 (Or.inr (And.intro c4 (Or.inl (And.intro c5 (And.intro (gt48 hG) (h)))))))))))⟩
          · replace h := h.2 c5
            by_cases c6 : x1 = 5
            · replace h := h.1 c6
              exact ⟨5, Or.inr (And.intro c1 (Or.inr (And.intro c2 (Or.inr (And.intro c3 (Or.inr (And.intro c4 (Or.inr (And.intro c5 (Or.inl (And.intro c6 (And.intro (gt48 hG) (h)))))))))))))⟩
            · replace h := h.2 c6
              by_cases c7 : x1 = 6
              · replace h := h.1 c7
                exact ⟨5, Or.inr (And.intro c1 (Or.inr (And.intro c2 (Or.inr (And.intro c3 (Or.inr (And.intro c4 (Or.inr (And.intro c5 (Or.inr (And.intro c6 (Or.inl (And.intro c7 (And.intro (gt48 hG) (h)))))))))))))))⟩
              · replace h := h.2 c7
                exact ⟨4, Or.inr (And.intro c1 (Or.inr (And.intro c2 (Or.inr (And.intro c3 (Or.inr (And.intro c4 (Or.inr (And.intro c5 (Or.inr (And.intro c6 (Or.inr (And.intro c7 (h))))))))))))))⟩

set_option maxRecDepth 100000 in
set_option maxHeartbeats 4000000 in
theorem sX5_dawn_0 {E : aR} {A : Nat → Nat → Int32} {R : Nat → Nat → Option Nat} {G : Nat → Nat × Nat} (hG : aGS G) (x1 : Int32)
    (h : ((0 ≤ x1 ∧ x1 ≤ 999) → (E (some (.int (A 48 5))) ((au A 48 5 x1), R, G))) ∧ ((¬ (0 ≤ x1 ∧ x1 ≤ 999)) → (E (some (.int (-2))) (A, R, G)))) :
    aw tX5_dawn E 0 [some (.ref 48), some (.int x1), none] [] (A, R, G) := by
  by_cases c1 : 0 ≤ x1 ∧ x1 ≤ 999
  · replace h := h.1 c1
    exact ⟨13, Exists.intro _ (Exists.intro _ (And.intro (Nat.le_of_ble_eq_true rfl) (And.intro (Nat.le_of_ble_eq_true rfl) (And.intro (pX5_in _ _ _) (Or.inl (And.intro (bI_ne c1) (And.intro (gt48 hG) (And.intro (gt48 hG) (h)))))))))⟩
  · replace h := h.2 c1
    exact ⟨7, Exists.intro _ (Exists.intro _ (And.intro (Nat.le_of_ble_eq_true rfl) (And.intro (Nat.le_of_ble_eq_true rfl) (And.intro (pX5_in _ _ _) (Or.inr (And.intro (bI_nne c1) (h)))))))⟩

set_option maxRecDepth 100000 in
set_option maxHeartbeats 4000000 in
theorem sX5_feed_0 {E : aR} {A : Nat → Nat → Int32} {R : Nat → Nat → Option Nat} {G : Nat → Nat × Nat} (hG : aGS G) (x1 : Int32) (x2 : Int32) (x3 : Int32) (x4 : Int32) (x5 : Int32) (x6 : Int32)
    (h : ((1 ≤ x1 ∧ x1 ≤ 5) → (((0 ≤ x2 ∧ x2 ≤ 255) → (((0 ≤ x3 ∧ x3 ≤ 255) → (((0 ≤ x4 ∧ x4 ≤ 255) → (((0 ≤ x5 ∧ x5 ≤ 255) → (((0 ≤ x6 ∧ x6 ≤ 255) → (((((A 48 8) + x1) ≤ 160) → (aw tX5_feed E 68 [some (.ref 48), some (.int x1), some (.int x2), some (.int x3), some (.int x4), some (.int x5), some (.int x6), some (.int 0)] [] (A, R, G))) ∧ ((¬ (((A 48 8) + x1) ≤ 160)) → (E (some (.int (-4))) (A, R, G))))) ∧ ((¬ (0 ≤ x6 ∧ x6 ≤ 255)) → (E (some (.int (-2))) (A, R, G))))) ∧ ((¬ (0 ≤ x5 ∧ x5 ≤ 255)) → (E (some (.int (-2))) (A, R, G))))) ∧ ((¬ (0 ≤ x4 ∧ x4 ≤ 255)) → (E (some (.int (-2))) (A, R, G))))) ∧ ((¬ (0 ≤ x3 ∧ x3 ≤ 255)) → (E (some (.int (-2))) (A, R, G))))) ∧ ((¬ (0 ≤ x2 ∧ x2 ≤ 255)) → (E (some (.int (-2))) (A, R, G))))) ∧ ((¬ (1 ≤ x1 ∧ x1 ≤ 5)) → (E (some (.int (-2))) (A, R, G)))) :
    aw tX5_feed E 0 [some (.ref 48), some (.int x1), some (.int x2), some (.int x3), some (.int x4), some (.int x5), some (.int x6), none] [] (A, R, G) := by
  by_cases c1 : 1 ≤ x1 ∧ x1 ≤ 5
  · replace h := h.1 c1
    by_cases c2 : 0 ≤ x2 ∧ x2 ≤ 255
    · replace h := h.1 c2
      by_cases c3 : 0 ≤ x3 ∧ x3 ≤ 255
      · replace h := h.1 c3
        by_cases c4 : 0 ≤ x4 ∧ x4 ≤ 255
        · replace h := h.1 c4
          by_cases c5 : 0 ≤ x5 ∧ x5 ≤ 255
          · replace h := h.1 c5
            by_cases c6 : 0 ≤ x6 ∧ x6 ≤ 255
            · replace h := h.1 c6
              by_cases c7 : ((A 48 8) + x1) ≤ 160
              · replace h := h.1 c7
                obtain ⟨n, h⟩ := h
                exact ⟨n + 28, Exists.intro _ (Exists.intro _ (And.intro (Nat.le_of_ble_eq_true rfl) (And.intro (Nat.le_of_ble_eq_true rfl) (And.intro (pX5_in _ _ _) (Or.inr (And.intro (bI_neq c1) (Exists.intro _ (Exists.intro _ (And.intro (Nat.le_of_ble_eq_true rfl) (And.intro (Nat.le_of_ble_eq_true rfl) (And.intro (pX5_isByte _) (Or.inr (And.intro (bI_neq c2) (Exists.intro _ (Exists.intro _ (And.intro (Nat.le_of_ble_eq_true rfl) (And.intro (Nat.le_of_ble_eq_true rfl) (And.intro (pX5_isByte _) (Or.inr (And.intro (bI_neq c3) (Exists.intro _ (Exists.intro _ (And.intro (Nat.le_of_ble_eq_true rfl) (And.intro (Nat.le_of_ble_eq_true rfl) (And.intro (pX5_isByte _) (Or.inr (And.intro (bI_neq c4) (Exists.intro _ (Exists.intro _ (And.intro (Nat.le_of_ble_eq_true rfl) (And.intro (Nat.le_of_ble_eq_true rfl) (And.intro (pX5_isByte _) (Or.inr (And.intro (bI_neq c5) (Exists.intro _ (Exists.intro _ (And.intro (Nat.le_of_ble_eq_true rfl) (And.intro (Nat.le_of_ble_eq_true rfl) (And.intro (pX5_isByte _) (Or.inl (And.intro (bI_ne c6) (And.intro (gt48 hG) (Or.inl (And.intro c7 (h)))))))))))))))))))))))))))))))))))))))))))))⟩
              · replace h := h.2 c7
                exact ⟨28, Exists.intro _ (Exists.intro _ (And.intro (Nat.le_of_ble_eq_true rfl) (And.intro (Nat.le_of_ble_eq_true rfl) (And.intro (pX5_in _ _ _) (Or.inr (And.intro (bI_neq c1) (Exists.intro _ (Exists.intro _ (And.intro (Nat.le_of_ble_eq_true rfl) (And.intro (Nat.le_of_ble_eq_true rfl) (And.intro (pX5_isByte _) (Or.inr (And.intro (bI_neq c2) (Exists.intro _ (Exists.intro _ (And.intro (Nat.le_of_ble_eq_true rfl) (And.intro (Nat.le_of_ble_eq_true rfl) (And.intro (pX5_isByte _) (Or.inr (And.intro (bI_neq c3) (Exists.intro _ (Exists.intro _ (And.intro (Nat.le_of_ble_eq_true rfl) (And.intro (Nat.le_of_ble_eq_true rfl) (And.intro (pX5_isByte _) (Or.inr (And.intro (bI_neq c4) (Exists.intro _ (Exists.intro _ (And.intro (Nat.le_of_ble_eq_true rfl) (And.intro (Nat.le_of_ble_eq_true rfl) (And.intro (pX5_isByte _) (Or.inr (And.intro (bI_neq c5) (Exists.intro _ (Exists.intro _ (And.intro (Nat.le_of_ble_eq_true rfl) (And.intro (Nat.le_of_ble_eq_true rfl) (And.intro (pX5_isByte _) (Or.inl (And.intro (bI_ne c6) (And.intro (gt48 hG) (Or.inr (And.intro c7 (h)))))))))))))))))))))))))))))))))))))))))))))⟩
            · replace h := h.2 c6
              exact ⟨22, Exists.intro _ (Exists.intro _ (And.intro (Nat.le_of_ble_eq_true rfl) (And.intro (Nat.le_of_ble_eq_true rfl) (And.intro (pX5_in _ _ _) (Or.inr (And.intro (bI_neq c1) (Exists.intro _ (Exists.intro _ (And.intro (Nat.le_of_ble_eq_true rfl) (And.intro (Nat.le_of_ble_eq_true rfl) (And.intro (pX5_isByte _) (Or.inr (And.intro (bI_neq c2) (Exists.intro _ (Exists.intro _ (And.intro (Nat.le_of_ble_eq_true rfl) (And.intro (Nat.le_of_ble_eq_true rfl) (And.intro (pX5_isByte _) (Or.inr (And.intro (bI_neq c3) (Exists.intro _ (Exists.intro _ (And.intro (Nat.le_of_ble_eq_true rfl) (And.intro (Nat.le_of_ble_eq_true rfl) (And.intro (pX5_isByte _) (Or.inr (And.intro (bI_neq c4) (Exists.intro _ (Exists.intro _ (And.intro (Nat.le_of_ble_eq_true rfl) (And.intro (Nat.le_of_ble_eq_true rfl) (And.intro (pX5_isByte _) (Or.inr (And.intro (bI_neq c5) (Exists.intro _ (Exists.intro _ (And.intro (Nat.le_of_ble_eq_true rfl) (And.intro (Nat.le_of_ble_eq_true rfl) (And.intro (pX5_isByte _) (Or.inr (And.intro (bI_nne c6) (h))))))))))))))))))))))))))))))))))))))))))⟩
          · replace h := h.2 c5
            exact ⟨19, Exists.intro _ (Exists.intro _ (And.intro (Nat.le_of_ble_eq_true rfl) (And.intro (Nat.le_of_ble_eq_true rfl) (And.intro (pX5_in _ _ _) (Or.inr (And.intro (bI_neq c1) (Exists.intro _ (Exists.intro _ (And.intro (Nat.le_of_ble_eq_true rfl) (And.intro (Nat.le_of_ble_eq_true rfl) (And.intro (pX5_isByte _) (Or.inr (And.intro (bI_neq c2) (Exists.intro _ (Exists.intro _ (And.intro (Nat.le_of_ble_eq_true rfl) (And.intro (Nat.le_of_ble_eq_true rfl) (And.intro (pX5_isByte _) (Or.inr (And.intro (bI_neq c3) (Exists.intro _ (Exists.intro _ (And.intro (Nat.le_of_ble_eq_true rfl) (And.intro (Nat.le_of_ble_eq_true rfl) (And.intro (pX5_isByte _) (Or.inr (And.intro (bI_neq c4) (Exists.intro _ (Exists.intro _ (And.intro (Nat.le_of_ble_eq_true rfl) (And.intro (Nat.le_of_ble_eq_true rfl) (And.intro (pX5_isByte _) (Or.inl (And.intro (bI_eq c5) (h)))))))))))))))))))))))))))))))))))⟩
        · replace h := h.2 c4
          exact ⟨16, Exists.intro _ (Exists.intro _ (And.intro (Nat.le_of_ble_eq_true rfl) (And.intro (Nat.le_of_ble_eq_true rfl) (And.intro (pX5_in _ _ _) (Or.inr (And.intro (bI_neq c1) (Exists.intro _ (Exists.intro _ (And.intro (Nat.le_of_ble_eq_true rfl) (And.intro (Nat.le_of_ble_eq_true rfl) (And.intro (pX5_isByte _) (Or.inr (And.intro (bI_neq c2) (Exists.intro _ (Exists.intro _ (And.intro (Nat.le_of_ble_eq_true rfl) (And.intro (Nat.le_of_ble_eq_true rfl) (And.intro (pX5_isByte _) (Or.inr (And.intro (bI_neq c3) (Exists.intro _ (Exists.intro _ (And.intro (Nat.le_of_ble_eq_true rfl) (And.intro (Nat.le_of_ble_eq_true rfl) (And.intro (pX5_isByte _) (Or.inl (And.intro (bI_eq c4) (h))))))))))))))))))))))))))))⟩
      · replace h := h.2 c3
        exact ⟨13, Exists.intro _ (Exists.intro _ (And.intro (Nat.le_of_ble_eq_true rfl) (And.intro (Nat.le_of_ble_eq_true rfl) (And.intro (pX5_in _ _ _) (Or.inr (And.intro (bI_neq c1) (Exists.intro _ (Exists.intro _ (And.intro (Nat.le_of_ble_eq_true rfl) (And.intro (Nat.le_of_ble_eq_true rfl) (And.intro (pX5_isByte _) (Or.inr (And.intro (bI_neq c2) (Exists.intro _ (Exists.intro _ (And.intro (Nat.le_of_ble_eq_true rfl) (And.intro (Nat.le_of_ble_eq_true rfl) (And.intro (pX5_isByte _) (Or.inl (And.intro (bI_eq c3) (h)))))))))))))))))))))⟩
    · replace h := h.2 c2
      exact ⟨10, Exists.intro _ (Exists.intro _ (And.intro (Nat.le_of_ble_eq_true rfl) (And.intro (Nat.le_of_ble_eq_true rfl) (And.intro (pX5_in _ _ _) (Or.inr (And.intro (bI_neq c1) (Exists.intro _ (Exists.intro _ (And.intro (Nat.le_of_ble_eq_true rfl) (And.intro (Nat.le_of_ble_eq_true rfl) (And.intro (pX5_isByte _) (Or.inl (And.intro (bI_eq c2) (h))))))))))))))⟩
  · replace h := h.2 c1
    exact ⟨7, Exists.intro _ (Exists.intro _ (And.intro (Nat.le_of_ble_eq_true rfl) (And.intro (Nat.le_of_ble_eq_true rfl) (And.intro (pX5_in _ _ _) (Or.inl (And.intro (bI_eq c1) (h)))))))⟩

set_option maxRecDepth 100000 in
set_option maxHeartbeats 4000000 in
theorem sX5_feed_68 {E : aR} {A : Nat → Nat → Int32} {R : Nat → Nat → Option Nat} {G : Nat → Nat × Nat} (hG : aGS G) (x1 : Int32) (x2 : Int32) (x3 : Int32) (x4 : Int32) (x5 : Int32) (x6 : Int32) (x7 : Int32)
    (h : ((x1 ≤ x7) → (E (some (.int (A 48 8))) (A, R, G))) ∧ ((¬ (x1 ≤ x7)) → (((x7 = 0) → ((vp_in (A 48 8) 160) ∧ (aw tX5_feed E 68 [some (.ref 48), some (.int x1), some (.int x2), some (.int x3), some (.int x4), some (.int x5), some (.int x6), some (.int (x7 + 1))] [] ((au (au A 53 (A 48 8).toNatClampNeg x2) 48 8 ((((au A 53 (A 48 8).toNatClampNeg x2)) 48 8) + 1)), R, G)))) ∧ ((¬ (x7 = 0)) → (((x7 = 1) → ((vp_in (A 48 8) 160) ∧ (aw tX5_feed E 68 [some (.ref 48), some (.int x1), some (.int x2), some (.int x3), some (.int x4), some (.int x5), some (.int x6), some (.int (x7 + 1))] [] ((au (au A 53 (A 48 8).toNatClampNeg x3) 48 8 ((((au A 53 (A 48 8).toNatClampNeg x3)) 48 8) + 1)), R, G)))) ∧ ((¬ (x7 = 1)) → (((x7 = 2) → ((vp_in (A 48 8) 160) ∧ (aw tX5_feed E 68 [some (.ref 48), some (.int x1), some (.int x2), some (.int x3), some (.int x4), some (.int x5), some (.int x6), some (.int (x7 + 1))] [] ((au (au A 53 (A 48 8).toNatClampNeg x4) 48 8 ((((au A 53 (A 48 8).toNatClampNeg x4)) 48 8) + 1)), R, G)))) ∧ ((¬ (x7 = 2)) → (((x7 = 3) → ((vp_in (A 48 8) 160) ∧ (aw tX5_feed E 68 [some (.ref 48), some (.int x1), some (.int x2), some (.int x3), some (.int x4), some (.int x5), some (.int x6), some (.int (x7 + 1))] [] ((au (au A 53 (A 48 8).toNatClampNeg x5) 48 8 ((((au A 53 (A 48 8).toNatClampNeg x5)) 48 8) + 1)), R, G)))) ∧ ((¬ (x7 = 3)) → ((vp_in (A 48 8) 160) ∧ (aw tX5_feed E 68 [some (.ref 48), some (.int x1), some (.int x2), some (.int x3), some (.int x4), some (.int x5), some (.int x6), some (.int (x7 + 1))] [] ((au (au A 53 (A 48 8).toNatClampNeg x6) 48 8 ((((au A 53 (A 48 8).toNatClampNeg x6)) 48 8) + 1)), R, G))))))))))))) :
    aw tX5_feed E 68 [some (.ref 48), some (.int x1), some (.int x2), some (.int x3), some (.int x4), some (.int x5), some (.int x6), some (.int x7)] [] (A, R, G) := by
  by_cases c1 : x1 ≤ x7
  · replace h := h.1 c1
    exact ⟨6, Or.inl (And.intro c1 (And.intro (gt48 hG) (h)))⟩
  · replace h := h.2 c1
    by_cases c2 : x7 = 0
    · replace h := h.1 c2
      obtain ⟨q3, h⟩ := h
      obtain ⟨n, h⟩ := h
      exact ⟨n + 20, Or.inr (And.intro c1 (And.intro (gt48 hG) (And.intro (gt48 hG) (Or.inr (And.intro (fun z => z c2) (And.intro (gt53 hG) (And.intro (vin_len (gl53 hG) q3) (And.intro rfl (And.intro (gt48 hG) (And.intro (gt48 hG) (h)))))))))))⟩
    · replace h := h.2 c2
      by_cases c4 : x7 = 1
      · replace h := h.1 c4
        obtain ⟨q5, h⟩ := h
        obtain ⟨n, h⟩ := h
        exact ⟨n + 23, Or.inr (And.intro c1 (And.intro (gt48 hG) (And.intro (gt48 hG) (Or.inl (And.intro c2 (Or.inr (And.intro (fun z => z c4) (And.intro (gt53 hG) (And.intro (vin_len (gl53 hG) q5) (And.intro rfl (And.intro (gt48 hG) (And.intro (gt48 hG) (h)))))))))))))⟩
      · replace h := h.2 c4
        by_cases c6 : x7 = 2
        · replace h := h.1 c6
          obtain ⟨q7, h⟩ := h
          obtain ⟨n, h⟩ := h
          exact ⟨n + 26, Or.inr (And.intro c1 (And.intro (gt48 hG) (And.intro (gt48 hG) (Or.inl (And.intro c2 (Or.inl (And.intro c4 (Or.inr (And.intro (fun z => z c6) (And.intro (gt53 hG) (And.intro (vin_len (gl53 hG) q7) (And.intro rfl (And.intro (gt48 hG) (And.intro (gt48 hG) (h)))))))))))))))⟩
        · replace h := h.2 c6
          by_cases c8 : x7 = 3
          · replace h := h.1 c8
            obtain ⟨q9, h⟩ := h
            obtain ⟨n, h⟩ := h
            exact ⟨n + 29, Or.inr (And.intro c1 (And.intro (gt48 hG) (And.intro (gt48 hG) (Or.inl (And.intro c2 (Or.inl (And.intro c4 (Or.inl (And.intro c6 (Or.inr (And.intro (fun z => z c8) (And.intro (gt53 hG) (And.intro (vin_len (gl53 hG) q9) (And.intro rfl (And.intro (gt48 hG) (And.intro (gt48 hG) (h)))))))))))))))))⟩
          · replace h := h.2 c8
            obtain ⟨q10, h⟩ := h
            obtain ⟨n, h⟩ := h
            exact ⟨n + 28, Or.inr (And.intro c1 (And.intro (gt48 hG) (And.intro (gt48 hG) (Or.inl (And.intro c2 (Or.inl (And.intro c4 (Or.inl (And.intro c6 (Or.inl (And.intro c8 (And.intro (gt53 hG) (And.intro (vin_len (gl53 hG) q10) (And.intro rfl (And.intro (gt48 hG) (And.intro (gt48 hG) (h)))))))))))))))))⟩

set_option maxRecDepth 100000 in
set_option maxHeartbeats 4000000 in
theorem sX5_force_0 {E : aR} {A : Nat → Nat → Int32} {R : Nat → Nat → Option Nat} {G : Nat → Nat × Nat} (hG : aGS G) (x1 : Int32)
    (h : ((0 ≤ x1 ∧ x1 ≤ ((A 48 11) - 1)) → (E (some (.int (A 48 12))) ((au A 48 12 x1), R, G))) ∧ ((¬ (0 ≤ x1 ∧ x1 ≤ ((A 48 11) - 1))) → (E (some (.int (-2))) (A, R, G)))) :
    aw tX5_force E 0 [some (.ref 48), some (.int x1), none] [] (A, R, G) := by
  by_cases c1 : 0 ≤ x1 ∧ x1 ≤ ((A 48 11) - 1)
  · replace h := h.1 c1
    exact ⟨16, And.intro (gt48 hG) (Exists.intro _ (Exists.intro _ (And.intro (Nat.le_of_ble_eq_true rfl) (And.intro (Nat.le_of_ble_eq_true rfl) (And.intro (pX5_in _ _ _) (Or.inl (And.intro (bI_ne c1) (And.intro (gt48 hG) (And.intro (gt48 hG) (h))))))))))⟩
  · replace h := h.2 c1
    exact ⟨10, And.intro (gt48 hG) (Exists.intro _ (Exists.intro _ (And.intro (Nat.le_of_ble_eq_true rfl) (And.intro (Nat.le_of_ble_eq_true rfl) (And.intro (pX5_in _ _ _) (Or.inr (And.intro (bI_nne c1) (h))))))))⟩

set_option maxRecDepth 100000 in
set_option maxHeartbeats 4000000 in
theorem sX5_asks_0 {E : aR} {A : Nat → Nat → Int32} {R : Nat → Nat → Option Nat} {G : Nat → Nat × Nat} (hG : aGS G) (x1 : Int32) (x2 : Int32) (x3 : Int32)
    (h : ((0 ≤ x1 ∧ x1 ≤ 2) → (((0 ≤ x2 ∧ x2 ≤ A 48 0 - 1) → (((thM A x3) → (∃ (v1 : Int32) (μ1 : aM), CX5_asksOf [.ref 48, .int x1, .int x2, .int x3] (A, R, G) (some (.int v1)) μ1 ∧ aw tX5_asks E 32 [some (.ref 48), some (.int x1), some (.int x2), some (.int x3)] [.int v1] μ1)) ∧ ((¬ (thM A x3)) → (E (some (.int (-1000))) (A, R, G))))) ∧ ((¬ (0 ≤ x2 ∧ x2 ≤ A 48 0 - 1)) → (E (some (.int (-1000))) (A, R, G))))) ∧ ((¬ (0 ≤ x1 ∧ x1 ≤ 2)) → (E (some (.int (-1000))) (A, R, G)))) :
    aw tX5_asks E 0 [some (.ref 48), some (.int x1), some (.int x2), some (.int x3)] [] (A, R, G) := by
  by_cases c1 : 0 ≤ x1 ∧ x1 ≤ 2
  · replace h := h.1 c1
    by_cases c2 : 0 ≤ x2 ∧ x2 ≤ A 48 0 - 1
    · replace h := h.1 c2
      by_cases c3 : thM A x3
      · replace h := h.1 c3
        obtain ⟨v1, μ1, h1, n, h⟩ := h
        exact ⟨n + 18, Exists.intro _ (Exists.intro _ (And.intro (Nat.le_of_ble_eq_true rfl) (And.intro (Nat.le_of_ble_eq_true rfl) (And.intro (pX5_in _ _ _) (Or.inr (And.intro (bI_neq c1) (Exists.intro _ (Exists.intro _ (Exists.intro _ (Exists.intro _ (And.intro rfl (And.intro (gt48 hG) (And.intro (Nat.le_of_ble_eq_true rfl) (And.intro (pX5_isOne hG _) (Or.inr (And.intro (bI_neq c2) (Exists.intro _ (Exists.intro _ (Exists.intro _ (Exists.intro _ (And.intro rfl (And.intro (gt48 hG) (And.intro (Nat.le_of_ble_eq_true rfl) (And.intro (pX5_isThere hG _) (Or.inr (And.intro (bI_neq c3) (Exists.intro _ (Exists.intro _ (Exists.intro _ (Exists.intro _ (And.intro rfl (And.intro (gt48 hG) (And.intro (Nat.le_of_ble_eq_true rfl) (And.intro h1 (h)))))))))))))))))))))))))))))))))))⟩
      · replace h := h.2 c3
        exact ⟨15, Exists.intro _ (Exists.intro _ (And.intro (Nat.le_of_ble_eq_true rfl) (And.intro (Nat.le_of_ble_eq_true rfl) (And.intro (pX5_in _ _ _) (Or.inr (And.intro (bI_neq c1) (Exists.intro _ (Exists.intro _ (Exists.intro _ (Exists.intro _ (And.intro rfl (And.intro (gt48 hG) (And.intro (Nat.le_of_ble_eq_true rfl) (And.intro (pX5_isOne hG _) (Or.inr (And.intro (bI_neq c2) (Exists.intro _ (Exists.intro _ (Exists.intro _ (Exists.intro _ (And.intro rfl (And.intro (gt48 hG) (And.intro (Nat.le_of_ble_eq_true rfl) (And.intro (pX5_isThere hG _) (Or.inl (And.intro (bI_eq c3) (h)))))))))))))))))))))))))))⟩
    · replace h := h.2 c2
      exact ⟨11, Exists.intro _ (Exists.intro _ (And.intro (Nat.le_of_ble_eq_true rfl) (And.intro (Nat.le_of_ble_eq_true rfl) (And.intro (pX5_in _ _ _) (Or.inr (And.intro (bI_neq c1) (Exists.intro _ (Exists.intro _ (Exists.intro _ (Exists.intro _ (And.intro rfl (And.intro (gt48 hG) (And.intro (Nat.le_of_ble_eq_true rfl) (And.intro (pX5_isOne hG _) (Or.inl (And.intro (bI_eq c2) (h)))))))))))))))))⟩
  · replace h := h.2 c1
    exact ⟨7, Exists.intro _ (Exists.intro _ (And.intro (Nat.le_of_ble_eq_true rfl) (And.intro (Nat.le_of_ble_eq_true rfl) (And.intro (pX5_in _ _ _) (Or.inl (And.intro (bI_eq c1) (h)))))))⟩

set_option maxRecDepth 100000 in
set_option maxHeartbeats 4000000 in
theorem sX5_asks_32 {E : aR} {A : Nat → Nat → Int32} {R : Nat → Nat → Option Nat} {G : Nat → Nat × Nat} (d1 : Option Value) (d2 : Option Value) (d3 : Option Value) (y0 : Int32)
    (h : E (some (.int y0)) (A, R, G)) :
    aw tX5_asks E 32 [some (.ref 48), d1, d2, d3] [.int y0] (A, R, G) := by
  exact ⟨2, h⟩

set_option maxRecDepth 100000 in
set_option maxHeartbeats 4000000 in
theorem sX5_judge_0 {E : aR} {A : Nat → Nat → Int32} {R : Nat → Nat → Option Nat} {G : Nat → Nat × Nat} (hG : aGS G) (x1 : Int32) (x2 : Int32) (x3 : Int32)
    (h : ((0 ≤ x1 ∧ x1 ≤ 59) → (((0 ≤ x2 ∧ x2 ≤ 1023) → (((0 ≤ x3 ∧ x3 ≤ 99) → ((((A 48 0) = 6) → (E (some (.int (-4))) (A, R, G))) ∧ ((¬ ((A 48 0) = 6)) → ((vp_in (A 48 0) 6) ∧ ((vp_in (((au A 49 (A 48 0).toNatClampNeg (x1 / 10))) 48 0) 6) ∧ ((vp_in (3 * (((au (au A 49 (A 48 0).toNatClampNeg (x1 / 10)) 50 (((au A 49 (A 48 0).toNatClampNeg (x1 / 10))) 48 0).toNatClampNeg (x1 - x1 / 10 * 10))) 48 0)) 18) ∧ (aw tX5_judge E 84 [some (.ref 48), some (.int x1), some (.int x2), some (.int x3)] [] ((au (au (au A 49 (A 48 0).toNatClampNeg (x1 / 10)) 50 (((au A 49 (A 48 0).toNatClampNeg (x1 / 10))) 48 0).toNatClampNeg (x1 - x1 / 10 * 10)) 51 (3 * (((au (au A 49 (A 48 0).toNatClampNeg (x1 / 10)) 50 (((au A 49 (A 48 0).toNatClampNeg (x1 / 10))) 48 0).toNatClampNeg (x1 - x1 / 10 * 10))) 48 0)).toNatClampNeg x2), R, G)))))))) ∧ ((¬ (0 ≤ x3 ∧ x3 ≤ 99)) → (E (some (.int (-2))) (A, R, G))))) ∧ ((¬ (0 ≤ x2 ∧ x2 ≤ 1023)) → (E (some (.int (-2))) (A, R, G))))) ∧ ((¬ (0 ≤ x1 ∧ x1 ≤ 59)) → (E (some (.int (-2))) (A, R, G)))) :
    aw tX5_judge E 0 [some (.ref 48), some (.int x1), some (.int x2), some (.int x3)] [] (A, R, G) := by
  by_cases c1 : 0 ≤ x1 ∧ x1 ≤ 59
  · replace h := h.1 c1
    by_cases c2 : 0 ≤ x2 ∧ x2 ≤ 1023
    · replace h := h.1 c2
      by_cases c3 : 0 ≤ x3 ∧ x3 ≤ 99
      · replace h := h.1 c3
        by_cases c4 : (A 48 0) = 6
        · replace h := h.1 c4
          exact ⟨21, Exists.intro _ (Exists.intro _ (And.intro (Nat.le_of_ble_eq_true rfl) (And.intro (Nat.le_of_ble_eq_true rfl) (And.intro (pX5_in _ _ _) (Or.inr (And.intro (bI_neq c1) (Exists.intro _ (Exists.intro _ (And.intro (Nat.le_of_ble_eq_true rfl) (And.intro (Nat.le_of_ble_eq_true rfl) (And.intro (pX5_in _ _ _) (Or.inr (And.intro (bI_neq c2) (Exists.intro _ (Exists.intro _ (And.intro (Nat.le_of_ble_eq_true rfl) (And.intro (Nat.le_of_ble_eq_true rfl) (And.intro (pX5_in _ _ _) (Or.inl (And.intro (bI_ne c3) (And.intro (gt48 hG) (Or.inr (And.intro (fun z => z c4) (h))))))))))))))))))))))))⟩
        · replace h := h.2 c4
          obtain ⟨q5, h⟩ := h
          obtain ⟨q6, h⟩ := h
          obtain ⟨q7, h⟩ := h
          obtain ⟨n, h⟩ := h
          exact ⟨n + 43, Exists.intro _ (Exists.intro _ (And.intro (Nat.le_of_ble_eq_true rfl) (And.intro (Nat.le_of_ble_eq_true rfl) (And.intro (pX5_in _ _ _) (Or.inr (And.intro (bI_neq c1) (Exists.intro _ (Exists.intro _ (And.intro (Nat.le_of_ble_eq_true rfl) (And.intro (Nat.le_of_ble_eq_true rfl) (And.intro (pX5_in _ _ _) (Or.inr (And.intro (bI_neq c2) (Exists.intro _ (Exists.intro _ (And.intro (Nat.le_of_ble_eq_true rfl) (And.intro (Nat.le_of_ble_eq_true rfl) (And.intro (pX5_in _ _ _) (Or.inl (And.intro (bI_ne c3) (And.intro (gt48 hG) (Or.inl (And.intro c4 (And.intro (gt48 hG) (And.intro (gt48 hG) (And.intro (by decide) (And.intro (gt49 hG) (And.intro (vin_len (gl49 hG) q5) (And.intro (gt48 hG) (And.intro (gt48 hG) (And.intro (by decide) (And.intro (gt50 hG) (And.intro (vin_len (gl50 hG) q6) (And.intro (gt48 hG) (And.intro (gt48 hG) (And.intro (gt51 hG) (And.intro (vin_len (gl51 hG) q7) (h))))))))))))))))))))))))))))))))))))))⟩
      · replace h := h.2 c3
        exact ⟨17, Exists.intro _ (Exists.intro _ (And.intro (Nat.le_of_ble_eq_true rfl) (And.intro (Nat.le_of_ble_eq_true rfl) (And.intro (pX5_in _ _ _) (Or.inr (And.intro (bI_neq c1) (Exists.intro _ (Exists.intro _ (And.intro (Nat.le_of_ble_eq_true rfl) (And.intro (Nat.le_of_ble_eq_true rfl) (And.intro (pX5_in _ _ _) (Or.inr (And.intro (bI_neq c2) (Exists.intro _ (Exists.intro _ (And.intro (Nat.le_of_ble_eq_true rfl) (And.intro (Nat.le_of_ble_eq_true rfl) (And.intro (pX5_in _ _ _) (Or.inr (And.intro (bI_nne c3) (h)))))))))))))))))))))⟩
    · replace h := h.2 c2
      exact ⟨12, Exists.intro _ (Exists.intro _ (And.intro (Nat.le_of_ble_eq_true rfl) (And.intro (Nat.le_of_ble_eq_true rfl) (And.intro (pX5_in _ _ _) (Or.inr (And.intro (bI_neq c1) (Exists.intro _ (Exists.intro _ (And.intro (Nat.le_of_ble_eq_true rfl) (And.intro (Nat.le_of_ble_eq_true rfl) (And.intro (pX5_in _ _ _) (Or.inl (And.intro (bI_eq c2) (h))))))))))))))⟩
  · replace h := h.2 c1
    exact ⟨7, Exists.intro _ (Exists.intro _ (And.intro (Nat.le_of_ble_eq_true rfl) (And.intro (Nat.le_of_ble_eq_true rfl) (And.intro (pX5_in _ _ _) (Or.inl (And.intro (bI_eq c1) (h)))))))⟩

set_option maxRecDepth 100000 in
set_option maxHeartbeats 4000000 in
theorem sX5_judge_84 {E : aR} {A : Nat → Nat → Int32} {R : Nat → Nat → Option Nat} {G : Nat → Nat × Nat} (hG : aGS G) (d1 : Option Value) (d2 : Option Value) (x3 : Int32)
    (h : (vp_in ((3 * (A 48 0)) + 1) 18) ∧ ((vp_in ((3 * (((au A 51 ((3 * (A 48 0)) + 1).toNatClampNeg x3)) 48 0)) + 2) 18) ∧ (aw tX5_judge E 122 [some (.ref 48), d1, d2, some (.int x3)] [] ((au (au (au A 51 ((3 * (A 48 0)) + 1).toNatClampNeg x3) 51 ((3 * (((au A 51 ((3 * (A 48 0)) + 1).toNatClampNeg x3)) 48 0)) + 2).toNatClampNeg 0) 48 0 ((((au (au A 51 ((3 * (A 48 0)) + 1).toNatClampNeg x3) 51 ((3 * (((au A 51 ((3 * (A 48 0)) + 1).toNatClampNeg x3)) 48 0)) + 2).toNatClampNeg 0)) 48 0) + 1)), R, G)))) :
    aw tX5_judge E 84 [some (.ref 48), d1, d2, some (.int x3)] [] (A, R, G) := by
  obtain ⟨q1, h⟩ := h
  obtain ⟨q2, h⟩ := h
  obtain ⟨n, h⟩ := h
  exact ⟨n + 26, And.intro (gt48 hG) (And.intro (gt48 hG) (And.intro (gt51 hG) (And.intro (vin_len (gl51 hG) q1) (And.intro (gt48 hG) (And.intro (gt48 hG) (And.intro (gt51 hG) (And.intro (vin_len (gl51 hG) q2) (And.intro rfl (And.intro (gt48 hG) (And.intro (gt48 hG) (h)))))))))))⟩

set_option maxRecDepth 100000 in
set_option maxHeartbeats 4000000 in
theorem sX5_judge_122 {E : aR} {A : Nat → Nat → Int32} {R : Nat → Nat → Option Nat} {G : Nat → Nat × Nat} (hG : aGS G) (d1 : Option Value) (d2 : Option Value) (d3 : Option Value)
    (h : E (some (.int ((A 48 0) - 1))) (A, R, G)) :
    aw tX5_judge E 122 [some (.ref 48), d1, d2, d3] [] (A, R, G) := by
  exact ⟨5, And.intro (gt48 hG) (h)⟩

set_option maxRecDepth 100000 in
set_option maxHeartbeats 4000000 in
theorem sX5_file_0 {E : aR} {A : Nat → Nat → Int32} {R : Nat → Nat → Option Nat} {G : Nat → Nat × Nat} (x1 : Int32) (x2 : Int32)
    (h : ((1 ≤ x1 ∧ x1 ≤ 1023) → (((0 ≤ x2 ∧ x2 ≤ 99) → (aw tX5_file E 26 [some (.ref 48), some (.int x1), some (.int x2), some (.int 0)] [] (A, R, G))) ∧ ((¬ (0 ≤ x2 ∧ x2 ≤ 99)) → (E (some (.int (-2))) (A, R, G))))) ∧ ((¬ (1 ≤ x1 ∧ x1 ≤ 1023)) → (E (some (.int (-2))) (A, R, G)))) :
    aw tX5_file E 0 [some (.ref 48), some (.int x1), some (.int x2), none] [] (A, R, G) := by
  by_cases c1 : 1 ≤ x1 ∧ x1 ≤ 1023
  · replace h := h.1 c1
    by_cases c2 : 0 ≤ x2 ∧ x2 ≤ 99
    · replace h := h.1 c2
      obtain ⟨n, h⟩ := h
      exact ⟨n + 12, Exists.intro _ (Exists.intro _ (And.intro (Nat.le_of_ble_eq_true rfl) (And.intro (Nat.le_of_ble_eq_true rfl) (And.intro (pX5_in _ _ _) (Or.inr (And.intro (bI_neq c1) (Exists.intro _ (Exists.intro _ (And.intro (Nat.le_of_ble_eq_true rfl) (And.intro (Nat.le_of_ble_eq_true rfl) (And.intro (pX5_in _ _ _) (Or.inl (And.intro (bI_ne c2) (h))))))))))))))⟩
    · replace h := h.2 c2
      exact ⟨12, Exists.intro _ (Exists.intro _ (And.intro (Nat.le_of_ble_eq_true rfl) (And.intro (Nat.le_of_ble_eq_true rfl) (And.intro (pX5_in _ _ _) (Or.inr (And.intro (bI_neq c1) (Exists.intro _ (Exists.intro _ (And.intro (Nat.le_of_ble_eq_true rfl) (And.intro (Nat.le_of_ble_eq_true rfl) (And.intro (pX5_in _ _ _) (Or.inr (And.intro (bI_nne c2) (h))))))))))))))⟩
  · replace h := h.2 c1
    exact ⟨7, Exists.intro _ (Exists.intro _ (And.intro (Nat.le_of_ble_eq_true rfl) (And.intro (Nat.le_of_ble_eq_true rfl) (And.intro (pX5_in _ _ _) (Or.inl (And.intro (bI_eq c1) (h)))))))⟩

set_option maxRecDepth 100000 in
set_option maxHeartbeats 4000000 in
theorem sX5_file_26 {E : aR} {A : Nat → Nat → Int32} {R : Nat → Nat → Option Nat} {G : Nat → Nat × Nat} (hG : aGS G) (x1 : Int32) (x2 : Int32) (x3 : Int32)
    (h : ((8 ≤ x3) → (((x3 = 8) → (E (some (.int (-4))) (A, R, G))) ∧ ((¬ (x3 = 8)) → ((vp_in (3 * x3) 24) ∧ ((vp_in ((3 * x3) + 1) 24) ∧ ((vp_in ((3 * x3) + 2) 24) ∧ (E (some (.int x3)) ((au (au (au A 52 (3 * x3).toNatClampNeg x1) 52 ((3 * x3) + 1).toNatClampNeg x2) 52 ((3 * x3) + 2).toNatClampNeg 0), R, G)))))))) ∧ ((¬ (8 ≤ x3)) → (((thM A x3) → (aw tX5_file E 26 [some (.ref 48), some (.int x1), some (.int x2), some (.int (x3 + 1))] [] (A, R, G))) ∧ ((¬ (thM A x3)) → (((x3 = 8) → (E (some (.int (-4))) (A, R, G))) ∧ ((¬ (x3 = 8)) → ((vp_in (3 * x3) 24) ∧ ((vp_in ((3 * x3) + 1) 24) ∧ ((vp_in ((3 * x3) + 2) 24) ∧ (E (some (.int x3)) ((au (au (au A 52 (3 * x3).toNatClampNeg x1) 52 ((3 * x3) + 1).toNatClampNeg x2) 52 ((3 * x3) + 2).toNatClampNeg 0), R, G))))))))))) :
    aw tX5_file E 26 [some (.ref 48), some (.int x1), some (.int x2), some (.int x3)] [] (A, R, G) := by
  by_cases c1 : 8 ≤ x3
  · replace h := h.1 c1
    by_cases c2 : x3 = 8
    · replace h := h.1 c2
      exact ⟨8, Or.inl (And.intro c1 (Or.inr (And.intro (fun z => z c2) (h))))⟩
    · replace h := h.2 c2
      obtain ⟨q3, h⟩ := h
      obtain ⟨q4, h⟩ := h
      obtain ⟨q5, h⟩ := h
      exact ⟨33, Or.inl (And.intro c1 (Or.inl (And.intro c2 (And.intro (gt48 hG) (And.intro (gt52 hG) (And.intro (vin_len (gl52 hG) q3) (And.intro (gt48 hG) (And.intro (gt52 hG) (And.intro (vin_len (gl52 hG) q4) (And.intro (gt48 hG) (And.intro (gt52 hG) (And.intro (vin_len (gl52 hG) q5) (h)))))))))))))⟩
  · replace h := h.2 c1
    by_cases c6 : thM A x3
    · replace h := h.1 c6
      obtain ⟨n, h⟩ := h
      exact ⟨n + 9, Or.inr (And.intro c1 (Exists.intro _ (Exists.intro _ (Exists.intro _ (Exists.intro _ (And.intro rfl (And.intro (gt48 hG) (And.intro (Nat.le_of_ble_eq_true rfl) (And.intro (pX5_isThere hG _) (Or.inr (And.intro (bI_neq c6) (h))))))))))))⟩
    · replace h := h.2 c6
      by_cases c7 : x3 = 8
      · replace h := h.1 c7
        exact ⟨12, Or.inr (And.intro c1 (Exists.intro _ (Exists.intro _ (Exists.intro _ (Exists.intro _ (And.intro rfl (And.intro (gt48 hG) (And.intro (Nat.le_of_ble_eq_true rfl) (And.intro (pX5_isThere hG _) (Or.inl (And.intro (bI_eq c6) (Or.inr (And.intro (fun z => z c7) (h))))))))))))))⟩
      · replace h := h.2 c7
        obtain ⟨q8, h⟩ := h
        obtain ⟨q9, h⟩ := h
        obtain ⟨q10, h⟩ := h
        exact ⟨37, Or.inr (And.intro c1 (Exists.intro _ (Exists.intro _ (Exists.intro _ (Exists.intro _ (And.intro rfl (And.intro (gt48 hG) (And.intro (Nat.le_of_ble_eq_true rfl) (And.intro (pX5_isThere hG _) (Or.inl (And.intro (bI_eq c6) (Or.inl (And.intro c7 (And.intro (gt48 hG) (And.intro (gt52 hG) (And.intro (vin_len (gl52 hG) q8) (And.intro (gt48 hG) (And.intro (gt52 hG) (And.intro (vin_len (gl52 hG) q9) (And.intro (gt48 hG) (And.intro (gt52 hG) (And.intro (vin_len (gl52 hG) q10) (h)))))))))))))))))))))))⟩

set_option maxRecDepth 100000 in
set_option maxHeartbeats 4000000 in
theorem sX5_put_0 {E : aR} {A : Nat → Nat → Int32} {R : Nat → Nat → Option Nat} {G : Nat → Nat × Nat} (hG : aGS G) (x1 : Int32) (x2 : Int32) (x3 : Int32)
    (h : ((0 ≤ x1 ∧ x1 ≤ A 48 0 - 1) → (((0 ≤ x2 ∧ x2 ≤ 2) → (((x2 = 0) → (((0 ≤ x3 ∧ x3 ≤ 1023) → ((vp_in ((3 * x1) + x2) 18) ∧ (E (some (.int (A 51 ((3 * x1) + x2).toNatClampNeg))) ((au A 51 ((3 * x1) + x2).toNatClampNeg x3), R, G)))) ∧ ((¬ (0 ≤ x3 ∧ x3 ≤ 1023)) → (E (some (.int (-7))) (A, R, G))))) ∧ ((¬ (x2 = 0)) → (((0 ≤ x3 ∧ x3 ≤ 99) → ((vp_in ((3 * x1) + x2) 18) ∧ (E (some (.int (A 51 ((3 * x1) + x2).toNatClampNeg))) ((au A 51 ((3 * x1) + x2).toNatClampNeg x3), R, G)))) ∧ ((¬ (0 ≤ x3 ∧ x3 ≤ 99)) → (E (some (.int (-7))) (A, R, G))))))) ∧ ((¬ (0 ≤ x2 ∧ x2 ≤ 2)) → (E (some (.int (-7))) (A, R, G))))) ∧ ((¬ (0 ≤ x1 ∧ x1 ≤ A 48 0 - 1)) → (E (some (.int (-5))) (A, R, G)))) :
    aw tX5_put E 0 [some (.ref 48), some (.int x1), some (.int x2), some (.int x3), none] [] (A, R, G) := by
  by_cases c1 : 0 ≤ x1 ∧ x1 ≤ A 48 0 - 1
  · replace h := h.1 c1
    by_cases c2 : 0 ≤ x2 ∧ x2 ≤ 2
    · replace h := h.1 c2
      by_cases c3 : x2 = 0
      · replace h := h.1 c3
        by_cases c4 : 0 ≤ x3 ∧ x3 ≤ 1023
        · replace h := h.1 c4
          obtain ⟨q5, h⟩ := h
          exact ⟨37, Exists.intro _ (Exists.intro _ (Exists.intro _ (Exists.intro _ (And.intro rfl (And.intro (gt48 hG) (And.intro (Nat.le_of_ble_eq_true rfl) (And.intro (pX5_isOne hG _) (Or.inl (And.intro (bI_ne c1) (Exists.intro _ (Exists.intro _ (And.intro (Nat.le_of_ble_eq_true rfl) (And.intro (Nat.le_of_ble_eq_true rfl) (And.intro (pX5_in _ _ _) (Or.inr (And.intro (bI_neq c2) (Or.inr (And.intro (fun z => z c3) (Exists.intro _ (Exists.intro _ (And.intro (Nat.le_of_ble_eq_true rfl) (And.intro (Nat.le_of_ble_eq_true rfl) (And.intro (pX5_in _ _ _) (Or.inl (And.intro (bI_ne c4) (And.intro (gt48 hG) (And.intro (gt51 hG) (And.intro (vin_len (gl51 hG) q5) (And.intro (gt48 hG) (And.intro (gt51 hG) (And.intro (vin_len (gl51 hG) q5) (h))))))))))))))))))))))))))))))))⟩
        · replace h := h.2 c4
          exact ⟨19, Exists.intro _ (Exists.intro _ (Exists.intro _ (Exists.intro _ (And.intro rfl (And.intro (gt48 hG) (And.intro (Nat.le_of_ble_eq_true rfl) (And.intro (pX5_isOne hG _) (Or.inl (And.intro (bI_ne c1) (Exists.intro _ (Exists.intro _ (And.intro (Nat.le_of_ble_eq_true rfl) (And.intro (Nat.le_of_ble_eq_true rfl) (And.intro (pX5_in _ _ _) (Or.inr (And.intro (bI_neq c2) (Or.inr (And.intro (fun z => z c3) (Exists.intro _ (Exists.intro _ (And.intro (Nat.le_of_ble_eq_true rfl) (And.intro (Nat.le_of_ble_eq_true rfl) (And.intro (pX5_in _ _ _) (Or.inr (And.intro (bI_nne c4) (h))))))))))))))))))))))))))⟩
      · replace h := h.2 c3
        by_cases c6 : 0 ≤ x3 ∧ x3 ≤ 99
        · replace h := h.1 c6
          obtain ⟨q7, h⟩ := h
          exact ⟨36, Exists.intro _ (Exists.intro _ (Exists.intro _ (Exists.intro _ (And.intro rfl (And.intro (gt48 hG) (And.intro (Nat.le_of_ble_eq_true rfl) (And.intro (pX5_isOne hG _) (Or.inl (And.intro (bI_ne c1) (Exists.intro _ (Exists.intro _ (And.intro (Nat.le_of_ble_eq_true rfl) (And.intro (Nat.le_of_ble_eq_true rfl) (And.intro (pX5_in _ _ _) (Or.inr (And.intro (bI_neq c2) (Or.inl (And.intro c3 (Exists.intro _ (Exists.intro _ (And.intro (Nat.le_of_ble_eq_true rfl) (And.intro (Nat.le_of_ble_eq_true rfl) (And.intro (pX5_in _ _ _) (Or.inl (And.intro (bI_ne c6) (And.intro (gt48 hG) (And.intro (gt51 hG) (And.intro (vin_len (gl51 hG) q7) (And.intro (gt48 hG) (And.intro (gt51 hG) (And.intro (vin_len (gl51 hG) q7) (h))))))))))))))))))))))))))))))))⟩
        · replace h := h.2 c6
          exact ⟨18, Exists.intro _ (Exists.intro _ (Exists.intro _ (Exists.intro _ (And.intro rfl (And.intro (gt48 hG) (And.intro (Nat.le_of_ble_eq_true rfl) (And.intro (pX5_isOne hG _) (Or.inl (And.intro (bI_ne c1) (Exists.intro _ (Exists.intro _ (And.intro (Nat.le_of_ble_eq_true rfl) (And.intro (Nat.le_of_ble_eq_true rfl) (And.intro (pX5_in _ _ _) (Or.inr (And.intro (bI_neq c2) (Or.inl (And.intro c3 (Exists.intro _ (Exists.intro _ (And.intro (Nat.le_of_ble_eq_true rfl) (And.intro (Nat.le_of_ble_eq_true rfl) (And.intro (pX5_in _ _ _) (Or.inr (And.intro (bI_nne c6) (h))))))))))))))))))))))))))⟩
    · replace h := h.2 c2
      exact ⟨11, Exists.intro _ (Exists.intro _ (Exists.intro _ (Exists.intro _ (And.intro rfl (And.intro (gt48 hG) (And.intro (Nat.le_of_ble_eq_true rfl) (And.intro (pX5_isOne hG _) (Or.inl (And.intro (bI_ne c1) (Exists.intro _ (Exists.intro _ (And.intro (Nat.le_of_ble_eq_true rfl) (And.intro (Nat.le_of_ble_eq_true rfl) (And.intro (pX5_in _ _ _) (Or.inl (And.intro (bI_eq c2) (h)))))))))))))))))⟩
  · replace h := h.2 c1
    exact ⟨6, Exists.intro _ (Exists.intro _ (Exists.intro _ (Exists.intro _ (And.intro rfl (And.intro (gt48 hG) (And.intro (Nat.le_of_ble_eq_true rfl) (And.intro (pX5_isOne hG _) (Or.inr (And.intro (bI_nne c1) (h))))))))))⟩

set_option maxRecDepth 100000 in
set_option maxHeartbeats 4000000 in
theorem sX5_told_0 {E : aR} {A : Nat → Nat → Int32} {R : Nat → Nat → Option Nat} {G : Nat → Nat × Nat} (hG : aGS G) (x1 : Int32) (x2 : Int32)
    (h : ((0 ≤ x1 ∧ x1 ≤ A 48 0 - 1) → (((x2 = 0) → ((vp_in ((3 * x1) + x2) 18) ∧ (E (some (.int (A 51 ((3 * x1) + x2).toNatClampNeg))) (A, R, G)))) ∧ ((¬ (x2 = 0)) → (((x2 = 1) → ((vp_in ((3 * x1) + x2) 18) ∧ (E (some (.int (A 51 ((3 * x1) + x2).toNatClampNeg))) (A, R, G)))) ∧ ((¬ (x2 = 1)) → (((x2 = 2) → ((vp_in ((3 * x1) + x2) 18) ∧ (E (some (.int (A 51 ((3 * x1) + x2).toNatClampNeg))) (A, R, G)))) ∧ ((¬ (x2 = 2)) → (((x2 = 3) → ((vp_in x1 6) ∧ (E (some (.int (A 49 x1.toNatClampNeg))) (A, R, G)))) ∧ ((¬ (x2 = 3)) → (((x2 = 4) → ((vp_in x1 6) ∧ (E (some (.int (A 50 x1.toNatClampNeg))) (A, R, G)))) ∧ ((¬ (x2 = 4)) → (((x2 = 5) → (∃ (v1 : Int32) (μ1 : aM), CX5_mayHear [.ref 48, .int x1] (A, R, G) (some (.int v1)) μ1 ∧ aw tX5_told E 82 [some (.ref 48), some (.int x1), some (.int x2)] [.int v1] μ1)) ∧ ((¬ (x2 = 5)) → (E (some (.int (-7))) (A, R, G))))))))))))))) ∧ ((¬ (0 ≤ x1 ∧ x1 ≤ A 48 0 - 1)) → (E (some (.int (-5))) (A, R, G)))) :
    aw tX5_told E 0 [some (.ref 48), some (.int x1), some (.int x2)] [] (A, R, G) := by
  by_cases c1 : 0 ≤ x1 ∧ x1 ≤ A 48 0 - 1
  · replace h := h.1 c1
    by_cases c2 : x2 = 0
    · replace h := h.1 c2
      obtain ⟨q3, h⟩ := h
      exact ⟨15, Exists.intro _ (Exists.intro _ (Exists.intro _ (Exists.intro _ (And.intro rfl (And.intro (gt48 hG) (And.intro (Nat.le_of_ble_eq_true rfl) (And.intro (pX5_isOne hG _) (Or.inl (And.intro (bI_ne c1) (Or.inl (And.intro c2 (And.intro (gt48 hG) (And.intro (gt51 hG) (And.intro (vin_len (gl51 hG) q3) (h)))))))))))))))⟩
    · replace h := h.2 c2
      by_cases c4 : x2 = 1
      · replace h := h.1 c4
        obtain ⟨q5, h⟩ := h
        exact ⟨15, Exists.intro _ (Exists.intro _ (Exists.intro _ (Exists.intro _ (And.intro rfl (And.intro (gt48 hG) (And.intro (Nat.le_of_ble_eq_true rfl) (And.intro (pX5_isOne hG _) (Or.inl (And.intro (bI_ne c1) (Or.inr (And.intro c2 (Or.inl (And.intro c4 (And.intro (gt48 hG) (And.intro (gt51 hG) (And.intro (vin_len (gl51 hG) q5) (h)))))))))))))))))⟩
      · replace h := h.2 c4
        by_cases c6 : x2 = 2
        · replace h := h.1 c6
          obtain ⟨q7, h⟩ := h
          exact ⟨15, Exists.intro _ (Exists.intro _ (Exists.intro _ (Exists.intro _ (And.intro rfl (And.intro (gt48 hG) (And.intro (Nat.le_of_ble_eq_true rfl) (And.intro (pX5_isOne hG _) (Or.inl (And.intro (bI_ne c1) (Or.inr (And.intro c2 (Or.inr (And.intro c4 (Or.inl (And.intro c6 (And.intro (gt48 hG) (And.intro (gt51 hG) (And.intro (vin_len (gl51 hG) q7) (h)))))))))))))))))))⟩
        · replace h := h.2 c6
          by_cases c8 : x2 = 3
          · replace h := h.1 c8
            obtain ⟨q9, h⟩ := h
            exact ⟨11, Exists.intro _ (Exists.intro _ (Exists.intro _ (Exists.intro _ (And.intro rfl (And.intro (gt48 hG) (And.intro (Nat.le_of_ble_eq_true rfl) (And.intro (pX5_isOne hG _) (Or.inl (And.intro (bI_ne c1) (Or.inr (And.intro c2 (Or.inr (And.intro c4 (Or.inr (And.intro c6 (Or.inl (And.intro c8 (And.intro (gt48 hG) (And.intro (gt49 hG) (And.intro (vin_len (gl49 hG) q9) (h)))))))))))))))))))))⟩
          · replace h := h.2 c8
            by_cases c10 : x2 = 4
            · replace h := h.1 c10
              obtain ⟨q11, h⟩ := h
              exact ⟨11, Exists.intro _ (Exists.intro _ (Exists.intro _ (Exists.intro _ (And.intro rfl (And.intro (gt48 hG) (And.intro (Nat.le_of_ble_eq_true rfl) (And.intro (pX5_isOne hG _) (Or.inl (And.intro (bI_ne c1) (Or.inr (And.intro c2 (Or.inr (And.intro c4 (Or.inr (And.intro c6 (Or.inr (And.intro c8 (Or.inl (And.intro c10 (And.intro (gt48 hG) (And.intro (gt50 hG) (And.intro (vin_len (gl50 hG) q11) (h)))))))))))))))))))))))⟩
            · replace h := h.2 c10
              by_cases c12 : x2 = 5
              · replace h := h.1 c12
                obtain ⟨v1, μ1, h1, n, h⟩ := h
                exact ⟨n + 9, Exists.intro _ (Exists.intro _ (Exists.intro _ (Exists.intro _ (And.intro rfl (And.intro (gt48 hG) (And.intro (Nat.le_of_ble_eq_true rfl) (And.intro (pX5_isOne hG _) (Or.inl (And.intro (bI_ne c1) (Or.inr (And.intro c2 (Or.inr (And.intro c4 (Or.inr (And.intro c6 (Or.inr (And.intro c8 (Or.inr (And.intro c10 (Or.inl (And.intro c12 (Exists.intro _ (Exists.intro _ (Exists.intro _ (Exists.intro _ (And.intro rfl (And.intro (gt48 hG) (And.intro (Nat.le_of_ble_eq_true rfl) (And.intro h1 (h))))))))))))))))))))))))))))))⟩
              · replace h := h.2 c12
                exact ⟨8, Exists.intro _ (Exists.intro _ (Exists.intro _ (Exists.intro _ (And.intro rfl (And.intro (gt48 hG) (And.intro (Nat.le_of_ble_eq_true rfl) (And.intro (pX5_isOne hG _) (Or.inl (And.intro (bI_ne c1) (Or.inr (And.intro c2 (Or.inr (And.intro c4 (Or.inr (And.intro c6 (Or.inr (And.intro c8 (Or.inr (And.intro c10 (Or.inr (And.intro c12 (h))))))))))))))))))))))⟩
  · replace h := h.2 c1
    exact ⟨6, Exists.intro _ (Exists.intro _ (Exists.intro _ (Exists.intro _ (And.intro rfl (And.intro (gt48 hG) (And.intro (Nat.le_of_ble_eq_true rfl) (And.intro (pX5_isOne hG _) (Or.inr (And.intro (bI_nne c1) (h))))))))))⟩

set_option maxRecDepth 100000 in
set_option maxHeartbeats 4000000 in
theorem sX5_told_82 {E : aR} {A : Nat → Nat → Int32} {R : Nat → Nat → Option Nat} {G : Nat → Nat × Nat} (d1 : Option Value) (d2 : Option Value) (y0 : Int32)
    (h : E (some (.int y0)) (A, R, G)) :
    aw tX5_told E 82 [some (.ref 48), d1, d2] [.int y0] (A, R, G) := by
  exact ⟨1, h⟩

set_option maxRecDepth 100000 in
set_option maxHeartbeats 4000000 in
theorem sX5_paper_0 {E : aR} {A : Nat → Nat → Int32} {R : Nat → Nat → Option Nat} {G : Nat → Nat × Nat} (hG : aGS G) (x1 : Int32) (x2 : Int32)
    (h : ((thM A x1) → (((0 ≤ x2 ∧ x2 ≤ 2) → ((vp_in ((3 * x1) + x2) 24) ∧ (E (some (.int (A 52 ((3 * x1) + x2).toNatClampNeg))) (A, R, G)))) ∧ ((¬ (0 ≤ x2 ∧ x2 ≤ 2)) → (((x2 = 3) → (∃ (v1 : Int32) (μ1 : aM), CX5_whoMay [.ref 48, .int x1] (A, R, G) (some (.int v1)) μ1 ∧ aw tX5_paper E 43 [some (.ref 48), some (.int x1), some (.int x2)] [.int v1] μ1)) ∧ ((¬ (x2 = 3)) → (E (some (.int (-7))) (A, R, G))))))) ∧ ((¬ (thM A x1)) → (E (some (.int (-6))) (A, R, G)))) :
    aw tX5_paper E 0 [some (.ref 48), some (.int x1), some (.int x2)] [] (A, R, G) := by
  by_cases c1 : thM A x1
  · replace h := h.1 c1
    by_cases c2 : 0 ≤ x2 ∧ x2 ≤ 2
    · replace h := h.1 c2
      obtain ⟨q3, h⟩ := h
      exact ⟨19, Exists.intro _ (Exists.intro _ (Exists.intro _ (Exists.intro _ (And.intro rfl (And.intro (gt48 hG) (And.intro (Nat.le_of_ble_eq_true rfl) (And.intro (pX5_isThere hG _) (Or.inl (And.intro (bI_ne c1) (Exists.intro _ (Exists.intro _ (And.intro (Nat.le_of_ble_eq_true rfl) (And.intro (Nat.le_of_ble_eq_true rfl) (And.intro (pX5_in _ _ _) (Or.inr (And.intro (bI_neq c2) (And.intro (gt48 hG) (And.intro (gt52 hG) (And.intro (vin_len (gl52 hG) q3) (h))))))))))))))))))))⟩
    · replace h := h.2 c2
      by_cases c4 : x2 = 3
      · replace h := h.1 c4
        obtain ⟨v1, μ1, h1, n, h⟩ := h
        exact ⟨n + 15, Exists.intro _ (Exists.intro _ (Exists.intro _ (Exists.intro _ (And.intro rfl (And.intro (gt48 hG) (And.intro (Nat.le_of_ble_eq_true rfl) (And.intro (pX5_isThere hG _) (Or.inl (And.intro (bI_ne c1) (Exists.intro _ (Exists.intro _ (And.intro (Nat.le_of_ble_eq_true rfl) (And.intro (Nat.le_of_ble_eq_true rfl) (And.intro (pX5_in _ _ _) (Or.inl (And.intro (bI_eq c2) (Or.inr (And.intro (fun z => z c4) (Exists.intro _ (Exists.intro _ (Exists.intro _ (Exists.intro _ (And.intro rfl (And.intro (gt48 hG) (And.intro (Nat.le_of_ble_eq_true rfl) (And.intro h1 (h)))))))))))))))))))))))))))⟩
      · replace h := h.2 c4
        exact ⟨14, Exists.intro _ (Exists.intro _ (Exists.intro _ (Exists.intro _ (And.intro rfl (And.intro (gt48 hG) (And.intro (Nat.le_of_ble_eq_true rfl) (And.intro (pX5_isThere hG _) (Or.inl (And.intro (bI_ne c1) (Exists.intro _ (Exists.intro _ (And.intro (Nat.le_of_ble_eq_true rfl) (And.intro (Nat.le_of_ble_eq_true rfl) (And.intro (pX5_in _ _ _) (Or.inl (And.intro (bI_eq c2) (Or.inl (And.intro c4 (h)))))))))))))))))))⟩
  · replace h := h.2 c1
    exact ⟨6, Exists.intro _ (Exists.intro _ (Exists.intro _ (Exists.intro _ (And.intro rfl (And.intro (gt48 hG) (And.intro (Nat.le_of_ble_eq_true rfl) (And.intro (pX5_isThere hG _) (Or.inr (And.intro (bI_nne c1) (h))))))))))⟩

set_option maxRecDepth 100000 in
set_option maxHeartbeats 4000000 in
theorem sX5_paper_43 {E : aR} {A : Nat → Nat → Int32} {R : Nat → Nat → Option Nat} {G : Nat → Nat × Nat} (d1 : Option Value) (d2 : Option Value) (y0 : Int32)
    (h : E (some (.int y0)) (A, R, G)) :
    aw tX5_paper E 43 [some (.ref 48), d1, d2] [.int y0] (A, R, G) := by
  exact ⟨2, h⟩

set_option maxRecDepth 100000 in
set_option maxHeartbeats 4000000 in
theorem sX5_hearing_0 {E : aR} {A : Nat → Nat → Int32} {R : Nat → Nat → Option Nat} {G : Nat → Nat × Nat} (hG : aGS G) (x1 : Int32) (x2 : Int32) (x3 : Int32)
    (h : ((0 ≤ x1 ∧ x1 ≤ A 48 0 - 1) → (((thM A x2) → (((x3 = 0) → (∃ (v1 : Int32) (μ1 : aM), CX5_may [.ref 48, .int x1, .int x2] (A, R, G) (some (.int v1)) μ1 ∧ aw tX5_hearing E 54 [some (.ref 48), some (.int x1), some (.int x2), some (.int x3)] [.int v1] μ1)) ∧ ((¬ (x3 = 0)) → (((x3 = 1) → (∃ (v1 : Int32) (μ1 : aM), CX5_takesOf [.ref 48, .int x1, .int x2] (A, R, G) (some (.int v1)) μ1 ∧ aw tX5_hearing E 69 [some (.ref 48), some (.int x1), some (.int x2), some (.int x3)] [.int v1] μ1)) ∧ ((¬ (x3 = 1)) → (((x3 = 2) → (∃ (v1 : Int32) (μ1 : aM), CX5_judgesOf [.ref 48, .int x1, .int x2] (A, R, G) (some (.int v1)) μ1 ∧ aw tX5_hearing E 79 [some (.ref 48), some (.int x1), some (.int x2), some (.int x3)] [.int v1, .int 1000] μ1)) ∧ ((¬ (x3 = 2)) → (E (some (.int (-7))) (A, R, G))))))))) ∧ ((¬ (thM A x2)) → (E (some (.int (-6))) (A, R, G))))) ∧ ((¬ (0 ≤ x1 ∧ x1 ≤ A 48 0 - 1)) → (E (some (.int (-5))) (A, R, G)))) :
    aw tX5_hearing E 0 [some (.ref 48), some (.int x1), some (.int x2), some (.int x3)] [] (A, R, G) := by
  by_cases c1 : 0 ≤ x1 ∧ x1 ≤ A 48 0 - 1
  · replace h := h.1 c1
    by_cases c2 : thM A x2
    · replace h := h.1 c2
      by_cases c3 : x3 = 0
      · replace h := h.1 c3
        obtain ⟨v1, μ1, h1, n, h⟩ := h
        exact ⟨n + 14, Exists.intro _ (Exists.intro _ (Exists.intro _ (Exists.intro _ (And.intro rfl (And.intro (gt48 hG) (And.intro (Nat.le_of_ble_eq_true rfl) (And.intro (pX5_isOne hG _) (Or.inl (And.intro (bI_ne c1) (Exists.intro _ (Exists.intro _ (Exists.intro _ (Exists.intro _ (And.intro rfl (And.intro (gt48 hG) (And.intro (Nat.le_of_ble_eq_true rfl) (And.intro (pX5_isThere hG _) (Or.inl (And.intro (bI_ne c2) (Or.inl (And.intro c3 (Exists.intro _ (Exists.intro _ (Exists.intro _ (Exists.intro _ (And.intro rfl (And.intro (gt48 hG) (And.intro (Nat.le_of_ble_eq_true rfl) (And.intro h1 (h))))))))))))))))))))))))))))))⟩
      · replace h := h.2 c3
        by_cases c4 : x3 = 1
        · replace h := h.1 c4
          obtain ⟨v1, μ1, h1, n, h⟩ := h
          exact ⟨n + 14, Exists.intro _ (Exists.intro _ (Exists.intro _ (Exists.intro _ (And.intro rfl (And.intro (gt48 hG) (And.intro (Nat.le_of_ble_eq_true rfl) (And.intro (pX5_isOne hG _) (Or.inl (And.intro (bI_ne c1) (Exists.intro _ (Exists.intro _ (Exists.intro _ (Exists.intro _ (And.intro rfl (And.intro (gt48 hG) (And.intro (Nat.le_of_ble_eq_true rfl) (And.intro (pX5_isThere hG _) (Or.inl (And.intro (bI_ne c2) (Or.inr (And.intro c3 (Or.inl (And.intro c4 (Exists.intro _ (Exists.intro _ (Exists.intro _ (Exists.intro _ (And.intro rfl (And.intro (gt48 hG) (And.intro (Nat.le_of_ble_eq_true rfl) (And.intro h1 (h))))))))))))))))))))))))))))))))⟩
        · replace h := h.2 c4
          by_cases c5 : x3 = 2
          · replace h := h.1 c5
            obtain ⟨v1, μ1, h1, n, h⟩ := h
            exact ⟨n + 15, Exists.intro _ (Exists.intro _ (Exists.intro _ (Exists.intro _ (And.intro rfl (And.intro (gt48 hG) (And.intro (Nat.le_of_ble_eq_true rfl) (And.intro (pX5_isOne hG _) (Or.inl (And.intro (bI_ne c1) (Exists.intro _ (Exists.intro _ (Exists.intro _ (Exists.intro _ (And.intro rfl (And.intro (gt48 hG) (And.intro (Nat.le_of_ble_eq_true rfl) (And.intro (pX5_isThere hG _) (Or.inl (And.intro (bI_ne c2) (Or.inr (And.intro c3 (Or.inr (And.intro c4 (Or.inl (And.intro c5 (Exists.intro _ (Exists.intro _ (Exists.intro _ (Exists.intro _ (And.intro rfl (And.intro (gt48 hG) (And.intro (Nat.le_of_ble_eq_true rfl) (And.intro h1 (h))))))))))))))))))))))))))))))))))⟩
          · replace h := h.2 c5
            exact ⟨12, Exists.intro _ (Exists.intro _ (Exists.intro _ (Exists.intro _ (And.intro rfl (And.intro (gt48 hG) (And.intro (Nat.le_of_ble_eq_true rfl) (And.intro (pX5_isOne hG _) (Or.inl (And.intro (bI_ne c1) (Exists.intro _ (Exists.intro _ (Exists.intro _ (Exists.intro _ (And.intro rfl (And.intro (gt48 hG) (And.intro (Nat.le_of_ble_eq_true rfl) (And.intro (pX5_isThere hG _) (Or.inl (And.intro (bI_ne c2) (Or.inr (And.intro c3 (Or.inr (And.intro c4 (Or.inr (And.intro c5 (h))))))))))))))))))))))))))⟩
    · replace h := h.2 c2
      exact ⟨10, Exists.intro _ (Exists.intro _ (Exists.intro _ (Exists.intro _ (And.intro rfl (And.intro (gt48 hG) (And.intro (Nat.le_of_ble_eq_true rfl) (And.intro (pX5_isOne hG _) (Or.inl (And.intro (bI_ne c1) (Exists.intro _ (Exists.intro _ (Exists.intro _ (Exists.intro _ (And.intro rfl (And.intro (gt48 hG) (And.intro (Nat.le_of_ble_eq_true rfl) (And.intro (pX5_isThere hG _) (Or.inr (And.intro (bI_nne c2) (h))))))))))))))))))))⟩
  · replace h := h.2 c1
    exact ⟨6, Exists.intro _ (Exists.intro _ (Exists.intro _ (Exists.intro _ (And.intro rfl (And.intro (gt48 hG) (And.intro (Nat.le_of_ble_eq_true rfl) (And.intro (pX5_isOne hG _) (Or.inr (And.intro (bI_nne c1) (h))))))))))⟩

set_option maxRecDepth 100000 in
set_option maxHeartbeats 4000000 in
theorem sX5_hearing_54 {E : aR} {A : Nat → Nat → Int32} {R : Nat → Nat → Option Nat} {G : Nat → Nat × Nat} (d1 : Option Value) (d2 : Option Value) (d3 : Option Value) (y0 : Int32)
    (h : ((y0 = 0) → (E (some (.int 0)) (A, R, G))) ∧ ((¬ (y0 = 0)) → (E (some (.int 1)) (A, R, G)))) :
    aw tX5_hearing E 54 [some (.ref 48), d1, d2, d3] [.int y0] (A, R, G) := by
  by_cases c1 : y0 = 0
  · replace h := h.1 c1
    exact ⟨3, Or.inl (And.intro c1 (h))⟩
  · replace h := h.2 c1
    exact ⟨4, Or.inr (And.intro c1 (h))⟩

set_option maxRecDepth 100000 in
set_option maxHeartbeats 4000000 in
theorem sX5_hearing_69 {E : aR} {A : Nat → Nat → Int32} {R : Nat → Nat → Option Nat} {G : Nat → Nat × Nat} (d1 : Option Value) (d2 : Option Value) (d3 : Option Value) (y0 : Int32)
    (h : E (some (.int y0)) (A, R, G)) :
    aw tX5_hearing E 69 [some (.ref 48), d1, d2, d3] [.int y0] (A, R, G) := by
  exact ⟨1, h⟩

set_option maxRecDepth 100000 in
set_option maxHeartbeats 4000000 in
theorem sX5_hearing_79 {E : aR} {A : Nat → Nat → Int32} {R : Nat → Nat → Option Nat} {G : Nat → Nat × Nat} (d1 : Option Value) (d2 : Option Value) (d3 : Option Value) (y0 : Int32) (y1 : Int32)
    (h : E (some (.int (y1 + y0))) (A, R, G)) :
    aw tX5_hearing E 79 [some (.ref 48), d1, d2, d3] [.int y0, .int y1] (A, R, G) := by
  exact ⟨2, h⟩

set_option maxRecDepth 100000 in
set_option maxHeartbeats 4000000 in
theorem sX5_hear_0 {E : aR} {A : Nat → Nat → Int32} {R : Nat → Nat → Option Nat} {G : Nat → Nat × Nat} (hG : aGS G) (x1 : Int32) (x2 : Int32)
    (h : ((0 ≤ x1 ∧ x1 ≤ A 48 0 - 1) → (((thM A x2) → (∃ (v1 : Int32) (μ1 : aM), CX5_can [.ref 48, .int x1, .int x2] (A, R, G) (some (.int v1)) μ1 ∧ aw tX5_hear E 28 [some (.ref 48), some (.int x1), some (.int x2)] [.int v1] μ1)) ∧ ((¬ (thM A x2)) → (E (some (.int (-6))) (A, R, G))))) ∧ ((¬ (0 ≤ x1 ∧ x1 ≤ A 48 0 - 1)) → (E (some (.int (-5))) (A, R, G)))) :
    aw tX5_hear E 0 [some (.ref 48), some (.int x1), some (.int x2)] [] (A, R, G) := by
  by_cases c1 : 0 ≤ x1 ∧ x1 ≤ A 48 0 - 1
  · replace h := h.1 c1
    by_cases c2 : thM A x2
    · replace h := h.1 c2
      obtain ⟨v1, μ1, h1, n, h⟩ := h
      exact ⟨n + 12, Exists.intro _ (Exists.intro _ (Exists.intro _ (Exists.intro _ (And.intro rfl (And.intro (gt48 hG) (And.intro (Nat.le_of_ble_eq_true rfl) (And.intro (pX5_isOne hG _) (Or.inl (And.intro (bI_ne c1) (Exists.intro _ (Exists.intro _ (Exists.intro _ (Exists.intro _ (And.intro rfl (And.intro (gt48 hG) (And.intro (Nat.le_of_ble_eq_true rfl) (And.intro (pX5_isThere hG _) (Or.inl (And.intro (bI_ne c2) (Exists.intro _ (Exists.intro _ (Exists.intro _ (Exists.intro _ (And.intro rfl (And.intro (gt48 hG) (And.intro (Nat.le_of_ble_eq_true rfl) (And.intro h1 (h))))))))))))))))))))))))))))⟩
    · replace h := h.2 c2
      exact ⟨10, Exists.intro _ (Exists.intro _ (Exists.intro _ (Exists.intro _ (And.intro rfl (And.intro (gt48 hG) (And.intro (Nat.le_of_ble_eq_true rfl) (And.intro (pX5_isOne hG _) (Or.inl (And.intro (bI_ne c1) (Exists.intro _ (Exists.intro _ (Exists.intro _ (Exists.intro _ (And.intro rfl (And.intro (gt48 hG) (And.intro (Nat.le_of_ble_eq_true rfl) (And.intro (pX5_isThere hG _) (Or.inr (And.intro (bI_nne c2) (h))))))))))))))))))))⟩
  · replace h := h.2 c1
    exact ⟨6, Exists.intro _ (Exists.intro _ (Exists.intro _ (Exists.intro _ (And.intro rfl (And.intro (gt48 hG) (And.intro (Nat.le_of_ble_eq_true rfl) (And.intro (pX5_isOne hG _) (Or.inr (And.intro (bI_nne c1) (h))))))))))⟩

set_option maxRecDepth 100000 in
set_option maxHeartbeats 4000000 in
theorem sX5_hear_28 {E : aR} {A : Nat → Nat → Int32} {R : Nat → Nat → Option Nat} {G : Nat → Nat × Nat} (hG : aGS G) (x1 : Int32) (x2 : Int32) (y0 : Int32)
    (h : ((y0 = 0) → (E (some (.int (-3))) (A, R, G))) ∧ ((¬ (y0 = 0)) → (∃ (v1 : Int32) (μ1 : aM), CX5_hears [.ref 48, .int x1, .int x2] (A, R, G) (some (.int v1)) μ1 ∧ aw tX5_hear E 40 [some (.ref 48), some (.int x1), some (.int x2)] [.int v1, .int 1000] μ1))) :
    aw tX5_hear E 28 [some (.ref 48), some (.int x1), some (.int x2)] [.int y0] (A, R, G) := by
  by_cases c1 : y0 = 0
  · replace h := h.1 c1
    exact ⟨3, Or.inl (And.intro c1 (h))⟩
  · replace h := h.2 c1
    obtain ⟨v1, μ1, h1, n, h⟩ := h
    exact ⟨n + 6, Or.inr (And.intro c1 (Exists.intro _ (Exists.intro _ (Exists.intro _ (Exists.intro _ (And.intro rfl (And.intro (gt48 hG) (And.intro (Nat.le_of_ble_eq_true rfl) (And.intro h1 (h))))))))))⟩

set_option maxRecDepth 100000 in
set_option maxHeartbeats 4000000 in
theorem sX5_hear_40 {E : aR} {A : Nat → Nat → Int32} {R : Nat → Nat → Option Nat} {G : Nat → Nat × Nat} (d1 : Option Value) (d2 : Option Value) (y0 : Int32) (y1 : Int32)
    (h : E (some (.int (y1 + y0))) (A, R, G)) :
    aw tX5_hear E 40 [some (.ref 48), d1, d2] [.int y0, .int y1] (A, R, G) := by
  exact ⟨3, h⟩

set_option maxRecDepth 100000 in
set_option maxHeartbeats 4000000 in
theorem sX5_rob_0 {E : aR} {A : Nat → Nat → Int32} {R : Nat → Nat → Option Nat} {G : Nat → Nat × Nat} (hG : aGS G) (x1 : Int32) (x2 : Int32)
    (h : ((0 ≤ x1 ∧ x1 ≤ A 48 0 - 1) → (((0 ≤ x2 ∧ x2 ≤ 1023) → ((vp_in (3 * x1) 18) ∧ (E (some (.int ((au A 51 (3 * x1).toNatClampNeg ((A 51 (3 * x1).toNatClampNeg) ^^^ x2)) 51 (3 * x1).toNatClampNeg))) ((au A 51 (3 * x1).toNatClampNeg ((A 51 (3 * x1).toNatClampNeg) ^^^ x2)), R, G)))) ∧ ((¬ (0 ≤ x2 ∧ x2 ≤ 1023)) → (E (some (.int (-7))) (A, R, G))))) ∧ ((¬ (0 ≤ x1 ∧ x1 ≤ A 48 0 - 1)) → (E (some (.int (-5))) (A, R, G)))) :
    aw tX5_rob E 0 [some (.ref 48), some (.int x1), some (.int x2)] [] (A, R, G) := by
  by_cases c1 : 0 ≤ x1 ∧ x1 ≤ A 48 0 - 1
  · replace h := h.1 c1
    by_cases c2 : 0 ≤ x2 ∧ x2 ≤ 1023
    · replace h := h.1 c2
      obtain ⟨q3, h⟩ := h
      exact ⟨26, Exists.intro _ (Exists.intro _ (Exists.intro _ (Exists.intro _ (And.intro rfl (And.intro (gt48 hG) (And.intro (Nat.le_of_ble_eq_true rfl) (And.intro (pX5_isOne hG _) (Or.inl (And.intro (bI_ne c1) (Exists.intro _ (Exists.intro _ (And.intro (Nat.le_of_ble_eq_true rfl) (And.intro (Nat.le_of_ble_eq_true rfl) (And.intro (pX5_in _ _ _) (Or.inl (And.intro (bI_ne c2) (And.intro (gt48 hG) (And.intro rfl (And.intro rfl (And.intro (gt51 hG) (And.intro (vin_len (gl51 hG) q3) (And.intro (gt51 hG) (And.intro (vin_len (gl51 hG) q3) (And.intro (gt48 hG) (And.intro (gt51 hG) (And.intro (vin_len (gl51 hG) q3) (h)))))))))))))))))))))))))))⟩
    · replace h := h.2 c2
      exact ⟨11, Exists.intro _ (Exists.intro _ (Exists.intro _ (Exists.intro _ (And.intro rfl (And.intro (gt48 hG) (And.intro (Nat.le_of_ble_eq_true rfl) (And.intro (pX5_isOne hG _) (Or.inl (And.intro (bI_ne c1) (Exists.intro _ (Exists.intro _ (And.intro (Nat.le_of_ble_eq_true rfl) (And.intro (Nat.le_of_ble_eq_true rfl) (And.intro (pX5_in _ _ _) (Or.inr (And.intro (bI_nne c2) (h)))))))))))))))))⟩
  · replace h := h.2 c1
    exact ⟨6, Exists.intro _ (Exists.intro _ (Exists.intro _ (Exists.intro _ (And.intro rfl (And.intro (gt48 hG) (And.intro (Nat.le_of_ble_eq_true rfl) (And.intro (pX5_isOne hG _) (Or.inr (And.intro (bI_nne c1) (h))))))))))⟩

set_option maxRecDepth 100000 in
set_option maxHeartbeats 4000000 in
theorem sX5_day_0 {E : aR} {A : Nat → Nat → Int32} {R : Nat → Nat → Option Nat} {G : Nat → Nat × Nat} (hG : aGS G)
    (h : (((A 48 5) = 999) → (aw tX5_day E 19 [some (.ref 48)] [.int (-3)] (A, R, G))) ∧ ((¬ ((A 48 5) = 999)) → (∃ (v1 : Int32) (μ1 : aM), CX5_dayOf [.ref 48] (A, R, G) (some (.int v1)) μ1 ∧ aw tX5_day E 19 [some (.ref 48)] [.int v1] μ1))) :
    aw tX5_day E 0 [some (.ref 48)] [] (A, R, G) := by
  by_cases c1 : (A 48 5) = 999
  · replace h := h.1 c1
    obtain ⟨n, h⟩ := h
    exact ⟨n + 6, And.intro (gt48 hG) (Or.inr (And.intro (fun z => z c1) (h)))⟩
  · replace h := h.2 c1
    obtain ⟨v1, μ1, h1, n, h⟩ := h
    exact ⟨n + 6, And.intro (gt48 hG) (Or.inl (And.intro c1 (Exists.intro _ (Exists.intro _ (Exists.intro _ (Exists.intro _ (And.intro rfl (And.intro (gt48 hG) (And.intro (Nat.le_of_ble_eq_true rfl) (And.intro h1 (h)))))))))))⟩

set_option maxRecDepth 100000 in
set_option maxHeartbeats 4000000 in
theorem sX5_day_19 {E : aR} {A : Nat → Nat → Int32} {R : Nat → Nat → Option Nat} {G : Nat → Nat × Nat} (y0 : Int32)
    (h : E (some (.int y0)) (A, R, G)) :
    aw tX5_day E 19 [some (.ref 48)] [.int y0] (A, R, G) := by
  exact ⟨1, h⟩

set_option maxRecDepth 100000 in
set_option maxHeartbeats 4000000 in
theorem sX5_run_0 {E : aR} {A : Nat → Nat → Int32} {R : Nat → Nat → Option Nat} {G : Nat → Nat × Nat} (hG : aGS G) (x1 : Int32) (x2 : Int32)
    (h : ((0 ≤ x2 ∧ x2 ≤ 2) → (((0 ≤ x1 ∧ x1 ≤ 40) → (∃ (μ1 : aM), CX5_keeps [.ref 48] (A, R, G) none μ1 ∧ aw tX5_run E 68 [some (.ref 48), some (.int x1), some (.int x2), some (.int 1), none] [] μ1)) ∧ ((¬ (0 ≤ x1 ∧ x1 ≤ 40)) → (E (some (.int (-2))) (A, R, G))))) ∧ ((¬ (0 ≤ x2 ∧ x2 ≤ 2)) → (((10 ≤ x2 ∧ x2 ≤ (9 + (A 48 0))) → (((0 ≤ x1 ∧ x1 ≤ 40) → (∃ (μ1 : aM), CX5_keeps [.ref 48] (A, R, G) none μ1 ∧ aw tX5_run E 68 [some (.ref 48), some (.int x1), some (.int x2), some (.int 1), none] [] μ1)) ∧ ((¬ (0 ≤ x1 ∧ x1 ≤ 40)) → (E (some (.int (-2))) (A, R, G))))) ∧ ((¬ (10 ≤ x2 ∧ x2 ≤ (9 + (A 48 0)))) → (((20 ≤ x2 ∧ x2 ≤ (19 + (A 48 0))) → (((0 ≤ x1 ∧ x1 ≤ 40) → (∃ (μ1 : aM), CX5_keeps [.ref 48] (A, R, G) none μ1 ∧ aw tX5_run E 68 [some (.ref 48), some (.int x1), some (.int x2), some (.int 1), none] [] μ1)) ∧ ((¬ (0 ≤ x1 ∧ x1 ≤ 40)) → (E (some (.int (-2))) (A, R, G))))) ∧ ((¬ (20 ≤ x2 ∧ x2 ≤ (19 + (A 48 0)))) → (((0 ≤ x1 ∧ x1 ≤ 40) → (E (some (.int (-2))) (A, R, G))) ∧ ((¬ (0 ≤ x1 ∧ x1 ≤ 40)) → (E (some (.int (-2))) (A, R, G)))))))))) :
    aw tX5_run E 0 [some (.ref 48), some (.int x1), some (.int x2), none, none] [] (A, R, G) := by
  by_cases c1 : 0 ≤ x2 ∧ x2 ≤ 2
  · replace h := h.1 c1
    by_cases c2 : 0 ≤ x1 ∧ x1 ≤ 40
    · replace h := h.1 c2
      obtain ⟨μ1, h1, n, h⟩ := h
      exact ⟨n + 17, Exists.intro _ (Exists.intro _ (And.intro (Nat.le_of_ble_eq_true rfl) (And.intro (Nat.le_of_ble_eq_true rfl) (And.intro (pX5_in _ _ _) (Or.inl (And.intro (bI_ne c1) (Exists.intro _ (Exists.intro _ (And.intro (Nat.le_of_ble_eq_true rfl) (And.intro (Nat.le_of_ble_eq_true rfl) (And.intro (pX5_in _ _ _) (Or.inr (And.intro (bI_neq c2) (Or.inl (And.intro (by decide) (Exists.intro _ (Exists.intro _ (Exists.intro _ (Exists.intro _ (And.intro rfl (And.intro (gt48 hG) (And.intro (Nat.le_of_ble_eq_true rfl) (And.intro h1 (h))))))))))))))))))))))))⟩
    · replace h := h.2 c2
      exact ⟨15, Exists.intro _ (Exists.intro _ (And.intro (Nat.le_of_ble_eq_true rfl) (And.intro (Nat.le_of_ble_eq_true rfl) (And.intro (pX5_in _ _ _) (Or.inl (And.intro (bI_ne c1) (Exists.intro _ (Exists.intro _ (And.intro (Nat.le_of_ble_eq_true rfl) (And.intro (Nat.le_of_ble_eq_true rfl) (And.intro (pX5_in _ _ _) (Or.inl (And.intro (bI_eq c2) (h))))))))))))))⟩
  · replace h := h.2 c1
    by_cases c3 : 10 ≤ x2 ∧ x2 ≤ (9 + (A 48 0))
    · replace h := h.1 c3
      by_cases c4 : 0 ≤ x1 ∧ x1 ≤ 40
      · replace h := h.1 c4
        obtain ⟨μ1, h1, n, h⟩ := h
        exact ⟨n + 25, Exists.intro _ (Exists.intro _ (And.intro (Nat.le_of_ble_eq_true rfl) (And.intro (Nat.le_of_ble_eq_true rfl) (And.intro (pX5_in _ _ _) (Or.inr (And.intro (bI_nne c1) (And.intro (gt48 hG) (Exists.intro _ (Exists.intro _ (And.intro (Nat.le_of_ble_eq_true rfl) (And.intro (Nat.le_of_ble_eq_true rfl) (And.intro (pX5_in _ _ _) (Or.inl (And.intro (bI_ne c3) (Exists.intro _ (Exists.intro _ (And.intro (Nat.le_of_ble_eq_true rfl) (And.intro (Nat.le_of_ble_eq_true rfl) (And.intro (pX5_in _ _ _) (Or.inr (And.intro (bI_neq c4) (Or.inl (And.intro (by decide) (Exists.intro _ (Exists.intro _ (Exists.intro _ (Exists.intro _ (And.intro rfl (And.intro (gt48 hG) (And.intro (Nat.le_of_ble_eq_true rfl) (And.intro h1 (h))))))))))))))))))))))))))))))))⟩
      · replace h := h.2 c4
        exact ⟨23, Exists.intro _ (Exists.intro _ (And.intro (Nat.le_of_ble_eq_true rfl) (And.intro (Nat.le_of_ble_eq_true rfl) (And.intro (pX5_in _ _ _) (Or.inr (And.intro (bI_nne c1) (And.intro (gt48 hG) (Exists.intro _ (Exists.intro _ (And.intro (Nat.le_of_ble_eq_true rfl) (And.intro (Nat.le_of_ble_eq_true rfl) (And.intro (pX5_in _ _ _) (Or.inl (And.intro (bI_ne c3) (Exists.intro _ (Exists.intro _ (And.intro (Nat.le_of_ble_eq_true rfl) (And.intro (Nat.le_of_ble_eq_true rfl) (And.intro (pX5_in _ _ _) (Or.inl (And.intro (bI_eq c4) (h))))))))))))))))))))))⟩
    · replace h := h.2 c3
      by_cases c5 : 20 ≤ x2 ∧ x2 ≤ (19 + (A 48 0))
      · replace h := h.1 c5
        by_cases c6 : 0 ≤ x1 ∧ x1 ≤ 40
        · replace h := h.1 c6
          obtain ⟨μ1, h1, n, h⟩ := h
          exact ⟨n + 33, Exists.intro _ (Exists.intro _ (And.intro (Nat.le_of_ble_eq_true rfl) (And.intro (Nat.le_of_ble_eq_true rfl) (And.intro (pX5_in _ _ _) (Or.inr (And.intro (bI_nne c1) (And.intro (gt48 hG) (Exists.intro _ (Exists.intro _ (And.intro (Nat.le_of_ble_eq_true rfl) (And.intro (Nat.le_of_ble_eq_true rfl) (And.intro (pX5_in _ _ _) (Or.inr (And.intro (bI_nne c3) (And.intro (gt48 hG) (Exists.intro _ (Exists.intro _ (And.intro (Nat.le_of_ble_eq_true rfl) (And.intro (Nat.le_of_ble_eq_true rfl) (And.intro (pX5_in _ _ _) (Or.inr (And.intro (bI_neq c5) (Exists.intro _ (Exists.intro _ (And.intro (Nat.le_of_ble_eq_true rfl) (And.intro (Nat.le_of_ble_eq_true rfl) (And.intro (pX5_in _ _ _) (Or.inr (And.intro (bI_neq c6) (Or.inl (And.intro (by decide) (Exists.intro _ (Exists.intro _ (Exists.intro _ (Exists.intro _ (And.intro rfl (And.intro (gt48 hG) (And.intro (Nat.le_of_ble_eq_true rfl) (And.intro h1 (h))))))))))))))))))))))))))))))))))))))))⟩
        · replace h := h.2 c6
          exact ⟨31, Exists.intro _ (Exists.intro _ (And.intro (Nat.le_of_ble_eq_true rfl) (And.intro (Nat.le_of_ble_eq_true rfl) (And.intro (pX5_in _ _ _) (Or.inr (And.intro (bI_nne c1) (And.intro (gt48 hG) (Exists.intro _ (Exists.intro _ (And.intro (Nat.le_of_ble_eq_true rfl) (And.intro (Nat.le_of_ble_eq_true rfl) (And.intro (pX5_in _ _ _) (Or.inr (And.intro (bI_nne c3) (And.intro (gt48 hG) (Exists.intro _ (Exists.intro _ (And.intro (Nat.le_of_ble_eq_true rfl) (And.intro (Nat.le_of_ble_eq_true rfl) (And.intro (pX5_in _ _ _) (Or.inr (And.intro (bI_neq c5) (Exists.intro _ (Exists.intro _ (And.intro (Nat.le_of_ble_eq_true rfl) (And.intro (Nat.le_of_ble_eq_true rfl) (And.intro (pX5_in _ _ _) (Or.inl (And.intro (bI_eq c6) (h))))))))))))))))))))))))))))))⟩
      · replace h := h.2 c5
        by_cases c7 : 0 ≤ x1 ∧ x1 ≤ 40
        · replace h := h.1 c7
          exact ⟨32, Exists.intro _ (Exists.intro _ (And.intro (Nat.le_of_ble_eq_true rfl) (And.intro (Nat.le_of_ble_eq_true rfl) (And.intro (pX5_in _ _ _) (Or.inr (And.intro (bI_nne c1) (And.intro (gt48 hG) (Exists.intro _ (Exists.intro _ (And.intro (Nat.le_of_ble_eq_true rfl) (And.intro (Nat.le_of_ble_eq_true rfl) (And.intro (pX5_in _ _ _) (Or.inr (And.intro (bI_nne c3) (And.intro (gt48 hG) (Exists.intro _ (Exists.intro _ (And.intro (Nat.le_of_ble_eq_true rfl) (And.intro (Nat.le_of_ble_eq_true rfl) (And.intro (pX5_in _ _ _) (Or.inl (And.intro (bI_eq c5) (Exists.intro _ (Exists.intro _ (And.intro (Nat.le_of_ble_eq_true rfl) (And.intro (Nat.le_of_ble_eq_true rfl) (And.intro (pX5_in _ _ _) (Or.inr (And.intro (bI_neq c7) (Or.inr (And.intro (by decide) (h))))))))))))))))))))))))))))))))⟩
        · replace h := h.2 c7
          exact ⟨30, Exists.intro _ (Exists.intro _ (And.intro (Nat.le_of_ble_eq_true rfl) (And.intro (Nat.le_of_ble_eq_true rfl) (And.intro (pX5_in _ _ _) (Or.inr (And.intro (bI_nne c1) (And.intro (gt48 hG) (Exists.intro _ (Exists.intro _ (And.intro (Nat.le_of_ble_eq_true rfl) (And.intro (Nat.le_of_ble_eq_true rfl) (And.intro (pX5_in _ _ _) (Or.inr (And.intro (bI_nne c3) (And.intro (gt48 hG) (Exists.intro _ (Exists.intro _ (And.intro (Nat.le_of_ble_eq_true rfl) (And.intro (Nat.le_of_ble_eq_true rfl) (And.intro (pX5_in _ _ _) (Or.inl (And.intro (bI_eq c5) (Exists.intro _ (Exists.intro _ (And.intro (Nat.le_of_ble_eq_true rfl) (And.intro (Nat.le_of_ble_eq_true rfl) (And.intro (pX5_in _ _ _) (Or.inl (And.intro (bI_eq c7) (h))))))))))))))))))))))))))))))⟩

set_option maxRecDepth 100000 in
set_option maxHeartbeats 4000000 in
theorem sX5_run_68 {E : aR} {A : Nat → Nat → Int32} {R : Nat → Nat → Option Nat} {G : Nat → Nat × Nat} (hG : aGS G) (x1 : Int32) (x2 : Int32) (d3 : Option Value) (d4 : Option Value)
    (h : ∃ (v1 : Int32) (μ1 : aM), CX5_goes [.ref 48, .int x1] (A, R, G) (some (.int v1)) μ1 ∧ aw tX5_run E 73 [some (.ref 48), some (.int x1), some (.int x2), d3, d4] [.int v1] μ1) :
    aw tX5_run E 68 [some (.ref 48), some (.int x1), some (.int x2), d3, d4] [] (A, R, G) := by
  obtain ⟨v1, μ1, h1, n, h⟩ := h
  exact ⟨n + 3, Exists.intro _ (Exists.intro _ (Exists.intro _ (Exists.intro _ (And.intro rfl (And.intro (gt48 hG) (And.intro (Nat.le_of_ble_eq_true rfl) (And.intro h1 (h))))))))⟩

set_option maxRecDepth 100000 in
set_option maxHeartbeats 4000000 in
theorem sX5_run_73 {E : aR} {A : Nat → Nat → Int32} {R : Nat → Nat → Option Nat} {G : Nat → Nat × Nat} (hG : aGS G) (d1 : Option Value) (x2 : Int32) (d3 : Option Value) (d4 : Option Value) (y0 : Int32)
    (h : ((x2 = 0) → (∃ (μ1 : aM), CX5_lays [.ref 48] (A, R, G) none μ1 ∧ aw tX5_run E 164 [some (.ref 48), d1, some (.int x2), (bif ac2 (bif ac2 d3 then none else d3) then none else (bif ac2 d3 then none else d3)), some (.int (csM A))] [] μ1)) ∧ ((¬ (x2 = 0)) → (((x2 = 1) → (∃ (μ1 : aM), CX5_lays [.ref 48] (A, R, G) none μ1 ∧ aw tX5_run E 164 [some (.ref 48), d1, some (.int x2), (bif ac2 d3 then none else d3), some (.int y0)] [] μ1)) ∧ ((¬ (x2 = 1)) → (((x2 = 2) → (∃ (v1 : Int32) (μ1 : aM), CX5_waitedAll [.ref 48] (A, R, G) (some (.int v1)) μ1 ∧ aw tX5_run E 120 [some (.ref 48), d1, some (.int x2), (bif ac2 d3 then none else d3), some (.int y0)] [.int v1] μ1)) ∧ ((¬ (x2 = 2)) → (((20 ≤ x2) → ((vp_in (3 * (x2 - 20)) 18) ∧ (∃ (μ1 : aM), CX5_lays [.ref 48] (A, R, G) none μ1 ∧ aw tX5_run E 164 [some (.ref 48), d1, some (.int x2), (bif ac2 (bif ac2 d3 then none else d3) then none else (bif ac2 d3 then none else d3)), some (.int (A 51 (3 * (x2 - 20)).toNatClampNeg))] [] μ1))) ∧ ((¬ (20 ≤ x2)) → ((vp_in ((3 * (x2 - 10)) + 1) 18) ∧ (∃ (μ1 : aM), CX5_lays [.ref 48] (A, R, G) none μ1 ∧ aw tX5_run E 164 [some (.ref 48), d1, some (.int x2), (bif ac2 (bif ac2 d3 then none else d3) then none else (bif ac2 d3 then none else d3)), some (.int (A 51 ((3 * (x2 - 10)) + 1).toNatClampNeg))] [] μ1)))))))))) :
    aw tX5_run E 73 [some (.ref 48), d1, some (.int x2), d3, d4] [.int y0] (A, R, G) := by
  by_cases c1 : x2 = 0
  · replace h := h.1 c1
    obtain ⟨μ1, h1, n, h⟩ := h
    exact ⟨n + 9, Or.inl (And.intro c1 (Exists.intro _ (Exists.intro _ (Exists.intro _ (Exists.intro _ (And.intro rfl (And.intro (gt48 hG) (And.intro (Nat.le_of_ble_eq_true rfl) (And.intro (pX5_caseSet hG ) (Exists.intro _ (Exists.intro _ (Exists.intro _ (Exists.intro _ (And.intro rfl (And.intro (gt48 hG) (And.intro (Nat.le_of_ble_eq_true rfl) (And.intro h1 (h))))))))))))))))))⟩
  · replace h := h.2 c1
    by_cases c2 : x2 = 1
    · replace h := h.1 c2
      obtain ⟨μ1, h1, n, h⟩ := h
      exact ⟨n + 6, Or.inr (And.intro c1 (Or.inl (And.intro c2 (Exists.intro _ (Exists.intro _ (Exists.intro _ (Exists.intro _ (And.intro rfl (And.intro (gt48 hG) (And.intro (Nat.le_of_ble_eq_true rfl) (And.intro h1 (h))))))))))))⟩
    · replace h := h.2 c2
      by_cases c3 : x2 = 2
      · replace h := h.1 c3
        obtain ⟨v1, μ1, h1, n, h⟩ := h
        exact ⟨n + 5, Or.inr (And.intro c1 (Or.inr (And.intro c2 (Or.inl (And.intro c3 (Exists.intro _ (Exists.intro _ (Exists.intro _ (Exists.intro _ (And.intro rfl (And.intro (gt48 hG) (And.intro (Nat.le_of_ble_eq_true rfl) (And.intro h1 (h))))))))))))))⟩
      · replace h := h.2 c3
        by_cases c4 : 20 ≤ x2
        · replace h := h.1 c4
          obtain ⟨q5, h⟩ := h
          obtain ⟨μ1, h1, n, h⟩ := h
          exact ⟨n + 17, Or.inr (And.intro c1 (Or.inr (And.intro c2 (Or.inr (And.intro c3 (Or.inl (And.intro c4 (And.intro (gt48 hG) (And.intro (gt51 hG) (And.intro (vin_len (gl51 hG) q5) (Exists.intro _ (Exists.intro _ (Exists.intro _ (Exists.intro _ (And.intro rfl (And.intro (gt48 hG) (And.intro (Nat.le_of_ble_eq_true rfl) (And.intro h1 (h)))))))))))))))))))⟩
        · replace h := h.2 c4
          obtain ⟨q6, h⟩ := h
          obtain ⟨μ1, h1, n, h⟩ := h
          exact ⟨n + 20, Or.inr (And.intro c1 (Or.inr (And.intro c2 (Or.inr (And.intro c3 (Or.inr (And.intro c4 (And.intro (gt48 hG) (And.intro (gt51 hG) (And.intro (vin_len (gl51 hG) q6) (Exists.intro _ (Exists.intro _ (Exists.intro _ (Exists.intro _ (And.intro rfl (And.intro (gt48 hG) (And.intro (Nat.le_of_ble_eq_true rfl) (And.intro h1 (h)))))))))))))))))))⟩

set_option maxRecDepth 100000 in
set_option maxHeartbeats 4000000 in
theorem sX5_run_120 {E : aR} {A : Nat → Nat → Int32} {R : Nat → Nat → Option Nat} {G : Nat → Nat × Nat} (hG : aGS G) (d1 : Option Value) (d2 : Option Value) (d3 : Option Value) (d4 : Option Value) (y0 : Int32)
    (h : ∃ (μ1 : aM), CX5_lays [.ref 48] (A, R, G) none μ1 ∧ aw tX5_run E 164 [some (.ref 48), d1, d2, (bif ac2 d3 then none else d3), some (.int y0)] [] μ1) :
    aw tX5_run E 120 [some (.ref 48), d1, d2, d3, d4] [.int y0] (A, R, G) := by
  obtain ⟨μ1, h1, n, h⟩ := h
  exact ⟨n + 4, Exists.intro _ (Exists.intro _ (Exists.intro _ (Exists.intro _ (And.intro rfl (And.intro (gt48 hG) (And.intro (Nat.le_of_ble_eq_true rfl) (And.intro h1 (h))))))))⟩

set_option maxRecDepth 100000 in
set_option maxHeartbeats 4000000 in
theorem sX5_run_164 {E : aR} {A : Nat → Nat → Int32} {R : Nat → Nat → Option Nat} {G : Nat → Nat × Nat} (d1 : Option Value) (d2 : Option Value) (d3 : Option Value) (x4 : Int32)
    (h : E (some (.int x4)) (A, R, G)) :
    aw tX5_run E 164 [some (.ref 48), d1, d2, d3, some (.int x4)] [] (A, R, G) := by
  exact ⟨2, h⟩

set_option maxRecDepth 100000 in
set_option maxHeartbeats 4000000 in
theorem sX5_when_0 {E : aR} {A : Nat → Nat → Int32} {R : Nat → Nat → Option Nat} {G : Nat → Nat × Nat} (hG : aGS G) (x1 : Int32)
    (h : ((0 ≤ x1 ∧ x1 ≤ 8) → (((8 ≤ x1) → (∃ (μ1 : aM), CX5_keeps [.ref 48] (A, R, G) none μ1 ∧ aw tX5_when E 36 [some (.ref 48), some (.int x1), some (.int (-1)), none, none] [] μ1)) ∧ ((¬ (8 ≤ x1)) → (((thM A x1) → (∃ (μ1 : aM), CX5_keeps [.ref 48] (A, R, G) none μ1 ∧ aw tX5_when E 36 [some (.ref 48), some (.int x1), some (.int (-1)), none, none] [] μ1)) ∧ ((¬ (thM A x1)) → (E (some (.int (-6))) (A, R, G))))))) ∧ ((¬ (0 ≤ x1 ∧ x1 ≤ 8)) → (E (some (.int (-7))) (A, R, G)))) :
    aw tX5_when E 0 [some (.ref 48), some (.int x1), none, none, none] [] (A, R, G) := by
  by_cases c1 : 0 ≤ x1 ∧ x1 ≤ 8
  · replace h := h.1 c1
    by_cases c2 : 8 ≤ x1
    · replace h := h.1 c2
      obtain ⟨μ1, h1, n, h⟩ := h
      exact ⟨n + 12, Exists.intro _ (Exists.intro _ (And.intro (Nat.le_of_ble_eq_true rfl) (And.intro (Nat.le_of_ble_eq_true rfl) (And.intro (pX5_in _ _ _) (Or.inl (And.intro (bI_ne c1) (Or.inl (And.intro c2 (Exists.intro _ (Exists.intro _ (Exists.intro _ (Exists.intro _ (And.intro rfl (And.intro (gt48 hG) (And.intro (Nat.le_of_ble_eq_true rfl) (And.intro h1 (h)))))))))))))))))⟩
    · replace h := h.2 c2
      by_cases c3 : thM A x1
      · replace h := h.1 c3
        obtain ⟨μ1, h1, n, h⟩ := h
        exact ⟨n + 16, Exists.intro _ (Exists.intro _ (And.intro (Nat.le_of_ble_eq_true rfl) (And.intro (Nat.le_of_ble_eq_true rfl) (And.intro (pX5_in _ _ _) (Or.inl (And.intro (bI_ne c1) (Or.inr (And.intro c2 (Exists.intro _ (Exists.intro _ (Exists.intro _ (Exists.intro _ (And.intro rfl (And.intro (gt48 hG) (And.intro (Nat.le_of_ble_eq_true rfl) (And.intro (pX5_isThere hG _) (Or.inl (And.intro (bI_ne c3) (Exists.intro _ (Exists.intro _ (Exists.intro _ (Exists.intro _ (And.intro rfl (And.intro (gt48 hG) (And.intro (Nat.le_of_ble_eq_true rfl) (And.intro h1 (h)))))))))))))))))))))))))))⟩
      · replace h := h.2 c3
        exact ⟨14, Exists.intro _ (Exists.intro _ (And.intro (Nat.le_of_ble_eq_true rfl) (And.intro (Nat.le_of_ble_eq_true rfl) (And.intro (pX5_in _ _ _) (Or.inl (And.intro (bI_ne c1) (Or.inr (And.intro c2 (Exists.intro _ (Exists.intro _ (Exists.intro _ (Exists.intro _ (And.intro rfl (And.intro (gt48 hG) (And.intro (Nat.le_of_ble_eq_true rfl) (And.intro (pX5_isThere hG _) (Or.inr (And.intro (bI_nne c3) (h)))))))))))))))))))⟩
  · replace h := h.2 c1
    exact ⟨7, Exists.intro _ (Exists.intro _ (And.intro (Nat.le_of_ble_eq_true rfl) (And.intro (Nat.le_of_ble_eq_true rfl) (And.intro (pX5_in _ _ _) (Or.inr (And.intro (bI_nne c1) (h)))))))⟩

set_option maxRecDepth 100000 in
set_option maxHeartbeats 4000000 in
theorem sX5_when_36 {E : aR} {A : Nat → Nat → Int32} {R : Nat → Nat → Option Nat} {G : Nat → Nat × Nat} (x1 : Int32) (x2 : Int32) (d3 : Option Value) (d4 : Option Value)
    (h : aw tX5_when E 38 [some (.ref 48), some (.int x1), some (.int x2), some (.int 0), d4] [] (A, R, G)) :
    aw tX5_when E 36 [some (.ref 48), some (.int x1), some (.int x2), d3, d4] [] (A, R, G) := by
  obtain ⟨n, h⟩ := h
  exact ⟨n + 2, h⟩

set_option maxRecDepth 100000 in
set_option maxHeartbeats 4000000 in
theorem sX5_when_38 {E : aR} {A : Nat → Nat → Int32} {R : Nat → Nat → Option Nat} {G : Nat → Nat × Nat} (hG : aGS G) (x1 : Int32) (x2 : Int32) (x3 : Int32) (d4 : Option Value)
    (h : ((60 < x3) → (∃ (μ1 : aM), CX5_lays [.ref 48] (A, R, G) none μ1 ∧ aw tX5_when E 111 [some (.ref 48), some (.int x1), some (.int x2), some (.int x3), none] [] μ1)) ∧ ((¬ (60 < x3)) → (((x2 = (-1)) → (((x1 = 8) → ((((csM A) = 0) → (∃ (v1 : Int32) (μ1 : aM), CX5_dayOf [.ref 48] (A, R, G) (some (.int v1)) μ1 ∧ aw tX5_when E 100 [some (.ref 48), some (.int x1), some (.int x3), some (.int x3), some (.int 1)] [.int v1] μ1)) ∧ ((¬ ((csM A) = 0)) → (∃ (v1 : Int32) (μ1 : aM), CX5_dayOf [.ref 48] (A, R, G) (some (.int v1)) μ1 ∧ aw tX5_when E 100 [some (.ref 48), some (.int x1), some (.int (-1)), some (.int x3), some (.int 0)] [.int v1] μ1)))) ∧ ((¬ (x1 = 8)) → (((thM A x1) → (∃ (v1 : Int32) (μ1 : aM), CX5_dayOf [.ref 48] (A, R, G) (some (.int v1)) μ1 ∧ aw tX5_when E 100 [some (.ref 48), some (.int x1), some (.int (-1)), some (.int x3), some (.int 0)] [.int v1] μ1)) ∧ ((¬ (thM A x1)) → (∃ (v1 : Int32) (μ1 : aM), CX5_dayOf [.ref 48] (A, R, G) (some (.int v1)) μ1 ∧ aw tX5_when E 100 [some (.ref 48), some (.int x1), some (.int x3), some (.int x3), some (.int 1)] [.int v1] μ1)))))) ∧ ((¬ (x2 = (-1))) → (∃ (μ1 : aM), CX5_lays [.ref 48] (A, R, G) none μ1 ∧ aw tX5_when E 111 [some (.ref 48), some (.int x1), some (.int x2), some (.int x3), none] [] μ1))))) :
    aw tX5_when E 38 [some (.ref 48), some (.int x1), some (.int x2), some (.int x3), d4] [] (A, R, G) := by
  by_cases c1 : 60 < x3
  · replace h := h.1 c1
    obtain ⟨μ1, h1, n, h⟩ := h
    exact ⟨n + 5, Or.inl (And.intro c1 (Exists.intro _ (Exists.intro _ (Exists.intro _ (Exists.intro _ (And.intro rfl (And.intro (gt48 hG) (And.intro (Nat.le_of_ble_eq_true rfl) (And.intro h1 (h))))))))))⟩
  · replace h := h.2 c1
    by_cases c2 : x2 = (-1)
    · replace h := h.1 c2
      by_cases c3 : x1 = 8
      · replace h := h.1 c3
        by_cases c4 : (csM A) = 0
        · replace h := h.1 c4
          obtain ⟨v1, μ1, h1, n, h⟩ := h
          exact ⟨n + 22, Or.inr (And.intro c1 (Or.inr (And.intro (fun z => z c2) (Or.inr (And.intro (fun z => z c3) (Exists.intro _ (Exists.intro _ (Exists.intro _ (Exists.intro _ (And.intro rfl (And.intro (gt48 hG) (And.intro (Nat.le_of_ble_eq_true rfl) (And.intro (pX5_caseSet hG ) (Or.inr (And.intro (fun z => z c4) (Or.inr (And.intro (by decide) (Exists.intro _ (Exists.intro _ (Exists.intro _ (Exists.intro _ (And.intro rfl (And.intro (gt48 hG) (And.intro (Nat.le_of_ble_eq_true rfl) (And.intro h1 (h))))))))))))))))))))))))))⟩
        · replace h := h.2 c4
          obtain ⟨v1, μ1, h1, n, h⟩ := h
          exact ⟨n + 21, Or.inr (And.intro c1 (Or.inr (And.intro (fun z => z c2) (Or.inr (And.intro (fun z => z c3) (Exists.intro _ (Exists.intro _ (Exists.intro _ (Exists.intro _ (And.intro rfl (And.intro (gt48 hG) (And.intro (Nat.le_of_ble_eq_true rfl) (And.intro (pX5_caseSet hG ) (Or.inl (And.intro c4 (Or.inl (And.intro (by decide) (Exists.intro _ (Exists.intro _ (Exists.intro _ (Exists.intro _ (And.intro rfl (And.intro (gt48 hG) (And.intro (Nat.le_of_ble_eq_true rfl) (And.intro h1 (h))))))))))))))))))))))))))⟩
      · replace h := h.2 c3
        by_cases c5 : thM A x1
        · replace h := h.1 c5
          obtain ⟨v1, μ1, h1, n, h⟩ := h
          exact ⟨n + 21, Or.inr (And.intro c1 (Or.inr (And.intro (fun z => z c2) (Or.inl (And.intro c3 (Exists.intro _ (Exists.intro _ (Exists.intro _ (Exists.intro _ (And.intro rfl (And.intro (gt48 hG) (And.intro (Nat.le_of_ble_eq_true rfl) (And.intro (pX5_isThere hG _) (Or.inl (And.intro (bI_ne c5) (Or.inl (And.intro (by decide) (Exists.intro _ (Exists.intro _ (Exists.intro _ (Exists.intro _ (And.intro rfl (And.intro (gt48 hG) (And.intro (Nat.le_of_ble_eq_true rfl) (And.intro h1 (h))))))))))))))))))))))))))⟩
        · replace h := h.2 c5
          obtain ⟨v1, μ1, h1, n, h⟩ := h
          exact ⟨n + 23, Or.inr (And.intro c1 (Or.inr (And.intro (fun z => z c2) (Or.inl (And.intro c3 (Exists.intro _ (Exists.intro _ (Exists.intro _ (Exists.intro _ (And.intro rfl (And.intro (gt48 hG) (And.intro (Nat.le_of_ble_eq_true rfl) (And.intro (pX5_isThere hG _) (Or.inr (And.intro (bI_nne c5) (Or.inr (And.intro (by decide) (Exists.intro _ (Exists.intro _ (Exists.intro _ (Exists.intro _ (And.intro rfl (And.intro (gt48 hG) (And.intro (Nat.le_of_ble_eq_true rfl) (And.intro h1 (h))))))))))))))))))))))))))⟩
    · replace h := h.2 c2
      obtain ⟨μ1, h1, n, h⟩ := h
      exact ⟨n + 8, Or.inr (And.intro c1 (Or.inl (And.intro c2 (Exists.intro _ (Exists.intro _ (Exists.intro _ (Exists.intro _ (And.intro rfl (And.intro (gt48 hG) (And.intro (Nat.le_of_ble_eq_true rfl) (And.intro h1 (h))))))))))))⟩

set_option maxRecDepth 100000 in
set_option maxHeartbeats 4000000 in
theorem sX5_when_100 {E : aR} {A : Nat → Nat → Int32} {R : Nat → Nat → Option Nat} {G : Nat → Nat × Nat} (x1 : Int32) (x2 : Int32) (x3 : Int32) (d4 : Option Value) (y0 : Int32)
    (h : aw tX5_when E 38 [some (.ref 48), some (.int x1), some (.int x2), some (.int (x3 + 1)), d4] [] (A, R, G)) :
    aw tX5_when E 100 [some (.ref 48), some (.int x1), some (.int x2), some (.int x3), d4] [.int y0] (A, R, G) := by
  obtain ⟨n, h⟩ := h
  exact ⟨n + 3, And.intro rfl (h)⟩

set_option maxRecDepth 100000 in
set_option maxHeartbeats 4000000 in
theorem sX5_when_111 {E : aR} {A : Nat → Nat → Int32} {R : Nat → Nat → Option Nat} {G : Nat → Nat × Nat} (d1 : Option Value) (x2 : Int32) (d3 : Option Value) (d4 : Option Value)
    (h : E (some (.int x2)) (A, R, G)) :
    aw tX5_when E 111 [some (.ref 48), d1, some (.int x2), d3, d4] [] (A, R, G) := by
  exact ⟨2, h⟩

set_option maxRecDepth 100000 in
set_option maxHeartbeats 4000000 in
theorem sX5_sitting_0 {E : aR} {A : Nat → Nat → Int32} {R : Nat → Nat → Option Nat} {G : Nat → Nat × Nat} (hG : aGS G) (x1 : Int32)
    (h : ((0 ≤ x1 ∧ x1 ≤ 1) → (∃ (μ1 : aM), CX5_tellsSittings [.ref 48] (A, R, G) none μ1 ∧ aw tX5_sitting E 16 [some (.ref 48), some (.int x1)] [] μ1)) ∧ ((¬ (0 ≤ x1 ∧ x1 ≤ 1)) → (E (some (.int (-2))) (A, R, G)))) :
    aw tX5_sitting E 0 [some (.ref 48), some (.int x1)] [] (A, R, G) := by
  by_cases c1 : 0 ≤ x1 ∧ x1 ≤ 1
  · replace h := h.1 c1
    obtain ⟨μ1, h1, n, h⟩ := h
    exact ⟨n + 7, Exists.intro _ (Exists.intro _ (And.intro (Nat.le_of_ble_eq_true rfl) (And.intro (Nat.le_of_ble_eq_true rfl) (And.intro (pX5_in _ _ _) (Or.inl (And.intro (bI_ne c1) (Exists.intro _ (Exists.intro _ (Exists.intro _ (Exists.intro _ (And.intro rfl (And.intro (gt48 hG) (And.intro (Nat.le_of_ble_eq_true rfl) (And.intro h1 (h)))))))))))))))⟩
  · replace h := h.2 c1
    exact ⟨7, Exists.intro _ (Exists.intro _ (And.intro (Nat.le_of_ble_eq_true rfl) (And.intro (Nat.le_of_ble_eq_true rfl) (And.intro (pX5_in _ _ _) (Or.inr (And.intro (bI_nne c1) (h)))))))⟩

set_option maxRecDepth 100000 in
set_option maxHeartbeats 4000000 in
theorem sX5_sitting_16 {E : aR} {A : Nat → Nat → Int32} {R : Nat → Nat → Option Nat} {G : Nat → Nat × Nat} (hG : aGS G) (x1 : Int32)
    (h : ((x1 = 0) → (aw tX5_sitting E 33 [some (.ref 48), some (.int x1)] [.int (A 67 0)] (A, R, G))) ∧ ((¬ (x1 = 0)) → (∃ (v1 : Int32) (μ1 : aM), CX5_leastSitting [.ref 48] (A, R, G) (some (.int v1)) μ1 ∧ aw tX5_sitting E 33 [some (.ref 48), some (.int x1)] [.int v1] μ1))) :
    aw tX5_sitting E 16 [some (.ref 48), some (.int x1)] [] (A, R, G) := by
  by_cases c1 : x1 = 0
  · replace h := h.1 c1
    obtain ⟨n, h⟩ := h
    exact ⟨n + 7, Or.inr (And.intro (fun z => z c1) (And.intro (gt48 hG) (And.intro (gt67 hG) (And.intro (vin_len (gl67 hG) (by unfold vp_in; decide)) (h)))))⟩
  · replace h := h.2 c1
    obtain ⟨v1, μ1, h1, n, h⟩ := h
    exact ⟨n + 4, Or.inl (And.intro c1 (Exists.intro _ (Exists.intro _ (Exists.intro _ (Exists.intro _ (And.intro rfl (And.intro (gt48 hG) (And.intro (Nat.le_of_ble_eq_true rfl) (And.intro h1 (h))))))))))⟩

set_option maxRecDepth 100000 in
set_option maxHeartbeats 4000000 in
theorem sX5_sitting_33 {E : aR} {A : Nat → Nat → Int32} {R : Nat → Nat → Option Nat} {G : Nat → Nat × Nat} (d1 : Option Value) (y0 : Int32)
    (h : E (some (.int y0)) (A, R, G)) :
    aw tX5_sitting E 33 [some (.ref 48), d1] [.int y0] (A, R, G) := by
  exact ⟨1, h⟩

set_option maxRecDepth 100000 in
set_option maxHeartbeats 4000000 in
theorem sX5_burglary_0 {E : aR} {A : Nat → Nat → Int32} {R : Nat → Nat → Option Nat} {G : Nat → Nat × Nat} (hG : aGS G) (x1 : Int32) (x2 : Int32)
    (h : ((0 ≤ x1 ∧ x1 ≤ 40) → (((0 ≤ x2 ∧ x2 ≤ 1) → (∃ (μ1 : aM), CX5_keeps [.ref 48] (A, R, G) none μ1 ∧ aw tX5_burglary E 28 [some (.ref 48), some (.int x1), some (.int x2), some (.int (-1)), none, none, none, none] [] μ1)) ∧ ((¬ (0 ≤ x2 ∧ x2 ≤ 1)) → (E (some (.int (-2))) (A, R, G))))) ∧ ((¬ (0 ≤ x1 ∧ x1 ≤ 40)) → (E (some (.int (-2))) (A, R, G)))) :
    aw tX5_burglary E 0 [some (.ref 48), some (.int x1), some (.int x2), none, none, none, none, none] [] (A, R, G) := by
  by_cases c1 : 0 ≤ x1 ∧ x1 ≤ 40
  · replace h := h.1 c1
    by_cases c2 : 0 ≤ x2 ∧ x2 ≤ 1
    · replace h := h.1 c2
      obtain ⟨μ1, h1, n, h⟩ := h
      exact ⟨n + 14, Exists.intro _ (Exists.intro _ (And.intro (Nat.le_of_ble_eq_true rfl) (And.intro (Nat.le_of_ble_eq_true rfl) (And.intro (pX5_in _ _ _) (Or.inr (And.intro (bI_neq c1) (Exists.intro _ (Exists.intro _ (And.intro (Nat.le_of_ble_eq_true rfl) (And.intro (Nat.le_of_ble_eq_true rfl) (And.intro (pX5_in _ _ _) (Or.inl (And.intro (bI_ne c2) (Exists.intro _ (Exists.intro _ (Exists.intro _ (Exists.intro _ (And.intro rfl (And.intro (gt48 hG) (And.intro (Nat.le_of_ble_eq_true rfl) (And.intro h1 (h))))))))))))))))))))))⟩
    · replace h := h.2 c2
      exact ⟨12, Exists.intro _ (Exists.intro _ (And.intro (Nat.le_of_ble_eq_true rfl) (And.intro (Nat.le_of_ble_eq_true rfl) (And.intro (pX5_in _ _ _) (Or.inr (And.intro (bI_neq c1) (Exists.intro _ (Exists.intro _ (And.intro (Nat.le_of_ble_eq_true rfl) (And.intro (Nat.le_of_ble_eq_true rfl) (And.intro (pX5_in _ _ _) (Or.inr (And.intro (bI_nne c2) (h))))))))))))))⟩
  · replace h := h.2 c1
    exact ⟨7, Exists.intro _ (Exists.intro _ (And.intro (Nat.le_of_ble_eq_true rfl) (And.intro (Nat.le_of_ble_eq_true rfl) (And.intro (pX5_in _ _ _) (Or.inl (And.intro (bI_eq c1) (h)))))))⟩

set_option maxRecDepth 100000 in
set_option maxHeartbeats 4000000 in
theorem sX5_burglary_28 {E : aR} {A : Nat → Nat → Int32} {R : Nat → Nat → Option Nat} {G : Nat → Nat × Nat} (hG : aGS G) (x1 : Int32) (x2 : Int32) (x3 : Int32) (d4 : Option Value) (d5 : Option Value) (d6 : Option Value) (d7 : Option Value)
    (h : ∃ (v1 : Int32) (μ1 : aM), CX5_goes [.ref 48, .int x1] (A, R, G) (some (.int v1)) μ1 ∧ aw tX5_burglary E 33 [some (.ref 48), some (.int x1), some (.int x2), some (.int x3), d4, d5, d6, d7] [.int v1] μ1) :
    aw tX5_burglary E 28 [some (.ref 48), some (.int x1), some (.int x2), some (.int x3), d4, d5, d6, d7] [] (A, R, G) := by
  obtain ⟨v1, μ1, h1, n, h⟩ := h
  exact ⟨n + 3, Exists.intro _ (Exists.intro _ (Exists.intro _ (Exists.intro _ (And.intro rfl (And.intro (gt48 hG) (And.intro (Nat.le_of_ble_eq_true rfl) (And.intro h1 (h))))))))⟩

set_option maxRecDepth 100000 in
set_option maxHeartbeats 4000000 in
theorem sX5_burglary_33 {E : aR} {A : Nat → Nat → Int32} {R : Nat → Nat → Option Nat} {G : Nat → Nat × Nat} (hG : aGS G) (x1 : Int32) (x2 : Int32) (x3 : Int32) (d4 : Option Value) (d5 : Option Value) (d6 : Option Value) (d7 : Option Value) (y0 : Int32)
    (h : ∃ (μ1 : aM), CX5_lays [.ref 48] (A, R, G) none μ1 ∧ aw tX5_burglary E 39 [some (.ref 48), some (.int x1), some (.int x2), some (.int x3), some (.int y0), d5, d6, d7] [] μ1) :
    aw tX5_burglary E 33 [some (.ref 48), some (.int x1), some (.int x2), some (.int x3), d4, d5, d6, d7] [.int y0] (A, R, G) := by
  obtain ⟨μ1, h1, n, h⟩ := h
  exact ⟨n + 3, Exists.intro _ (Exists.intro _ (Exists.intro _ (Exists.intro _ (And.intro rfl (And.intro (gt48 hG) (And.intro (Nat.le_of_ble_eq_true rfl) (And.intro h1 (h))))))))⟩

set_option maxRecDepth 100000 in
set_option maxHeartbeats 4000000 in
theorem sX5_burglary_39 {E : aR} {A : Nat → Nat → Int32} {R : Nat → Nat → Option Nat} {G : Nat → Nat × Nat} (x1 : Int32) (x2 : Int32) (x3 : Int32) (x4 : Int32) (d5 : Option Value) (d6 : Option Value) (d7 : Option Value)
    (h : aw tX5_burglary E 42 [some (.ref 48), some (.int x1), some (.int x2), some (.int x3), some (.int x4), some (.int 0), d6, d7] [] (A, R, G)) :
    aw tX5_burglary E 39 [some (.ref 48), some (.int x1), some (.int x2), some (.int x3), some (.int x4), d5, d6, d7] [] (A, R, G) := by
  obtain ⟨n, h⟩ := h
  exact ⟨n + 2, h⟩

set_option maxRecDepth 100000 in
set_option maxHeartbeats 4000000 in
theorem sX5_burglary_42 {E : aR} {A : Nat → Nat → Int32} {R : Nat → Nat → Option Nat} {G : Nat → Nat × Nat} (hG : aGS G) (x1 : Int32) (x2 : Int32) (x3 : Int32) (x4 : Int32) (x5 : Int32) (d6 : Option Value) (d7 : Option Value)
    (h : (((A 48 0) ≤ x5) → (((x2 = 0) → (E (some (.int x3)) (A, R, G))) ∧ ((¬ (x2 = 0)) → (E (some (.int x4)) (A, R, G))))) ∧ ((¬ ((A 48 0) ≤ x5)) → (aw tX5_burglary E 54 [some (.ref 48), some (.int x1), some (.int x2), some (.int x3), some (.int x4), some (.int x5), some (.int 0), none] [] (A, R, G)))) :
    aw tX5_burglary E 42 [some (.ref 48), some (.int x1), some (.int x2), some (.int x3), some (.int x4), some (.int x5), d6, d7] [] (A, R, G) := by
  by_cases c1 : (A 48 0) ≤ x5
  · replace h := h.1 c1
    by_cases c2 : x2 = 0
    · replace h := h.1 c2
      exact ⟨9, And.intro (gt48 hG) (Or.inl (And.intro c1 (Or.inr (And.intro (fun z => z c2) (h)))))⟩
    · replace h := h.2 c2
      exact ⟨8, And.intro (gt48 hG) (Or.inl (And.intro c1 (Or.inl (And.intro c2 (h)))))⟩
  · replace h := h.2 c1
    obtain ⟨n, h⟩ := h
    exact ⟨n + 6, And.intro (gt48 hG) (Or.inr (And.intro c1 (h)))⟩

set_option maxRecDepth 100000 in
set_option maxHeartbeats 4000000 in
theorem sX5_burglary_54 {E : aR} {A : Nat → Nat → Int32} {R : Nat → Nat → Option Nat} {G : Nat → Nat × Nat} (hG : aGS G) (x1 : Int32) (x2 : Int32) (x3 : Int32) (x4 : Int32) (x5 : Int32) (x6 : Int32) (d7 : Option Value)
    (h : ((10 ≤ x6) → (aw tX5_burglary E 42 [some (.ref 48), some (.int x1), some (.int x2), some (.int x3), some (.int x4), some (.int (x5 + 1)), some (.int x6), none] [] (A, R, G))) ∧ ((¬ (10 ≤ x6)) → ((vp_in (3 * x5) 18) ∧ ((((((A 51 (3 * x5).toNatClampNeg) >>> (x6 &&& 31)) &&& 1) = 0) → (∃ (v1 : Int32) (μ1 : aM), CX5_goes [.ref 48, .int x1] ((au A 51 (3 * x5).toNatClampNeg ((A 51 (3 * x5).toNatClampNeg) ||| ((1 : Int32) <<< (x6 &&& 31)))), R, G) (some (.int v1)) μ1 ∧ aw tX5_burglary E 99 [some (.ref 48), some (.int x1), some (.int x2), some (.int x3), some (.int x4), some (.int x5), some (.int x6), none] [.int v1] μ1)) ∧ ((¬ ((((A 51 (3 * x5).toNatClampNeg) >>> (x6 &&& 31)) &&& 1) = 0)) → (aw tX5_burglary E 54 [some (.ref 48), some (.int x1), some (.int x2), some (.int x3), some (.int x4), some (.int x5), some (.int (x6 + 1)), none] [] (A, R, G))))))) :
    aw tX5_burglary E 54 [some (.ref 48), some (.int x1), some (.int x2), some (.int x3), some (.int x4), some (.int x5), some (.int x6), d7] [] (A, R, G) := by
  by_cases c1 : 10 ≤ x6
  · replace h := h.1 c1
    obtain ⟨n, h⟩ := h
    exact ⟨n + 5, Or.inl (And.intro c1 (h))⟩
  · replace h := h.2 c1
    obtain ⟨q2, h⟩ := h
    by_cases c3 : (((A 51 (3 * x5).toNatClampNeg) >>> (x6 &&& 31)) &&& 1) = 0
    · replace h := h.1 c3
      obtain ⟨v1, μ1, h1, n, h⟩ := h
      exact ⟨n + 29, Or.inr (And.intro c1 (And.intro (gt48 hG) (And.intro (gt51 hG) (And.intro (vin_len (gl51 hG) q2) (Or.inr (And.intro (fun z => z c3) (And.intro (gt48 hG) (And.intro rfl (And.intro rfl (And.intro (gt51 hG) (And.intro (vin_len (gl51 hG) q2) (And.intro (gt51 hG) (And.intro (vin_len (gl51 hG) q2) (Exists.intro _ (Exists.intro _ (Exists.intro _ (Exists.intro _ (And.intro rfl (And.intro (gt48 hG) (And.intro (Nat.le_of_ble_eq_true rfl) (And.intro h1 (h))))))))))))))))))))))⟩
    · replace h := h.2 c3
      obtain ⟨n, h⟩ := h
      exact ⟨n + 16, Or.inr (And.intro c1 (And.intro (gt48 hG) (And.intro (gt51 hG) (And.intro (vin_len (gl51 hG) q2) (Or.inl (And.intro c3 (h)))))))⟩

set_option maxRecDepth 100000 in
set_option maxHeartbeats 4000000 in
theorem sX5_burglary_99 {E : aR} {A : Nat → Nat → Int32} {R : Nat → Nat → Option Nat} {G : Nat → Nat × Nat} (hG : aGS G) (x1 : Int32) (x2 : Int32) (x3 : Int32) (x4 : Int32) (x5 : Int32) (x6 : Int32) (d7 : Option Value) (y0 : Int32)
    (h : ∃ (μ1 : aM), CX5_lays [.ref 48] (A, R, G) none μ1 ∧ aw tX5_burglary E 105 [some (.ref 48), some (.int x1), some (.int x2), some (.int x3), some (.int x4), some (.int x5), some (.int x6), some (.int y0)] [] μ1) :
    aw tX5_burglary E 99 [some (.ref 48), some (.int x1), some (.int x2), some (.int x3), some (.int x4), some (.int x5), some (.int x6), d7] [.int y0] (A, R, G) := by
  obtain ⟨μ1, h1, n, h⟩ := h
  exact ⟨n + 3, Exists.intro _ (Exists.intro _ (Exists.intro _ (Exists.intro _ (And.intro rfl (And.intro (gt48 hG) (And.intro (Nat.le_of_ble_eq_true rfl) (And.intro h1 (h))))))))⟩

set_option maxRecDepth 100000 in
set_option maxHeartbeats 4000000 in
theorem sX5_burglary_105 {E : aR} {A : Nat → Nat → Int32} {R : Nat → Nat → Option Nat} {G : Nat → Nat × Nat} (x1 : Int32) (x2 : Int32) (x3 : Int32) (x4 : Int32) (x5 : Int32) (x6 : Int32) (x7 : Int32)
    (h : ((x7 ≤ x4) → (aw tX5_burglary E 54 [some (.ref 48), some (.int x1), some (.int x2), some (.int x3), some (.int x4), some (.int x5), some (.int (x6 + 1)), some (.int x7)] [] (A, R, G))) ∧ ((¬ (x7 ≤ x4)) → (aw tX5_burglary E 54 [some (.ref 48), some (.int x1), some (.int x2), some (.int ((10 * x5) + x6)), some (.int x7), some (.int x5), some (.int (x6 + 1)), some (.int x7)] [] (A, R, G)))) :
    aw tX5_burglary E 105 [some (.ref 48), some (.int x1), some (.int x2), some (.int x3), some (.int x4), some (.int x5), some (.int x6), some (.int x7)] [] (A, R, G) := by
  by_cases c1 : x7 ≤ x4
  · replace h := h.1 c1
    obtain ⟨n, h⟩ := h
    exact ⟨n + 12, Or.inl (And.intro c1 (Or.inl (And.intro c1 (h))))⟩
  · replace h := h.2 c1
    obtain ⟨n, h⟩ := h
    exact ⟨n + 18, Or.inr (And.intro c1 (Or.inr (And.intro c1 (h))))⟩

set_option maxRecDepth 100000 in
set_option maxHeartbeats 4000000 in
theorem sX5_wants_0 {E : aR} {A : Nat → Nat → Int32} {R : Nat → Nat → Option Nat} {G : Nat → Nat × Nat} (hG : aGS G) (x1 : Int32) (x2 : Int32) (x3 : Int32)
    (h : ((0 ≤ x1 ∧ x1 ≤ A 48 0 - 1) → (((thM A x2) → (((0 ≤ x3 ∧ x3 ≤ 1) → ((vp_in (3 * x1) 18) ∧ (aw tX5_wants E 53 [some (.ref 48), some (.int x1), some (.int x2), some (.int x3), some (.int (A 51 (3 * x1).toNatClampNeg)), some (.int (-1)), some (.int (-1)), some (.int 0), none] [] (A, R, G)))) ∧ ((¬ (0 ≤ x3 ∧ x3 ≤ 1)) → (E (some (.int (-7))) (A, R, G))))) ∧ ((¬ (thM A x2)) → (E (some (.int (-6))) (A, R, G))))) ∧ ((¬ (0 ≤ x1 ∧ x1 ≤ A 48 0 - 1)) → (E (some (.int (-5))) (A, R, G)))) :
    aw tX5_wants E 0 [some (.ref 48), some (.int x1), some (.int x2), some (.int x3), none, none, none, none, none] [] (A, R, G) := by
  by_cases c1 : 0 ≤ x1 ∧ x1 ≤ A 48 0 - 1
  · replace h := h.1 c1
    by_cases c2 : thM A x2
    · replace h := h.1 c2
      by_cases c3 : 0 ≤ x3 ∧ x3 ≤ 1
      · replace h := h.1 c3
        obtain ⟨q4, h⟩ := h
        obtain ⟨n, h⟩ := h
        exact ⟨n + 26, Exists.intro _ (Exists.intro _ (Exists.intro _ (Exists.intro _ (And.intro rfl (And.intro (gt48 hG) (And.intro (Nat.le_of_ble_eq_true rfl) (And.intro (pX5_isOne hG _) (Or.inl (And.intro (bI_ne c1) (Exists.intro _ (Exists.intro _ (Exists.intro _ (Exists.intro _ (And.intro rfl (And.intro (gt48 hG) (And.intro (Nat.le_of_ble_eq_true rfl) (And.intro (pX5_isThere hG _) (Or.inl (And.intro (bI_ne c2) (Exists.intro _ (Exists.intro _ (And.intro (Nat.le_of_ble_eq_true rfl) (And.intro (Nat.le_of_ble_eq_true rfl) (And.intro (pX5_in _ _ _) (Or.inl (And.intro (bI_ne c3) (And.intro (gt48 hG) (And.intro (gt51 hG) (And.intro (vin_len (gl51 hG) q4) (h))))))))))))))))))))))))))))))⟩
      · replace h := h.2 c3
        exact ⟨15, Exists.intro _ (Exists.intro _ (Exists.intro _ (Exists.intro _ (And.intro rfl (And.intro (gt48 hG) (And.intro (Nat.le_of_ble_eq_true rfl) (And.intro (pX5_isOne hG _) (Or.inl (And.intro (bI_ne c1) (Exists.intro _ (Exists.intro _ (Exists.intro _ (Exists.intro _ (And.intro rfl (And.intro (gt48 hG) (And.intro (Nat.le_of_ble_eq_true rfl) (And.intro (pX5_isThere hG _) (Or.inl (And.intro (bI_ne c2) (Exists.intro _ (Exists.intro _ (And.intro (Nat.le_of_ble_eq_true rfl) (And.intro (Nat.le_of_ble_eq_true rfl) (And.intro (pX5_in _ _ _) (Or.inr (And.intro (bI_nne c3) (h)))))))))))))))))))))))))))⟩
    · replace h := h.2 c2
      exact ⟨10, Exists.intro _ (Exists.intro _ (Exists.intro _ (Exists.intro _ (And.intro rfl (And.intro (gt48 hG) (And.intro (Nat.le_of_ble_eq_true rfl) (And.intro (pX5_isOne hG _) (Or.inl (And.intro (bI_ne c1) (Exists.intro _ (Exists.intro _ (Exists.intro _ (Exists.intro _ (And.intro rfl (And.intro (gt48 hG) (And.intro (Nat.le_of_ble_eq_true rfl) (And.intro (pX5_isThere hG _) (Or.inr (And.intro (bI_nne c2) (h))))))))))))))))))))⟩
  · replace h := h.2 c1
    exact ⟨6, Exists.intro _ (Exists.intro _ (Exists.intro _ (Exists.intro _ (And.intro rfl (And.intro (gt48 hG) (And.intro (Nat.le_of_ble_eq_true rfl) (And.intro (pX5_isOne hG _) (Or.inr (And.intro (bI_nne c1) (h))))))))))⟩

set_option maxRecDepth 100000 in
set_option maxHeartbeats 4000000 in
theorem sX5_wants_53 {E : aR} {A : Nat → Nat → Int32} {R : Nat → Nat → Option Nat} {G : Nat → Nat × Nat} (hG : aGS G) (x1 : Int32) (x2 : Int32) (x3 : Int32) (x4 : Int32) (x5 : Int32) (x6 : Int32) (x7 : Int32) (d8 : Option Value)
    (h : ((1023 < x7) → ((vp_in (3 * x1) 18) ∧ (((x3 = 0) → (E (some (.int x5)) ((au A 51 (3 * x1).toNatClampNeg x4), R, G))) ∧ ((¬ (x3 = 0)) → (E (some (.int x6)) ((au A 51 (3 * x1).toNatClampNeg x4), R, G)))))) ∧ ((¬ (1023 < x7)) → ((((x7 &&& x4) = 0) → (((x5 = (-1)) → ((vp_in (3 * x1) 18) ∧ (∃ (v1 : Int32) (μ1 : aM), CX5_may [.ref 48, .int x1, .int x2] ((au A 51 (3 * x1).toNatClampNeg (x4 ||| x7)), R, G) (some (.int v1)) μ1 ∧ aw tX5_wants E 104 [some (.ref 48), some (.int x1), some (.int x2), some (.int x3), some (.int x4), some (.int x5), some (.int x6), some (.int x7), none] [.int v1] μ1))) ∧ ((¬ (x5 = (-1))) → (((x6 ≤ (ones x7)) → (aw tX5_wants E 53 [some (.ref 48), some (.int x1), some (.int x2), some (.int x3), some (.int x4), some (.int x5), some (.int x6), some (.int (x7 + 1)), none] [] (A, R, G))) ∧ ((¬ (x6 ≤ (ones x7))) → ((vp_in (3 * x1) 18) ∧ (∃ (v1 : Int32) (μ1 : aM), CX5_may [.ref 48, .int x1, .int x2] ((au A 51 (3 * x1).toNatClampNeg (x4 ||| x7)), R, G) (some (.int v1)) μ1 ∧ aw tX5_wants E 104 [some (.ref 48), some (.int x1), some (.int x2), some (.int x3), some (.int x4), some (.int x5), some (.int x6), some (.int x7), none] [.int v1] μ1))))))) ∧ ((¬ ((x7 &&& x4) = 0)) → (aw tX5_wants E 53 [some (.ref 48), some (.int x1), some (.int x2), some (.int x3), some (.int x4), some (.int x5), some (.int x6), some (.int (x7 + 1)), none] [] (A, R, G)))))) :
    aw tX5_wants E 53 [some (.ref 48), some (.int x1), some (.int x2), some (.int x3), some (.int x4), some (.int x5), some (.int x6), some (.int x7), d8] [] (A, R, G) := by
  by_cases c1 : 1023 < x7
  · replace h := h.1 c1
    obtain ⟨q2, h⟩ := h
    by_cases c3 : x3 = 0
    · replace h := h.1 c3
      exact ⟨15, Or.inl (And.intro c1 (And.intro (gt48 hG) (And.intro (gt51 hG) (And.intro (vin_len (gl51 hG) q2) (Or.inr (And.intro (fun z => z c3) (h)))))))⟩
    · replace h := h.2 c3
      exact ⟨14, Or.inl (And.intro c1 (And.intro (gt48 hG) (And.intro (gt51 hG) (And.intro (vin_len (gl51 hG) q2) (Or.inl (And.intro c3 (h)))))))⟩
  · replace h := h.2 c1
    by_cases c4 : (x7 &&& x4) = 0
    · replace h := h.1 c4
      by_cases c5 : x5 = (-1)
      · replace h := h.1 c5
        obtain ⟨q6, h⟩ := h
        obtain ⟨v1, μ1, h1, n, h⟩ := h
        exact ⟨n + 23, Or.inr (And.intro c1 (Or.inr (And.intro (fun z => z c4) (Or.inl (And.intro c5 (And.intro (gt48 hG) (And.intro (gt51 hG) (And.intro (vin_len (gl51 hG) q6) (Exists.intro _ (Exists.intro _ (Exists.intro _ (Exists.intro _ (And.intro rfl (And.intro (gt48 hG) (And.intro (Nat.le_of_ble_eq_true rfl) (And.intro h1 (h)))))))))))))))))⟩
      · replace h := h.2 c5
        by_cases c7 : x6 ≤ (ones x7)
        · replace h := h.1 c7
          obtain ⟨n, h⟩ := h
          exact ⟨n + 16, Or.inr (And.intro c1 (Or.inr (And.intro (fun z => z c4) (Or.inr (And.intro c5 (Exists.intro _ (Exists.intro _ (And.intro (Nat.le_of_ble_eq_true rfl) (And.intro (Nat.le_of_ble_eq_true rfl) (And.intro (pX5_onesOf _) (Or.inl (And.intro c7 (h)))))))))))))⟩
        · replace h := h.2 c7
          obtain ⟨q8, h⟩ := h
          obtain ⟨v1, μ1, h1, n, h⟩ := h
          exact ⟨n + 27, Or.inr (And.intro c1 (Or.inr (And.intro (fun z => z c4) (Or.inr (And.intro c5 (Exists.intro _ (Exists.intro _ (And.intro (Nat.le_of_ble_eq_true rfl) (And.intro (Nat.le_of_ble_eq_true rfl) (And.intro (pX5_onesOf _) (Or.inr (And.intro c7 (And.intro (gt48 hG) (And.intro (gt51 hG) (And.intro (vin_len (gl51 hG) q8) (Exists.intro _ (Exists.intro _ (Exists.intro _ (Exists.intro _ (And.intro rfl (And.intro (gt48 hG) (And.intro (Nat.le_of_ble_eq_true rfl) (And.intro h1 (h))))))))))))))))))))))))⟩
    · replace h := h.2 c4
      obtain ⟨n, h⟩ := h
      exact ⟨n + 9, Or.inr (And.intro c1 (Or.inl (And.intro c4 (h))))⟩

set_option maxRecDepth 100000 in
set_option maxHeartbeats 4000000 in
theorem sX5_wants_104 {E : aR} {A : Nat → Nat → Int32} {R : Nat → Nat → Option Nat} {G : Nat → Nat × Nat} (x1 : Int32) (x2 : Int32) (x3 : Int32) (x4 : Int32) (x5 : Int32) (x6 : Int32) (x7 : Int32) (d8 : Option Value) (y0 : Int32)
    (h : ((y0 = 0) → (aw tX5_wants E 53 [some (.ref 48), some (.int x1), some (.int x2), some (.int x3), some (.int x4), some (.int x5), some (.int x6), some (.int (x7 + 1)), some (.int y0)] [] (A, R, G))) ∧ ((¬ (y0 = 0)) → (aw tX5_wants E 53 [some (.ref 48), some (.int x1), some (.int x2), some (.int x3), some (.int x4), some (.int x7), some (.int (ones x7)), some (.int (x7 + 1)), some (.int y0)] [] (A, R, G)))) :
    aw tX5_wants E 104 [some (.ref 48), some (.int x1), some (.int x2), some (.int x3), some (.int x4), some (.int x5), some (.int x6), some (.int x7), d8] [.int y0] (A, R, G) := by
  by_cases c1 : y0 = 0
  · replace h := h.1 c1
    obtain ⟨n, h⟩ := h
    exact ⟨n + 11, Or.inl (And.intro c1 (Or.inl (And.intro c1 (h))))⟩
  · replace h := h.2 c1
    obtain ⟨n, h⟩ := h
    exact ⟨n + 14, Or.inr (And.intro c1 (Or.inr (And.intro c1 (Exists.intro _ (Exists.intro _ (And.intro (Nat.le_of_ble_eq_true rfl) (And.intro (Nat.le_of_ble_eq_true rfl) (And.intro (pX5_onesOf _) (h)))))))))⟩

set_option maxRecDepth 100000 in
set_option maxHeartbeats 4000000 in
theorem sX5_fullest_0 {E : aR} {A : Nat → Nat → Int32} {R : Nat → Nat → Option Nat} {G : Nat → Nat × Nat} (x1 : Int32)
    (h : ((0 ≤ x1 ∧ x1 ≤ 1) → (aw tX5_fullest E 22 [some (.ref 48), some (.int x1), some (.int (-1)), some (.int 0), some (.int 0), some (.int 0), none, none, none] [] (A, R, G))) ∧ ((¬ (0 ≤ x1 ∧ x1 ≤ 1)) → (E (some (.int (-2))) (A, R, G)))) :
    aw tX5_fullest E 0 [some (.ref 48), some (.int x1), none, none, none, none, none, none, none] [] (A, R, G) := by
  by_cases c1 : 0 ≤ x1 ∧ x1 ≤ 1
  · replace h := h.1 c1
    obtain ⟨n, h⟩ := h
    exact ⟨n + 13, Exists.intro _ (Exists.intro _ (And.intro (Nat.le_of_ble_eq_true rfl) (And.intro (Nat.le_of_ble_eq_true rfl) (And.intro (pX5_in _ _ _) (Or.inl (And.intro (bI_ne c1) (h)))))))⟩
  · replace h := h.2 c1
    exact ⟨7, Exists.intro _ (Exists.intro _ (And.intro (Nat.le_of_ble_eq_true rfl) (And.intro (Nat.le_of_ble_eq_true rfl) (And.intro (pX5_in _ _ _) (Or.inr (And.intro (bI_nne c1) (h)))))))⟩

set_option maxRecDepth 100000 in
set_option maxHeartbeats 4000000 in
theorem sX5_fullest_22 {E : aR} {A : Nat → Nat → Int32} {R : Nat → Nat → Option Nat} {G : Nat → Nat × Nat} (hG : aGS G) (x1 : Int32) (x2 : Int32) (x3 : Int32) (x4 : Int32) (x5 : Int32) (d6 : Option Value) (d7 : Option Value) (d8 : Option Value)
    (h : (((A 48 0) ≤ x5) → (((x1 = 0) → (E (some (.int x2)) (A, R, G))) ∧ ((¬ (x1 = 0)) → (E (some (.int x3)) (A, R, G))))) ∧ ((¬ ((A 48 0) ≤ x5)) → (∃ (v1 : Int32) (μ1 : aM), CX5_mayHear [.ref 48, .int x5] (A, R, G) (some (.int v1)) μ1 ∧ aw tX5_fullest E 37 [some (.ref 48), some (.int x1), some (.int x2), some (.int x3), some (.int x4), some (.int x5), none, none, none] [.int v1] μ1))) :
    aw tX5_fullest E 22 [some (.ref 48), some (.int x1), some (.int x2), some (.int x3), some (.int x4), some (.int x5), d6, d7, d8] [] (A, R, G) := by
  by_cases c1 : (A 48 0) ≤ x5
  · replace h := h.1 c1
    by_cases c2 : x1 = 0
    · replace h := h.1 c2
      exact ⟨9, And.intro (gt48 hG) (Or.inl (And.intro c1 (Or.inr (And.intro (fun z => z c2) (h)))))⟩
    · replace h := h.2 c2
      exact ⟨8, And.intro (gt48 hG) (Or.inl (And.intro c1 (Or.inl (And.intro c2 (h)))))⟩
  · replace h := h.2 c1
    obtain ⟨v1, μ1, h1, n, h⟩ := h
    exact ⟨n + 7, And.intro (gt48 hG) (Or.inr (And.intro c1 (Exists.intro _ (Exists.intro _ (Exists.intro _ (Exists.intro _ (And.intro rfl (And.intro (gt48 hG) (And.intro (Nat.le_of_ble_eq_true rfl) (And.intro h1 (h)))))))))))⟩

set_option maxRecDepth 100000 in
set_option maxHeartbeats 4000000 in
theorem sX5_fullest_37 {E : aR} {A : Nat → Nat → Int32} {R : Nat → Nat → Option Nat} {G : Nat → Nat × Nat} (hG : aGS G) (x1 : Int32) (x2 : Int32) (x3 : Int32) (x4 : Int32) (x5 : Int32) (d6 : Option Value) (d7 : Option Value) (d8 : Option Value) (y0 : Int32)
    (h : (vp_in (3 * x5) 18) ∧ (((x2 = (-1)) → (aw tX5_fullest E 22 [some (.ref 48), some (.int x1), some (.int x5), some (.int (ones y0)), some (.int (ones (A 51 (3 * x5).toNatClampNeg))), some (.int (x5 + 1)), some (.int (ones y0)), some (.int (ones (A 51 (3 * x5).toNatClampNeg))), some (.int 1)] [] (A, R, G))) ∧ ((¬ (x2 = (-1))) → (((x3 < (ones y0)) → (aw tX5_fullest E 22 [some (.ref 48), some (.int x1), some (.int x5), some (.int (ones y0)), some (.int (ones (A 51 (3 * x5).toNatClampNeg))), some (.int (x5 + 1)), some (.int (ones y0)), some (.int (ones (A 51 (3 * x5).toNatClampNeg))), some (.int 1)] [] (A, R, G))) ∧ ((¬ (x3 < (ones y0))) → ((((ones y0) = x3) → ((((ones (A 51 (3 * x5).toNatClampNeg)) ≤ x4) → (aw tX5_fullest E 22 [some (.ref 48), some (.int x1), some (.int x2), some (.int x3), some (.int x4), some (.int (x5 + 1)), some (.int (ones y0)), some (.int (ones (A 51 (3 * x5).toNatClampNeg))), some (.int 0)] [] (A, R, G))) ∧ ((¬ ((ones (A 51 (3 * x5).toNatClampNeg)) ≤ x4)) → (aw tX5_fullest E 22 [some (.ref 48), some (.int x1), some (.int x5), some (.int (ones y0)), some (.int (ones (A 51 (3 * x5).toNatClampNeg))), some (.int (x5 + 1)), some (.int (ones y0)), some (.int (ones (A 51 (3 * x5).toNatClampNeg))), some (.int 1)] [] (A, R, G))))) ∧ ((¬ ((ones y0) = x3)) → (aw tX5_fullest E 22 [some (.ref 48), some (.int x1), some (.int x2), some (.int x3), some (.int x4), some (.int (x5 + 1)), some (.int (ones y0)), some (.int (ones (A 51 (3 * x5).toNatClampNeg))), some (.int 0)] [] (A, R, G))))))))) :
    aw tX5_fullest E 37 [some (.ref 48), some (.int x1), some (.int x2), some (.int x3), some (.int x4), some (.int x5), d6, d7, d8] [.int y0] (A, R, G) := by
  obtain ⟨q1, h⟩ := h
  by_cases c2 : x2 = (-1)
  · replace h := h.1 c2
    obtain ⟨n, h⟩ := h
    exact ⟨n + 33, Exists.intro _ (Exists.intro _ (And.intro (Nat.le_of_ble_eq_true rfl) (And.intro (Nat.le_of_ble_eq_true rfl) (And.intro (pX5_onesOf _) (And.intro (gt48 hG) (And.intro (gt51 hG) (And.intro (vin_len (gl51 hG) q1) (Exists.intro _ (Exists.intro _ (And.intro (Nat.le_of_ble_eq_true rfl) (And.intro (Nat.le_of_ble_eq_true rfl) (And.intro (pX5_onesOf _) (Or.inl (And.intro c2 (Or.inr (And.intro (by decide) (Or.inr (And.intro (by decide) (Or.inr (And.intro (by decide) (h)))))))))))))))))))))⟩
  · replace h := h.2 c2
    by_cases c3 : x3 < (ones y0)
    · replace h := h.1 c3
      obtain ⟨n, h⟩ := h
      exact ⟨n + 36, Exists.intro _ (Exists.intro _ (And.intro (Nat.le_of_ble_eq_true rfl) (And.intro (Nat.le_of_ble_eq_true rfl) (And.intro (pX5_onesOf _) (And.intro (gt48 hG) (And.intro (gt51 hG) (And.intro (vin_len (gl51 hG) q1) (Exists.intro _ (Exists.intro _ (And.intro (Nat.le_of_ble_eq_true rfl) (And.intro (Nat.le_of_ble_eq_true rfl) (And.intro (pX5_onesOf _) (Or.inr (And.intro c2 (Or.inl (And.intro c3 (Or.inr (And.intro (by decide) (Or.inr (And.intro (by decide) (Or.inr (And.intro (by decide) (h)))))))))))))))))))))))⟩
    · replace h := h.2 c3
      by_cases c4 : (ones y0) = x3
      · replace h := h.1 c4
        by_cases c5 : (ones (A 51 (3 * x5).toNatClampNeg)) ≤ x4
        · replace h := h.1 c5
          obtain ⟨n, h⟩ := h
          exact ⟨n + 38, Exists.intro _ (Exists.intro _ (And.intro (Nat.le_of_ble_eq_true rfl) (And.intro (Nat.le_of_ble_eq_true rfl) (And.intro (pX5_onesOf _) (And.intro (gt48 hG) (And.intro (gt51 hG) (And.intro (vin_len (gl51 hG) q1) (Exists.intro _ (Exists.intro _ (And.intro (Nat.le_of_ble_eq_true rfl) (And.intro (Nat.le_of_ble_eq_true rfl) (And.intro (pX5_onesOf _) (Or.inr (And.intro c2 (Or.inr (And.intro c3 (Or.inr (And.intro (fun z => z c4) (Or.inl (And.intro c5 (Or.inl (And.intro (by decide) (Or.inl (And.intro (by decide) (Or.inl (And.intro (by decide) (h)))))))))))))))))))))))))))⟩
        · replace h := h.2 c5
          obtain ⟨n, h⟩ := h
          exact ⟨n + 42, Exists.intro _ (Exists.intro _ (And.intro (Nat.le_of_ble_eq_true rfl) (And.intro (Nat.le_of_ble_eq_true rfl) (And.intro (pX5_onesOf _) (And.intro (gt48 hG) (And.intro (gt51 hG) (And.intro (vin_len (gl51 hG) q1) (Exists.intro _ (Exists.intro _ (And.intro (Nat.le_of_ble_eq_true rfl) (And.intro (Nat.le_of_ble_eq_true rfl) (And.intro (pX5_onesOf _) (Or.inr (And.intro c2 (Or.inr (And.intro c3 (Or.inr (And.intro (fun z => z c4) (Or.inr (And.intro c5 (Or.inr (And.intro (by decide) (Or.inr (And.intro (by decide) (Or.inr (And.intro (by decide) (h)))))))))))))))))))))))))))⟩
      · replace h := h.2 c4
        obtain ⟨n, h⟩ := h
        exact ⟨n + 35, Exists.intro _ (Exists.intro _ (And.intro (Nat.le_of_ble_eq_true rfl) (And.intro (Nat.le_of_ble_eq_true rfl) (And.intro (pX5_onesOf _) (And.intro (gt48 hG) (And.intro (gt51 hG) (And.intro (vin_len (gl51 hG) q1) (Exists.intro _ (Exists.intro _ (And.intro (Nat.le_of_ble_eq_true rfl) (And.intro (Nat.le_of_ble_eq_true rfl) (And.intro (pX5_onesOf _) (Or.inr (And.intro c2 (Or.inr (And.intro c3 (Or.inl (And.intro c4 (Or.inl (And.intro (by decide) (Or.inl (And.intro (by decide) (Or.inl (And.intro (by decide) (h)))))))))))))))))))))))))⟩

set_option maxRecDepth 100000 in
set_option maxHeartbeats 4000000 in
theorem sX5_cruel_0 {E : aR} {A : Nat → Nat → Int32} {R : Nat → Nat → Option Nat} {G : Nat → Nat × Nat}
    (h : aw tX5_cruel E 4 [some (.ref 48), some (.int 0), some (.int 0)] [] (A, R, G)) :
    aw tX5_cruel E 0 [some (.ref 48), none, none] [] (A, R, G) := by
  obtain ⟨n, h⟩ := h
  exact ⟨n + 4, h⟩

set_option maxRecDepth 100000 in
set_option maxHeartbeats 4000000 in
theorem sX5_cruel_4 {E : aR} {A : Nat → Nat → Int32} {R : Nat → Nat → Option Nat} {G : Nat → Nat × Nat} (hG : aGS G) (x1 : Int32) (x2 : Int32)
    (h : ((8 ≤ x2) → (E (some (.int x1)) (A, R, G))) ∧ ((¬ (8 ≤ x2)) → (((thM A x2) → (∃ (v1 : Int32) (μ1 : aM), CX5_whoMay [.ref 48, .int x2] (A, R, G) (some (.int v1)) μ1 ∧ aw tX5_cruel E 24 [some (.ref 48), some (.int x1), some (.int x2)] [.int v1, .int x1] μ1)) ∧ ((¬ (thM A x2)) → (aw tX5_cruel E 4 [some (.ref 48), some (.int x1), some (.int (x2 + 1))] [] (A, R, G)))))) :
    aw tX5_cruel E 4 [some (.ref 48), some (.int x1), some (.int x2)] [] (A, R, G) := by
  by_cases c1 : 8 ≤ x2
  · replace h := h.1 c1
    exact ⟨5, Or.inl (And.intro c1 (h))⟩
  · replace h := h.2 c1
    by_cases c2 : thM A x2
    · replace h := h.1 c2
      obtain ⟨v1, μ1, h1, n, h⟩ := h
      exact ⟨n + 11, Or.inr (And.intro c1 (Exists.intro _ (Exists.intro _ (Exists.intro _ (Exists.intro _ (And.intro rfl (And.intro (gt48 hG) (And.intro (Nat.le_of_ble_eq_true rfl) (And.intro (pX5_isThere hG _) (Or.inr (And.intro (bI_neq c2) (Exists.intro _ (Exists.intro _ (Exists.intro _ (Exists.intro _ (And.intro rfl (And.intro (gt48 hG) (And.intro (Nat.le_of_ble_eq_true rfl) (And.intro h1 (h))))))))))))))))))))⟩
    · replace h := h.2 c2
      obtain ⟨n, h⟩ := h
      exact ⟨n + 9, Or.inr (And.intro c1 (Exists.intro _ (Exists.intro _ (Exists.intro _ (Exists.intro _ (And.intro rfl (And.intro (gt48 hG) (And.intro (Nat.le_of_ble_eq_true rfl) (And.intro (pX5_isThere hG _) (Or.inl (And.intro (bI_eq c2) (h))))))))))))⟩

set_option maxRecDepth 100000 in
set_option maxHeartbeats 4000000 in
theorem sX5_cruel_24 {E : aR} {A : Nat → Nat → Int32} {R : Nat → Nat → Option Nat} {G : Nat → Nat × Nat} (d1 : Option Value) (x2 : Int32) (y0 : Int32) (y1 : Int32)
    (h : ((y0 = 0) → (aw tX5_cruel E 4 [some (.ref 48), some (.int (y1 ||| ((1 : Int32) <<< (x2 &&& 31)))), some (.int (x2 + 1))] [] (A, R, G))) ∧ ((¬ (y0 = 0)) → (aw tX5_cruel E 4 [some (.ref 48), some (.int (y1 ||| 0)), some (.int (x2 + 1))] [] (A, R, G)))) :
    aw tX5_cruel E 24 [some (.ref 48), d1, some (.int x2)] [.int y0, .int y1] (A, R, G) := by
  by_cases c1 : y0 = 0
  · replace h := h.1 c1
    obtain ⟨n, h⟩ := h
    exact ⟨n + 9, Or.inr (And.intro (fun z => z c1) (h))⟩
  · replace h := h.2 c1
    obtain ⟨n, h⟩ := h
    exact ⟨n + 6, Or.inl (And.intro c1 (h))⟩

set_option maxRecDepth 100000 in
set_option maxHeartbeats 4000000 in
theorem sX5_ruin_0 {E : aR} {A : Nat → Nat → Int32} {R : Nat → Nat → Option Nat} {G : Nat → Nat × Nat} (x1 : Int32)
    (h : aw tX5_ruin E 4 [some (.ref 48), some (.int x1), some (.int 0), some (.int 0)] [] (A, R, G)) :
    aw tX5_ruin E 0 [some (.ref 48), some (.int x1), none, none] [] (A, R, G) := by
  obtain ⟨n, h⟩ := h
  exact ⟨n + 4, h⟩

set_option maxRecDepth 100000 in
set_option maxHeartbeats 4000000 in
theorem sX5_ruin_4 {E : aR} {A : Nat → Nat → Int32} {R : Nat → Nat → Option Nat} {G : Nat → Nat × Nat} (hG : aGS G) (x1 : Int32) (x2 : Int32) (x3 : Int32)
    (h : (((A 48 0) ≤ x3) → (((0 ≤ x1 ∧ x1 ≤ 1) → ((((A 48 0) ≤ 0) → (E (some (.long (-4611686018427387904))) (A, R, G))) ∧ ((¬ ((A 48 0) ≤ 0)) → (∃ (v1 : Int64) (μ1 : aM), CX5_lowest [.long ((x2 : Int32).toInt64), .long (((A 48 0) : Int32).toInt64), .int x1] (A, R, G) (some (.long v1)) μ1 ∧ aw tX5_ruin E 59 [some (.ref 48), some (.int x1), some (.int x2), some (.int x3)] [.long v1] μ1)))) ∧ ((¬ (0 ≤ x1 ∧ x1 ≤ 1)) → (E (some (.long (-4611686018427387904))) (A, R, G))))) ∧ ((¬ ((A 48 0) ≤ x3)) → ((vp_in (3 * x3) 18) ∧ (aw tX5_ruin E 4 [some (.ref 48), some (.int x1), some (.int (x2 + (ones (A 51 (3 * x3).toNatClampNeg)))), some (.int (x3 + 1))] [] (A, R, G))))) :
    aw tX5_ruin E 4 [some (.ref 48), some (.int x1), some (.int x2), some (.int x3)] [] (A, R, G) := by
  by_cases c1 : (A 48 0) ≤ x3
  · replace h := h.1 c1
    by_cases c2 : 0 ≤ x1 ∧ x1 ≤ 1
    · replace h := h.1 c2
      by_cases c3 : (A 48 0) ≤ 0
      · replace h := h.1 c3
        exact ⟨14, And.intro (gt48 hG) (Or.inl (And.intro c1 (Exists.intro _ (Exists.intro _ (And.intro (Nat.le_of_ble_eq_true rfl) (And.intro (Nat.le_of_ble_eq_true rfl) (And.intro (pX5_in _ _ _) (Or.inr (And.intro (bI_neq c2) (And.intro (gt48 hG) (Or.inl (And.intro c3 (h)))))))))))))⟩
      · replace h := h.2 c3
        obtain ⟨v1, μ1, h1, n, h⟩ := h
        exact ⟨n + 19, And.intro (gt48 hG) (Or.inl (And.intro c1 (Exists.intro _ (Exists.intro _ (And.intro (Nat.le_of_ble_eq_true rfl) (And.intro (Nat.le_of_ble_eq_true rfl) (And.intro (pX5_in _ _ _) (Or.inr (And.intro (bI_neq c2) (And.intro (gt48 hG) (Or.inr (And.intro c3 (And.intro (gt48 hG) (Exists.intro _ (Exists.intro _ (And.intro (Nat.le_of_ble_eq_true rfl) (And.intro (Nat.le_of_ble_eq_true rfl) (And.intro h1 (h)))))))))))))))))))⟩
    · replace h := h.2 c2
      exact ⟨11, And.intro (gt48 hG) (Or.inl (And.intro c1 (Exists.intro _ (Exists.intro _ (And.intro (Nat.le_of_ble_eq_true rfl) (And.intro (Nat.le_of_ble_eq_true rfl) (And.intro (pX5_in _ _ _) (Or.inl (And.intro (bI_eq c2) (h))))))))))⟩
  · replace h := h.2 c1
    obtain ⟨q4, h⟩ := h
    obtain ⟨n, h⟩ := h
    exact ⟨n + 16, And.intro (gt48 hG) (Or.inr (And.intro c1 (And.intro (gt48 hG) (And.intro (gt51 hG) (And.intro (vin_len (gl51 hG) q4) (Exists.intro _ (Exists.intro _ (And.intro (Nat.le_of_ble_eq_true rfl) (And.intro (Nat.le_of_ble_eq_true rfl) (And.intro (pX5_onesOf _) (h)))))))))))⟩

set_option maxRecDepth 100000 in
set_option maxHeartbeats 4000000 in
theorem sX5_ruin_59 {E : aR} {A : Nat → Nat → Int32} {R : Nat → Nat → Option Nat} {G : Nat → Nat × Nat} (d1 : Option Value) (d2 : Option Value) (d3 : Option Value) (y0 : Int64)
    (h : E (some (.long y0)) (A, R, G)) :
    aw tX5_ruin E 59 [some (.ref 48), d1, d2, d3] [.long y0] (A, R, G) := by
  exact ⟨2, h⟩

set_option maxRecDepth 100000 in
set_option maxHeartbeats 4000000 in
theorem sX5_tells_0 {E : aR} {A : Nat → Nat → Int32} {R : Nat → Nat → Option Nat} {G : Nat → Nat × Nat} (hG : aGS G) (x1 : Int32)
    (h : ∃ (v1 : Int32) (μ1 : aM), CX5_sheetWrong [.ref 48, .int x1] (A, R, G) (some (.int v1)) μ1 ∧ aw tX5_tells E 5 [some (.ref 48), some (.int x1), none] [.int v1] μ1) :
    aw tX5_tells E 0 [some (.ref 48), some (.int x1), none] [] (A, R, G) := by
  obtain ⟨v1, μ1, h1, n, h⟩ := h
  exact ⟨n + 3, Exists.intro _ (Exists.intro _ (Exists.intro _ (Exists.intro _ (And.intro rfl (And.intro (gt48 hG) (And.intro (Nat.le_of_ble_eq_true rfl) (And.intro h1 (h))))))))⟩

set_option maxRecDepth 100000 in
set_option maxHeartbeats 4000000 in
theorem sX5_tells_5 {E : aR} {A : Nat → Nat → Int32} {R : Nat → Nat → Option Nat} {G : Nat → Nat × Nat} (hG : aGS G) (x1 : Int32) (d2 : Option Value) (y0 : Int32)
    (h : ((y0 = 0) → (∃ (v1 : Int32) (μ1 : aM), CX5_unlike [.ref 48, .int x1] (A, R, G) (some (.int v1)) μ1 ∧ aw tX5_tells E 15 [some (.ref 48), some (.int x1), some (.int y0)] [.int v1] μ1)) ∧ ((¬ (y0 = 0)) → (E (some (.int y0)) (A, R, G)))) :
    aw tX5_tells E 5 [some (.ref 48), some (.int x1), d2] [.int y0] (A, R, G) := by
  by_cases c1 : y0 = 0
  · replace h := h.1 c1
    obtain ⟨v1, μ1, h1, n, h⟩ := h
    exact ⟨n + 6, Or.inr (And.intro (fun z => z c1) (Exists.intro _ (Exists.intro _ (Exists.intro _ (Exists.intro _ (And.intro rfl (And.intro (gt48 hG) (And.intro (Nat.le_of_ble_eq_true rfl) (And.intro h1 (h))))))))))⟩
  · replace h := h.2 c1
    exact ⟨5, Or.inl (And.intro c1 (h))⟩

set_option maxRecDepth 100000 in
set_option maxHeartbeats 4000000 in
theorem sX5_tells_15 {E : aR} {A : Nat → Nat → Int32} {R : Nat → Nat → Option Nat} {G : Nat → Nat × Nat} (d1 : Option Value) (d2 : Option Value) (y0 : Int32)
    (h : E (some (.int y0)) (A, R, G)) :
    aw tX5_tells E 15 [some (.ref 48), d1, d2] [.int y0] (A, R, G) := by
  exact ⟨2, h⟩

set_option maxRecDepth 100000 in
set_option maxHeartbeats 4000000 in
theorem sX5_kinds_0 {E : aR} {A : Nat → Nat → Int32} {R : Nat → Nat → Option Nat} {G : Nat → Nat × Nat} (hG : aGS G) (x1 : Int32) (x2 : Int32) (x3 : Int32)
    (h : ∃ (v1 : Int32) (μ1 : aM), CX5_sheetWrong [.ref 48, .int x1] (A, R, G) (some (.int v1)) μ1 ∧ aw tX5_kinds E 5 [some (.ref 48), some (.int x1), some (.int x2), some (.int x3), none, none, none, none, none] [.int v1] μ1) :
    aw tX5_kinds E 0 [some (.ref 48), some (.int x1), some (.int x2), some (.int x3), none, none, none, none, none] [] (A, R, G) := by
  obtain ⟨v1, μ1, h1, n, h⟩ := h
  exact ⟨n + 3, Exists.intro _ (Exists.intro _ (Exists.intro _ (Exists.intro _ (And.intro rfl (And.intro (gt48 hG) (And.intro (Nat.le_of_ble_eq_true rfl) (And.intro h1 (h))))))))⟩

set_option maxRecDepth 100000 in
set_option maxHeartbeats 4000000 in
theorem sX5_kinds_5 {E : aR} {A : Nat → Nat → Int32} {R : Nat → Nat → Option Nat} {G : Nat → Nat × Nat} (hG : aGS G) (x1 : Int32) (x2 : Int32) (x3 : Int32) (d4 : Option Value) (d5 : Option Value) (d6 : Option Value) (d7 : Option Value) (d8 : Option Value) (y0 : Int32)
    (h : ((y0 = 0) → (((0 ≤ x2 ∧ x2 ≤ A 48 0 - 1) → (((0 ≤ x3 ∧ x3 ≤ 1) → ((vp_in x2 6) ∧ (aw tX5_kinds E 60 [some (.ref 48), some (.int x1), some (.int x2), some (.int x3), some (.int y0), some (.int (A 49 x2.toNatClampNeg)), some (.int (A 50 x2.toNatClampNeg)), some (.int 0), some (.int 0)] [] (A, R, G)))) ∧ ((¬ (0 ≤ x3 ∧ x3 ≤ 1)) → (E (some (.int (-7))) (A, R, G))))) ∧ ((¬ (0 ≤ x2 ∧ x2 ≤ A 48 0 - 1)) → (E (some (.int (-5))) (A, R, G))))) ∧ ((¬ (y0 = 0)) → (E (some (.int y0)) (A, R, G)))) :
    aw tX5_kinds E 5 [some (.ref 48), some (.int x1), some (.int x2), some (.int x3), d4, d5, d6, d7, d8] [.int y0] (A, R, G) := by
  by_cases c1 : y0 = 0
  · replace h := h.1 c1
    by_cases c2 : 0 ≤ x2 ∧ x2 ≤ A 48 0 - 1
    · replace h := h.1 c2
      by_cases c3 : 0 ≤ x3 ∧ x3 ≤ 1
      · replace h := h.1 c3
        obtain ⟨q4, h⟩ := h
        obtain ⟨n, h⟩ := h
        exact ⟨n + 26, Or.inl (And.intro c1 (Exists.intro _ (Exists.intro _ (Exists.intro _ (Exists.intro _ (And.intro rfl (And.intro (gt48 hG) (And.intro (Nat.le_of_ble_eq_true rfl) (And.intro (pX5_isOne hG _) (Or.inl (And.intro (bI_ne c2) (Exists.intro _ (Exists.intro _ (And.intro (Nat.le_of_ble_eq_true rfl) (And.intro (Nat.le_of_ble_eq_true rfl) (And.intro (pX5_in _ _ _) (Or.inl (And.intro (bI_ne c3) (And.intro (gt48 hG) (And.intro (gt49 hG) (And.intro (vin_len (gl49 hG) q4) (And.intro (gt48 hG) (And.intro (gt50 hG) (And.intro (vin_len (gl50 hG) q4) (h)))))))))))))))))))))))))⟩
      · replace h := h.2 c3
        exact ⟨14, Or.inl (And.intro c1 (Exists.intro _ (Exists.intro _ (Exists.intro _ (Exists.intro _ (And.intro rfl (And.intro (gt48 hG) (And.intro (Nat.le_of_ble_eq_true rfl) (And.intro (pX5_isOne hG _) (Or.inl (And.intro (bI_ne c2) (Exists.intro _ (Exists.intro _ (And.intro (Nat.le_of_ble_eq_true rfl) (And.intro (Nat.le_of_ble_eq_true rfl) (And.intro (pX5_in _ _ _) (Or.inr (And.intro (bI_nne c3) (h)))))))))))))))))))⟩
    · replace h := h.2 c2
      exact ⟨9, Or.inl (And.intro c1 (Exists.intro _ (Exists.intro _ (Exists.intro _ (Exists.intro _ (And.intro rfl (And.intro (gt48 hG) (And.intro (Nat.le_of_ble_eq_true rfl) (And.intro (pX5_isOne hG _) (Or.inr (And.intro (bI_nne c2) (h))))))))))))⟩
  · replace h := h.2 c1
    exact ⟨5, Or.inr (And.intro c1 (h))⟩

set_option maxRecDepth 100000 in
set_option maxHeartbeats 4000000 in
theorem sX5_kinds_60 {E : aR} {A : Nat → Nat → Int32} {R : Nat → Nat → Option Nat} {G : Nat → Nat × Nat} (hG : aGS G) (x1 : Int32) (x2 : Int32) (x3 : Int32) (d4 : Option Value) (x5 : Int32) (x6 : Int32) (x7 : Int32) (x8 : Int32)
    (h : ((x3 = 0) → (((6 ≤ x8) → ((vp_in x2 6) ∧ (E (some (.int x7)) ((au (au A 49 x2.toNatClampNeg x5) 50 x2.toNatClampNeg x6), R, G)))) ∧ ((¬ (6 ≤ x8)) → ((vp_in x2 6) ∧ (((x3 = 1) → (∃ (v1 : Int32) (μ1 : aM), CX5_unlike [.ref 48, .int x1] ((au (au A 49 x2.toNatClampNeg x8) 50 x2.toNatClampNeg x8), R, G) (some (.int v1)) μ1 ∧ aw tX5_kinds E 118 [some (.ref 48), some (.int x1), some (.int x2), some (.int x3), none, some (.int x5), some (.int x6), some (.int x7), some (.int x8)] [.int v1, .int x7] μ1)) ∧ ((¬ (x3 = 1)) → (∃ (v1 : Int32) (μ1 : aM), CX5_unlike [.ref 48, .int x1] ((au (au A 49 x2.toNatClampNeg x8) 50 x2.toNatClampNeg x6), R, G) (some (.int v1)) μ1 ∧ aw tX5_kinds E 118 [some (.ref 48), some (.int x1), some (.int x2), some (.int x3), none, some (.int x5), some (.int x6), some (.int x7), some (.int x8)] [.int v1, .int x7] μ1))))))) ∧ ((¬ (x3 = 0)) → (((10 ≤ x8) → ((vp_in x2 6) ∧ (E (some (.int x7)) ((au (au A 49 x2.toNatClampNeg x5) 50 x2.toNatClampNeg x6), R, G)))) ∧ ((¬ (10 ≤ x8)) → ((vp_in x2 6) ∧ (((x3 = 1) → (∃ (v1 : Int32) (μ1 : aM), CX5_unlike [.ref 48, .int x1] ((au (au A 49 x2.toNatClampNeg x5) 50 x2.toNatClampNeg x8), R, G) (some (.int v1)) μ1 ∧ aw tX5_kinds E 118 [some (.ref 48), some (.int x1), some (.int x2), some (.int x3), none, some (.int x5), some (.int x6), some (.int x7), some (.int x8)] [.int v1, .int x7] μ1)) ∧ ((¬ (x3 = 1)) → (∃ (v1 : Int32) (μ1 : aM), CX5_unlike [.ref 48, .int x1] ((au (au A 49 x2.toNatClampNeg x5) 50 x2.toNatClampNeg x6), R, G) (some (.int v1)) μ1 ∧ aw tX5_kinds E 118 [some (.ref 48), some (.int x1), some (.int x2), some (.int x3), none, some (.int x5), some (.int x6), some (.int x7), some (.int x8)] [.int v1, .int x7] μ1)))))))) :
    aw tX5_kinds E 60 [some (.ref 48), some (.int x1), some (.int x2), some (.int x3), d4, some (.int x5), some (.int x6), some (.int x7), some (.int x8)] [] (A, R, G) := by
  by_cases c1 : x3 = 0
  · replace h := h.1 c1
    by_cases c2 : 6 ≤ x8
    · replace h := h.1 c2
      obtain ⟨q3, h⟩ := h
      exact ⟨18, Or.inr (And.intro (fun z => z c1) (Or.inl (And.intro c2 (And.intro (gt48 hG) (And.intro (gt49 hG) (And.intro (vin_len (gl49 hG) q3) (And.intro (gt48 hG) (And.intro (gt50 hG) (And.intro (vin_len (gl50 hG) q3) (h))))))))))⟩
    · replace h := h.2 c2
      obtain ⟨q4, h⟩ := h
      by_cases c5 : x3 = 1
      · replace h := h.1 c5
        obtain ⟨v1, μ1, h1, n, h⟩ := h
        exact ⟨n + 27, Or.inr (And.intro (fun z => z c1) (Or.inr (And.intro c2 (And.intro (gt48 hG) (Or.inr (And.intro (fun z => z c1) (And.intro (gt49 hG) (And.intro (vin_len (gl49 hG) q4) (And.intro (gt48 hG) (Or.inr (And.intro (fun z => z c5) (And.intro (gt50 hG) (And.intro (vin_len (gl50 hG) q4) (Exists.intro _ (Exists.intro _ (Exists.intro _ (Exists.intro _ (And.intro rfl (And.intro (gt48 hG) (And.intro (Nat.le_of_ble_eq_true rfl) (And.intro h1 (h))))))))))))))))))))))⟩
      · replace h := h.2 c5
        obtain ⟨v1, μ1, h1, n, h⟩ := h
        exact ⟨n + 26, Or.inr (And.intro (fun z => z c1) (Or.inr (And.intro c2 (And.intro (gt48 hG) (Or.inr (And.intro (fun z => z c1) (And.intro (gt49 hG) (And.intro (vin_len (gl49 hG) q4) (And.intro (gt48 hG) (Or.inl (And.intro c5 (And.intro (gt50 hG) (And.intro (vin_len (gl50 hG) q4) (Exists.intro _ (Exists.intro _ (Exists.intro _ (Exists.intro _ (And.intro rfl (And.intro (gt48 hG) (And.intro (Nat.le_of_ble_eq_true rfl) (And.intro h1 (h))))))))))))))))))))))⟩
  · replace h := h.2 c1
    by_cases c6 : 10 ≤ x8
    · replace h := h.1 c6
      obtain ⟨q7, h⟩ := h
      exact ⟨17, Or.inl (And.intro c1 (Or.inl (And.intro c6 (And.intro (gt48 hG) (And.intro (gt49 hG) (And.intro (vin_len (gl49 hG) q7) (And.intro (gt48 hG) (And.intro (gt50 hG) (And.intro (vin_len (gl50 hG) q7) (h))))))))))⟩
    · replace h := h.2 c6
      obtain ⟨q8, h⟩ := h
      by_cases c9 : x3 = 1
      · replace h := h.1 c9
        obtain ⟨v1, μ1, h1, n, h⟩ := h
        exact ⟨n + 25, Or.inl (And.intro c1 (Or.inr (And.intro c6 (And.intro (gt48 hG) (Or.inl (And.intro c1 (And.intro (gt49 hG) (And.intro (vin_len (gl49 hG) q8) (And.intro (gt48 hG) (Or.inr (And.intro (fun z => z c9) (And.intro (gt50 hG) (And.intro (vin_len (gl50 hG) q8) (Exists.intro _ (Exists.intro _ (Exists.intro _ (Exists.intro _ (And.intro rfl (And.intro (gt48 hG) (And.intro (Nat.le_of_ble_eq_true rfl) (And.intro h1 (h))))))))))))))))))))))⟩
      · replace h := h.2 c9
        obtain ⟨v1, μ1, h1, n, h⟩ := h
        exact ⟨n + 24, Or.inl (And.intro c1 (Or.inr (And.intro c6 (And.intro (gt48 hG) (Or.inl (And.intro c1 (And.intro (gt49 hG) (And.intro (vin_len (gl49 hG) q8) (And.intro (gt48 hG) (Or.inl (And.intro c9 (And.intro (gt50 hG) (And.intro (vin_len (gl50 hG) q8) (Exists.intro _ (Exists.intro _ (Exists.intro _ (Exists.intro _ (And.intro rfl (And.intro (gt48 hG) (And.intro (Nat.le_of_ble_eq_true rfl) (And.intro h1 (h))))))))))))))))))))))⟩

set_option maxRecDepth 100000 in
set_option maxHeartbeats 4000000 in
theorem sX5_kinds_118 {E : aR} {A : Nat → Nat → Int32} {R : Nat → Nat → Option Nat} {G : Nat → Nat × Nat} (x1 : Int32) (x2 : Int32) (x3 : Int32) (d4 : Option Value) (x5 : Int32) (x6 : Int32) (d7 : Option Value) (x8 : Int32) (y0 : Int32) (y1 : Int32)
    (h : ((y0 = (-1)) → (aw tX5_kinds E 60 [some (.ref 48), some (.int x1), some (.int x2), some (.int x3), d4, some (.int x5), some (.int x6), some (.int (y1 ||| ((1 : Int32) <<< (x8 &&& 31)))), some (.int (x8 + 1))] [] (A, R, G))) ∧ ((¬ (y0 = (-1))) → (aw tX5_kinds E 60 [some (.ref 48), some (.int x1), some (.int x2), some (.int x3), d4, some (.int x5), some (.int x6), some (.int (y1 ||| 0)), some (.int (x8 + 1))] [] (A, R, G)))) :
    aw tX5_kinds E 118 [some (.ref 48), some (.int x1), some (.int x2), some (.int x3), d4, some (.int x5), some (.int x6), d7, some (.int x8)] [.int y0, .int y1] (A, R, G) := by
  by_cases c1 : y0 = (-1)
  · replace h := h.1 c1
    obtain ⟨n, h⟩ := h
    exact ⟨n + 10, Or.inr (And.intro (fun z => z c1) (h))⟩
  · replace h := h.2 c1
    obtain ⟨n, h⟩ := h
    exact ⟨n + 7, Or.inl (And.intro c1 (h))⟩

set_option maxRecDepth 100000 in
set_option maxHeartbeats 4000000 in
theorem sX5_turned_0 {E : aR} {A : Nat → Nat → Int32} {R : Nat → Nat → Option Nat} {G : Nat → Nat × Nat} (hG : aGS G) (x1 : Int32) (x2 : Int32)
    (h : ∃ (v1 : Int32) (μ1 : aM), CX5_sheetWrong [.ref 48, .int x1] (A, R, G) (some (.int v1)) μ1 ∧ aw tX5_turned E 5 [some (.ref 48), some (.int x1), some (.int x2), none, none, none] [.int v1] μ1) :
    aw tX5_turned E 0 [some (.ref 48), some (.int x1), some (.int x2), none, none, none] [] (A, R, G) := by
  obtain ⟨v1, μ1, h1, n, h⟩ := h
  exact ⟨n + 3, Exists.intro _ (Exists.intro _ (Exists.intro _ (Exists.intro _ (And.intro rfl (And.intro (gt48 hG) (And.intro (Nat.le_of_ble_eq_true rfl) (And.intro h1 (h))))))))⟩

set_option maxRecDepth 100000 in
set_option maxHeartbeats 4000000 in
theorem sX5_turned_5 {E : aR} {A : Nat → Nat → Int32} {R : Nat → Nat → Option Nat} {G : Nat → Nat × Nat} (hG : aGS G) (x1 : Int32) (x2 : Int32) (d3 : Option Value) (d4 : Option Value) (d5 : Option Value) (y0 : Int32)
    (h : ((y0 = 0) → (((0 ≤ x2 ∧ x2 ≤ A 48 0 - 1) → (aw tX5_turned E 29 [some (.ref 48), some (.int x1), some (.int x2), some (.int y0), some (.int 0), some (.int 0)] [] (A, R, G))) ∧ ((¬ (0 ≤ x2 ∧ x2 ≤ A 48 0 - 1)) → (E (some (.int (-5))) (A, R, G))))) ∧ ((¬ (y0 = 0)) → (E (some (.int y0)) (A, R, G)))) :
    aw tX5_turned E 5 [some (.ref 48), some (.int x1), some (.int x2), d3, d4, d5] [.int y0] (A, R, G) := by
  by_cases c1 : y0 = 0
  · replace h := h.1 c1
    by_cases c2 : 0 ≤ x2 ∧ x2 ≤ A 48 0 - 1
    · replace h := h.1 c2
      obtain ⟨n, h⟩ := h
      exact ⟨n + 11, Or.inl (And.intro c1 (Exists.intro _ (Exists.intro _ (Exists.intro _ (Exists.intro _ (And.intro rfl (And.intro (gt48 hG) (And.intro (Nat.le_of_ble_eq_true rfl) (And.intro (pX5_isOne hG _) (Or.inl (And.intro (bI_ne c2) (h))))))))))))⟩
    · replace h := h.2 c2
      exact ⟨9, Or.inl (And.intro c1 (Exists.intro _ (Exists.intro _ (Exists.intro _ (Exists.intro _ (And.intro rfl (And.intro (gt48 hG) (And.intro (Nat.le_of_ble_eq_true rfl) (And.intro (pX5_isOne hG _) (Or.inr (And.intro (bI_nne c2) (h))))))))))))⟩
  · replace h := h.2 c1
    exact ⟨5, Or.inr (And.intro c1 (h))⟩

set_option maxRecDepth 100000 in
set_option maxHeartbeats 4000000 in
theorem sX5_turned_29 {E : aR} {A : Nat → Nat → Int32} {R : Nat → Nat → Option Nat} {G : Nat → Nat × Nat} (hG : aGS G) (x1 : Int32) (x2 : Int32) (d3 : Option Value) (x4 : Int32) (x5 : Int32)
    (h : ((10 ≤ x5) → (E (some (.int x4)) (A, R, G))) ∧ ((¬ (10 ≤ x5)) → ((vp_in (3 * x2) 18) ∧ (∃ (v1 : Int32) (μ1 : aM), CX5_unlike [.ref 48, .int x1] ((au A 51 (3 * x2).toNatClampNeg ((A 51 (3 * x2).toNatClampNeg) ^^^ ((1 : Int32) <<< (x5 &&& 31)))), R, G) (some (.int v1)) μ1 ∧ aw tX5_turned E 58 [some (.ref 48), some (.int x1), some (.int x2), none, some (.int x4), some (.int x5)] [.int v1, .int x4] μ1)))) :
    aw tX5_turned E 29 [some (.ref 48), some (.int x1), some (.int x2), d3, some (.int x4), some (.int x5)] [] (A, R, G) := by
  by_cases c1 : 10 ≤ x5
  · replace h := h.1 c1
    exact ⟨5, Or.inl (And.intro c1 (h))⟩
  · replace h := h.2 c1
    obtain ⟨q2, h⟩ := h
    obtain ⟨v1, μ1, h1, n, h⟩ := h
    exact ⟨n + 19, Or.inr (And.intro c1 (And.intro (gt48 hG) (And.intro rfl (And.intro rfl (And.intro (gt51 hG) (And.intro (vin_len (gl51 hG) q2) (And.intro (gt51 hG) (And.intro (vin_len (gl51 hG) q2) (Exists.intro _ (Exists.intro _ (Exists.intro _ (Exists.intro _ (And.intro rfl (And.intro (gt48 hG) (And.intro (Nat.le_of_ble_eq_true rfl) (And.intro h1 (h)))))))))))))))))⟩

set_option maxRecDepth 100000 in
set_option maxHeartbeats 4000000 in
theorem sX5_turned_58 {E : aR} {A : Nat → Nat → Int32} {R : Nat → Nat → Option Nat} {G : Nat → Nat × Nat} (hG : aGS G) (x1 : Int32) (x2 : Int32) (d3 : Option Value) (d4 : Option Value) (x5 : Int32) (y0 : Int32) (y1 : Int32)
    (h : ((y0 = (-1)) → ((vp_in (3 * x2) 18) ∧ (aw tX5_turned E 29 [some (.ref 48), some (.int x1), some (.int x2), (bif ac2 d3 then none else d3), some (.int (y1 ||| ((1 : Int32) <<< (x5 &&& 31)))), some (.int (x5 + 1))] [] ((au A 51 (3 * x2).toNatClampNeg ((A 51 (3 * x2).toNatClampNeg) ^^^ ((1 : Int32) <<< (x5 &&& 31)))), R, G)))) ∧ ((¬ (y0 = (-1))) → ((vp_in (3 * x2) 18) ∧ (aw tX5_turned E 29 [some (.ref 48), some (.int x1), some (.int x2), (bif ac2 d3 then none else d3), some (.int (y1 ||| 0)), some (.int (x5 + 1))] [] ((au A 51 (3 * x2).toNatClampNeg ((A 51 (3 * x2).toNatClampNeg) ^^^ ((1 : Int32) <<< (x5 &&& 31)))), R, G))))) :
    aw tX5_turned E 58 [some (.ref 48), some (.int x1), some (.int x2), d3, d4, some (.int x5)] [.int y0, .int y1] (A, R, G) := by
  by_cases c1 : y0 = (-1)
  · replace h := h.1 c1
    obtain ⟨q2, h⟩ := h
    obtain ⟨n, h⟩ := h
    exact ⟨n + 22, Or.inr (And.intro (fun z => z c1) (And.intro (gt48 hG) (And.intro rfl (And.intro rfl (And.intro (gt51 hG) (And.intro (vin_len (gl51 hG) q2) (And.intro (gt51 hG) (And.intro (vin_len (gl51 hG) q2) (h)))))))))⟩
  · replace h := h.2 c1
    obtain ⟨q3, h⟩ := h
    obtain ⟨n, h⟩ := h
    exact ⟨n + 19, Or.inl (And.intro c1 (And.intro (gt48 hG) (And.intro rfl (And.intro rfl (And.intro (gt51 hG) (And.intro (vin_len (gl51 hG) q3) (And.intro (gt51 hG) (And.intro (vin_len (gl51 hG) q3) (h)))))))))⟩

set_option maxRecDepth 100000 in
set_option maxHeartbeats 4000000 in
theorem sX5_states_0 {E : aR} {A : Nat → Nat → Int32} {R : Nat → Nat → Option Nat} {G : Nat → Nat × Nat} (hG : aGS G) (x1 : Int32) (x2 : Int32) (x3 : Int32) (x4 : Int32)
    (h : ∃ (v1 : Int32) (μ1 : aM), CX5_sheetWrong [.ref 48, .int x1] (A, R, G) (some (.int v1)) μ1 ∧ aw tX5_states E 5 [some (.ref 48), some (.int x1), some (.int x2), some (.int x3), some (.int x4), none, none, none, none, none, none] [.int v1] μ1) :
    aw tX5_states E 0 [some (.ref 48), some (.int x1), some (.int x2), some (.int x3), some (.int x4), none, none, none, none, none, none] [] (A, R, G) := by
  obtain ⟨v1, μ1, h1, n, h⟩ := h
  exact ⟨n + 3, Exists.intro _ (Exists.intro _ (Exists.intro _ (Exists.intro _ (And.intro rfl (And.intro (gt48 hG) (And.intro (Nat.le_of_ble_eq_true rfl) (And.intro h1 (h))))))))⟩

set_option maxRecDepth 100000 in
set_option maxHeartbeats 4000000 in
theorem sX5_states_5 {E : aR} {A : Nat → Nat → Int32} {R : Nat → Nat → Option Nat} {G : Nat → Nat × Nat} (hG : aGS G) (x1 : Int32) (x2 : Int32) (x3 : Int32) (x4 : Int32) (d5 : Option Value) (d6 : Option Value) (d7 : Option Value) (d8 : Option Value) (d9 : Option Value) (d10 : Option Value) (y0 : Int32)
    (h : ((y0 = 0) → (((0 ≤ x2 ∧ x2 ≤ A 48 0 - 1) → (((1 ≤ x3 ∧ x3 ≤ 2) → (((0 ≤ x4 ∧ x4 ≤ 1) → ((vp_in ((3 * x2) + x3) 18) ∧ (aw tX5_states E 69 [some (.ref 48), some (.int x1), some (.int x2), some (.int x3), some (.int x4), some (.int y0), some (.int (A 51 ((3 * x2) + x3).toNatClampNeg)), some (.int 0), some (.int (-1)), some (.int 0), d10] [] (A, R, G)))) ∧ ((¬ (0 ≤ x4 ∧ x4 ≤ 1)) → (E (some (.int (-7))) (A, R, G))))) ∧ ((¬ (1 ≤ x3 ∧ x3 ≤ 2)) → (E (some (.int (-7))) (A, R, G))))) ∧ ((¬ (0 ≤ x2 ∧ x2 ≤ A 48 0 - 1)) → (E (some (.int (-5))) (A, R, G))))) ∧ ((¬ (y0 = 0)) → (E (some (.int y0)) (A, R, G)))) :
    aw tX5_states E 5 [some (.ref 48), some (.int x1), some (.int x2), some (.int x3), some (.int x4), d5, d6, d7, d8, d9, d10] [.int y0] (A, R, G) := by
  by_cases c1 : y0 = 0
  · replace h := h.1 c1
    by_cases c2 : 0 ≤ x2 ∧ x2 ≤ A 48 0 - 1
    · replace h := h.1 c2
      by_cases c3 : 1 ≤ x3 ∧ x3 ≤ 2
      · replace h := h.1 c3
        by_cases c4 : 0 ≤ x4 ∧ x4 ≤ 1
        · replace h := h.1 c4
          obtain ⟨q5, h⟩ := h
          obtain ⟨n, h⟩ := h
          exact ⟨n + 32, Or.inl (And.intro c1 (Exists.intro _ (Exists.intro _ (Exists.intro _ (Exists.intro _ (And.intro rfl (And.intro (gt48 hG) (And.intro (Nat.le_of_ble_eq_true rfl) (And.intro (pX5_isOne hG _) (Or.inl (And.intro (bI_ne c2) (Exists.intro _ (Exists.intro _ (And.intro (Nat.le_of_ble_eq_true rfl) (And.intro (Nat.le_of_ble_eq_true rfl) (And.intro (pX5_in _ _ _) (Or.inr (And.intro (bI_neq c3) (Exists.intro _ (Exists.intro _ (And.intro (Nat.le_of_ble_eq_true rfl) (And.intro (Nat.le_of_ble_eq_true rfl) (And.intro (pX5_in _ _ _) (Or.inl (And.intro (bI_ne c4) (And.intro (gt48 hG) (And.intro (gt51 hG) (And.intro (vin_len (gl51 hG) q5) (h)))))))))))))))))))))))))))))⟩
        · replace h := h.2 c4
          exact ⟨19, Or.inl (And.intro c1 (Exists.intro _ (Exists.intro _ (Exists.intro _ (Exists.intro _ (And.intro rfl (And.intro (gt48 hG) (And.intro (Nat.le_of_ble_eq_true rfl) (And.intro (pX5_isOne hG _) (Or.inl (And.intro (bI_ne c2) (Exists.intro _ (Exists.intro _ (And.intro (Nat.le_of_ble_eq_true rfl) (And.intro (Nat.le_of_ble_eq_true rfl) (And.intro (pX5_in _ _ _) (Or.inr (And.intro (bI_neq c3) (Exists.intro _ (Exists.intro _ (And.intro (Nat.le_of_ble_eq_true rfl) (And.intro (Nat.le_of_ble_eq_true rfl) (And.intro (pX5_in _ _ _) (Or.inr (And.intro (bI_nne c4) (h))))))))))))))))))))))))))⟩
      · replace h := h.2 c3
        exact ⟨14, Or.inl (And.intro c1 (Exists.intro _ (Exists.intro _ (Exists.intro _ (Exists.intro _ (And.intro rfl (And.intro (gt48 hG) (And.intro (Nat.le_of_ble_eq_true rfl) (And.intro (pX5_isOne hG _) (Or.inl (And.intro (bI_ne c2) (Exists.intro _ (Exists.intro _ (And.intro (Nat.le_of_ble_eq_true rfl) (And.intro (Nat.le_of_ble_eq_true rfl) (And.intro (pX5_in _ _ _) (Or.inl (And.intro (bI_eq c3) (h)))))))))))))))))))⟩
    · replace h := h.2 c2
      exact ⟨9, Or.inl (And.intro c1 (Exists.intro _ (Exists.intro _ (Exists.intro _ (Exists.intro _ (And.intro rfl (And.intro (gt48 hG) (And.intro (Nat.le_of_ble_eq_true rfl) (And.intro (pX5_isOne hG _) (Or.inr (And.intro (bI_nne c2) (h))))))))))))⟩
  · replace h := h.2 c1
    exact ⟨5, Or.inr (And.intro c1 (h))⟩

set_option maxRecDepth 100000 in
set_option maxHeartbeats 4000000 in
theorem sX5_states_69 {E : aR} {A : Nat → Nat → Int32} {R : Nat → Nat → Option Nat} {G : Nat → Nat × Nat} (hG : aGS G) (x1 : Int32) (x2 : Int32) (x3 : Int32) (x4 : Int32) (d5 : Option Value) (x6 : Int32) (x7 : Int32) (x8 : Int32) (x9 : Int32) (d10 : Option Value)
    (h : ((99 < x9) → ((vp_in ((3 * x2) + x3) 18) ∧ (((x4 = 0) → (E (some (.int x7)) ((au A 51 ((3 * x2) + x3).toNatClampNeg x6), R, G))) ∧ ((¬ (x4 = 0)) → (E (some (.int x8)) ((au A 51 ((3 * x2) + x3).toNatClampNeg x6), R, G)))))) ∧ ((¬ (99 < x9)) → ((vp_in ((3 * x2) + x3) 18) ∧ (∃ (v1 : Int32) (μ1 : aM), CX5_unlike [.ref 48, .int x1] ((au A 51 ((3 * x2) + x3).toNatClampNeg x9), R, G) (some (.int v1)) μ1 ∧ aw tX5_states E 93 [some (.ref 48), some (.int x1), some (.int x2), some (.int x3), some (.int x4), none, some (.int x6), some (.int x7), some (.int x8), some (.int x9), none] [.int v1] μ1)))) :
    aw tX5_states E 69 [some (.ref 48), some (.int x1), some (.int x2), some (.int x3), some (.int x4), d5, some (.int x6), some (.int x7), some (.int x8), some (.int x9), d10] [] (A, R, G) := by
  by_cases c1 : 99 < x9
  · replace h := h.1 c1
    obtain ⟨q2, h⟩ := h
    by_cases c3 : x4 = 0
    · replace h := h.1 c3
      exact ⟨17, Or.inl (And.intro c1 (And.intro (gt48 hG) (And.intro (gt51 hG) (And.intro (vin_len (gl51 hG) q2) (Or.inr (And.intro (fun z => z c3) (h)))))))⟩
    · replace h := h.2 c3
      exact ⟨16, Or.inl (And.intro c1 (And.intro (gt48 hG) (And.intro (gt51 hG) (And.intro (vin_len (gl51 hG) q2) (Or.inl (And.intro c3 (h)))))))⟩
  · replace h := h.2 c1
    obtain ⟨q4, h⟩ := h
    obtain ⟨v1, μ1, h1, n, h⟩ := h
    exact ⟨n + 15, Or.inr (And.intro c1 (And.intro (gt48 hG) (And.intro (gt51 hG) (And.intro (vin_len (gl51 hG) q4) (Exists.intro _ (Exists.intro _ (Exists.intro _ (Exists.intro _ (And.intro rfl (And.intro (gt48 hG) (And.intro (Nat.le_of_ble_eq_true rfl) (And.intro h1 (h)))))))))))))⟩

set_option maxRecDepth 100000 in
set_option maxHeartbeats 4000000 in
theorem sX5_states_93 {E : aR} {A : Nat → Nat → Int32} {R : Nat → Nat → Option Nat} {G : Nat → Nat × Nat} (x1 : Int32) (x2 : Int32) (x3 : Int32) (x4 : Int32) (d5 : Option Value) (x6 : Int32) (x7 : Int32) (x8 : Int32) (x9 : Int32) (d10 : Option Value) (y0 : Int32)
    (h : ((y0 = (-1)) → (((x8 = (-1)) → (aw tX5_states E 69 [some (.ref 48), some (.int x1), some (.int x2), some (.int x3), some (.int x4), d5, some (.int x6), some (.int (x7 + 1)), some (.int x9), some (.int (x9 + 1)), some (.int 1)] [] (A, R, G))) ∧ ((¬ (x8 = (-1))) → (aw tX5_states E 69 [some (.ref 48), some (.int x1), some (.int x2), some (.int x3), some (.int x4), d5, some (.int x6), some (.int (x7 + 1)), some (.int x8), some (.int (x9 + 1)), some (.int 1)] [] (A, R, G))))) ∧ ((¬ (y0 = (-1))) → (aw tX5_states E 69 [some (.ref 48), some (.int x1), some (.int x2), some (.int x3), some (.int x4), d5, some (.int x6), some (.int (x7 + 0)), some (.int x8), some (.int (x9 + 1)), some (.int 0)] [] (A, R, G)))) :
    aw tX5_states E 93 [some (.ref 48), some (.int x1), some (.int x2), some (.int x3), some (.int x4), d5, some (.int x6), some (.int x7), some (.int x8), some (.int x9), d10] [.int y0] (A, R, G) := by
  by_cases c1 : y0 = (-1)
  · replace h := h.1 c1
    by_cases c2 : x8 = (-1)
    · replace h := h.1 c2
      obtain ⟨n, h⟩ := h
      exact ⟨n + 22, Or.inr (And.intro (fun z => z c1) (Or.inr (And.intro (by decide) (Or.inr (And.intro (by decide) (Or.inr (And.intro (fun z => z c2) (h))))))))⟩
    · replace h := h.2 c2
      obtain ⟨n, h⟩ := h
      exact ⟨n + 21, Or.inr (And.intro (fun z => z c1) (Or.inr (And.intro (by decide) (Or.inr (And.intro (by decide) (Or.inl (And.intro c2 (h))))))))⟩
  · replace h := h.2 c1
    obtain ⟨n, h⟩ := h
    exact ⟨n + 16, Or.inl (And.intro c1 (Or.inl (And.intro (by decide) (Or.inl (And.intro (by decide) (h))))))⟩

set_option maxRecDepth 100000 in
set_option maxHeartbeats 4000000 in
theorem sX5_dropped_0 {E : aR} {A : Nat → Nat → Int32} {R : Nat → Nat → Option Nat} {G : Nat → Nat × Nat} (hG : aGS G) (x1 : Int32)
    (h : ∃ (v1 : Int32) (μ1 : aM), CX5_sheetWrong [.ref 48, .int x1] (A, R, G) (some (.int v1)) μ1 ∧ aw tX5_dropped E 5 [some (.ref 48), some (.int x1), none, none, none, none] [.int v1] μ1) :
    aw tX5_dropped E 0 [some (.ref 48), some (.int x1), none, none, none, none] [] (A, R, G) := by
  obtain ⟨v1, μ1, h1, n, h⟩ := h
  exact ⟨n + 3, Exists.intro _ (Exists.intro _ (Exists.intro _ (Exists.intro _ (And.intro rfl (And.intro (gt48 hG) (And.intro (Nat.le_of_ble_eq_true rfl) (And.intro h1 (h))))))))⟩

set_option maxRecDepth 100000 in
set_option maxHeartbeats 4000000 in
theorem sX5_dropped_5 {E : aR} {A : Nat → Nat → Int32} {R : Nat → Nat → Option Nat} {G : Nat → Nat × Nat} (x1 : Int32) (d2 : Option Value) (d3 : Option Value) (d4 : Option Value) (d5 : Option Value) (y0 : Int32)
    (h : ((y0 = 0) → (aw tX5_dropped E 17 [some (.ref 48), some (.int x1), some (.int y0), some (.int 0), some (.int 0), d5] [] (A, R, G))) ∧ ((¬ (y0 = 0)) → (E (some (.int y0)) (A, R, G)))) :
    aw tX5_dropped E 5 [some (.ref 48), some (.int x1), d2, d3, d4, d5] [.int y0] (A, R, G) := by
  by_cases c1 : y0 = 0
  · replace h := h.1 c1
    obtain ⟨n, h⟩ := h
    exact ⟨n + 7, Or.inl (And.intro c1 (h))⟩
  · replace h := h.2 c1
    exact ⟨5, Or.inr (And.intro c1 (h))⟩

set_option maxRecDepth 100000 in
set_option maxHeartbeats 4000000 in
theorem sX5_dropped_17 {E : aR} {A : Nat → Nat → Int32} {R : Nat → Nat → Option Nat} {G : Nat → Nat × Nat} (hG : aGS G) (x1 : Int32) (d2 : Option Value) (x3 : Int32) (x4 : Int32) (d5 : Option Value)
    (h : ((8 ≤ x4) → (E (some (.int x3)) (A, R, G))) ∧ ((¬ (8 ≤ x4)) → ((vp_in (3 * x4) 24) ∧ ((((A 52 (3 * x4).toNatClampNeg) = 0) → (aw tX5_dropped E 17 [some (.ref 48), some (.int x1), none, some (.int x3), some (.int (x4 + 1)), some (.int (A 52 (3 * x4).toNatClampNeg))] [] (A, R, G))) ∧ ((¬ ((A 52 (3 * x4).toNatClampNeg) = 0)) → (∃ (v1 : Int32) (μ1 : aM), CX5_unlike [.ref 48, .int x1] ((au A 52 (3 * x4).toNatClampNeg 0), R, G) (some (.int v1)) μ1 ∧ aw tX5_dropped E 56 [some (.ref 48), some (.int x1), none, some (.int x3), some (.int x4), some (.int (A 52 (3 * x4).toNatClampNeg))] [.int v1, .int x3] μ1)))))) :
    aw tX5_dropped E 17 [some (.ref 48), some (.int x1), d2, some (.int x3), some (.int x4), d5] [] (A, R, G) := by
  by_cases c1 : 8 ≤ x4
  · replace h := h.1 c1
    exact ⟨5, Or.inl (And.intro c1 (h))⟩
  · replace h := h.2 c1
    obtain ⟨q2, h⟩ := h
    by_cases c3 : (A 52 (3 * x4).toNatClampNeg) = 0
    · replace h := h.1 c3
      obtain ⟨n, h⟩ := h
      exact ⟨n + 14, Or.inr (And.intro c1 (And.intro (gt48 hG) (And.intro (gt52 hG) (And.intro (vin_len (gl52 hG) q2) (Or.inl (And.intro c3 (h)))))))⟩
    · replace h := h.2 c3
      obtain ⟨v1, μ1, h1, n, h⟩ := h
      exact ⟨n + 23, Or.inr (And.intro c1 (And.intro (gt48 hG) (And.intro (gt52 hG) (And.intro (vin_len (gl52 hG) q2) (Or.inr (And.intro c3 (And.intro (gt48 hG) (And.intro (gt52 hG) (And.intro (vin_len (gl52 hG) q2) (Exists.intro _ (Exists.intro _ (Exists.intro _ (Exists.intro _ (And.intro rfl (And.intro (gt48 hG) (And.intro (Nat.le_of_ble_eq_true rfl) (And.intro h1 (h))))))))))))))))))⟩

set_option maxRecDepth 100000 in
set_option maxHeartbeats 4000000 in
theorem sX5_dropped_56 {E : aR} {A : Nat → Nat → Int32} {R : Nat → Nat → Option Nat} {G : Nat → Nat × Nat} (hG : aGS G) (x1 : Int32) (d2 : Option Value) (d3 : Option Value) (x4 : Int32) (x5 : Int32) (y0 : Int32) (y1 : Int32)
    (h : ((y0 = (-1)) → ((vp_in (3 * x4) 24) ∧ (aw tX5_dropped E 17 [some (.ref 48), some (.int x1), (bif ac2 d2 then none else d2), some (.int (y1 ||| ((1 : Int32) <<< (x4 &&& 31)))), some (.int (x4 + 1)), some (.int x5)] [] ((au A 52 (3 * x4).toNatClampNeg x5), R, G)))) ∧ ((¬ (y0 = (-1))) → ((vp_in (3 * x4) 24) ∧ (aw tX5_dropped E 17 [some (.ref 48), some (.int x1), (bif ac2 d2 then none else d2), some (.int (y1 ||| 0)), some (.int (x4 + 1)), some (.int x5)] [] ((au A 52 (3 * x4).toNatClampNeg x5), R, G))))) :
    aw tX5_dropped E 56 [some (.ref 48), some (.int x1), d2, d3, some (.int x4), some (.int x5)] [.int y0, .int y1] (A, R, G) := by
  by_cases c1 : y0 = (-1)
  · replace h := h.1 c1
    obtain ⟨q2, h⟩ := h
    obtain ⟨n, h⟩ := h
    exact ⟨n + 17, Or.inr (And.intro (fun z => z c1) (And.intro (gt48 hG) (And.intro (gt52 hG) (And.intro (vin_len (gl52 hG) q2) (h)))))⟩
  · replace h := h.2 c1
    obtain ⟨q3, h⟩ := h
    obtain ⟨n, h⟩ := h
    exact ⟨n + 14, Or.inl (And.intro c1 (And.intro (gt48 hG) (And.intro (gt52 hG) (And.intro (vin_len (gl52 hG) q3) (h)))))⟩

set_option maxRecDepth 100000 in
set_option maxHeartbeats 4000000 in
theorem sX5_laws_0 {E : aR} {A : Nat → Nat → Int32} {R : Nat → Nat → Option Nat} {G : Nat → Nat × Nat} (hG : aGS G) (x1 : Int32)
    (h : ∃ (v1 : Int32) (μ1 : aM), CX5_sheetWrong [.ref 48, .int x1] (A, R, G) (some (.int v1)) μ1 ∧ aw tX5_laws E 5 [some (.ref 48), some (.int x1), none, none, none, none] [.int v1] μ1) :
    aw tX5_laws E 0 [some (.ref 48), some (.int x1), none, none, none, none] [] (A, R, G) := by
  obtain ⟨v1, μ1, h1, n, h⟩ := h
  exact ⟨n + 3, Exists.intro _ (Exists.intro _ (Exists.intro _ (Exists.intro _ (And.intro rfl (And.intro (gt48 hG) (And.intro (Nat.le_of_ble_eq_true rfl) (And.intro h1 (h))))))))⟩

set_option maxRecDepth 100000 in
set_option maxHeartbeats 4000000 in
theorem sX5_laws_5 {E : aR} {A : Nat → Nat → Int32} {R : Nat → Nat → Option Nat} {G : Nat → Nat × Nat} (hG : aGS G) (x1 : Int32) (d2 : Option Value) (d3 : Option Value) (d4 : Option Value) (d5 : Option Value) (y0 : Int32)
    (h : ((y0 = 0) → (aw tX5_laws E 23 [some (.ref 48), some (.int x1), some (.int y0), some (.int (A 48 12)), some (.int 0), some (.int 0)] [] (A, R, G))) ∧ ((¬ (y0 = 0)) → (E (some (.int y0)) (A, R, G)))) :
    aw tX5_laws E 5 [some (.ref 48), some (.int x1), d2, d3, d4, d5] [.int y0] (A, R, G) := by
  by_cases c1 : y0 = 0
  · replace h := h.1 c1
    obtain ⟨n, h⟩ := h
    exact ⟨n + 10, Or.inl (And.intro c1 (And.intro (gt48 hG) (h)))⟩
  · replace h := h.2 c1
    exact ⟨5, Or.inr (And.intro c1 (h))⟩

set_option maxRecDepth 100000 in
set_option maxHeartbeats 4000000 in
theorem sX5_laws_23 {E : aR} {A : Nat → Nat → Int32} {R : Nat → Nat → Option Nat} {G : Nat → Nat × Nat} (hG : aGS G) (x1 : Int32) (d2 : Option Value) (x3 : Int32) (x4 : Int32) (x5 : Int32)
    (h : (((A 48 11) ≤ x5) → (E (some (.int x4)) ((au A 48 12 x3), R, G))) ∧ ((¬ ((A 48 11) ≤ x5)) → (∃ (v1 : Int32) (μ1 : aM), CX5_unlike [.ref 48, .int x1] ((au A 48 12 x5), R, G) (some (.int v1)) μ1 ∧ aw tX5_laws E 45 [some (.ref 48), some (.int x1), none, some (.int x3), some (.int x4), some (.int x5)] [.int v1, .int x4] μ1))) :
    aw tX5_laws E 23 [some (.ref 48), some (.int x1), d2, some (.int x3), some (.int x4), some (.int x5)] [] (A, R, G) := by
  by_cases c1 : (A 48 11) ≤ x5
  · replace h := h.1 c1
    exact ⟨9, And.intro (gt48 hG) (Or.inl (And.intro c1 (And.intro (gt48 hG) (h))))⟩
  · replace h := h.2 c1
    obtain ⟨v1, μ1, h1, n, h⟩ := h
    exact ⟨n + 11, And.intro (gt48 hG) (Or.inr (And.intro c1 (And.intro (gt48 hG) (Exists.intro _ (Exists.intro _ (Exists.intro _ (Exists.intro _ (And.intro rfl (And.intro (gt48 hG) (And.intro (Nat.le_of_ble_eq_true rfl) (And.intro h1 (h))))))))))))⟩

set_option maxRecDepth 100000 in
set_option maxHeartbeats 4000000 in
theorem sX5_laws_45 {E : aR} {A : Nat → Nat → Int32} {R : Nat → Nat → Option Nat} {G : Nat → Nat × Nat} (x1 : Int32) (d2 : Option Value) (x3 : Int32) (d4 : Option Value) (x5 : Int32) (y0 : Int32) (y1 : Int32)
    (h : ((y0 = (-1)) → (aw tX5_laws E 23 [some (.ref 48), some (.int x1), d2, some (.int x3), some (.int (y1 ||| ((1 : Int32) <<< (x5 &&& 31)))), some (.int (x5 + 1))] [] (A, R, G))) ∧ ((¬ (y0 = (-1))) → (aw tX5_laws E 23 [some (.ref 48), some (.int x1), d2, some (.int x3), some (.int (y1 ||| 0)), some (.int (x5 + 1))] [] (A, R, G)))) :
    aw tX5_laws E 45 [some (.ref 48), some (.int x1), d2, some (.int x3), d4, some (.int x5)] [.int y0, .int y1] (A, R, G) := by
  by_cases c1 : y0 = (-1)
  · replace h := h.1 c1
    obtain ⟨n, h⟩ := h
    exact ⟨n + 10, Or.inr (And.intro (fun z => z c1) (h))⟩
  · replace h := h.2 c1
    obtain ⟨n, h⟩ := h
    exact ⟨n + 7, Or.inl (And.intro c1 (h))⟩
