set_option maxRecDepth 100000 in
set_option maxHeartbeats 4000000 in
theorem sX5_film_0 {E : aR} {A : Nat → Nat → Int32} {R : Nat → Nat → Option Nat} {G : Nat → Nat × Nat} (hG : aGS G) (x1 : Int32) (x2 : Int32)
    (h : ((0 ≤ x1 ∧ x1 ≤ 3) → (((0 ≤ x2 ∧ x2 ≤ 20) → ((vp_in x1 4) ∧ (∃ (μ1 : aM), CX5_keeps [.ref 48] ((au (au A 58 x1.toNatClampNeg 0) 59 x1.toNatClampNeg x2), R, G) none μ1 ∧ aw tX5_film E 43 [some (.ref 48), some (.int x1), some (.int x2), none] [] μ1))) ∧ ((¬ (0 ≤ x2 ∧ x2 ≤ 20)) → (E (some (.int (-7))) (A, R, G))))) ∧ ((¬ (0 ≤ x1 ∧ x1 ≤ 3)) → (E (some (.int (-2))) (A, R, G)))) :
    aw tX5_film E 0 [some (.ref 48), some (.int x1), some (.int x2), none] [] (A, R, G) := by
  by_cases c1 : 0 ≤ x1 ∧ x1 ≤ 3
  · replace h := h.1 c1
    by_cases c2 : 0 ≤ x2 ∧ x2 ≤ 20
    · replace h := h.1 c2
      obtain ⟨q3, h⟩ := h
      obtain ⟨μ1, h1, n, h⟩ := h
      exact ⟨n + 22, Exists.intro _ (Exists.intro _ (And.intro (Nat.le_of_ble_eq_true rfl) (And.intro (Nat.le_of_ble_eq_true rfl) (And.intro (pX5_in _ _ _) (Or.inl (And.intro (bI_ne c1) (Exists.intro _ (Exists.intro _ (And.intro (Nat.le_of_ble_eq_true rfl) (And.intro (Nat.le_of_ble_eq_true rfl) (And.intro (pX5_in _ _ _) (Or.inl (And.intro (bI_ne c2) (And.intro (gt48 hG) (And.intro (gt58 hG) (And.intro (vin_len (gl58 hG) q3) (And.intro (gt48 hG) (And.intro (gt59 hG) (And.intro (vin_len (gl59 hG) q3) (Exists.intro _ (Exists.intro _ (Exists.intro _ (Exists.intro _ (And.intro rfl (And.intro (gt48 hG) (And.intro (Nat.le_of_ble_eq_true rfl) (And.intro h1 (h))))))))))))))))))))))))))))⟩
    · replace h := h.2 c2
      exact ⟨12, Exists.intro _ (Exists.intro _ (And.intro (Nat.le_of_ble_eq_true rfl) (And.intro (Nat.le_of_ble_eq_true rfl) (And.intro (pX5_in _ _ _) (Or.inl (And.intro (bI_ne c1) (Exists.intro _ (Exists.intro _ (And.intro (Nat.le_of_ble_eq_true rfl) (And.intro (Nat.le_of_ble_eq_true rfl) (And.intro (pX5_in _ _ _) (Or.inr (And.intro (bI_nne c2) (h))))))))))))))⟩
  · replace h := h.2 c1
    exact ⟨7, Exists.intro _ (Exists.intro _ (And.intro (Nat.le_of_ble_eq_true rfl) (And.intro (Nat.le_of_ble_eq_true rfl) (And.intro (pX5_in _ _ _) (Or.inr (And.intro (bI_nne c1) (h)))))))⟩

set_option maxRecDepth 100000 in
set_option maxHeartbeats 4000000 in
theorem sX5_film_43 {E : aR} {A : Nat → Nat → Int32} {R : Nat → Nat → Option Nat} {G : Nat → Nat × Nat} (x1 : Int32) (x2 : Int32) (d3 : Option Value)
    (h : aw tX5_film E 45 [some (.ref 48), some (.int x1), some (.int x2), some (.int 0)] [] (A, R, G)) :
    aw tX5_film E 43 [some (.ref 48), some (.int x1), some (.int x2), d3] [] (A, R, G) := by
  obtain ⟨n, h⟩ := h
  exact ⟨n + 2, h⟩

set_option maxRecDepth 100000 in
set_option maxHeartbeats 4000000 in
theorem sX5_film_45 {E : aR} {A : Nat → Nat → Int32} {R : Nat → Nat → Option Nat} {G : Nat → Nat × Nat} (hG : aGS G) (x1 : Int32) (x2 : Int32) (x3 : Int32)
    (h : ((40 ≤ x3) → (∃ (μ1 : aM), CX5_lays [.ref 48] (A, R, G) none μ1 ∧ aw tX5_film E 88 [some (.ref 48), some (.int x1), some (.int x2), some (.int x3)] [] μ1)) ∧ ((¬ (40 ≤ x3)) → (((x2 ≤ x3) → ((vp_in ((40 * x1) + x3) 160) ∧ (aw tX5_film E 45 [some (.ref 48), some (.int x1), some (.int x2), some (.int (x3 + 1))] [] ((au A 60 ((40 * x1) + x3).toNatClampNeg 0), R, G)))) ∧ ((¬ (x2 ≤ x3)) → (∃ (v1 : Int32) (μ1 : aM), CX5_dayOf [.ref 48] (A, R, G) (some (.int v1)) μ1 ∧ aw tX5_film E 70 [some (.ref 48), some (.int x1), some (.int x2), some (.int x3)] [.int v1, .int ((40 * x1) + x3), .ref 60] μ1))))) :
    aw tX5_film E 45 [some (.ref 48), some (.int x1), some (.int x2), some (.int x3)] [] (A, R, G) := by
  by_cases c1 : 40 ≤ x3
  · replace h := h.1 c1
    obtain ⟨μ1, h1, n, h⟩ := h
    exact ⟨n + 5, Or.inl (And.intro c1 (Exists.intro _ (Exists.intro _ (Exists.intro _ (Exists.intro _ (And.intro rfl (And.intro (gt48 hG) (And.intro (Nat.le_of_ble_eq_true rfl) (And.intro h1 (h))))))))))⟩
  · replace h := h.2 c1
    by_cases c2 : x2 ≤ x3
    · replace h := h.1 c2
      obtain ⟨q3, h⟩ := h
      obtain ⟨n, h⟩ := h
      exact ⟨n + 17, Or.inr (And.intro c1 (And.intro (gt48 hG) (Or.inl (And.intro c2 (And.intro (gt60 hG) (And.intro (vin_len (gl60 hG) q3) (h)))))))⟩
    · replace h := h.2 c2
      obtain ⟨v1, μ1, h1, n, h⟩ := h
      exact ⟨n + 15, Or.inr (And.intro c1 (And.intro (gt48 hG) (Or.inr (And.intro c2 (Exists.intro _ (Exists.intro _ (Exists.intro _ (Exists.intro _ (And.intro rfl (And.intro (gt48 hG) (And.intro (Nat.le_of_ble_eq_true rfl) (And.intro h1 (h)))))))))))))⟩

set_option maxRecDepth 100000 in
set_option maxHeartbeats 4000000 in
theorem sX5_film_70 {E : aR} {A : Nat → Nat → Int32} {R : Nat → Nat → Option Nat} {G : Nat → Nat × Nat} (x1 : Int32) (x2 : Int32) (x3 : Int32) (y0 : Int32) (y1 : Int32) (y2 : Nat)
    (h : ((G y2).1 = 1) ∧ ((vp_in y1 (G y2).2) ∧ (aw tX5_film E 45 [some (.ref 48), some (.int x1), some (.int x2), some (.int (x3 + 1))] [] ((au A y2 y1.toNatClampNeg (ones y0)), R, G)))) :
    aw tX5_film E 70 [some (.ref 48), some (.int x1), some (.int x2), some (.int x3)] [.int y0, .int y1, .ref y2] (A, R, G) := by
  obtain ⟨q1, h⟩ := h
  obtain ⟨q2, h⟩ := h
  obtain ⟨n, h⟩ := h
  exact ⟨n + 5, Exists.intro _ (Exists.intro _ (And.intro (Nat.le_of_ble_eq_true rfl) (And.intro (Nat.le_of_ble_eq_true rfl) (And.intro (pX5_onesOf _) (And.intro q1 (And.intro q2 (h)))))))⟩

set_option maxRecDepth 100000 in
set_option maxHeartbeats 4000000 in
theorem sX5_film_88 {E : aR} {A : Nat → Nat → Int32} {R : Nat → Nat → Option Nat} {G : Nat → Nat × Nat} (d1 : Option Value) (x2 : Int32) (d3 : Option Value)
    (h : E (some (.int x2)) (A, R, G)) :
    aw tX5_film E 88 [some (.ref 48), d1, some (.int x2), d3] [] (A, R, G) := by
  exact ⟨2, h⟩

set_option maxRecDepth 100000 in
set_option maxHeartbeats 4000000 in
theorem sX5_drawn_0 {E : aR} {A : Nat → Nat → Int32} {R : Nat → Nat → Option Nat} {G : Nat → Nat × Nat} (hG : aGS G) (x1 : Int32) (x2 : Int32)
    (h : ((0 ≤ x1 ∧ x1 ≤ 99999) → (((0 ≤ x2 ∧ x2 ≤ 1) → (∃ (v1 : Int32) (μ1 : aM), CX5_burglars [.ref 48, .int x1] (A, R, G) (some (.int v1)) μ1 ∧ aw tX5_drawn E 27 [some (.ref 48), some (.int x1), some (.int x2), none] [.int v1] μ1)) ∧ ((¬ (0 ≤ x2 ∧ x2 ≤ 1)) → (E (some (.int (-2))) (A, R, G))))) ∧ ((¬ (0 ≤ x1 ∧ x1 ≤ 99999)) → (E (some (.int (-2))) (A, R, G)))) :
    aw tX5_drawn E 0 [some (.ref 48), some (.int x1), some (.int x2), none] [] (A, R, G) := by
  by_cases c1 : 0 ≤ x1 ∧ x1 ≤ 99999
  · replace h := h.1 c1
    by_cases c2 : 0 ≤ x2 ∧ x2 ≤ 1
    · replace h := h.1 c2
      obtain ⟨v1, μ1, h1, n, h⟩ := h
      exact ⟨n + 13, Exists.intro _ (Exists.intro _ (And.intro (Nat.le_of_ble_eq_true rfl) (And.intro (Nat.le_of_ble_eq_true rfl) (And.intro (pX5_in _ _ _) (Or.inr (And.intro (bI_neq c1) (Exists.intro _ (Exists.intro _ (And.intro (Nat.le_of_ble_eq_true rfl) (And.intro (Nat.le_of_ble_eq_true rfl) (And.intro (pX5_in _ _ _) (Or.inl (And.intro (bI_ne c2) (Exists.intro _ (Exists.intro _ (Exists.intro _ (Exists.intro _ (And.intro rfl (And.intro (gt48 hG) (And.intro (Nat.le_of_ble_eq_true rfl) (And.intro h1 (h))))))))))))))))))))))⟩
    · replace h := h.2 c2
      exact ⟨12, Exists.intro _ (Exists.intro _ (And.intro (Nat.le_of_ble_eq_true rfl) (And.intro (Nat.le_of_ble_eq_true rfl) (And.intro (pX5_in _ _ _) (Or.inr (And.intro (bI_neq c1) (Exists.intro _ (Exists.intro _ (And.intro (Nat.le_of_ble_eq_true rfl) (And.intro (Nat.le_of_ble_eq_true rfl) (And.intro (pX5_in _ _ _) (Or.inr (And.intro (bI_nne c2) (h))))))))))))))⟩
  · replace h := h.2 c1
    exact ⟨7, Exists.intro _ (Exists.intro _ (And.intro (Nat.le_of_ble_eq_true rfl) (And.intro (Nat.le_of_ble_eq_true rfl) (And.intro (pX5_in _ _ _) (Or.inl (And.intro (bI_eq c1) (h)))))))⟩

set_option maxRecDepth 100000 in
set_option maxHeartbeats 4000000 in
theorem sX5_drawn_27 {E : aR} {A : Nat → Nat → Int32} {R : Nat → Nat → Option Nat} {G : Nat → Nat × Nat} (hG : aGS G) (d1 : Option Value) (x2 : Int32) (d3 : Option Value) (y0 : Int32)
    (h : ((x2 = 0) → (E (some (.int y0)) (A, R, G))) ∧ ((¬ (x2 = 0)) → (E (some (.int (A 48 34))) (A, R, G)))) :
    aw tX5_drawn E 27 [some (.ref 48), d1, some (.int x2), d3] [.int y0] (A, R, G) := by
  by_cases c1 : x2 = 0
  · replace h := h.1 c1
    exact ⟨6, Or.inr (And.intro (fun z => z c1) (h))⟩
  · replace h := h.2 c1
    exact ⟨6, Or.inl (And.intro c1 (And.intro (gt48 hG) (h)))⟩

set_option maxRecDepth 100000 in
set_option maxHeartbeats 4000000 in
theorem sX5_odds_0 {E : aR} {A : Nat → Nat → Int32} {R : Nat → Nat → Option Nat} {G : Nat → Nat × Nat} (x1 : Int32) (x2 : Int32) (x3 : Int32) (x4 : Int32)
    (h : ((0 ≤ x1 ∧ x1 ≤ 99999) → (((1 ≤ x2 ∧ x2 ≤ 40) → (((0 ≤ x3 ∧ x3 ≤ 8) → (((0 ≤ x4 ∧ x4 ≤ 1) → (aw tX5_odds E 50 [some (.ref 48), some (.int x1), some (.int x2), some (.int x3), some (.int x4), some (.long 0), none, some (.int 0)] [] (A, R, G))) ∧ ((¬ (0 ≤ x4 ∧ x4 ≤ 1)) → (E (some (.long (-4611686018427387904))) (A, R, G))))) ∧ ((¬ (0 ≤ x3 ∧ x3 ≤ 8)) → (E (some (.long (-4611686018427387904))) (A, R, G))))) ∧ ((¬ (1 ≤ x2 ∧ x2 ≤ 40)) → (E (some (.long (-4611686018427387904))) (A, R, G))))) ∧ ((¬ (0 ≤ x1 ∧ x1 ≤ 99999)) → (E (some (.long (-4611686018427387904))) (A, R, G)))) :
    aw tX5_odds E 0 [some (.ref 48), some (.int x1), some (.int x2), some (.int x3), some (.int x4), none, none, none] [] (A, R, G) := by
  by_cases c1 : 0 ≤ x1 ∧ x1 ≤ 99999
  · replace h := h.1 c1
    by_cases c2 : 1 ≤ x2 ∧ x2 ≤ 40
    · replace h := h.1 c2
      by_cases c3 : 0 ≤ x3 ∧ x3 ≤ 8
      · replace h := h.1 c3
        by_cases c4 : 0 ≤ x4 ∧ x4 ≤ 1
        · replace h := h.1 c4
          obtain ⟨n, h⟩ := h
          exact ⟨n + 24, Exists.intro _ (Exists.intro _ (And.intro (Nat.le_of_ble_eq_true rfl) (And.intro (Nat.le_of_ble_eq_true rfl) (And.intro (pX5_in _ _ _) (Or.inr (And.intro (bI_neq c1) (Exists.intro _ (Exists.intro _ (And.intro (Nat.le_of_ble_eq_true rfl) (And.intro (Nat.le_of_ble_eq_true rfl) (And.intro (pX5_in _ _ _) (Or.inr (And.intro (bI_neq c2) (Exists.intro _ (Exists.intro _ (And.intro (Nat.le_of_ble_eq_true rfl) (And.intro (Nat.le_of_ble_eq_true rfl) (And.intro (pX5_in _ _ _) (Or.inr (And.intro (bI_neq c3) (Exists.intro _ (Exists.intro _ (And.intro (Nat.le_of_ble_eq_true rfl) (And.intro (Nat.le_of_ble_eq_true rfl) (And.intro (pX5_in _ _ _) (Or.inl (And.intro (bI_ne c4) (h))))))))))))))))))))))))))))⟩
        · replace h := h.2 c4
          exact ⟨22, Exists.intro _ (Exists.intro _ (And.intro (Nat.le_of_ble_eq_true rfl) (And.intro (Nat.le_of_ble_eq_true rfl) (And.intro (pX5_in _ _ _) (Or.inr (And.intro (bI_neq c1) (Exists.intro _ (Exists.intro _ (And.intro (Nat.le_of_ble_eq_true rfl) (And.intro (Nat.le_of_ble_eq_true rfl) (And.intro (pX5_in _ _ _) (Or.inr (And.intro (bI_neq c2) (Exists.intro _ (Exists.intro _ (And.intro (Nat.le_of_ble_eq_true rfl) (And.intro (Nat.le_of_ble_eq_true rfl) (And.intro (pX5_in _ _ _) (Or.inr (And.intro (bI_neq c3) (Exists.intro _ (Exists.intro _ (And.intro (Nat.le_of_ble_eq_true rfl) (And.intro (Nat.le_of_ble_eq_true rfl) (And.intro (pX5_in _ _ _) (Or.inr (And.intro (bI_nne c4) (h))))))))))))))))))))))))))))⟩
      · replace h := h.2 c3
        exact ⟨17, Exists.intro _ (Exists.intro _ (And.intro (Nat.le_of_ble_eq_true rfl) (And.intro (Nat.le_of_ble_eq_true rfl) (And.intro (pX5_in _ _ _) (Or.inr (And.intro (bI_neq c1) (Exists.intro _ (Exists.intro _ (And.intro (Nat.le_of_ble_eq_true rfl) (And.intro (Nat.le_of_ble_eq_true rfl) (And.intro (pX5_in _ _ _) (Or.inr (And.intro (bI_neq c2) (Exists.intro _ (Exists.intro _ (And.intro (Nat.le_of_ble_eq_true rfl) (And.intro (Nat.le_of_ble_eq_true rfl) (And.intro (pX5_in _ _ _) (Or.inl (And.intro (bI_eq c3) (h)))))))))))))))))))))⟩
    · replace h := h.2 c2
      exact ⟨12, Exists.intro _ (Exists.intro _ (And.intro (Nat.le_of_ble_eq_true rfl) (And.intro (Nat.le_of_ble_eq_true rfl) (And.intro (pX5_in _ _ _) (Or.inr (And.intro (bI_neq c1) (Exists.intro _ (Exists.intro _ (And.intro (Nat.le_of_ble_eq_true rfl) (And.intro (Nat.le_of_ble_eq_true rfl) (And.intro (pX5_in _ _ _) (Or.inl (And.intro (bI_eq c2) (h))))))))))))))⟩
  · replace h := h.2 c1
    exact ⟨7, Exists.intro _ (Exists.intro _ (And.intro (Nat.le_of_ble_eq_true rfl) (And.intro (Nat.le_of_ble_eq_true rfl) (And.intro (pX5_in _ _ _) (Or.inl (And.intro (bI_eq c1) (h)))))))⟩

set_option maxRecDepth 100000 in
set_option maxHeartbeats 4000000 in
theorem sX5_odds_50 {E : aR} {A : Nat → Nat → Int32} {R : Nat → Nat → Option Nat} {G : Nat → Nat × Nat} (hG : aGS G) (x1 : Int32) (x2 : Int32) (x3 : Int32) (x4 : Int32) (x5 : Int64) (x7 : Int32)
    (h : ((x2 ≤ x7) → (∃ (v1 : Int64) (μ1 : aM), CX5_lowest [.long x5, .long ((x2 : Int32).toInt64), .int x4] (A, R, G) (some (.long v1)) μ1 ∧ aw tX5_odds E 93 [some (.ref 48), some (.int x1), some (.int x2), some (.int x3), some (.int x4), some (.long x5), none, some (.int x7)] [.long v1] μ1)) ∧ ((¬ (x2 ≤ x7)) → (∃ (v1 : Int32) (μ1 : aM), CX5_burglars [.ref 48, .int (x1 + x7)] (A, R, G) (some (.int v1)) μ1 ∧ aw tX5_odds E 66 [some (.ref 48), some (.int x1), some (.int x2), some (.int x3), some (.int x4), some (.long x5), none, some (.int x7)] [.int v1, .long x5] μ1))) :
    aw tX5_odds E 50 [some (.ref 48), some (.int x1), some (.int x2), some (.int x3), some (.int x4), some (.long x5), none, some (.int x7)] [] (A, R, G) := by
  by_cases c1 : x2 ≤ x7
  · replace h := h.1 c1
    obtain ⟨v1, μ1, h1, n, h⟩ := h
    exact ⟨n + 8, Or.inl (And.intro c1 (Exists.intro _ (Exists.intro _ (And.intro (Nat.le_of_ble_eq_true rfl) (And.intro (Nat.le_of_ble_eq_true rfl) (And.intro h1 (h)))))))⟩
  · replace h := h.2 c1
    obtain ⟨v1, μ1, h1, n, h⟩ := h
    exact ⟨n + 9, Or.inr (And.intro c1 (Exists.intro _ (Exists.intro _ (Exists.intro _ (Exists.intro _ (And.intro rfl (And.intro (gt48 hG) (And.intro (Nat.le_of_ble_eq_true rfl) (And.intro h1 (h))))))))))⟩

set_option maxRecDepth 100000 in
set_option maxHeartbeats 4000000 in
theorem sX5_odds_66 {E : aR} {A : Nat → Nat → Int32} {R : Nat → Nat → Option Nat} {G : Nat → Nat × Nat} (x1 : Int32) (x2 : Int32) (x3 : Int32) (x4 : Int32) (d5 : Option Value) (x7 : Int32) (y0 : Int32) (y1 : Int64)
    (h : ((y0 < x3) → (aw tX5_odds E 50 [some (.ref 48), some (.int x1), some (.int x2), some (.int x3), some (.int x4), some (.long (y1 + 0)), none, some (.int (x7 + 1))] [] (A, R, G))) ∧ ((¬ (y0 < x3)) → (aw tX5_odds E 50 [some (.ref 48), some (.int x1), some (.int x2), some (.int x3), some (.int x4), some (.long (y1 + 1)), none, some (.int (x7 + 1))] [] (A, R, G)))) :
    aw tX5_odds E 66 [some (.ref 48), some (.int x1), some (.int x2), some (.int x3), some (.int x4), d5, none, some (.int x7)] [.int y0, .long y1] (A, R, G) := by
  by_cases c1 : y0 < x3
  · replace h := h.1 c1
    obtain ⟨n, h⟩ := h
    exact ⟨n + 7, Or.inl (And.intro c1 (h))⟩
  · replace h := h.2 c1
    obtain ⟨n, h⟩ := h
    exact ⟨n + 8, Or.inr (And.intro c1 (h))⟩

set_option maxRecDepth 100000 in
set_option maxHeartbeats 4000000 in
theorem sX5_odds_93 {E : aR} {A : Nat → Nat → Int32} {R : Nat → Nat → Option Nat} {G : Nat → Nat × Nat} (d1 : Option Value) (d2 : Option Value) (d3 : Option Value) (d4 : Option Value) (d5 : Option Value) (d7 : Option Value) (y0 : Int64)
    (h : E (some (.long y0)) (A, R, G)) :
    aw tX5_odds E 93 [some (.ref 48), d1, d2, d3, d4, d5, none, d7] [.long y0] (A, R, G) := by
  exact ⟨1, h⟩

set_option maxRecDepth 100000 in
set_option maxHeartbeats 4000000 in
theorem sX5_image_0 {E : aR} {A : Nat → Nat → Int32} {R : Nat → Nat → Option Nat} {G : Nat → Nat × Nat} (hG : aGS G)
    (h : aw tX5_image E 7 [some (.ref 48), some (.int 0)] [] ((au A 48 13 1), R, G)) :
    aw tX5_image E 0 [some (.ref 48), none] [] (A, R, G) := by
  obtain ⟨n, h⟩ := h
  exact ⟨n + 5, And.intro (Or.inr rfl) (And.intro (gt48 hG) (h))⟩

set_option maxRecDepth 100000 in
set_option maxHeartbeats 4000000 in
theorem sX5_image_7 {E : aR} {A : Nat → Nat → Int32} {R : Nat → Nat → Option Nat} {G : Nat → Nat × Nat} (hG : aGS G) (x1 : Int32)
    (h : ((18 ≤ x1) → (aw tX5_image E 33 [some (.ref 48), some (.int 0)] [] (A, R, G))) ∧ ((¬ (18 ≤ x1)) → ((vp_in x1 18) ∧ ((vp_in x1 42) ∧ (aw tX5_image E 7 [some (.ref 48), some (.int (x1 + 1))] [] ((au A 56 x1.toNatClampNeg (A 51 x1.toNatClampNeg)), R, G)))))) :
    aw tX5_image E 7 [some (.ref 48), some (.int x1)] [] (A, R, G) := by
  by_cases c1 : 18 ≤ x1
  · replace h := h.1 c1
    obtain ⟨n, h⟩ := h
    exact ⟨n + 5, Or.inl (And.intro c1 (h))⟩
  · replace h := h.2 c1
    obtain ⟨q2, h⟩ := h
    obtain ⟨q3, h⟩ := h
    obtain ⟨n, h⟩ := h
    exact ⟨n + 13, Or.inr (And.intro c1 (And.intro (gt48 hG) (And.intro (gt48 hG) (And.intro (gt51 hG) (And.intro (vin_len (gl51 hG) q2) (And.intro (gt56 hG) (And.intro (vin_len (gl56 hG) q3) (h))))))))⟩

set_option maxRecDepth 100000 in
set_option maxHeartbeats 4000000 in
theorem sX5_image_33 {E : aR} {A : Nat → Nat → Int32} {R : Nat → Nat → Option Nat} {G : Nat → Nat × Nat} (hG : aGS G) (x1 : Int32)
    (h : ((24 ≤ x1) → (aw tX5_image E 100 [some (.ref 48), some (.int x1)] [] ((au (au (au (au A 57 0 (A 48 0)) 57 1 (((au A 57 0 (A 48 0))) 48 5)) 57 2 (((au (au A 57 0 (A 48 0)) 57 1 (((au A 57 0 (A 48 0))) 48 5))) 48 6)) 57 3 (((au (au (au A 57 0 (A 48 0)) 57 1 (((au A 57 0 (A 48 0))) 48 5)) 57 2 (((au (au A 57 0 (A 48 0)) 57 1 (((au A 57 0 (A 48 0))) 48 5))) 48 6))) 48 12)), R, G))) ∧ ((¬ (24 ≤ x1)) → ((vp_in x1 24) ∧ ((vp_in (18 + x1) 42) ∧ (aw tX5_image E 33 [some (.ref 48), some (.int (x1 + 1))] [] ((au A 56 (18 + x1).toNatClampNeg (A 52 x1.toNatClampNeg)), R, G)))))) :
    aw tX5_image E 33 [some (.ref 48), some (.int x1)] [] (A, R, G) := by
  by_cases c1 : 24 ≤ x1
  · replace h := h.1 c1
    obtain ⟨n, h⟩ := h
    exact ⟨n + 27, Or.inl (And.intro c1 (And.intro (gt48 hG) (And.intro (gt48 hG) (And.intro (gt57 hG) (And.intro (vin_len (gl57 hG) (by unfold vp_in; decide)) (And.intro (gt48 hG) (And.intro (gt48 hG) (And.intro (gt57 hG) (And.intro (vin_len (gl57 hG) (by unfold vp_in; decide)) (And.intro (gt48 hG) (And.intro (gt48 hG) (And.intro (gt57 hG) (And.intro (vin_len (gl57 hG) (by unfold vp_in; decide)) (And.intro (gt48 hG) (And.intro (gt48 hG) (And.intro (gt57 hG) (And.intro (vin_len (gl57 hG) (by unfold vp_in; decide)) (h))))))))))))))))))⟩
  · replace h := h.2 c1
    obtain ⟨q2, h⟩ := h
    obtain ⟨q3, h⟩ := h
    obtain ⟨n, h⟩ := h
    exact ⟨n + 15, Or.inr (And.intro c1 (And.intro (gt48 hG) (And.intro (gt48 hG) (And.intro (gt52 hG) (And.intro (vin_len (gl52 hG) q2) (And.intro (gt56 hG) (And.intro (vin_len (gl56 hG) q3) (h))))))))⟩

set_option maxRecDepth 100000 in
set_option maxHeartbeats 4000000 in
theorem sX5_image_100 {E : aR} {A : Nat → Nat → Int32} {R : Nat → Nat → Option Nat} {G : Nat → Nat × Nat} (hG : aGS G) (d1 : Option Value)
    (h : E (some (.int (A 48 0))) (A, R, G)) :
    aw tX5_image E 100 [some (.ref 48), d1] [] (A, R, G) := by
  exact ⟨3, And.intro (gt48 hG) (h)⟩

set_option maxRecDepth 100000 in
set_option maxHeartbeats 4000000 in
theorem sX5_back_0 {E : aR} {A : Nat → Nat → Int32} {R : Nat → Nat → Option Nat} {G : Nat → Nat × Nat} (hG : aGS G)
    (h : (((A 48 13) = 0) → (E (some (.int (-3))) (A, R, G))) ∧ ((¬ ((A 48 13) = 0)) → (aw tX5_back E 12 [some (.ref 48), some (.int 0)] [] (A, R, G)))) :
    aw tX5_back E 0 [some (.ref 48), none] [] (A, R, G) := by
  by_cases c1 : (A 48 13) = 0
  · replace h := h.1 c1
    exact ⟨5, And.intro (gt48 hG) (Or.inr (And.intro (fun z => z c1) (h)))⟩
  · replace h := h.2 c1
    obtain ⟨n, h⟩ := h
    exact ⟨n + 5, And.intro (gt48 hG) (Or.inl (And.intro c1 (h)))⟩

set_option maxRecDepth 100000 in
set_option maxHeartbeats 4000000 in
theorem sX5_back_12 {E : aR} {A : Nat → Nat → Int32} {R : Nat → Nat → Option Nat} {G : Nat → Nat × Nat} (hG : aGS G) (x1 : Int32)
    (h : ((18 ≤ x1) → (aw tX5_back E 38 [some (.ref 48), some (.int 0)] [] (A, R, G))) ∧ ((¬ (18 ≤ x1)) → ((vp_in x1 42) ∧ ((vp_in x1 18) ∧ (aw tX5_back E 12 [some (.ref 48), some (.int (x1 + 1))] [] ((au A 51 x1.toNatClampNeg (A 56 x1.toNatClampNeg)), R, G)))))) :
    aw tX5_back E 12 [some (.ref 48), some (.int x1)] [] (A, R, G) := by
  by_cases c1 : 18 ≤ x1
  · replace h := h.1 c1
    obtain ⟨n, h⟩ := h
    exact ⟨n + 5, Or.inl (And.intro c1 (h))⟩
  · replace h := h.2 c1
    obtain ⟨q2, h⟩ := h
    obtain ⟨q3, h⟩ := h
    obtain ⟨n, h⟩ := h
    exact ⟨n + 13, Or.inr (And.intro c1 (And.intro (gt48 hG) (And.intro (gt48 hG) (And.intro (gt56 hG) (And.intro (vin_len (gl56 hG) q2) (And.intro (gt51 hG) (And.intro (vin_len (gl51 hG) q3) (h))))))))⟩

set_option maxRecDepth 100000 in
set_option maxHeartbeats 4000000 in
theorem sX5_back_38 {E : aR} {A : Nat → Nat → Int32} {R : Nat → Nat → Option Nat} {G : Nat → Nat × Nat} (hG : aGS G) (x1 : Int32)
    (h : ((24 ≤ x1) → (aw tX5_back E 105 [some (.ref 48), some (.int x1)] [] ((au (au (au (au A 48 0 (A 57 0)) 48 5 ((au A 48 0 (A 57 0)) 57 1)) 48 6 ((au (au A 48 0 (A 57 0)) 48 5 ((au A 48 0 (A 57 0)) 57 1)) 57 2)) 48 12 ((au (au (au A 48 0 (A 57 0)) 48 5 ((au A 48 0 (A 57 0)) 57 1)) 48 6 ((au (au A 48 0 (A 57 0)) 48 5 ((au A 48 0 (A 57 0)) 57 1)) 57 2)) 57 3)), R, G))) ∧ ((¬ (24 ≤ x1)) → ((vp_in (18 + x1) 42) ∧ ((vp_in x1 24) ∧ (aw tX5_back E 38 [some (.ref 48), some (.int (x1 + 1))] [] ((au A 52 x1.toNatClampNeg (A 56 (18 + x1).toNatClampNeg)), R, G)))))) :
    aw tX5_back E 38 [some (.ref 48), some (.int x1)] [] (A, R, G) := by
  by_cases c1 : 24 ≤ x1
  · replace h := h.1 c1
    obtain ⟨n, h⟩ := h
    exact ⟨n + 27, Or.inl (And.intro c1 (And.intro (gt48 hG) (And.intro (gt57 hG) (And.intro (vin_len (gl57 hG) (by unfold vp_in; decide)) (And.intro (gt48 hG) (And.intro (gt48 hG) (And.intro (gt57 hG) (And.intro (vin_len (gl57 hG) (by unfold vp_in; decide)) (And.intro (gt48 hG) (And.intro (gt48 hG) (And.intro (gt57 hG) (And.intro (vin_len (gl57 hG) (by unfold vp_in; decide)) (And.intro (gt48 hG) (And.intro (gt48 hG) (And.intro (gt57 hG) (And.intro (vin_len (gl57 hG) (by unfold vp_in; decide)) (And.intro (gt48 hG) (h))))))))))))))))))⟩
  · replace h := h.2 c1
    obtain ⟨q2, h⟩ := h
    obtain ⟨q3, h⟩ := h
    obtain ⟨n, h⟩ := h
    exact ⟨n + 15, Or.inr (And.intro c1 (And.intro (gt48 hG) (And.intro (gt48 hG) (And.intro (gt56 hG) (And.intro (vin_len (gl56 hG) q2) (And.intro (gt52 hG) (And.intro (vin_len (gl52 hG) q3) (h))))))))⟩

set_option maxRecDepth 100000 in
set_option maxHeartbeats 4000000 in
theorem sX5_back_105 {E : aR} {A : Nat → Nat → Int32} {R : Nat → Nat → Option Nat} {G : Nat → Nat × Nat} (hG : aGS G) (d1 : Option Value)
    (h : E (some (.int (A 48 0))) (A, R, G)) :
    aw tX5_back E 105 [some (.ref 48), d1] [] (A, R, G) := by
  exact ⟨3, And.intro (gt48 hG) (h)⟩

set_option maxRecDepth 100000 in
set_option maxHeartbeats 4000000 in
theorem sX5_sheet_0 {E : aR} {A : Nat → Nat → Int32} {R : Nat → Nat → Option Nat} {G : Nat → Nat × Nat} (hG : aGS G) (x1 : Int32) (x2 : Int32) (x3 : Int32)
    (h : ((0 ≤ x1 ∧ x1 ≤ 3) → ((((-1) ≤ x2 ∧ x2 ≤ 2) → (((x2 = (-1)) → ((vp_in x1 4) ∧ (aw tX5_sheet E 70 [some (.ref 48), some (.int x1), some (.int x2), some (.int x3), some (.int 0)] [] ((au (au A 58 x1.toNatClampNeg x2) 59 x1.toNatClampNeg 0), R, G)))) ∧ ((¬ (x2 = (-1))) → (((x3 ≤ 40) → (((0 ≤ x3) → ((vp_in x1 4) ∧ (aw tX5_sheet E 70 [some (.ref 48), some (.int x1), some (.int x2), some (.int x3), some (.int 0)] [] ((au (au A 58 x1.toNatClampNeg x2) 59 x1.toNatClampNeg x3), R, G)))) ∧ ((¬ (0 ≤ x3)) → (E (some (.int (-14))) (A, R, G))))) ∧ ((¬ (x3 ≤ 40)) → (E (some (.int (-2))) (A, R, G))))))) ∧ ((¬ ((-1) ≤ x2 ∧ x2 ≤ 2)) → (E (some (.int (-2))) (A, R, G))))) ∧ ((¬ (0 ≤ x1 ∧ x1 ≤ 3)) → (E (some (.int (-2))) (A, R, G)))) :
    aw tX5_sheet E 0 [some (.ref 48), some (.int x1), some (.int x2), some (.int x3), none] [] (A, R, G) := by
  by_cases c1 : 0 ≤ x1 ∧ x1 ≤ 3
  · replace h := h.1 c1
    by_cases c2 : (-1) ≤ x2 ∧ x2 ≤ 2
    · replace h := h.1 c2
      by_cases c3 : x2 = (-1)
      · replace h := h.1 c3
        obtain ⟨q4, h⟩ := h
        obtain ⟨n, h⟩ := h
        exact ⟨n + 32, Exists.intro _ (Exists.intro _ (And.intro (Nat.le_of_ble_eq_true rfl) (And.intro (Nat.le_of_ble_eq_true rfl) (And.intro (pX5_in _ _ _) (Or.inr (And.intro (bI_neq c1) (Exists.intro _ (Exists.intro _ (And.intro (Nat.le_of_ble_eq_true rfl) (And.intro (Nat.le_of_ble_eq_true rfl) (And.intro (pX5_in _ _ _) (Or.inr (And.intro (bI_neq c2) (Or.inl (And.intro c3 (Or.inl (And.intro c3 (And.intro (gt48 hG) (And.intro (gt58 hG) (And.intro (vin_len (gl58 hG) q4) (And.intro (gt48 hG) (Or.inr (And.intro (fun z => z c3) (And.intro (gt59 hG) (And.intro (vin_len (gl59 hG) q4) (h))))))))))))))))))))))))))⟩
      · replace h := h.2 c3
        by_cases c5 : x3 ≤ 40
        · replace h := h.1 c5
          by_cases c6 : 0 ≤ x3
          · replace h := h.1 c6
            obtain ⟨q7, h⟩ := h
            obtain ⟨n, h⟩ := h
            exact ⟨n + 36, Exists.intro _ (Exists.intro _ (And.intro (Nat.le_of_ble_eq_true rfl) (And.intro (Nat.le_of_ble_eq_true rfl) (And.intro (pX5_in _ _ _) (Or.inr (And.intro (bI_neq c1) (Exists.intro _ (Exists.intro _ (And.intro (Nat.le_of_ble_eq_true rfl) (And.intro (Nat.le_of_ble_eq_true rfl) (And.intro (pX5_in _ _ _) (Or.inr (And.intro (bI_neq c2) (Or.inr (And.intro c3 (Or.inl (And.intro c5 (Or.inr (And.intro c3 (Or.inl (And.intro c6 (And.intro (gt48 hG) (And.intro (gt58 hG) (And.intro (vin_len (gl58 hG) q7) (And.intro (gt48 hG) (Or.inl (And.intro c3 (And.intro (gt59 hG) (And.intro (vin_len (gl59 hG) q7) (h))))))))))))))))))))))))))))))⟩
          · replace h := h.2 c6
            exact ⟨23, Exists.intro _ (Exists.intro _ (And.intro (Nat.le_of_ble_eq_true rfl) (And.intro (Nat.le_of_ble_eq_true rfl) (And.intro (pX5_in _ _ _) (Or.inr (And.intro (bI_neq c1) (Exists.intro _ (Exists.intro _ (And.intro (Nat.le_of_ble_eq_true rfl) (And.intro (Nat.le_of_ble_eq_true rfl) (And.intro (pX5_in _ _ _) (Or.inr (And.intro (bI_neq c2) (Or.inr (And.intro c3 (Or.inl (And.intro c5 (Or.inr (And.intro c3 (Or.inr (And.intro c6 (h))))))))))))))))))))))⟩
        · replace h := h.2 c5
          exact ⟨18, Exists.intro _ (Exists.intro _ (And.intro (Nat.le_of_ble_eq_true rfl) (And.intro (Nat.le_of_ble_eq_true rfl) (And.intro (pX5_in _ _ _) (Or.inr (And.intro (bI_neq c1) (Exists.intro _ (Exists.intro _ (And.intro (Nat.le_of_ble_eq_true rfl) (And.intro (Nat.le_of_ble_eq_true rfl) (And.intro (pX5_in _ _ _) (Or.inr (And.intro (bI_neq c2) (Or.inr (And.intro c3 (Or.inr (And.intro c5 (h))))))))))))))))))⟩
    · replace h := h.2 c2
      exact ⟨12, Exists.intro _ (Exists.intro _ (And.intro (Nat.le_of_ble_eq_true rfl) (And.intro (Nat.le_of_ble_eq_true rfl) (And.intro (pX5_in _ _ _) (Or.inr (And.intro (bI_neq c1) (Exists.intro _ (Exists.intro _ (And.intro (Nat.le_of_ble_eq_true rfl) (And.intro (Nat.le_of_ble_eq_true rfl) (And.intro (pX5_in _ _ _) (Or.inl (And.intro (bI_eq c2) (h))))))))))))))⟩
  · replace h := h.2 c1
    exact ⟨7, Exists.intro _ (Exists.intro _ (And.intro (Nat.le_of_ble_eq_true rfl) (And.intro (Nat.le_of_ble_eq_true rfl) (And.intro (pX5_in _ _ _) (Or.inl (And.intro (bI_eq c1) (h)))))))⟩

set_option maxRecDepth 100000 in
set_option maxHeartbeats 4000000 in
theorem sX5_sheet_70 {E : aR} {A : Nat → Nat → Int32} {R : Nat → Nat → Option Nat} {G : Nat → Nat × Nat} (hG : aGS G) (x1 : Int32) (d2 : Option Value) (d3 : Option Value) (x4 : Int32)
    (h : ((40 ≤ x4) → (E (some (.int 1)) (A, R, G))) ∧ ((¬ (40 ≤ x4)) → ((vp_in ((40 * x1) + x4) 160) ∧ (aw tX5_sheet E 70 [some (.ref 48), some (.int x1), none, none, some (.int (x4 + 1))] [] ((au A 60 ((40 * x1) + x4).toNatClampNeg 0), R, G))))) :
    aw tX5_sheet E 70 [some (.ref 48), some (.int x1), d2, d3, some (.int x4)] [] (A, R, G) := by
  by_cases c1 : 40 ≤ x4
  · replace h := h.1 c1
    exact ⟨5, Or.inl (And.intro c1 (h))⟩
  · replace h := h.2 c1
    obtain ⟨q2, h⟩ := h
    obtain ⟨n, h⟩ := h
    exact ⟨n + 14, Or.inr (And.intro c1 (And.intro (gt48 hG) (And.intro (gt60 hG) (And.intro (vin_len (gl60 hG) q2) (h)))))⟩

set_option maxRecDepth 100000 in
set_option maxHeartbeats 4000000 in
theorem sX5_cell_0 {E : aR} {A : Nat → Nat → Int32} {R : Nat → Nat → Option Nat} {G : Nat → Nat × Nat} (hG : aGS G) (x1 : Int32) (x2 : Int32) (x3 : Int32)
    (h : ((0 ≤ x1 ∧ x1 ≤ 3) → ((vp_in x1 4) ∧ ((((A 58 x1.toNatClampNeg) = (-1)) → (E (some (.int (-11))) (A, R, G))) ∧ ((¬ ((A 58 x1.toNatClampNeg) = (-1))) → (((0 ≤ x2 ∧ x2 ≤ ((A 59 x1.toNatClampNeg) - 1)) → ((((A 58 x1.toNatClampNeg) = 0) → ((vp_in ((40 * x1) + x2) 160) ∧ (E (some (.int 1)) ((au A 60 ((40 * x1) + x2).toNatClampNeg x3.toInt8.toInt32), R, G)))) ∧ ((¬ ((A 58 x1.toNatClampNeg) = 0)) → ((((A 58 x1.toNatClampNeg) = 1) → ((vp_in ((40 * x1) + x2) 160) ∧ (E (some (.int 1)) ((au A 60 ((40 * x1) + x2).toNatClampNeg x3.toInt16.toInt32), R, G)))) ∧ ((¬ ((A 58 x1.toNatClampNeg) = 1)) → ((vp_in ((40 * x1) + x2) 160) ∧ (E (some (.int 1)) ((au A 60 ((40 * x1) + x2).toNatClampNeg x3), R, G)))))))) ∧ ((¬ (0 ≤ x2 ∧ x2 ≤ ((A 59 x1.toNatClampNeg) - 1))) → (E (some (.int (-12))) (A, R, G)))))))) ∧ ((¬ (0 ≤ x1 ∧ x1 ≤ 3)) → (E (some (.int (-2))) (A, R, G)))) :
    aw tX5_cell E 0 [some (.ref 48), some (.int x1), some (.int x2), some (.int x3)] [] (A, R, G) := by
  by_cases c1 : 0 ≤ x1 ∧ x1 ≤ 3
  · replace h := h.1 c1
    obtain ⟨q2, h⟩ := h
    by_cases c3 : (A 58 x1.toNatClampNeg) = (-1)
    · replace h := h.1 c3
      exact ⟨13, Exists.intro _ (Exists.intro _ (And.intro (Nat.le_of_ble_eq_true rfl) (And.intro (Nat.le_of_ble_eq_true rfl) (And.intro (pX5_in _ _ _) (Or.inl (And.intro (bI_ne c1) (And.intro (gt48 hG) (And.intro (gt58 hG) (And.intro (vin_len (gl58 hG) q2) (Or.inr (And.intro (fun z => z c3) (h))))))))))))⟩
    · replace h := h.2 c3
      by_cases c4 : 0 ≤ x2 ∧ x2 ≤ ((A 59 x1.toNatClampNeg) - 1)
      · replace h := h.1 c4
        by_cases c5 : (A 58 x1.toNatClampNeg) = 0
        · replace h := h.1 c5
          obtain ⟨q6, h⟩ := h
          exact ⟨39, Exists.intro _ (Exists.intro _ (And.intro (Nat.le_of_ble_eq_true rfl) (And.intro (Nat.le_of_ble_eq_true rfl) (And.intro (pX5_in _ _ _) (Or.inl (And.intro (bI_ne c1) (And.intro (gt48 hG) (And.intro (gt58 hG) (And.intro (vin_len (gl58 hG) q2) (Or.inl (And.intro c3 (And.intro (gt48 hG) (And.intro (gt59 hG) (And.intro (vin_len (gl59 hG) q2) (Exists.intro _ (Exists.intro _ (And.intro (Nat.le_of_ble_eq_true rfl) (And.intro (Nat.le_of_ble_eq_true rfl) (And.intro (pX5_in _ _ _) (Or.inl (And.intro (bI_ne c4) (And.intro (gt48 hG) (And.intro (gt48 hG) (And.intro (gt58 hG) (And.intro (vin_len (gl58 hG) q2) (Or.inr (And.intro (fun z => z c5) (And.intro (gt60 hG) (And.intro (vin_len (gl60 hG) q6) (h))))))))))))))))))))))))))))))⟩
        · replace h := h.2 c5
          by_cases c7 : (A 58 x1.toNatClampNeg) = 1
          · replace h := h.1 c7
            obtain ⟨q8, h⟩ := h
            exact ⟨45, Exists.intro _ (Exists.intro _ (And.intro (Nat.le_of_ble_eq_true rfl) (And.intro (Nat.le_of_ble_eq_true rfl) (And.intro (pX5_in _ _ _) (Or.inl (And.intro (bI_ne c1) (And.intro (gt48 hG) (And.intro (gt58 hG) (And.intro (vin_len (gl58 hG) q2) (Or.inl (And.intro c3 (And.intro (gt48 hG) (And.intro (gt59 hG) (And.intro (vin_len (gl59 hG) q2) (Exists.intro _ (Exists.intro _ (And.intro (Nat.le_of_ble_eq_true rfl) (And.intro (Nat.le_of_ble_eq_true rfl) (And.intro (pX5_in _ _ _) (Or.inl (And.intro (bI_ne c4) (And.intro (gt48 hG) (And.intro (gt48 hG) (And.intro (gt58 hG) (And.intro (vin_len (gl58 hG) q2) (Or.inl (And.intro c5 (And.intro (gt48 hG) (And.intro (gt58 hG) (And.intro (vin_len (gl58 hG) q2) (Or.inr (And.intro (fun z => z c7) (And.intro (gt60 hG) (And.intro (vin_len (gl60 hG) q8) (h)))))))))))))))))))))))))))))))))))⟩
          · replace h := h.2 c7
            obtain ⟨q9, h⟩ := h
            exact ⟨43, Exists.intro _ (Exists.intro _ (And.intro (Nat.le_of_ble_eq_true rfl) (And.intro (Nat.le_of_ble_eq_true rfl) (And.intro (pX5_in _ _ _) (Or.inl (And.intro (bI_ne c1) (And.intro (gt48 hG) (And.intro (gt58 hG) (And.intro (vin_len (gl58 hG) q2) (Or.inl (And.intro c3 (And.intro (gt48 hG) (And.intro (gt59 hG) (And.intro (vin_len (gl59 hG) q2) (Exists.intro _ (Exists.intro _ (And.intro (Nat.le_of_ble_eq_true rfl) (And.intro (Nat.le_of_ble_eq_true rfl) (And.intro (pX5_in _ _ _) (Or.inl (And.intro (bI_ne c4) (And.intro (gt48 hG) (And.intro (gt48 hG) (And.intro (gt58 hG) (And.intro (vin_len (gl58 hG) q2) (Or.inl (And.intro c5 (And.intro (gt48 hG) (And.intro (gt58 hG) (And.intro (vin_len (gl58 hG) q2) (Or.inl (And.intro c7 (And.intro (gt60 hG) (And.intro (vin_len (gl60 hG) q9) (h)))))))))))))))))))))))))))))))))))⟩
      · replace h := h.2 c4
        exact ⟨23, Exists.intro _ (Exists.intro _ (And.intro (Nat.le_of_ble_eq_true rfl) (And.intro (Nat.le_of_ble_eq_true rfl) (And.intro (pX5_in _ _ _) (Or.inl (And.intro (bI_ne c1) (And.intro (gt48 hG) (And.intro (gt58 hG) (And.intro (vin_len (gl58 hG) q2) (Or.inl (And.intro c3 (And.intro (gt48 hG) (And.intro (gt59 hG) (And.intro (vin_len (gl59 hG) q2) (Exists.intro _ (Exists.intro _ (And.intro (Nat.le_of_ble_eq_true rfl) (And.intro (Nat.le_of_ble_eq_true rfl) (And.intro (pX5_in _ _ _) (Or.inr (And.intro (bI_nne c4) (h))))))))))))))))))))))⟩
  · replace h := h.2 c1
    exact ⟨7, Exists.intro _ (Exists.intro _ (And.intro (Nat.le_of_ble_eq_true rfl) (And.intro (Nat.le_of_ble_eq_true rfl) (And.intro (pX5_in _ _ _) (Or.inr (And.intro (bI_nne c1) (h)))))))⟩

set_option maxRecDepth 100000 in
set_option maxHeartbeats 4000000 in
theorem sX5_copy_0 {E : aR} {A : Nat → Nat → Int32} {R : Nat → Nat → Option Nat} {G : Nat → Nat × Nat} (hG : aGS G) (x1 : Int32) (x2 : Int32) (x3 : Int32) (x4 : Int32) (x5 : Int32)
    (h : ((0 ≤ x1 ∧ x1 ≤ 3) → (((0 ≤ x3 ∧ x3 ≤ 3) → ((vp_in x1 4) ∧ ((((A 58 x1.toNatClampNeg) = (-1)) → (E (some (.int (-11))) (A, R, G))) ∧ ((¬ ((A 58 x1.toNatClampNeg) = (-1))) → ((vp_in x3 4) ∧ ((((A 58 x3.toNatClampNeg) = (-1)) → (E (some (.int (-11))) (A, R, G))) ∧ ((¬ ((A 58 x3.toNatClampNeg) = (-1))) → ((((A 58 x1.toNatClampNeg) = (A 58 x3.toNatClampNeg)) → (((x5 < 0) → (E (some (.int (-12))) (A, R, G))) ∧ ((¬ (x5 < 0)) → (((x2 < 0) → (E (some (.int (-12))) (A, R, G))) ∧ ((¬ (x2 < 0)) → (((x4 < 0) → (E (some (.int (-12))) (A, R, G))) ∧ ((¬ (x4 < 0)) → ((((A 59 x1.toNatClampNeg) < x2) → (E (some (.int (-12))) (A, R, G))) ∧ ((¬ ((A 59 x1.toNatClampNeg) < x2)) → ((((A 59 x3.toNatClampNeg) < x4) → (E (some (.int (-12))) (A, R, G))) ∧ ((¬ ((A 59 x3.toNatClampNeg) < x4)) → (((((A 59 x1.toNatClampNeg) - x2) < x5) → (E (some (.int (-12))) (A, R, G))) ∧ ((¬ (((A 59 x1.toNatClampNeg) - x2) < x5)) → (((x5 ≤ ((A 59 x3.toNatClampNeg) - x4)) → (aw tX5_copy E 147 [some (.ref 48), some (.int x1), some (.int x2), some (.int x3), some (.int x4), some (.int x5), some (.int ((40 * x1) + x2)), some (.int ((40 * x3) + x4)), some (.int 0), none] [] (A, R, G))) ∧ ((¬ (x5 ≤ ((A 59 x3.toNatClampNeg) - x4))) → (E (some (.int (-12))) (A, R, G))))))))))))))))) ∧ ((¬ ((A 58 x1.toNatClampNeg) = (A 58 x3.toNatClampNeg))) → (E (some (.int (-13))) (A, R, G))))))))))) ∧ ((¬ (0 ≤ x3 ∧ x3 ≤ 3)) → (E (some (.int (-2))) (A, R, G))))) ∧ ((¬ (0 ≤ x1 ∧ x1 ≤ 3)) → (E (some (.int (-2))) (A, R, G)))) :
    aw tX5_copy E 0 [some (.ref 48), some (.int x1), some (.int x2), some (.int x3), some (.int x4), some (.int x5), none, none, none, none] [] (A, R, G) := by
  by_cases c1 : 0 ≤ x1 ∧ x1 ≤ 3
  · replace h := h.1 c1
    by_cases c2 : 0 ≤ x3 ∧ x3 ≤ 3
    · replace h := h.1 c2
      obtain ⟨q3, h⟩ := h
      by_cases c4 : (A 58 x1.toNatClampNeg) = (-1)
      · replace h := h.1 c4
        exact ⟨18, Exists.intro _ (Exists.intro _ (And.intro (Nat.le_of_ble_eq_true rfl) (And.intro (Nat.le_of_ble_eq_true rfl) (And.intro (pX5_in _ _ _) (Or.inr (And.intro (bI_neq c1) (Exists.intro _ (Exists.intro _ (And.intro (Nat.le_of_ble_eq_true rfl) (And.intro (Nat.le_of_ble_eq_true rfl) (And.intro (pX5_in _ _ _) (Or.inl (And.intro (bI_ne c2) (And.intro (gt48 hG) (And.intro (gt58 hG) (And.intro (vin_len (gl58 hG) q3) (Or.inl (And.intro c4 (h)))))))))))))))))))⟩
      · replace h := h.2 c4
        obtain ⟨q5, h⟩ := h
        by_cases c6 : (A 58 x3.toNatClampNeg) = (-1)
        · replace h := h.1 c6
          exact ⟨24, Exists.intro _ (Exists.intro _ (And.intro (Nat.le_of_ble_eq_true rfl) (And.intro (Nat.le_of_ble_eq_true rfl) (And.intro (pX5_in _ _ _) (Or.inr (And.intro (bI_neq c1) (Exists.intro _ (Exists.intro _ (And.intro (Nat.le_of_ble_eq_true rfl) (And.intro (Nat.le_of_ble_eq_true rfl) (And.intro (pX5_in _ _ _) (Or.inl (And.intro (bI_ne c2) (And.intro (gt48 hG) (And.intro (gt58 hG) (And.intro (vin_len (gl58 hG) q3) (Or.inr (And.intro c4 (And.intro (gt48 hG) (And.intro (gt58 hG) (And.intro (vin_len (gl58 hG) q5) (Or.inr (And.intro (fun z => z c6) (h))))))))))))))))))))))))⟩
        · replace h := h.2 c6
          by_cases c7 : (A 58 x1.toNatClampNeg) = (A 58 x3.toNatClampNeg)
          · replace h := h.1 c7
            by_cases c8 : x5 < 0
            · replace h := h.1 c8
              exact ⟨35, Exists.intro _ (Exists.intro _ (And.intro (Nat.le_of_ble_eq_true rfl) (And.intro (Nat.le_of_ble_eq_true rfl) (And.intro (pX5_in _ _ _) (Or.inr (And.intro (bI_neq c1) (Exists.intro _ (Exists.intro _ (And.intro (Nat.le_of_ble_eq_true rfl) (And.intro (Nat.le_of_ble_eq_true rfl) (And.intro (pX5_in _ _ _) (Or.inl (And.intro (bI_ne c2) (And.intro (gt48 hG) (And.intro (gt58 hG) (And.intro (vin_len (gl58 hG) q3) (Or.inr (And.intro c4 (And.intro (gt48 hG) (And.intro (gt58 hG) (And.intro (vin_len (gl58 hG) q5) (Or.inl (And.intro c6 (And.intro (gt48 hG) (And.intro (gt58 hG) (And.intro (vin_len (gl58 hG) q3) (And.intro (gt48 hG) (And.intro (gt58 hG) (And.intro (vin_len (gl58 hG) q5) (Or.inl (And.intro c7 (Or.inl (And.intro c8 (h))))))))))))))))))))))))))))))))))⟩
            · replace h := h.2 c8
              by_cases c9 : x2 < 0
              · replace h := h.1 c9
                exact ⟨37, Exists.intro _ (Exists.intro _ (And.intro (Nat.le_of_ble_eq_true rfl) (And.intro (Nat.le_of_ble_eq_true rfl) (And.intro (pX5_in _ _ _) (Or.inr (And.intro (bI_neq c1) (Exists.intro _ (Exists.intro _ (And.intro (Nat.le_of_ble_eq_true rfl) (And.intro (Nat.le_of_ble_eq_true rfl) (And.intro (pX5_in _ _ _) (Or.inl (And.intro (bI_ne c2) (And.intro (gt48 hG) (And.intro (gt58 hG) (And.intro (vin_len (gl58 hG) q3) (Or.inr (And.intro c4 (And.intro (gt48 hG) (And.intro (gt58 hG) (And.intro (vin_len (gl58 hG) q5) (Or.inl (And.intro c6 (And.intro (gt48 hG) (And.intro (gt58 hG) (And.intro (vin_len (gl58 hG) q3) (And.intro (gt48 hG) (And.intro (gt58 hG) (And.intro (vin_len (gl58 hG) q5) (Or.inl (And.intro c7 (Or.inr (And.intro c8 (Or.inl (And.intro c9 (h))))))))))))))))))))))))))))))))))))⟩
              · replace h := h.2 c9
                by_cases c10 : x4 < 0
                · replace h := h.1 c10
                  exact ⟨39, Exists.intro _ (Exists.intro _ (And.intro (Nat.le_of_ble_eq_true rfl) (And.intro (Nat.le_of_ble_eq_true rfl) (And.intro (pX5_in _ _ _) (Or.inr (And.intro (bI_neq c1) (Exists.intro _ (Exists.intro _ (And.intro (Nat.le_of_ble_eq_true rfl) (And.intro (Nat.le_of_ble_eq_true rfl) (And.intro (pX5_in _ _ _) (Or.inl (And.intro (bI_ne c2) (And.intro (gt48 hG) (And.intro (gt58 hG) (And.intro (vin_len (gl58 hG) q3) (Or.inr (And.intro c4 (And.intro (gt48 hG) (And.intro (gt58 hG) (And.intro (vin_len (gl58 hG) q5) (Or.inl (And.intro c6 (And.intro (gt48 hG) (And.intro (gt58 hG) (And.intro (vin_len (gl58 hG) q3) (And.intro (gt48 hG) (And.intro (gt58 hG) (And.intro (vin_len (gl58 hG) q5) (Or.inl (And.intro c7 (Or.inr (And.intro c8 (Or.inr (And.intro c9 (Or.inl (And.intro c10 (h))))))))))))))))))))))))))))))))))))))⟩
                · replace h := h.2 c10
                  by_cases c11 : (A 59 x1.toNatClampNeg) < x2
                  · replace h := h.1 c11
                    exact ⟨45, Exists.intro _ (Exists.intro _ (And.intro (Nat.le_of_ble_eq_true rfl) (And.intro (Nat.le_of_ble_eq_true rfl) (And.intro (pX5_in _ _ _) (Or.inr (And.intro (bI_neq c1) (Exists.intro _ (Exists.intro _ (And.intro (Nat.le_of_ble_eq_true rfl) (And.intro (Nat.le_of_ble_eq_true rfl) (And.intro (pX5_in _ _ _) (Or.inl (And.intro (bI_ne c2) (And.intro (gt48 hG) (And.intro (gt58 hG) (And.intro (vin_len (gl58 hG) q3) (Or.inr (And.intro c4 (And.intro (gt48 hG) (And.intro (gt58 hG) (And.intro (vin_len (gl58 hG) q5) (Or.inl (And.intro c6 (And.intro (gt48 hG) (And.intro (gt58 hG) (And.intro (vin_len (gl58 hG) q3) (And.intro (gt48 hG) (And.intro (gt58 hG) (And.intro (vin_len (gl58 hG) q5) (Or.inl (And.intro c7 (Or.inr (And.intro c8 (Or.inr (And.intro c9 (Or.inr (And.intro c10 (And.intro (gt48 hG) (And.intro (gt59 hG) (And.intro (vin_len (gl59 hG) q3) (Or.inl (And.intro c11 (h)))))))))))))))))))))))))))))))))))))))))))⟩
                  · replace h := h.2 c11
                    by_cases c12 : (A 59 x3.toNatClampNeg) < x4
                    · replace h := h.1 c12
                      exact ⟨51, Exists.intro _ (Exists.intro _ (And.intro (Nat.le_of_ble_eq_true rfl) (And.intro (Nat.le_of_ble_eq_true rfl) (And.intro (pX5_in _ _ _) (Or.inr (And.intro (bI_neq c1) (Exists.intro _ (Exists.intro _ (And.intro (Nat.le_of_ble_eq_true rfl) (And.intro (Nat.le_of_ble_eq_true rfl) (And.intro (pX5_in _ _ _) (Or.inl (And.intro (bI_ne c2) (And.intro (gt48 hG) (And.intro (gt58 hG) (And.intro (vin_len (gl58 hG) q3) (Or.inr (And.intro c4 (And.intro (gt48 hG) (And.intro (gt58 hG) (And.intro (vin_len (gl58 hG) q5) (Or.inl (And.intro c6 (And.intro (gt48 hG) (And.intro (gt58 hG) (And.intro (vin_len (gl58 hG) q3) (And.intro (gt48 hG) (And.intro (gt58 hG) (And.intro (vin_len (gl58 hG) q5) (Or.inl (And.intro c7 (Or.inr (And.intro c8 (Or.inr (And.intro c9 (Or.inr (And.intro c10 (And.intro (gt48 hG) (And.intro (gt59 hG) (And.intro (vin_len (gl59 hG) q3) (Or.inr (And.intro c11 (And.intro (gt48 hG) (And.intro (gt59 hG) (And.intro (vin_len (gl59 hG) q5) (Or.inl (And.intro c12 (h))))))))))))))))))))))))))))))))))))))))))))))))⟩
                    · replace h := h.2 c12
                      by_cases c13 : ((A 59 x1.toNatClampNeg) - x2) < x5
                      · replace h := h.1 c13
                        exact ⟨59, Exists.intro _ (Exists.intro _ (And.intro (Nat.le_of_ble_eq_true rfl) (And.intro (Nat.le_of_ble_eq_true rfl) (And.intro (pX5_in _ _ _) (Or.inr (And.intro (bI_neq c1) (Exists.intro _ (Exists.intro _ (And.intro (Nat.le_of_ble_eq_true rfl) (And.intro (Nat.le_of_ble_eq_true rfl) (And.intro (pX5_in _ _ _) (Or.inl (And.intro (bI_ne c2) (And.intro (gt48 hG) (And.intro (gt58 hG) (And.intro (vin_len (gl58 hG) q3) (Or.inr (And.intro c4 (And.intro (gt48 hG) (And.intro (gt58 hG) (And.intro (vin_len (gl58 hG) q5) (Or.inl (And.intro c6 (And.intro (gt48 hG) (And.intro (gt58 hG) (And.intro (vin_len (gl58 hG) q3) (And.intro (gt48 hG) (And.intro (gt58 hG) (And.intro (vin_len (gl58 hG) q5) (Or.inl (And.intro c7 (Or.inr (And.intro c8 (Or.inr (And.intro c9 (Or.inr (And.intro c10 (And.intro (gt48 hG) (And.intro (gt59 hG) (And.intro (vin_len (gl59 hG) q3) (Or.inr (And.intro c11 (And.intro (gt48 hG) (And.intro (gt59 hG) (And.intro (vin_len (gl59 hG) q5) (Or.inr (And.intro c12 (And.intro (gt48 hG) (And.intro (gt59 hG) (And.intro (vin_len (gl59 hG) q3) (Or.inl (And.intro c13 (h)))))))))))))))))))))))))))))))))))))))))))))))))))))⟩
                      · replace h := h.2 c13
                        by_cases c14 : x5 ≤ ((A 59 x3.toNatClampNeg) - x4)
                        · replace h := h.1 c14
                          obtain ⟨n, h⟩ := h
                          exact ⟨n + 79, Exists.intro _ (Exists.intro _ (And.intro (Nat.le_of_ble_eq_true rfl) (And.intro (Nat.le_of_ble_eq_true rfl) (And.intro (pX5_in _ _ _) (Or.inr (And.intro (bI_neq c1) (Exists.intro _ (Exists.intro _ (And.intro (Nat.le_of_ble_eq_true rfl) (And.intro (Nat.le_of_ble_eq_true rfl) (And.intro (pX5_in _ _ _) (Or.inl (And.intro (bI_ne c2) (And.intro (gt48 hG) (And.intro (gt58 hG) (And.intro (vin_len (gl58 hG) q3) (Or.inr (And.intro c4 (And.intro (gt48 hG) (And.intro (gt58 hG) (And.intro (vin_len (gl58 hG) q5) (Or.inl (And.intro c6 (And.intro (gt48 hG) (And.intro (gt58 hG) (And.intro (vin_len (gl58 hG) q3) (And.intro (gt48 hG) (And.intro (gt58 hG) (And.intro (vin_len (gl58 hG) q5) (Or.inl (And.intro c7 (Or.inr (And.intro c8 (Or.inr (And.intro c9 (Or.inr (And.intro c10 (And.intro (gt48 hG) (And.intro (gt59 hG) (And.intro (vin_len (gl59 hG) q3) (Or.inr (And.intro c11 (And.intro (gt48 hG) (And.intro (gt59 hG) (And.intro (vin_len (gl59 hG) q5) (Or.inr (And.intro c12 (And.intro (gt48 hG) (And.intro (gt59 hG) (And.intro (vin_len (gl59 hG) q3) (Or.inr (And.intro c13 (And.intro (gt48 hG) (And.intro (gt59 hG) (And.intro (vin_len (gl59 hG) q5) (Or.inl (And.intro c14 (h))))))))))))))))))))))))))))))))))))))))))))))))))))))))))⟩
                        · replace h := h.2 c14
                          exact ⟨67, Exists.intro _ (Exists.intro _ (And.intro (Nat.le_of_ble_eq_true rfl) (And.intro (Nat.le_of_ble_eq_true rfl) (And.intro (pX5_in _ _ _) (Or.inr (And.intro (bI_neq c1) (Exists.intro _ (Exists.intro _ (And.intro (Nat.le_of_ble_eq_true rfl) (And.intro (Nat.le_of_ble_eq_true rfl) (And.intro (pX5_in _ _ _) (Or.inl (And.intro (bI_ne c2) (And.intro (gt48 hG) (And.intro (gt58 hG) (And.intro (vin_len (gl58 hG) q3) (Or.inr (And.intro c4 (And.intro (gt48 hG) (And.intro (gt58 hG) (And.intro (vin_len (gl58 hG) q5) (Or.inl (And.intro c6 (And.intro (gt48 hG) (And.intro (gt58 hG) (And.intro (vin_len (gl58 hG) q3) (And.intro (gt48 hG) (And.intro (gt58 hG) (And.intro (vin_len (gl58 hG) q5) (Or.inl (And.intro c7 (Or.inr (And.intro c8 (Or.inr (And.intro c9 (Or.inr (And.intro c10 (And.intro (gt48 hG) (And.intro (gt59 hG) (And.intro (vin_len (gl59 hG) q3) (Or.inr (And.intro c11 (And.intro (gt48 hG) (And.intro (gt59 hG) (And.intro (vin_len (gl59 hG) q5) (Or.inr (And.intro c12 (And.intro (gt48 hG) (And.intro (gt59 hG) (And.intro (vin_len (gl59 hG) q3) (Or.inr (And.intro c13 (And.intro (gt48 hG) (And.intro (gt59 hG) (And.intro (vin_len (gl59 hG) q5) (Or.inr (And.intro c14 (h))))))))))))))))))))))))))))))))))))))))))))))))))))))))))⟩
          · replace h := h.2 c7
            exact ⟨33, Exists.intro _ (Exists.intro _ (And.intro (Nat.le_of_ble_eq_true rfl) (And.intro (Nat.le_of_ble_eq_true rfl) (And.intro (pX5_in _ _ _) (Or.inr (And.intro (bI_neq c1) (Exists.intro _ (Exists.intro _ (And.intro (Nat.le_of_ble_eq_true rfl) (And.intro (Nat.le_of_ble_eq_true rfl) (And.intro (pX5_in _ _ _) (Or.inl (And.intro (bI_ne c2) (And.intro (gt48 hG) (And.intro (gt58 hG) (And.intro (vin_len (gl58 hG) q3) (Or.inr (And.intro c4 (And.intro (gt48 hG) (And.intro (gt58 hG) (And.intro (vin_len (gl58 hG) q5) (Or.inl (And.intro c6 (And.intro (gt48 hG) (And.intro (gt58 hG) (And.intro (vin_len (gl58 hG) q3) (And.intro (gt48 hG) (And.intro (gt58 hG) (And.intro (vin_len (gl58 hG) q5) (Or.inr (And.intro c7 (h))))))))))))))))))))))))))))))))⟩
    · replace h := h.2 c2
      exact ⟨12, Exists.intro _ (Exists.intro _ (And.intro (Nat.le_of_ble_eq_true rfl) (And.intro (Nat.le_of_ble_eq_true rfl) (And.intro (pX5_in _ _ _) (Or.inr (And.intro (bI_neq c1) (Exists.intro _ (Exists.intro _ (And.intro (Nat.le_of_ble_eq_true rfl) (And.intro (Nat.le_of_ble_eq_true rfl) (And.intro (pX5_in _ _ _) (Or.inr (And.intro (bI_nne c2) (h))))))))))))))⟩
  · replace h := h.2 c1
    exact ⟨7, Exists.intro _ (Exists.intro _ (And.intro (Nat.le_of_ble_eq_true rfl) (And.intro (Nat.le_of_ble_eq_true rfl) (And.intro (pX5_in _ _ _) (Or.inl (And.intro (bI_eq c1) (h)))))))⟩

set_option maxRecDepth 100000 in
set_option maxHeartbeats 4000000 in
theorem sX5_copy_147 {E : aR} {A : Nat → Nat → Int32} {R : Nat → Nat → Option Nat} {G : Nat → Nat × Nat} (hG : aGS G) (d1 : Option Value) (d2 : Option Value) (d3 : Option Value) (d4 : Option Value) (x5 : Int32) (x6 : Int32) (x7 : Int32) (x8 : Int32) (d9 : Option Value)
    (h : ((x5 ≤ x8) → (E (some (.int x5)) (A, R, G))) ∧ ((¬ (x5 ≤ x8)) → (((x7 ≤ x6) → ((vp_in (x6 + x8) 160) ∧ ((vp_in (x7 + x8) 160) ∧ (aw tX5_copy E 147 [some (.ref 48), none, none, none, none, some (.int x5), some (.int x6), some (.int x7), some (.int (x8 + 1)), some (.int x8)] [] ((au A 60 (x7 + x8).toNatClampNeg (A 60 (x6 + x8).toNatClampNeg)), R, G))))) ∧ ((¬ (x7 ≤ x6)) → ((vp_in (x6 + ((x5 - 1) - x8)) 160) ∧ ((vp_in (x7 + ((x5 - 1) - x8)) 160) ∧ (aw tX5_copy E 147 [some (.ref 48), none, none, none, none, some (.int x5), some (.int x6), some (.int x7), some (.int (x8 + 1)), some (.int ((x5 - 1) - x8))] [] ((au A 60 (x7 + ((x5 - 1) - x8)).toNatClampNeg (A 60 (x6 + ((x5 - 1) - x8)).toNatClampNeg)), R, G)))))))) :
    aw tX5_copy E 147 [some (.ref 48), d1, d2, d3, d4, some (.int x5), some (.int x6), some (.int x7), some (.int x8), d9] [] (A, R, G) := by
  by_cases c1 : x5 ≤ x8
  · replace h := h.1 c1
    exact ⟨5, Or.inl (And.intro c1 (h))⟩
  · replace h := h.2 c1
    by_cases c2 : x7 ≤ x6
    · replace h := h.1 c2
      obtain ⟨q3, h⟩ := h
      obtain ⟨q4, h⟩ := h
      obtain ⟨n, h⟩ := h
      exact ⟨n + 22, Or.inr (And.intro c1 (Or.inl (And.intro c2 (And.intro (gt48 hG) (And.intro (gt48 hG) (And.intro (gt60 hG) (And.intro (vin_len (gl60 hG) q3) (And.intro (gt60 hG) (And.intro (vin_len (gl60 hG) q4) (h))))))))))⟩
    · replace h := h.2 c2
      obtain ⟨q5, h⟩ := h
      obtain ⟨q6, h⟩ := h
      obtain ⟨n, h⟩ := h
      exact ⟨n + 27, Or.inr (And.intro c1 (Or.inr (And.intro c2 (And.intro (gt48 hG) (And.intro (gt48 hG) (And.intro (gt60 hG) (And.intro (vin_len (gl60 hG) q5) (And.intro (gt60 hG) (And.intro (vin_len (gl60 hG) q6) (h))))))))))⟩

set_option maxRecDepth 100000 in
set_option maxHeartbeats 4000000 in
theorem sX5_judgesBy_0 {E : aR} {A : Nat → Nat → Int32} {R : Nat → Nat → Option Nat} {G : Nat → Nat × Nat} (hG : aGS G) (x1 : Int32) (x2 : Int32) (x3 : Int32) (x4 : Int32)
    (h : ((0 ≤ x1 ∧ x1 ≤ 3) → (((0 ≤ x2 ∧ x2 ≤ 2) → (((0 ≤ x4 ∧ x4 ≤ 6) → ((vp_in x1 4) ∧ ((((A 58 x1.toNatClampNeg) = (-1)) → (E (some (.int (-11))) (A, R, G))) ∧ ((¬ ((A 58 x1.toNatClampNeg) = (-1))) → ((((A 58 x1.toNatClampNeg) = x2) → (aw tX5_judgesBy E 64 [some (.ref 48), some (.int x1), some (.int x2), some (.int x3), some (.int x4), some (.int 0), some (.int 0), none, none] [] (A, R, G))) ∧ ((¬ ((A 58 x1.toNatClampNeg) = x2)) → (E (some (.int (-13))) (A, R, G)))))))) ∧ ((¬ (0 ≤ x4 ∧ x4 ≤ 6)) → (E (some (.int (-2))) (A, R, G))))) ∧ ((¬ (0 ≤ x2 ∧ x2 ≤ 2)) → (E (some (.int (-2))) (A, R, G))))) ∧ ((¬ (0 ≤ x1 ∧ x1 ≤ 3)) → (E (some (.int (-2))) (A, R, G)))) :
    aw tX5_judgesBy E 0 [some (.ref 48), some (.int x1), some (.int x2), some (.int x3), some (.int x4), none, none, none, none] [] (A, R, G) := by
  by_cases c1 : 0 ≤ x1 ∧ x1 ≤ 3
  · replace h := h.1 c1
    by_cases c2 : 0 ≤ x2 ∧ x2 ≤ 2
    · replace h := h.1 c2
      by_cases c3 : 0 ≤ x4 ∧ x4 ≤ 6
      · replace h := h.1 c3
        obtain ⟨q4, h⟩ := h
        by_cases c5 : (A 58 x1.toNatClampNeg) = (-1)
        · replace h := h.1 c5
          exact ⟨23, Exists.intro _ (Exists.intro _ (And.intro (Nat.le_of_ble_eq_true rfl) (And.intro (Nat.le_of_ble_eq_true rfl) (And.intro (pX5_in _ _ _) (Or.inr (And.intro (bI_neq c1) (Exists.intro _ (Exists.intro _ (And.intro (Nat.le_of_ble_eq_true rfl) (And.intro (Nat.le_of_ble_eq_true rfl) (And.intro (pX5_in _ _ _) (Or.inr (And.intro (bI_neq c2) (Exists.intro _ (Exists.intro _ (And.intro (Nat.le_of_ble_eq_true rfl) (And.intro (Nat.le_of_ble_eq_true rfl) (And.intro (pX5_in _ _ _) (Or.inl (And.intro (bI_ne c3) (And.intro (gt48 hG) (And.intro (gt58 hG) (And.intro (vin_len (gl58 hG) q4) (Or.inr (And.intro (fun z => z c5) (h))))))))))))))))))))))))))⟩
        · replace h := h.2 c5
          by_cases c6 : (A 58 x1.toNatClampNeg) = x2
          · replace h := h.1 c6
            obtain ⟨n, h⟩ := h
            exact ⟨n + 31, Exists.intro _ (Exists.intro _ (And.intro (Nat.le_of_ble_eq_true rfl) (And.intro (Nat.le_of_ble_eq_true rfl) (And.intro (pX5_in _ _ _) (Or.inr (And.intro (bI_neq c1) (Exists.intro _ (Exists.intro _ (And.intro (Nat.le_of_ble_eq_true rfl) (And.intro (Nat.le_of_ble_eq_true rfl) (And.intro (pX5_in _ _ _) (Or.inr (And.intro (bI_neq c2) (Exists.intro _ (Exists.intro _ (And.intro (Nat.le_of_ble_eq_true rfl) (And.intro (Nat.le_of_ble_eq_true rfl) (And.intro (pX5_in _ _ _) (Or.inl (And.intro (bI_ne c3) (And.intro (gt48 hG) (And.intro (gt58 hG) (And.intro (vin_len (gl58 hG) q4) (Or.inl (And.intro c5 (And.intro (gt48 hG) (And.intro (gt58 hG) (And.intro (vin_len (gl58 hG) q4) (Or.inl (And.intro c6 (h)))))))))))))))))))))))))))))))⟩
          · replace h := h.2 c6
            exact ⟨29, Exists.intro _ (Exists.intro _ (And.intro (Nat.le_of_ble_eq_true rfl) (And.intro (Nat.le_of_ble_eq_true rfl) (And.intro (pX5_in _ _ _) (Or.inr (And.intro (bI_neq c1) (Exists.intro _ (Exists.intro _ (And.intro (Nat.le_of_ble_eq_true rfl) (And.intro (Nat.le_of_ble_eq_true rfl) (And.intro (pX5_in _ _ _) (Or.inr (And.intro (bI_neq c2) (Exists.intro _ (Exists.intro _ (And.intro (Nat.le_of_ble_eq_true rfl) (And.intro (Nat.le_of_ble_eq_true rfl) (And.intro (pX5_in _ _ _) (Or.inl (And.intro (bI_ne c3) (And.intro (gt48 hG) (And.intro (gt58 hG) (And.intro (vin_len (gl58 hG) q4) (Or.inl (And.intro c5 (And.intro (gt48 hG) (And.intro (gt58 hG) (And.intro (vin_len (gl58 hG) q4) (Or.inr (And.intro c6 (h)))))))))))))))))))))))))))))))⟩
      · replace h := h.2 c3
        exact ⟨17, Exists.intro _ (Exists.intro _ (And.intro (Nat.le_of_ble_eq_true rfl) (And.intro (Nat.le_of_ble_eq_true rfl) (And.intro (pX5_in _ _ _) (Or.inr (And.intro (bI_neq c1) (Exists.intro _ (Exists.intro _ (And.intro (Nat.le_of_ble_eq_true rfl) (And.intro (Nat.le_of_ble_eq_true rfl) (And.intro (pX5_in _ _ _) (Or.inr (And.intro (bI_neq c2) (Exists.intro _ (Exists.intro _ (And.intro (Nat.le_of_ble_eq_true rfl) (And.intro (Nat.le_of_ble_eq_true rfl) (And.intro (pX5_in _ _ _) (Or.inr (And.intro (bI_nne c3) (h)))))))))))))))))))))⟩
    · replace h := h.2 c2
      exact ⟨12, Exists.intro _ (Exists.intro _ (And.intro (Nat.le_of_ble_eq_true rfl) (And.intro (Nat.le_of_ble_eq_true rfl) (And.intro (pX5_in _ _ _) (Or.inr (And.intro (bI_neq c1) (Exists.intro _ (Exists.intro _ (And.intro (Nat.le_of_ble_eq_true rfl) (And.intro (Nat.le_of_ble_eq_true rfl) (And.intro (pX5_in _ _ _) (Or.inl (And.intro (bI_eq c2) (h))))))))))))))⟩
  · replace h := h.2 c1
    exact ⟨7, Exists.intro _ (Exists.intro _ (And.intro (Nat.le_of_ble_eq_true rfl) (And.intro (Nat.le_of_ble_eq_true rfl) (And.intro (pX5_in _ _ _) (Or.inl (And.intro (bI_eq c1) (h)))))))⟩

set_option maxRecDepth 100000 in
set_option maxHeartbeats 4000000 in
theorem sX5_judgesBy_64 {E : aR} {A : Nat → Nat → Int32} {R : Nat → Nat → Option Nat} {G : Nat → Nat × Nat} (hG : aGS G) (x1 : Int32) (d2 : Option Value) (x3 : Int32) (x4 : Int32) (x5 : Int32) (x6 : Int32) (d7 : Option Value) (d8 : Option Value)
    (h : ((x4 ≤ x6) → (E (some (.int x5)) (A, R, G))) ∧ ((¬ (x4 ≤ x6)) → (((x3 < 0) → (E (some (.int (-12))) (A, R, G))) ∧ ((¬ (x3 < 0)) → ((((x3 + (3 * x6)) < x3) → (E (some (.int (-12))) (A, R, G))) ∧ ((¬ ((x3 + (3 * x6)) < x3)) → ((vp_in x1 4) ∧ ((((x3 + (3 * x6)) ≤ ((A 59 x1.toNatClampNeg) - 3)) → ((vp_in ((40 * x1) + (x3 + (3 * x6))) 160) ∧ ((vp_in (((40 * x1) + (x3 + (3 * x6))) + 1) 160) ∧ ((vp_in (((40 * x1) + (x3 + (3 * x6))) + 2) 160) ∧ (∃ (v1 : Int32) (μ1 : aM), CX5_judge [.ref 48, .int (A 60 ((40 * x1) + (x3 + (3 * x6))).toNatClampNeg), .int (A 60 (((40 * x1) + (x3 + (3 * x6))) + 1).toNatClampNeg), .int (A 60 (((40 * x1) + (x3 + (3 * x6))) + 2).toNatClampNeg)] (A, R, G) (some (.int v1)) μ1 ∧ aw tX5_judgesBy E 145 [some (.ref 48), some (.int x1), none, some (.int x3), some (.int x4), some (.int x5), some (.int x6), some (.int (x3 + (3 * x6))), some (.int ((40 * x1) + (x3 + (3 * x6))))] [.int v1, .int x5] μ1))))) ∧ ((¬ ((x3 + (3 * x6)) ≤ ((A 59 x1.toNatClampNeg) - 3))) → (E (some (.int (-12))) (A, R, G))))))))))) :
    aw tX5_judgesBy E 64 [some (.ref 48), some (.int x1), d2, some (.int x3), some (.int x4), some (.int x5), some (.int x6), d7, d8] [] (A, R, G) := by
  by_cases c1 : x4 ≤ x6
  · replace h := h.1 c1
    exact ⟨5, Or.inl (And.intro c1 (h))⟩
  · replace h := h.2 c1
    by_cases c2 : x3 < 0
    · replace h := h.1 c2
      exact ⟨13, Or.inr (And.intro c1 (Or.inl (And.intro c2 (h))))⟩
    · replace h := h.2 c2
      by_cases c3 : (x3 + (3 * x6)) < x3
      · replace h := h.1 c3
        exact ⟨16, Or.inr (And.intro c1 (Or.inr (And.intro c2 (Or.inl (And.intro c3 (h))))))⟩
      · replace h := h.2 c3
        obtain ⟨q4, h⟩ := h
        by_cases c5 : (x3 + (3 * x6)) ≤ ((A 59 x1.toNatClampNeg) - 3)
        · replace h := h.1 c5
          obtain ⟨q6, h⟩ := h
          obtain ⟨q7, h⟩ := h
          obtain ⟨q8, h⟩ := h
          obtain ⟨v1, μ1, h1, n, h⟩ := h
          exact ⟨n + 47, Or.inr (And.intro c1 (Or.inr (And.intro c2 (Or.inr (And.intro c3 (And.intro (gt48 hG) (And.intro (gt59 hG) (And.intro (vin_len (gl59 hG) q4) (Or.inl (And.intro c5 (And.intro (gt48 hG) (And.intro (gt60 hG) (And.intro (vin_len (gl60 hG) q6) (And.intro (gt48 hG) (And.intro (gt60 hG) (And.intro (vin_len (gl60 hG) q7) (And.intro (gt48 hG) (And.intro (gt60 hG) (And.intro (vin_len (gl60 hG) q8) (Exists.intro _ (Exists.intro _ (Exists.intro _ (Exists.intro _ (And.intro rfl (And.intro (gt48 hG) (And.intro (Nat.le_of_ble_eq_true rfl) (And.intro h1 (h))))))))))))))))))))))))))))⟩
        · replace h := h.2 c5
          exact ⟨24, Or.inr (And.intro c1 (Or.inr (And.intro c2 (Or.inr (And.intro c3 (And.intro (gt48 hG) (And.intro (gt59 hG) (And.intro (vin_len (gl59 hG) q4) (Or.inr (And.intro c5 (h)))))))))))⟩

set_option maxRecDepth 100000 in
set_option maxHeartbeats 4000000 in
theorem sX5_judgesBy_145 {E : aR} {A : Nat → Nat → Int32} {R : Nat → Nat → Option Nat} {G : Nat → Nat × Nat} (x1 : Int32) (d2 : Option Value) (x3 : Int32) (x4 : Int32) (d5 : Option Value) (x6 : Int32) (d7 : Option Value) (d8 : Option Value) (y0 : Int32) (y1 : Int32)
    (h : ((y0 < 0) → (aw tX5_judgesBy E 64 [some (.ref 48), some (.int x1), d2, some (.int x3), some (.int x4), some (.int (y1 + 0)), some (.int (x6 + 1)), d7, d8] [] (A, R, G))) ∧ ((¬ (y0 < 0)) → (aw tX5_judgesBy E 64 [some (.ref 48), some (.int x1), d2, some (.int x3), some (.int x4), some (.int (y1 + 1)), some (.int (x6 + 1)), d7, d8] [] (A, R, G)))) :
    aw tX5_judgesBy E 145 [some (.ref 48), some (.int x1), d2, some (.int x3), some (.int x4), d5, some (.int x6), d7, d8] [.int y0, .int y1] (A, R, G) := by
  by_cases c1 : y0 < 0
  · replace h := h.1 c1
    obtain ⟨n, h⟩ := h
    exact ⟨n + 6, Or.inl (And.intro c1 (h))⟩
  · replace h := h.2 c1
    obtain ⟨n, h⟩ := h
    exact ⟨n + 7, Or.inr (And.intro c1 (h))⟩

set_option maxRecDepth 100000 in
set_option maxHeartbeats 4000000 in
theorem sX5_taken_0 {E : aR} {A : Nat → Nat → Int32} {R : Nat → Nat → Option Nat} {G : Nat → Nat × Nat} (hG : aGS G) (x1 : Int32) (x2 : Int32)
    (h : ((0 ≤ x2 ∧ x2 ≤ 6) → (((0 ≤ x1 ∧ x1 ≤ 13) → (((x1 < 6) → (((x1 < (A 48 0)) → (((6 ≤ x2) → (E (some (.int (-13))) (A, R, G))) ∧ ((¬ (6 ≤ x2)) → ((vp_in x1 6) ∧ (((x2 = 0 ∨ (A 49 x1.toNatClampNeg) = x2 ∨ (x2 = 1 ∧ (A 49 x1.toNatClampNeg) = 3) ∨ (x2 = 2 ∧ (A 49 x1.toNatClampNeg) = 4)) → (E (some (.int x1)) (A, R, G))) ∧ ((¬ (x2 = 0 ∨ (A 49 x1.toNatClampNeg) = x2 ∨ (x2 = 1 ∧ (A 49 x1.toNatClampNeg) = 3) ∨ (x2 = 2 ∧ (A 49 x1.toNatClampNeg) = 4))) → (E (some (.int (-13))) (A, R, G)))))))) ∧ ((¬ (x1 < (A 48 0))) → (E (some (.int (-11))) (A, R, G))))) ∧ ((¬ (x1 < 6)) → (((thM A (x1 - 6)) → (((x2 = 6) → ((vp_in (3 * (x1 - 6)) 24) ∧ (E (some (.int (A 52 (3 * (x1 - 6)).toNatClampNeg))) (A, R, G)))) ∧ ((¬ (x2 = 6)) → (E (some (.int (-13))) (A, R, G))))) ∧ ((¬ (thM A (x1 - 6))) → (E (some (.int (-11))) (A, R, G))))))) ∧ ((¬ (0 ≤ x1 ∧ x1 ≤ 13)) → (E (some (.int (-12))) (A, R, G))))) ∧ ((¬ (0 ≤ x2 ∧ x2 ≤ 6)) → (E (some (.int (-2))) (A, R, G)))) :
    aw tX5_taken E 0 [some (.ref 48), some (.int x1), some (.int x2), none] [] (A, R, G) := by
  by_cases c1 : 0 ≤ x2 ∧ x2 ≤ 6
  · replace h := h.1 c1
    by_cases c2 : 0 ≤ x1 ∧ x1 ≤ 13
    · replace h := h.1 c2
      by_cases c3 : x1 < 6
      · replace h := h.1 c3
        by_cases c4 : x1 < (A 48 0)
        · replace h := h.1 c4
          by_cases c5 : 6 ≤ x2
          · replace h := h.1 c5
            exact ⟨22, Exists.intro _ (Exists.intro _ (And.intro (Nat.le_of_ble_eq_true rfl) (And.intro (Nat.le_of_ble_eq_true rfl) (And.intro (pX5_in _ _ _) (Or.inl (And.intro (bI_ne c1) (Exists.intro _ (Exists.intro _ (And.intro (Nat.le_of_ble_eq_true rfl) (And.intro (Nat.le_of_ble_eq_true rfl) (And.intro (pX5_in _ _ _) (Or.inl (And.intro (bI_ne c2) (Or.inl (And.intro c3 (And.intro (gt48 hG) (Or.inl (And.intro c4 (Or.inl (And.intro c5 (h)))))))))))))))))))))⟩
          · replace h := h.2 c5
            obtain ⟨q6, h⟩ := h
            by_cases c7 : x2 = 0 ∨ (A 49 x1.toNatClampNeg) = x2 ∨ (x2 = 1 ∧ (A 49 x1.toNatClampNeg) = 3) ∨ (x2 = 2 ∧ (A 49 x1.toNatClampNeg) = 4)
            · replace h := h.1 c7
              exact ⟨30, Exists.intro _ (Exists.intro _ (And.intro (Nat.le_of_ble_eq_true rfl) (And.intro (Nat.le_of_ble_eq_true rfl) (And.intro (pX5_in _ _ _) (Or.inl (And.intro (bI_ne c1) (Exists.intro _ (Exists.intro _ (And.intro (Nat.le_of_ble_eq_true rfl) (And.intro (Nat.le_of_ble_eq_true rfl) (And.intro (pX5_in _ _ _) (Or.inl (And.intro (bI_ne c2) (Or.inl (And.intro c3 (And.intro (gt48 hG) (Or.inl (And.intro c4 (Or.inr (And.intro c5 (And.intro (gt48 hG) (And.intro (gt49 hG) (And.intro (vin_len (gl49 hG) q6) (Exists.intro _ (Exists.intro _ (And.intro (Nat.le_of_ble_eq_true rfl) (And.intro (Nat.le_of_ble_eq_true rfl) (And.intro (pX5_isUnder _ _) (Or.inr (And.intro (bI_neq c7) (h)))))))))))))))))))))))))))))))⟩
            · replace h := h.2 c7
              exact ⟨29, Exists.intro _ (Exists.intro _ (And.intro (Nat.le_of_ble_eq_true rfl) (And.intro (Nat.le_of_ble_eq_true rfl) (And.intro (pX5_in _ _ _) (Or.inl (And.intro (bI_ne c1) (Exists.intro _ (Exists.intro _ (And.intro (Nat.le_of_ble_eq_true rfl) (And.intro (Nat.le_of_ble_eq_true rfl) (And.intro (pX5_in _ _ _) (Or.inl (And.intro (bI_ne c2) (Or.inl (And.intro c3 (And.intro (gt48 hG) (Or.inl (And.intro c4 (Or.inr (And.intro c5 (And.intro (gt48 hG) (And.intro (gt49 hG) (And.intro (vin_len (gl49 hG) q6) (Exists.intro _ (Exists.intro _ (And.intro (Nat.le_of_ble_eq_true rfl) (And.intro (Nat.le_of_ble_eq_true rfl) (And.intro (pX5_isUnder _ _) (Or.inl (And.intro (bI_eq c7) (h)))))))))))))))))))))))))))))))⟩
        · replace h := h.2 c4
          exact ⟨20, Exists.intro _ (Exists.intro _ (And.intro (Nat.le_of_ble_eq_true rfl) (And.intro (Nat.le_of_ble_eq_true rfl) (And.intro (pX5_in _ _ _) (Or.inl (And.intro (bI_ne c1) (Exists.intro _ (Exists.intro _ (And.intro (Nat.le_of_ble_eq_true rfl) (And.intro (Nat.le_of_ble_eq_true rfl) (And.intro (pX5_in _ _ _) (Or.inl (And.intro (bI_ne c2) (Or.inl (And.intro c3 (And.intro (gt48 hG) (Or.inr (And.intro c4 (h)))))))))))))))))))⟩
      · replace h := h.2 c3
        by_cases c8 : thM A (x1 - 6)
        · replace h := h.1 c8
          by_cases c9 : x2 = 6
          · replace h := h.1 c9
            obtain ⟨q10, h⟩ := h
            exact ⟨32, Exists.intro _ (Exists.intro _ (And.intro (Nat.le_of_ble_eq_true rfl) (And.intro (Nat.le_of_ble_eq_true rfl) (And.intro (pX5_in _ _ _) (Or.inl (And.intro (bI_ne c1) (Exists.intro _ (Exists.intro _ (And.intro (Nat.le_of_ble_eq_true rfl) (And.intro (Nat.le_of_ble_eq_true rfl) (And.intro (pX5_in _ _ _) (Or.inl (And.intro (bI_ne c2) (Or.inr (And.intro c3 (Exists.intro _ (Exists.intro _ (Exists.intro _ (Exists.intro _ (And.intro rfl (And.intro (gt48 hG) (And.intro (Nat.le_of_ble_eq_true rfl) (And.intro (pX5_isThere hG _) (Or.inl (And.intro (bI_ne c8) (Or.inr (And.intro (fun z => z c9) (And.intro (gt48 hG) (And.intro (gt52 hG) (And.intro (vin_len (gl52 hG) q10) (h)))))))))))))))))))))))))))))))⟩
          · replace h := h.2 c9
            exact ⟨26, Exists.intro _ (Exists.intro _ (And.intro (Nat.le_of_ble_eq_true rfl) (And.intro (Nat.le_of_ble_eq_true rfl) (And.intro (pX5_in _ _ _) (Or.inl (And.intro (bI_ne c1) (Exists.intro _ (Exists.intro _ (And.intro (Nat.le_of_ble_eq_true rfl) (And.intro (Nat.le_of_ble_eq_true rfl) (And.intro (pX5_in _ _ _) (Or.inl (And.intro (bI_ne c2) (Or.inr (And.intro c3 (Exists.intro _ (Exists.intro _ (Exists.intro _ (Exists.intro _ (And.intro rfl (And.intro (gt48 hG) (And.intro (Nat.le_of_ble_eq_true rfl) (And.intro (pX5_isThere hG _) (Or.inl (And.intro (bI_ne c8) (Or.inl (And.intro c9 (h))))))))))))))))))))))))))))⟩
        · replace h := h.2 c8
          exact ⟨24, Exists.intro _ (Exists.intro _ (And.intro (Nat.le_of_ble_eq_true rfl) (And.intro (Nat.le_of_ble_eq_true rfl) (And.intro (pX5_in _ _ _) (Or.inl (And.intro (bI_ne c1) (Exists.intro _ (Exists.intro _ (And.intro (Nat.le_of_ble_eq_true rfl) (And.intro (Nat.le_of_ble_eq_true rfl) (And.intro (pX5_in _ _ _) (Or.inl (And.intro (bI_ne c2) (Or.inr (And.intro c3 (Exists.intro _ (Exists.intro _ (Exists.intro _ (Exists.intro _ (And.intro rfl (And.intro (gt48 hG) (And.intro (Nat.le_of_ble_eq_true rfl) (And.intro (pX5_isThere hG _) (Or.inr (And.intro (bI_nne c8) (h))))))))))))))))))))))))))⟩
    · replace h := h.2 c2
      exact ⟨12, Exists.intro _ (Exists.intro _ (And.intro (Nat.le_of_ble_eq_true rfl) (And.intro (Nat.le_of_ble_eq_true rfl) (And.intro (pX5_in _ _ _) (Or.inl (And.intro (bI_ne c1) (Exists.intro _ (Exists.intro _ (And.intro (Nat.le_of_ble_eq_true rfl) (And.intro (Nat.le_of_ble_eq_true rfl) (And.intro (pX5_in _ _ _) (Or.inr (And.intro (bI_nne c2) (h))))))))))))))⟩
  · replace h := h.2 c1
    exact ⟨7, Exists.intro _ (Exists.intro _ (And.intro (Nat.le_of_ble_eq_true rfl) (And.intro (Nat.le_of_ble_eq_true rfl) (And.intro (pX5_in _ _ _) (Or.inr (And.intro (bI_nne c1) (h)))))))⟩

set_option maxRecDepth 100000 in
set_option maxHeartbeats 4000000 in
theorem sX4_count_0 {E : aR} {A : Nat → Nat → Int32} {R : Nat → Nat → Option Nat} {G : Nat → Nat × Nat} (hG : aGS G) (x1 : Int32)
    (h : ((x1 = 0) → (E (some (.int (A 1 9))) (A, R, G))) ∧ ((¬ (x1 = 0)) → (((x1 = 1) → (E (some (.int (popc (A 1 10)))) (A, R, G))) ∧ ((¬ (x1 = 1)) → (((x1 = 2) → (E (some (.int (A 1 12))) (A, R, G))) ∧ ((¬ (x1 = 2)) → (((x1 = 3) → (E (some (.int (A 0 5))) (A, R, G))) ∧ ((¬ (x1 = 3)) → (((x1 = 4) → (E (some (.int (A 1 13))) (A, R, G))) ∧ ((¬ (x1 = 4)) → (((x1 = 5) → (E (some (.int (A 31 5))) (A, R, G))) ∧ ((¬ (x1 = 5)) → (((x1 = 6) → (E (some (.int (A 1 11))) (A, R, G))) ∧ ((¬ (x1 = 6)) → (E (some (.int (-2))) (A, R, G)))))))))))))))) :
    aw tX4_count E 0 [some (.ref 0), some (.int x1)] [] (A, R, G) := by
  by_cases c1 : x1 = 0
  · replace h := h.1 c1
    exact ⟨6, Or.inl (And.intro c1 (And.intro (gt0 hG) (And.intro (gt1 hG) (h))))⟩
  · replace h := h.2 c1
    by_cases c2 : x1 = 1
    · replace h := h.1 c2
      exact ⟨7, Or.inr (And.intro c1 (Or.inl (And.intro c2 (And.intro (gt0 hG) (And.intro (gt1 hG) (Exists.intro _ (Exists.intro _ (And.intro (Nat.le_of_ble_eq_true rfl) (And.intro (Nat.le_of_ble_eq_true rfl) (And.intro (pJ6_bitCount _) (h)))))))))))⟩
    · replace h := h.2 c2
      by_cases c3 : x1 = 2
      · replace h := h.1 c3
        exact ⟨6, Or.inr (And.intro c1 (Or.inr (And.intro c2 (Or.inl (And.intro c3 (And.intro (gt0 hG) (And.intro (gt1 hG) (h))))))))⟩
      · replace h := h.2 c3
        by_cases c4 : x1 = 3
        · replace h := h.1 c4
          exact ⟨5, Or.inr (And.intro c1 (Or.inr (And.intro c2 (Or.inr (And.intro c3 (Or.inl (And.intro c4 (And.intro (gt0 hG) (h)))))))))⟩
        · replace h := h.2 c4
          by_cases c5 : x1 = 4
          · replace h := h.1 c5
            exact ⟨6, Or.inr (And.intro c1 (Or.inr (And.intro c2 (Or.inr (And.intro c3 (Or.inr (And.intro c4 (Or.inl (And.intro c5 (And.intro (gt0 hG) (And.intro (gt1 hG) (h))))))))))))⟩
          · replace h := h.2 c5
            by_cases c6 : x1 = 5
            · replace h := h.1 c6
              exact ⟨6, Or.inr (And.intro c1 (Or.inr (And.intro c2 (Or.inr (And.intro c3 (Or.inr (And.intro c4 (Or.inr (And.intro c5 (Or.inl (And.intro c6 (And.intro (gt0 hG) (And.intro (gt31 hG) (h))))))))))))))⟩
            · replace h := h.2 c6
              by_cases c7 : x1 = 6
              · replace h := h.1 c7
                exact ⟨6, Or.inr (And.intro c1 (Or.inr (And.intro c2 (Or.inr (And.intro c3 (Or.inr (And.intro c4 (Or.inr (And.intro c5 (Or.inr (And.intro c6 (Or.inl (And.intro c7 (And.intro (gt0 hG) (And.intro (gt1 hG) (h))))))))))))))))⟩
              · replace h := h.2 c7
                exact ⟨4, Or.inr (And.intro c1 (Or.inr (And.intro c2 (Or.inr (And.intro c3 (Or.inr (And.intro c4 (Or.inr (And.intro c5 (Or.inr (And.intro c6 (Or.inr (And.intro c7 (h))))))))))))))⟩

set_option maxRecDepth 100000 in
set_option maxHeartbeats 4000000 in
theorem sX4_dawn_0 {E : aR} {A : Nat → Nat → Int32} {R : Nat → Nat → Option Nat} {G : Nat → Nat × Nat} (hG : aGS G) (x1 : Int32)
    (h : ((0 ≤ x1 ∧ x1 ≤ 999) → (E (some (.int (A 1 11))) ((au A 1 11 x1), R, G))) ∧ ((¬ (0 ≤ x1 ∧ x1 ≤ 999)) → (E (some (.int (-2))) (A, R, G)))) :
    aw tX4_dawn E 0 [some (.ref 0), some (.int x1), none] [] (A, R, G) := by
  by_cases c1 : 0 ≤ x1 ∧ x1 ≤ 999
  · replace h := h.1 c1
    exact ⟨15, Exists.intro _ (Exists.intro _ (And.intro (Nat.le_of_ble_eq_true rfl) (And.intro (Nat.le_of_ble_eq_true rfl) (And.intro (pX4_within _ _ _) (Or.inl (And.intro (bI_ne c1) (And.intro (gt0 hG) (And.intro (gt1 hG) (And.intro (gt0 hG) (And.intro (gt1 hG) (h)))))))))))⟩
  · replace h := h.2 c1
    exact ⟨7, Exists.intro _ (Exists.intro _ (And.intro (Nat.le_of_ble_eq_true rfl) (And.intro (Nat.le_of_ble_eq_true rfl) (And.intro (pX4_within _ _ _) (Or.inr (And.intro (bI_nne c1) (h)))))))⟩

set_option maxRecDepth 100000 in
set_option maxHeartbeats 4000000 in
theorem sX4_feed_0 {E : aR} {A : Nat → Nat → Int32} {R : Nat → Nat → Option Nat} {G : Nat → Nat × Nat} (hG : aGS G) (x1 : Int32) (x2 : Int32) (x3 : Int32) (x4 : Int32) (x5 : Int32) (x6 : Int32)
    (h : ((1 ≤ x1 ∧ x1 ≤ 5) → (((0 ≤ x2 ∧ x2 ≤ 255) → (((0 ≤ x3 ∧ x3 ≤ 255) → (((0 ≤ x4 ∧ x4 ≤ 255) → (((0 ≤ x5 ∧ x5 ≤ 255) → (((0 ≤ x6 ∧ x6 ≤ 255) → (((((A 31 5) + x1) ≤ 160) → (∃ (μ1 : aM), CX1_addByte [.ref 31, .int x2] (A, R, G) none μ1 ∧ aw tX4_feed E 76 [some (.ref 0), some (.int x1), some (.int x2), some (.int x3), some (.int x4), some (.int x5), some (.int x6)] [] μ1)) ∧ ((¬ (((A 31 5) + x1) ≤ 160)) → (E (some (.int (-4))) (A, R, G))))) ∧ ((¬ (0 ≤ x6 ∧ x6 ≤ 255)) → (E (some (.int (-2))) (A, R, G))))) ∧ ((¬ (0 ≤ x5 ∧ x5 ≤ 255)) → (E (some (.int (-2))) (A, R, G))))) ∧ ((¬ (0 ≤ x4 ∧ x4 ≤ 255)) → (E (some (.int (-2))) (A, R, G))))) ∧ ((¬ (0 ≤ x3 ∧ x3 ≤ 255)) → (E (some (.int (-2))) (A, R, G))))) ∧ ((¬ (0 ≤ x2 ∧ x2 ≤ 255)) → (E (some (.int (-2))) (A, R, G))))) ∧ ((¬ (1 ≤ x1 ∧ x1 ≤ 5)) → (E (some (.int (-2))) (A, R, G)))) :
    aw tX4_feed E 0 [some (.ref 0), some (.int x1), some (.int x2), some (.int x3), some (.int x4), some (.int x5), some (.int x6)] [] (A, R, G) := by
  by_cases c1 : 1 ≤ x1 ∧ x1 ≤ 5
  · replace h := h.1 c1
    by_cases c2 : 0 ≤ x2 ∧ x2 ≤ 255
    · replace h := h.1 c2
      by_cases c3 : 0 ≤ x3 ∧ x3 ≤ 255
      · replace h := h.1 c3
        by_cases c4 : 0 ≤ x4 ∧ x4 ≤ 255
        · replace h := h.1 c4
          by_cases c5 : 0 ≤ x5 ∧ x5 ≤ 255
          · replace h := h.1 c5
            by_cases c6 : 0 ≤ x6 ∧ x6 ≤ 255
            · replace h := h.1 c6
              by_cases c7 : ((A 31 5) + x1) ≤ 160
              · replace h := h.1 c7
                obtain ⟨μ1, h1, n, h⟩ := h
                exact ⟨n + 31, Exists.intro _ (Exists.intro _ (And.intro (Nat.le_of_ble_eq_true rfl) (And.intro (Nat.le_of_ble_eq_true rfl) (And.intro (pX4_within _ _ _) (Or.inr (And.intro (bI_neq c1) (Exists.intro _ (Exists.intro _ (And.intro (Nat.le_of_ble_eq_true rfl) (And.intro (Nat.le_of_ble_eq_true rfl) (And.intro (pX4_isByte _) (Or.inr (And.intro (bI_neq c2) (Exists.intro _ (Exists.intro _ (And.intro (Nat.le_of_ble_eq_true rfl) (And.intro (Nat.le_of_ble_eq_true rfl) (And.intro (pX4_isByte _) (Or.inr (And.intro (bI_neq c3) (Exists.intro _ (Exists.intro _ (And.intro (Nat.le_of_ble_eq_true rfl) (And.intro (Nat.le_of_ble_eq_true rfl) (And.intro (pX4_isByte _) (Or.inr (And.intro (bI_neq c4) (Exists.intro _ (Exists.intro _ (And.intro (Nat.le_of_ble_eq_true rfl) (And.intro (Nat.le_of_ble_eq_true rfl) (And.intro (pX4_isByte _) (Or.inr (And.intro (bI_neq c5) (Exists.intro _ (Exists.intro _ (And.intro (Nat.le_of_ble_eq_true rfl) (And.intro (Nat.le_of_ble_eq_true rfl) (And.intro (pX4_isByte _) (Or.inl (And.intro (bI_ne c6) (And.intro (gt0 hG) (And.intro (gt31 hG) (Or.inl (And.intro c7 (And.intro (gt0 hG) (Exists.intro _ (Exists.intro _ (Exists.intro _ (Exists.intro _ (And.intro rfl (And.intro (gt31 hG) (And.intro (Nat.le_of_ble_eq_true rfl) (And.intro h1 (h)))))))))))))))))))))))))))))))))))))))))))))))))))))))⟩
              · replace h := h.2 c7
                exact ⟨29, Exists.intro _ (Exists.intro _ (And.intro (Nat.le_of_ble_eq_true rfl) (And.intro (Nat.le_of_ble_eq_true rfl) (And.intro (pX4_within _ _ _) (Or.inr (And.intro (bI_neq c1) (Exists.intro _ (Exists.intro _ (And.intro (Nat.le_of_ble_eq_true rfl) (And.intro (Nat.le_of_ble_eq_true rfl) (And.intro (pX4_isByte _) (Or.inr (And.intro (bI_neq c2) (Exists.intro _ (Exists.intro _ (And.intro (Nat.le_of_ble_eq_true rfl) (And.intro (Nat.le_of_ble_eq_true rfl) (And.intro (pX4_isByte _) (Or.inr (And.intro (bI_neq c3) (Exists.intro _ (Exists.intro _ (And.intro (Nat.le_of_ble_eq_true rfl) (And.intro (Nat.le_of_ble_eq_true rfl) (And.intro (pX4_isByte _) (Or.inr (And.intro (bI_neq c4) (Exists.intro _ (Exists.intro _ (And.intro (Nat.le_of_ble_eq_true rfl) (And.intro (Nat.le_of_ble_eq_true rfl) (And.intro (pX4_isByte _) (Or.inr (And.intro (bI_neq c5) (Exists.intro _ (Exists.intro _ (And.intro (Nat.le_of_ble_eq_true rfl) (And.intro (Nat.le_of_ble_eq_true rfl) (And.intro (pX4_isByte _) (Or.inl (And.intro (bI_ne c6) (And.intro (gt0 hG) (And.intro (gt31 hG) (Or.inr (And.intro c7 (h))))))))))))))))))))))))))))))))))))))))))))))⟩
            · replace h := h.2 c6
              exact ⟨22, Exists.intro _ (Exists.intro _ (And.intro (Nat.le_of_ble_eq_true rfl) (And.intro (Nat.le_of_ble_eq_true rfl) (And.intro (pX4_within _ _ _) (Or.inr (And.intro (bI_neq c1) (Exists.intro _ (Exists.intro _ (And.intro (Nat.le_of_ble_eq_true rfl) (And.intro (Nat.le_of_ble_eq_true rfl) (And.intro (pX4_isByte _) (Or.inr (And.intro (bI_neq c2) (Exists.intro _ (Exists.intro _ (And.intro (Nat.le_of_ble_eq_true rfl) (And.intro (Nat.le_of_ble_eq_true rfl) (And.intro (pX4_isByte _) (Or.inr (And.intro (bI_neq c3) (Exists.intro _ (Exists.intro _ (And.intro (Nat.le_of_ble_eq_true rfl) (And.intro (Nat.le_of_ble_eq_true rfl) (And.intro (pX4_isByte _) (Or.inr (And.intro (bI_neq c4) (Exists.intro _ (Exists.intro _ (And.intro (Nat.le_of_ble_eq_true rfl) (And.intro (Nat.le_of_ble_eq_true rfl) (And.intro (pX4_isByte _) (Or.inr (And.intro (bI_neq c5) (Exists.intro _ (Exists.intro _ (And.intro (Nat.le_of_ble_eq_true rfl) (And.intro (Nat.le_of_ble_eq_true rfl) (And.intro (pX4_isByte _) (Or.inr (And.intro (bI_nne c6) (h))))))))))))))))))))))))))))))))))))))))))⟩
          · replace h := h.2 c5
            exact ⟨19, Exists.intro _ (Exists.intro _ (And.intro (Nat.le_of_ble_eq_true rfl) (And.intro (Nat.le_of_ble_eq_true rfl) (And.intro (pX4_within _ _ _) (Or.inr (And.intro (bI_neq c1) (Exists.intro _ (Exists.intro _ (And.intro (Nat.le_of_ble_eq_true rfl) (And.intro (Nat.le_of_ble_eq_true rfl) (And.intro (pX4_isByte _) (Or.inr (And.intro (bI_neq c2) (Exists.intro _ (Exists.intro _ (And.intro (Nat.le_of_ble_eq_true rfl) (And.intro (Nat.le_of_ble_eq_true rfl) (And.intro (pX4_isByte _) (Or.inr (And.intro (bI_neq c3) (Exists.intro _ (Exists.intro _ (And.intro (Nat.le_of_ble_eq_true rfl) (And.intro (Nat.le_of_ble_eq_true rfl) (And.intro (pX4_isByte _) (Or.inr (And.intro (bI_neq c4) (Exists.intro _ (Exists.intro _ (And.intro (Nat.le_of_ble_eq_true rfl) (And.intro (Nat.le_of_ble_eq_true rfl) (And.intro (pX4_isByte _) (Or.inl (And.intro (bI_eq c5) (h)))))))))))))))))))))))))))))))))))⟩
        · replace h := h.2 c4
          exact ⟨16, Exists.intro _ (Exists.intro _ (And.intro (Nat.le_of_ble_eq_true rfl) (And.intro (Nat.le_of_ble_eq_true rfl) (And.intro (pX4_within _ _ _) (Or.inr (And.intro (bI_neq c1) (Exists.intro _ (Exists.intro _ (And.intro (Nat.le_of_ble_eq_true rfl) (And.intro (Nat.le_of_ble_eq_true rfl) (And.intro (pX4_isByte _) (Or.inr (And.intro (bI_neq c2) (Exists.intro _ (Exists.intro _ (And.intro (Nat.le_of_ble_eq_true rfl) (And.intro (Nat.le_of_ble_eq_true rfl) (And.intro (pX4_isByte _) (Or.inr (And.intro (bI_neq c3) (Exists.intro _ (Exists.intro _ (And.intro (Nat.le_of_ble_eq_true rfl) (And.intro (Nat.le_of_ble_eq_true rfl) (And.intro (pX4_isByte _) (Or.inl (And.intro (bI_eq c4) (h))))))))))))))))))))))))))))⟩
      · replace h := h.2 c3
        exact ⟨13, Exists.intro _ (Exists.intro _ (And.intro (Nat.le_of_ble_eq_true rfl) (And.intro (Nat.le_of_ble_eq_true rfl) (And.intro (pX4_within _ _ _) (Or.inr (And.intro (bI_neq c1) (Exists.intro _ (Exists.intro _ (And.intro (Nat.le_of_ble_eq_true rfl) (And.intro (Nat.le_of_ble_eq_true rfl) (And.intro (pX4_isByte _) (Or.inr (And.intro (bI_neq c2) (Exists.intro _ (Exists.intro _ (And.intro (Nat.le_of_ble_eq_true rfl) (And.intro (Nat.le_of_ble_eq_true rfl) (And.intro (pX4_isByte _) (Or.inl (And.intro (bI_eq c3) (h)))))))))))))))))))))⟩
    · replace h := h.2 c2
      exact ⟨10, Exists.intro _ (Exists.intro _ (And.intro (Nat.le_of_ble_eq_true rfl) (And.intro (Nat.le_of_ble_eq_true rfl) (And.intro (pX4_within _ _ _) (Or.inr (And.intro (bI_neq c1) (Exists.intro _ (Exists.intro _ (And.intro (Nat.le_of_ble_eq_true rfl) (And.intro (Nat.le_of_ble_eq_true rfl) (And.intro (pX4_isByte _) (Or.inl (And.intro (bI_eq c2) (h))))))))))))))⟩
  · replace h := h.2 c1
    exact ⟨7, Exists.intro _ (Exists.intro _ (And.intro (Nat.le_of_ble_eq_true rfl) (And.intro (Nat.le_of_ble_eq_true rfl) (And.intro (pX4_within _ _ _) (Or.inl (And.intro (bI_eq c1) (h)))))))⟩

set_option maxRecDepth 100000 in
set_option maxHeartbeats 4000000 in
theorem sX4_feed_76 {E : aR} {A : Nat → Nat → Int32} {R : Nat → Nat → Option Nat} {G : Nat → Nat × Nat} (hG : aGS G) (x1 : Int32) (d2 : Option Value) (x3 : Int32) (x4 : Int32) (x5 : Int32) (x6 : Int32)
    (h : ((x1 ≤ 1) → (aw tX4_feed E 89 [some (.ref 0), some (.int x1), d2, some (.int x3), some (.int x4), some (.int x5), some (.int x6)] [] (A, R, G))) ∧ ((¬ (x1 ≤ 1)) → (∃ (μ1 : aM), CX1_addByte [.ref 31, .int x3] (A, R, G) none μ1 ∧ aw tX4_feed E 89 [some (.ref 0), some (.int x1), d2, some (.int x3), some (.int x4), some (.int x5), some (.int x6)] [] μ1))) :
    aw tX4_feed E 76 [some (.ref 0), some (.int x1), d2, some (.int x3), some (.int x4), some (.int x5), some (.int x6)] [] (A, R, G) := by
  by_cases c1 : x1 ≤ 1
  · replace h := h.1 c1
    obtain ⟨n, h⟩ := h
    exact ⟨n + 3, Or.inl (And.intro c1 (h))⟩
  · replace h := h.2 c1
    obtain ⟨μ1, h1, n, h⟩ := h
    exact ⟨n + 7, Or.inr (And.intro c1 (And.intro (gt0 hG) (Exists.intro _ (Exists.intro _ (Exists.intro _ (Exists.intro _ (And.intro rfl (And.intro (gt31 hG) (And.intro (Nat.le_of_ble_eq_true rfl) (And.intro h1 (h)))))))))))⟩

set_option maxRecDepth 100000 in
set_option maxHeartbeats 4000000 in
theorem sX4_feed_89 {E : aR} {A : Nat → Nat → Int32} {R : Nat → Nat → Option Nat} {G : Nat → Nat × Nat} (hG : aGS G) (x1 : Int32) (d2 : Option Value) (d3 : Option Value) (x4 : Int32) (x5 : Int32) (x6 : Int32)
    (h : ((x1 ≤ 2) → (aw tX4_feed E 103 [some (.ref 0), some (.int x1), d2, d3, some (.int x4), some (.int x5), some (.int x6)] [] (A, R, G))) ∧ ((¬ (x1 ≤ 2)) → (∃ (μ1 : aM), CX1_addByte [.ref 31, .int x4] (A, R, G) none μ1 ∧ aw tX4_feed E 103 [some (.ref 0), some (.int x1), d2, d3, some (.int x4), some (.int x5), some (.int x6)] [] μ1))) :
    aw tX4_feed E 89 [some (.ref 0), some (.int x1), d2, d3, some (.int x4), some (.int x5), some (.int x6)] [] (A, R, G) := by
  by_cases c1 : x1 ≤ 2
  · replace h := h.1 c1
    obtain ⟨n, h⟩ := h
    exact ⟨n + 3, Or.inl (And.intro c1 (h))⟩
  · replace h := h.2 c1
    obtain ⟨μ1, h1, n, h⟩ := h
    exact ⟨n + 7, Or.inr (And.intro c1 (And.intro (gt0 hG) (Exists.intro _ (Exists.intro _ (Exists.intro _ (Exists.intro _ (And.intro rfl (And.intro (gt31 hG) (And.intro (Nat.le_of_ble_eq_true rfl) (And.intro h1 (h)))))))))))⟩

set_option maxRecDepth 100000 in
set_option maxHeartbeats 4000000 in
theorem sX4_feed_103 {E : aR} {A : Nat → Nat → Int32} {R : Nat → Nat → Option Nat} {G : Nat → Nat × Nat} (hG : aGS G) (x1 : Int32) (d2 : Option Value) (d3 : Option Value) (d4 : Option Value) (x5 : Int32) (x6 : Int32)
    (h : ((x1 ≤ 3) → (aw tX4_feed E 117 [some (.ref 0), some (.int x1), d2, d3, d4, some (.int x5), some (.int x6)] [] (A, R, G))) ∧ ((¬ (x1 ≤ 3)) → (∃ (μ1 : aM), CX1_addByte [.ref 31, .int x5] (A, R, G) none μ1 ∧ aw tX4_feed E 117 [some (.ref 0), some (.int x1), d2, d3, d4, some (.int x5), some (.int x6)] [] μ1))) :
    aw tX4_feed E 103 [some (.ref 0), some (.int x1), d2, d3, d4, some (.int x5), some (.int x6)] [] (A, R, G) := by
  by_cases c1 : x1 ≤ 3
  · replace h := h.1 c1
    obtain ⟨n, h⟩ := h
    exact ⟨n + 3, Or.inl (And.intro c1 (h))⟩
  · replace h := h.2 c1
    obtain ⟨μ1, h1, n, h⟩ := h
    exact ⟨n + 7, Or.inr (And.intro c1 (And.intro (gt0 hG) (Exists.intro _ (Exists.intro _ (Exists.intro _ (Exists.intro _ (And.intro rfl (And.intro (gt31 hG) (And.intro (Nat.le_of_ble_eq_true rfl) (And.intro h1 (h)))))))))))⟩

set_option maxRecDepth 100000 in
set_option maxHeartbeats 4000000 in
theorem sX4_feed_117 {E : aR} {A : Nat → Nat → Int32} {R : Nat → Nat → Option Nat} {G : Nat → Nat × Nat} (hG : aGS G) (x1 : Int32) (d2 : Option Value) (d3 : Option Value) (d4 : Option Value) (d5 : Option Value) (x6 : Int32)
    (h : ((x1 ≤ 4) → (aw tX4_feed E 131 [some (.ref 0), some (.int x1), d2, d3, d4, d5, some (.int x6)] [] (A, R, G))) ∧ ((¬ (x1 ≤ 4)) → (∃ (μ1 : aM), CX1_addByte [.ref 31, .int x6] (A, R, G) none μ1 ∧ aw tX4_feed E 131 [some (.ref 0), some (.int x1), d2, d3, d4, d5, some (.int x6)] [] μ1))) :
    aw tX4_feed E 117 [some (.ref 0), some (.int x1), d2, d3, d4, d5, some (.int x6)] [] (A, R, G) := by
  by_cases c1 : x1 ≤ 4
  · replace h := h.1 c1
    obtain ⟨n, h⟩ := h
    exact ⟨n + 3, Or.inl (And.intro c1 (h))⟩
  · replace h := h.2 c1
    obtain ⟨μ1, h1, n, h⟩ := h
    exact ⟨n + 7, Or.inr (And.intro c1 (And.intro (gt0 hG) (Exists.intro _ (Exists.intro _ (Exists.intro _ (Exists.intro _ (And.intro rfl (And.intro (gt31 hG) (And.intro (Nat.le_of_ble_eq_true rfl) (And.intro h1 (h)))))))))))⟩

set_option maxRecDepth 100000 in
set_option maxHeartbeats 4000000 in
theorem sX4_feed_131 {E : aR} {A : Nat → Nat → Int32} {R : Nat → Nat → Option Nat} {G : Nat → Nat × Nat} (hG : aGS G) (d1 : Option Value) (d2 : Option Value) (d3 : Option Value) (d4 : Option Value) (d5 : Option Value) (d6 : Option Value)
    (h : E (some (.int (A 31 5))) (A, R, G)) :
    aw tX4_feed E 131 [some (.ref 0), d1, d2, d3, d4, d5, d6] [] (A, R, G) := by
  exact ⟨4, And.intro (gt0 hG) (And.intro (gt31 hG) (h))⟩

set_option maxRecDepth 100000 in
set_option maxHeartbeats 4000000 in
theorem sX4_force_0 {E : aR} {A : Nat → Nat → Int32} {R : Nat → Nat → Option Nat} {G : Nat → Nat × Nat} (hG : aGS G) (x1 : Int32)
    (h : ((0 ≤ x1 ∧ x1 ≤ ((A 0 5) - 1)) → ((vp_in x1 6) ∧ (∃ w3 : Nat, (R 37 x1.toNatClampNeg = some w3) ∧ (∃ (μ1 : aM), CX0_obey [.ref 1, .ref w3, .int x1] (A, R, G) none μ1 ∧ aw tX4_force E 39 [some (.ref 0), some (.int x1), some (.int (A 1 13))] [] μ1)))) ∧ ((¬ (0 ≤ x1 ∧ x1 ≤ ((A 0 5) - 1))) → (E (some (.int (-2))) (A, R, G)))) :
    aw tX4_force E 0 [some (.ref 0), some (.int x1), none] [] (A, R, G) := by
  by_cases c1 : 0 ≤ x1 ∧ x1 ≤ ((A 0 5) - 1)
  · replace h := h.1 c1
    obtain ⟨q2, h⟩ := h
    obtain ⟨w3, e3, h⟩ := h
    obtain ⟨μ1, h1, n, h⟩ := h
    exact ⟨n + 20, And.intro (gt0 hG) (Exists.intro _ (Exists.intro _ (And.intro (Nat.le_of_ble_eq_true rfl) (And.intro (Nat.le_of_ble_eq_true rfl) (And.intro (pX4_within _ _ _) (Or.inl (And.intro (bI_ne c1) (And.intro (gt0 hG) (And.intro (gt1 hG) (And.intro (gt0 hG) (And.intro (gt0 hG) (And.intro (gt37 hG) (And.intro (vin_len (gl37 hG) q2) (Exists.intro w3 (And.intro e3 (Exists.intro _ (Exists.intro _ (Exists.intro _ (Exists.intro _ (And.intro rfl (And.intro (gt1 hG) (And.intro (Nat.le_of_ble_eq_true rfl) (And.intro h1 (h))))))))))))))))))))))))⟩
  · replace h := h.2 c1
    exact ⟨10, And.intro (gt0 hG) (Exists.intro _ (Exists.intro _ (And.intro (Nat.le_of_ble_eq_true rfl) (And.intro (Nat.le_of_ble_eq_true rfl) (And.intro (pX4_within _ _ _) (Or.inr (And.intro (bI_nne c1) (h))))))))⟩

set_option maxRecDepth 100000 in
set_option maxHeartbeats 4000000 in
theorem sX4_force_39 {E : aR} {A : Nat → Nat → Int32} {R : Nat → Nat → Option Nat} {G : Nat → Nat × Nat} (d1 : Option Value) (x2 : Int32)
    (h : E (some (.int x2)) (A, R, G)) :
    aw tX4_force E 39 [some (.ref 0), d1, some (.int x2)] [] (A, R, G) := by
  exact ⟨2, h⟩

set_option maxRecDepth 100000 in
set_option maxHeartbeats 4000000 in
theorem sX4_asks_0 {E : aR} {A : Nat → Nat → Int32} {R : Nat → Nat → Option Nat} {G : Nat → Nat × Nat} (hG : aGS G) (x1 : Int32) (x2 : Int32) (x3 : Int32)
    (h : ((0 ≤ x1 ∧ x1 ≤ 2) → (((0 ≤ x2 ∧ x2 < A 1 9) → (((thX A 1 x3) → (∃ (v1 : Int32) (μ1 : aM), CX0_says [.ref 1, .int x1, .int x2, .int x3] (A, R, G) (some (.int v1)) μ1 ∧ aw tX4_asks E 45 [some (.ref 0), some (.int x1), some (.int x2), some (.int x3)] [.int v1] μ1)) ∧ ((¬ (thX A 1 x3)) → (E (some (.int (-1000))) (A, R, G))))) ∧ ((¬ (0 ≤ x2 ∧ x2 < A 1 9)) → (E (some (.int (-1000))) (A, R, G))))) ∧ ((¬ (0 ≤ x1 ∧ x1 ≤ 2)) → (E (some (.int (-1000))) (A, R, G)))) :
    aw tX4_asks E 0 [some (.ref 0), some (.int x1), some (.int x2), some (.int x3)] [] (A, R, G) := by
  by_cases c1 : 0 ≤ x1 ∧ x1 ≤ 2
  · replace h := h.1 c1
    by_cases c2 : 0 ≤ x2 ∧ x2 < A 1 9
    · replace h := h.1 c2
      by_cases c3 : thX A 1 x3
      · replace h := h.1 c3
        obtain ⟨v1, μ1, h1, n, h⟩ := h
        exact ⟨n + 21, Exists.intro _ (Exists.intro _ (And.intro (Nat.le_of_ble_eq_true rfl) (And.intro (Nat.le_of_ble_eq_true rfl) (And.intro (pX4_within _ _ _) (Or.inr (And.intro (bI_neq c1) (And.intro (gt0 hG) (Exists.intro _ (Exists.intro _ (Exists.intro _ (Exists.intro _ (And.intro rfl (And.intro (gt1 hG) (And.intro (Nat.le_of_ble_eq_true rfl) (And.intro (pX0_hasJudge (gB1 hG) _) (Or.inr (And.intro (bI_neq c2) (And.intro (gt0 hG) (Exists.intro _ (Exists.intro _ (Exists.intro _ (Exists.intro _ (And.intro rfl (And.intro (gt1 hG) (And.intro (Nat.le_of_ble_eq_true rfl) (And.intro (pX0_hasCase (gB1 hG) _) (Or.inl (And.intro (bI_ne c3) (And.intro (gt0 hG) (Exists.intro _ (Exists.intro _ (Exists.intro _ (Exists.intro _ (And.intro rfl (And.intro (gt1 hG) (And.intro (Nat.le_of_ble_eq_true rfl) (And.intro h1 (h))))))))))))))))))))))))))))))))))))))⟩
      · replace h := h.2 c3
        exact ⟨17, Exists.intro _ (Exists.intro _ (And.intro (Nat.le_of_ble_eq_true rfl) (And.intro (Nat.le_of_ble_eq_true rfl) (And.intro (pX4_within _ _ _) (Or.inr (And.intro (bI_neq c1) (And.intro (gt0 hG) (Exists.intro _ (Exists.intro _ (Exists.intro _ (Exists.intro _ (And.intro rfl (And.intro (gt1 hG) (And.intro (Nat.le_of_ble_eq_true rfl) (And.intro (pX0_hasJudge (gB1 hG) _) (Or.inr (And.intro (bI_neq c2) (And.intro (gt0 hG) (Exists.intro _ (Exists.intro _ (Exists.intro _ (Exists.intro _ (And.intro rfl (And.intro (gt1 hG) (And.intro (Nat.le_of_ble_eq_true rfl) (And.intro (pX0_hasCase (gB1 hG) _) (Or.inr (And.intro (bI_nne c3) (h)))))))))))))))))))))))))))))⟩
    · replace h := h.2 c2
      exact ⟨12, Exists.intro _ (Exists.intro _ (And.intro (Nat.le_of_ble_eq_true rfl) (And.intro (Nat.le_of_ble_eq_true rfl) (And.intro (pX4_within _ _ _) (Or.inr (And.intro (bI_neq c1) (And.intro (gt0 hG) (Exists.intro _ (Exists.intro _ (Exists.intro _ (Exists.intro _ (And.intro rfl (And.intro (gt1 hG) (And.intro (Nat.le_of_ble_eq_true rfl) (And.intro (pX0_hasJudge (gB1 hG) _) (Or.inl (And.intro (bI_eq c2) (h))))))))))))))))))⟩
  · replace h := h.2 c1
    exact ⟨7, Exists.intro _ (Exists.intro _ (And.intro (Nat.le_of_ble_eq_true rfl) (And.intro (Nat.le_of_ble_eq_true rfl) (And.intro (pX4_within _ _ _) (Or.inl (And.intro (bI_eq c1) (h)))))))⟩

set_option maxRecDepth 100000 in
set_option maxHeartbeats 4000000 in
theorem sX4_asks_45 {E : aR} {A : Nat → Nat → Int32} {R : Nat → Nat → Option Nat} {G : Nat → Nat × Nat} (d1 : Option Value) (d2 : Option Value) (d3 : Option Value) (y0 : Int32)
    (h : E (some (.int y0)) (A, R, G)) :
    aw tX4_asks E 45 [some (.ref 0), d1, d2, d3] [.int y0] (A, R, G) := by
  exact ⟨1, h⟩

set_option maxRecDepth 100000 in
set_option maxHeartbeats 4000000 in
theorem sX4_judge_0 {E : aR} {A : Nat → Nat → Int32} {R : Nat → Nat → Option Nat} {G : Nat → Nat × Nat} (hG : aGS G) (x1 : Int32) (x2 : Int32) (x3 : Int32)
    (h : ((0 ≤ x1 ∧ x1 ≤ 59) → (((0 ≤ x2 ∧ x2 ≤ 1023) → (((0 ≤ x3 ∧ x3 ≤ 99) → ((((A 1 9) < 6) → ((vp_in (A 1 9) 6) ∧ (aw tX4_judge E 104 [some (.ref 0), some (.int x1), some (.int x2), some (.int x3), some (.int (A 1 9))] [] ((au (au (au (au A 2 (A 1 9).toNatClampNeg (x1 / 10)) 3 (A 1 9).toNatClampNeg (x1 - x1 / 10 * 10)) 4 (A 1 9).toNatClampNeg x2) 5 (A 1 9).toNatClampNeg x3), R, G)))) ∧ ((¬ ((A 1 9) < 6)) → (E (some (.int (-4))) (A, R, G))))) ∧ ((¬ (0 ≤ x3 ∧ x3 ≤ 99)) → (E (some (.int (-2))) (A, R, G))))) ∧ ((¬ (0 ≤ x2 ∧ x2 ≤ 1023)) → (E (some (.int (-2))) (A, R, G))))) ∧ ((¬ (0 ≤ x1 ∧ x1 ≤ 59)) → (E (some (.int (-2))) (A, R, G)))) :
    aw tX4_judge E 0 [some (.ref 0), some (.int x1), some (.int x2), some (.int x3), none] [] (A, R, G) := by
  by_cases c1 : 0 ≤ x1 ∧ x1 ≤ 59
  · replace h := h.1 c1
    by_cases c2 : 0 ≤ x2 ∧ x2 ≤ 1023
    · replace h := h.1 c2
      by_cases c3 : 0 ≤ x3 ∧ x3 ≤ 99
      · replace h := h.1 c3
        by_cases c4 : (A 1 9) < 6
        · replace h := h.1 c4
          obtain ⟨q5, h⟩ := h
          obtain ⟨n, h⟩ := h
          exact ⟨n + 50, Exists.intro _ (Exists.intro _ (And.intro (Nat.le_of_ble_eq_true rfl) (And.intro (Nat.le_of_ble_eq_true rfl) (And.intro (pX4_within _ _ _) (Or.inr (And.intro (bI_neq c1) (Exists.intro _ (Exists.intro _ (And.intro (Nat.le_of_ble_eq_true rfl) (And.intro (Nat.le_of_ble_eq_true rfl) (And.intro (pX4_isSet _) (Or.inr (And.intro (bI_neq c2) (Exists.intro _ (Exists.intro _ (And.intro (Nat.le_of_ble_eq_true rfl) (And.intro (Nat.le_of_ble_eq_true rfl) (And.intro (pX4_within _ _ _) (Or.inl (And.intro (bI_ne c3) (And.intro (gt0 hG) (And.intro (gt1 hG) (Or.inl (And.intro c4 (And.intro (gt0 hG) (And.intro (gt1 hG) (And.intro (gt0 hG) (And.intro (gt1 hG) (And.intro (by decide) (And.intro (gt2 hG) (And.intro (vin_len (gl2 hG) q5) (And.intro (gt0 hG) (And.intro (gt1 hG) (And.intro (by decide) (And.intro (gt3 hG) (And.intro (vin_len (gl3 hG) q5) (And.intro (gt0 hG) (And.intro (gt1 hG) (And.intro (gt4 hG) (And.intro (vin_len (gl4 hG) q5) (And.intro (gt0 hG) (And.intro (gt1 hG) (And.intro (gt5 hG) (And.intro (vin_len (gl5 hG) q5) (h)))))))))))))))))))))))))))))))))))))))))))))⟩
        · replace h := h.2 c4
          exact ⟨20, Exists.intro _ (Exists.intro _ (And.intro (Nat.le_of_ble_eq_true rfl) (And.intro (Nat.le_of_ble_eq_true rfl) (And.intro (pX4_within _ _ _) (Or.inr (And.intro (bI_neq c1) (Exists.intro _ (Exists.intro _ (And.intro (Nat.le_of_ble_eq_true rfl) (And.intro (Nat.le_of_ble_eq_true rfl) (And.intro (pX4_isSet _) (Or.inr (And.intro (bI_neq c2) (Exists.intro _ (Exists.intro _ (And.intro (Nat.le_of_ble_eq_true rfl) (And.intro (Nat.le_of_ble_eq_true rfl) (And.intro (pX4_within _ _ _) (Or.inl (And.intro (bI_ne c3) (And.intro (gt0 hG) (And.intro (gt1 hG) (Or.inr (And.intro c4 (h)))))))))))))))))))))))))⟩
      · replace h := h.2 c3
        exact ⟨15, Exists.intro _ (Exists.intro _ (And.intro (Nat.le_of_ble_eq_true rfl) (And.intro (Nat.le_of_ble_eq_true rfl) (And.intro (pX4_within _ _ _) (Or.inr (And.intro (bI_neq c1) (Exists.intro _ (Exists.intro _ (And.intro (Nat.le_of_ble_eq_true rfl) (And.intro (Nat.le_of_ble_eq_true rfl) (And.intro (pX4_isSet _) (Or.inr (And.intro (bI_neq c2) (Exists.intro _ (Exists.intro _ (And.intro (Nat.le_of_ble_eq_true rfl) (And.intro (Nat.le_of_ble_eq_true rfl) (And.intro (pX4_within _ _ _) (Or.inr (And.intro (bI_nne c3) (h)))))))))))))))))))))⟩
    · replace h := h.2 c2
      exact ⟨10, Exists.intro _ (Exists.intro _ (And.intro (Nat.le_of_ble_eq_true rfl) (And.intro (Nat.le_of_ble_eq_true rfl) (And.intro (pX4_within _ _ _) (Or.inr (And.intro (bI_neq c1) (Exists.intro _ (Exists.intro _ (And.intro (Nat.le_of_ble_eq_true rfl) (And.intro (Nat.le_of_ble_eq_true rfl) (And.intro (pX4_isSet _) (Or.inl (And.intro (bI_eq c2) (h))))))))))))))⟩
  · replace h := h.2 c1
    exact ⟨7, Exists.intro _ (Exists.intro _ (And.intro (Nat.le_of_ble_eq_true rfl) (And.intro (Nat.le_of_ble_eq_true rfl) (And.intro (pX4_within _ _ _) (Or.inl (And.intro (bI_eq c1) (h)))))))⟩

set_option maxRecDepth 100000 in
set_option maxHeartbeats 4000000 in
theorem sX4_judge_104 {E : aR} {A : Nat → Nat → Int32} {R : Nat → Nat → Option Nat} {G : Nat → Nat × Nat} (hG : aGS G) (d1 : Option Value) (d2 : Option Value) (d3 : Option Value) (x4 : Int32)
    (h : (vp_in x4 6) ∧ (E (some (.int x4)) ((au (au A 6 x4.toNatClampNeg 0) 1 9 ((((au A 6 x4.toNatClampNeg 0)) 1 9) + 1)), R, G))) :
    aw tX4_judge E 104 [some (.ref 0), d1, d2, d3, some (.int x4)] [] (A, R, G) := by
  obtain ⟨q1, h⟩ := h
  exact ⟨15, And.intro (gt0 hG) (And.intro (gt1 hG) (And.intro (gt6 hG) (And.intro (vin_len (gl6 hG) q1) (And.intro (gt0 hG) (And.intro rfl (And.intro (gt1 hG) (And.intro (gt1 hG) (h))))))))⟩

set_option maxRecDepth 100000 in
set_option maxHeartbeats 4000000 in
theorem sX4_file_0 {E : aR} {A : Nat → Nat → Int32} {R : Nat → Nat → Option Nat} {G : Nat → Nat × Nat} (x1 : Int32) (x2 : Int32)
    (h : ((1 ≤ x1 ∧ x1 ≤ 1023) → (((0 ≤ x2 ∧ x2 ≤ 99) → (aw tX4_file E 26 [some (.ref 0), some (.int x1), some (.int x2), some (.int 0)] [] (A, R, G))) ∧ ((¬ (0 ≤ x2 ∧ x2 ≤ 99)) → (E (some (.int (-2))) (A, R, G))))) ∧ ((¬ (1 ≤ x1 ∧ x1 ≤ 1023)) → (E (some (.int (-2))) (A, R, G)))) :
    aw tX4_file E 0 [some (.ref 0), some (.int x1), some (.int x2), none] [] (A, R, G) := by
  by_cases c1 : 1 ≤ x1 ∧ x1 ≤ 1023
  · replace h := h.1 c1
    by_cases c2 : 0 ≤ x2 ∧ x2 ≤ 99
    · replace h := h.1 c2
      obtain ⟨n, h⟩ := h
      exact ⟨n + 12, Exists.intro _ (Exists.intro _ (And.intro (Nat.le_of_ble_eq_true rfl) (And.intro (Nat.le_of_ble_eq_true rfl) (And.intro (pX4_within _ _ _) (Or.inr (And.intro (bI_neq c1) (Exists.intro _ (Exists.intro _ (And.intro (Nat.le_of_ble_eq_true rfl) (And.intro (Nat.le_of_ble_eq_true rfl) (And.intro (pX4_within _ _ _) (Or.inl (And.intro (bI_ne c2) (h))))))))))))))⟩
    · replace h := h.2 c2
      exact ⟨12, Exists.intro _ (Exists.intro _ (And.intro (Nat.le_of_ble_eq_true rfl) (And.intro (Nat.le_of_ble_eq_true rfl) (And.intro (pX4_within _ _ _) (Or.inr (And.intro (bI_neq c1) (Exists.intro _ (Exists.intro _ (And.intro (Nat.le_of_ble_eq_true rfl) (And.intro (Nat.le_of_ble_eq_true rfl) (And.intro (pX4_within _ _ _) (Or.inr (And.intro (bI_nne c2) (h))))))))))))))⟩
  · replace h := h.2 c1
    exact ⟨7, Exists.intro _ (Exists.intro _ (And.intro (Nat.le_of_ble_eq_true rfl) (And.intro (Nat.le_of_ble_eq_true rfl) (And.intro (pX4_within _ _ _) (Or.inl (And.intro (bI_eq c1) (h)))))))⟩

set_option maxRecDepth 100000 in
set_option maxHeartbeats 4000000 in
theorem sX4_file_26 {E : aR} {A : Nat → Nat → Int32} {R : Nat → Nat → Option Nat} {G : Nat → Nat × Nat} (hG : aGS G) (x1 : Int32) (x2 : Int32) (x3 : Int32)
    (h : ((8 ≤ x3) → (E (some (.int (-4))) (A, R, G))) ∧ ((¬ (8 ≤ x3)) → (((thX A 1 x3) → (aw tX4_file E 26 [some (.ref 0), some (.int x1), some (.int x2), some (.int (x3 + 1))] [] (A, R, G))) ∧ ((¬ (thX A 1 x3)) → ((vp_in x3 8) ∧ (aw tX4_file E 88 [some (.ref 0), some (.int x1), some (.int x2), some (.int x3)] [] ((au (au (au (au A 7 x3.toNatClampNeg x1) 8 x3.toNatClampNeg x2) 9 x3.toNatClampNeg 0) 1 10 ((((au (au (au A 7 x3.toNatClampNeg x1) 8 x3.toNatClampNeg x2) 9 x3.toNatClampNeg 0)) 1 10) ||| ((1 : Int32) <<< (x3 &&& 31)))), R, G))))))) :
    aw tX4_file E 26 [some (.ref 0), some (.int x1), some (.int x2), some (.int x3)] [] (A, R, G) := by
  by_cases c1 : 8 ≤ x3
  · replace h := h.1 c1
    exact ⟨5, Or.inl (And.intro c1 (h))⟩
  · replace h := h.2 c1
    by_cases c2 : thX A 1 x3
    · replace h := h.1 c2
      obtain ⟨n, h⟩ := h
      exact ⟨n + 10, Or.inr (And.intro c1 (And.intro (gt0 hG) (Exists.intro _ (Exists.intro _ (Exists.intro _ (Exists.intro _ (And.intro rfl (And.intro (gt1 hG) (And.intro (Nat.le_of_ble_eq_true rfl) (And.intro (pX0_hasCase (gB1 hG) _) (Or.inl (And.intro (bI_ne c2) (h)))))))))))))⟩
    · replace h := h.2 c2
      obtain ⟨q3, h⟩ := h
      obtain ⟨n, h⟩ := h
      exact ⟨n + 35, Or.inr (And.intro c1 (And.intro (gt0 hG) (Exists.intro _ (Exists.intro _ (Exists.intro _ (Exists.intro _ (And.intro rfl (And.intro (gt1 hG) (And.intro (Nat.le_of_ble_eq_true rfl) (And.intro (pX0_hasCase (gB1 hG) _) (Or.inr (And.intro (bI_nne c2) (And.intro (gt0 hG) (And.intro (gt1 hG) (And.intro (gt7 hG) (And.intro (vin_len (gl7 hG) q3) (And.intro (gt0 hG) (And.intro (gt1 hG) (And.intro (gt8 hG) (And.intro (vin_len (gl8 hG) q3) (And.intro (gt0 hG) (And.intro (gt1 hG) (And.intro (gt9 hG) (And.intro (vin_len (gl9 hG) q3) (And.intro (gt0 hG) (And.intro rfl (And.intro (gt1 hG) (And.intro (gt1 hG) (h)))))))))))))))))))))))))))))⟩

set_option maxRecDepth 100000 in
set_option maxHeartbeats 4000000 in
theorem sX4_file_88 {E : aR} {A : Nat → Nat → Int32} {R : Nat → Nat → Option Nat} {G : Nat → Nat × Nat} (d1 : Option Value) (d2 : Option Value) (x3 : Int32)
    (h : E (some (.int x3)) (A, R, G)) :
    aw tX4_file E 88 [some (.ref 0), d1, d2, some (.int x3)] [] (A, R, G) := by
  exact ⟨2, h⟩

set_option maxRecDepth 100000 in
set_option maxHeartbeats 4000000 in
theorem sX4_put_0 {E : aR} {A : Nat → Nat → Int32} {R : Nat → Nat → Option Nat} {G : Nat → Nat × Nat} (hG : aGS G) (x1 : Int32) (x2 : Int32) (x3 : Int32)
    (h : ((0 ≤ x1 ∧ x1 < A 1 9) → (((0 ≤ x2 ∧ x2 ≤ 2) → (((x2 = 0) → (((0 ≤ x3 ∧ x3 ≤ 1023) → ((vp_in x1 6) ∧ (E (some (.int (A 4 x1.toNatClampNeg))) ((au A 4 x1.toNatClampNeg x3), R, G)))) ∧ ((¬ (0 ≤ x3 ∧ x3 ≤ 1023)) → (E (some (.int (-7))) (A, R, G))))) ∧ ((¬ (x2 = 0)) → (((0 ≤ x3 ∧ x3 ≤ 99) → (((x2 = 1) → ((vp_in x1 6) ∧ (E (some (.int (A 5 x1.toNatClampNeg))) ((au A 5 x1.toNatClampNeg x3), R, G)))) ∧ ((¬ (x2 = 1)) → ((vp_in x1 6) ∧ (E (some (.int (A 6 x1.toNatClampNeg))) ((au A 6 x1.toNatClampNeg x3), R, G)))))) ∧ ((¬ (0 ≤ x3 ∧ x3 ≤ 99)) → (E (some (.int (-7))) (A, R, G))))))) ∧ ((¬ (0 ≤ x2 ∧ x2 ≤ 2)) → (E (some (.int (-7))) (A, R, G))))) ∧ ((¬ (0 ≤ x1 ∧ x1 < A 1 9)) → (E (some (.int (-5))) (A, R, G)))) :
    aw tX4_put E 0 [some (.ref 0), some (.int x1), some (.int x2), some (.int x3), none, none] [] (A, R, G) := by
  by_cases c1 : 0 ≤ x1 ∧ x1 < A 1 9
  · replace h := h.1 c1
    by_cases c2 : 0 ≤ x2 ∧ x2 ≤ 2
    · replace h := h.1 c2
      by_cases c3 : x2 = 0
      · replace h := h.1 c3
        by_cases c4 : 0 ≤ x3 ∧ x3 ≤ 1023
        · replace h := h.1 c4
          obtain ⟨q5, h⟩ := h
          exact ⟨35, And.intro (gt0 hG) (Exists.intro _ (Exists.intro _ (Exists.intro _ (Exists.intro _ (And.intro rfl (And.intro (gt1 hG) (And.intro (Nat.le_of_ble_eq_true rfl) (And.intro (pX0_hasJudge (gB1 hG) _) (Or.inl (And.intro (bI_ne c1) (Exists.intro _ (Exists.intro _ (And.intro (Nat.le_of_ble_eq_true rfl) (And.intro (Nat.le_of_ble_eq_true rfl) (And.intro (pX4_within _ _ _) (Or.inr (And.intro (bI_neq c2) (Or.inr (And.intro (fun z => z c3) (Exists.intro _ (Exists.intro _ (And.intro (Nat.le_of_ble_eq_true rfl) (And.intro (Nat.le_of_ble_eq_true rfl) (And.intro (pX4_within _ _ _) (Or.inl (And.intro (bI_ne c4) (Or.inr (And.intro (fun z => z c3) (And.intro (gt0 hG) (And.intro (gt1 hG) (And.intro (gt4 hG) (And.intro (vin_len (gl4 hG) q5) (And.intro (gt4 hG) (And.intro (vin_len (gl4 hG) q5) (h)))))))))))))))))))))))))))))))))))⟩
        · replace h := h.2 c4
          exact ⟨20, And.intro (gt0 hG) (Exists.intro _ (Exists.intro _ (Exists.intro _ (Exists.intro _ (And.intro rfl (And.intro (gt1 hG) (And.intro (Nat.le_of_ble_eq_true rfl) (And.intro (pX0_hasJudge (gB1 hG) _) (Or.inl (And.intro (bI_ne c1) (Exists.intro _ (Exists.intro _ (And.intro (Nat.le_of_ble_eq_true rfl) (And.intro (Nat.le_of_ble_eq_true rfl) (And.intro (pX4_within _ _ _) (Or.inr (And.intro (bI_neq c2) (Or.inr (And.intro (fun z => z c3) (Exists.intro _ (Exists.intro _ (And.intro (Nat.le_of_ble_eq_true rfl) (And.intro (Nat.le_of_ble_eq_true rfl) (And.intro (pX4_within _ _ _) (Or.inr (And.intro (bI_nne c4) (h)))))))))))))))))))))))))))⟩
      · replace h := h.2 c3
        by_cases c6 : 0 ≤ x3 ∧ x3 ≤ 99
        · replace h := h.1 c6
          by_cases c7 : x2 = 1
          · replace h := h.1 c7
            obtain ⟨q8, h⟩ := h
            exact ⟨37, And.intro (gt0 hG) (Exists.intro _ (Exists.intro _ (Exists.intro _ (Exists.intro _ (And.intro rfl (And.intro (gt1 hG) (And.intro (Nat.le_of_ble_eq_true rfl) (And.intro (pX0_hasJudge (gB1 hG) _) (Or.inl (And.intro (bI_ne c1) (Exists.intro _ (Exists.intro _ (And.intro (Nat.le_of_ble_eq_true rfl) (And.intro (Nat.le_of_ble_eq_true rfl) (And.intro (pX4_within _ _ _) (Or.inr (And.intro (bI_neq c2) (Or.inl (And.intro c3 (Exists.intro _ (Exists.intro _ (And.intro (Nat.le_of_ble_eq_true rfl) (And.intro (Nat.le_of_ble_eq_true rfl) (And.intro (pX4_within _ _ _) (Or.inl (And.intro (bI_ne c6) (Or.inl (And.intro c3 (Or.inr (And.intro (fun z => z c7) (And.intro (gt0 hG) (And.intro (gt1 hG) (And.intro (gt5 hG) (And.intro (vin_len (gl5 hG) q8) (And.intro (gt5 hG) (And.intro (vin_len (gl5 hG) q8) (h)))))))))))))))))))))))))))))))))))))⟩
          · replace h := h.2 c7
            obtain ⟨q9, h⟩ := h
            exact ⟨36, And.intro (gt0 hG) (Exists.intro _ (Exists.intro _ (Exists.intro _ (Exists.intro _ (And.intro rfl (And.intro (gt1 hG) (And.intro (Nat.le_of_ble_eq_true rfl) (And.intro (pX0_hasJudge (gB1 hG) _) (Or.inl (And.intro (bI_ne c1) (Exists.intro _ (Exists.intro _ (And.intro (Nat.le_of_ble_eq_true rfl) (And.intro (Nat.le_of_ble_eq_true rfl) (And.intro (pX4_within _ _ _) (Or.inr (And.intro (bI_neq c2) (Or.inl (And.intro c3 (Exists.intro _ (Exists.intro _ (And.intro (Nat.le_of_ble_eq_true rfl) (And.intro (Nat.le_of_ble_eq_true rfl) (And.intro (pX4_within _ _ _) (Or.inl (And.intro (bI_ne c6) (Or.inl (And.intro c3 (Or.inl (And.intro c7 (And.intro (gt0 hG) (And.intro (gt1 hG) (And.intro (gt6 hG) (And.intro (vin_len (gl6 hG) q9) (And.intro (gt6 hG) (And.intro (vin_len (gl6 hG) q9) (h)))))))))))))))))))))))))))))))))))))⟩
        · replace h := h.2 c6
          exact ⟨19, And.intro (gt0 hG) (Exists.intro _ (Exists.intro _ (Exists.intro _ (Exists.intro _ (And.intro rfl (And.intro (gt1 hG) (And.intro (Nat.le_of_ble_eq_true rfl) (And.intro (pX0_hasJudge (gB1 hG) _) (Or.inl (And.intro (bI_ne c1) (Exists.intro _ (Exists.intro _ (And.intro (Nat.le_of_ble_eq_true rfl) (And.intro (Nat.le_of_ble_eq_true rfl) (And.intro (pX4_within _ _ _) (Or.inr (And.intro (bI_neq c2) (Or.inl (And.intro c3 (Exists.intro _ (Exists.intro _ (And.intro (Nat.le_of_ble_eq_true rfl) (And.intro (Nat.le_of_ble_eq_true rfl) (And.intro (pX4_within _ _ _) (Or.inr (And.intro (bI_nne c6) (h)))))))))))))))))))))))))))⟩
    · replace h := h.2 c2
      exact ⟨12, And.intro (gt0 hG) (Exists.intro _ (Exists.intro _ (Exists.intro _ (Exists.intro _ (And.intro rfl (And.intro (gt1 hG) (And.intro (Nat.le_of_ble_eq_true rfl) (And.intro (pX0_hasJudge (gB1 hG) _) (Or.inl (And.intro (bI_ne c1) (Exists.intro _ (Exists.intro _ (And.intro (Nat.le_of_ble_eq_true rfl) (And.intro (Nat.le_of_ble_eq_true rfl) (And.intro (pX4_within _ _ _) (Or.inl (And.intro (bI_eq c2) (h))))))))))))))))))⟩
  · replace h := h.2 c1
    exact ⟨7, And.intro (gt0 hG) (Exists.intro _ (Exists.intro _ (Exists.intro _ (Exists.intro _ (And.intro rfl (And.intro (gt1 hG) (And.intro (Nat.le_of_ble_eq_true rfl) (And.intro (pX0_hasJudge (gB1 hG) _) (Or.inr (And.intro (bI_nne c1) (h)))))))))))⟩

set_option maxRecDepth 100000 in
set_option maxHeartbeats 4000000 in
theorem sX4_told_0 {E : aR} {A : Nat → Nat → Int32} {R : Nat → Nat → Option Nat} {G : Nat → Nat × Nat} (hG : aGS G) (x1 : Int32) (x2 : Int32)
    (h : ((0 ≤ x1 ∧ x1 < A 1 9) → (((x2 = 0) → ((vp_in x1 6) ∧ (E (some (.int (A 4 x1.toNatClampNeg))) (A, R, G)))) ∧ ((¬ (x2 = 0)) → (((x2 = 1) → ((vp_in x1 6) ∧ (E (some (.int (A 5 x1.toNatClampNeg))) (A, R, G)))) ∧ ((¬ (x2 = 1)) → (((x2 = 2) → ((vp_in x1 6) ∧ (E (some (.int (A 6 x1.toNatClampNeg))) (A, R, G)))) ∧ ((¬ (x2 = 2)) → (((x2 = 3) → ((vp_in x1 6) ∧ (E (some (.int (A 2 x1.toNatClampNeg))) (A, R, G)))) ∧ ((¬ (x2 = 3)) → (((x2 = 4) → ((vp_in x1 6) ∧ (E (some (.int (A 3 x1.toNatClampNeg))) (A, R, G)))) ∧ ((¬ (x2 = 4)) → (((x2 = 5) → (∃ (v1 : Int32) (μ1 : aM), CX0_casesFor [.ref 1, .int x1] (A, R, G) (some (.int v1)) μ1 ∧ aw tX4_told E 110 [some (.ref 0), some (.int x1), some (.int x2)] [.int v1] μ1)) ∧ ((¬ (x2 = 5)) → (E (some (.int (-7))) (A, R, G))))))))))))))) ∧ ((¬ (0 ≤ x1 ∧ x1 < A 1 9)) → (E (some (.int (-5))) (A, R, G)))) :
    aw tX4_told E 0 [some (.ref 0), some (.int x1), some (.int x2)] [] (A, R, G) := by
  by_cases c1 : 0 ≤ x1 ∧ x1 < A 1 9
  · replace h := h.1 c1
    by_cases c2 : x2 = 0
    · replace h := h.1 c2
      obtain ⟨q3, h⟩ := h
      exact ⟨13, And.intro (gt0 hG) (Exists.intro _ (Exists.intro _ (Exists.intro _ (Exists.intro _ (And.intro rfl (And.intro (gt1 hG) (And.intro (Nat.le_of_ble_eq_true rfl) (And.intro (pX0_hasJudge (gB1 hG) _) (Or.inl (And.intro (bI_ne c1) (Or.inl (And.intro c2 (And.intro (gt0 hG) (And.intro (gt1 hG) (And.intro (gt4 hG) (And.intro (vin_len (gl4 hG) q3) (h)))))))))))))))))⟩
    · replace h := h.2 c2
      by_cases c4 : x2 = 1
      · replace h := h.1 c4
        obtain ⟨q5, h⟩ := h
        exact ⟨13, And.intro (gt0 hG) (Exists.intro _ (Exists.intro _ (Exists.intro _ (Exists.intro _ (And.intro rfl (And.intro (gt1 hG) (And.intro (Nat.le_of_ble_eq_true rfl) (And.intro (pX0_hasJudge (gB1 hG) _) (Or.inl (And.intro (bI_ne c1) (Or.inr (And.intro c2 (Or.inl (And.intro c4 (And.intro (gt0 hG) (And.intro (gt1 hG) (And.intro (gt5 hG) (And.intro (vin_len (gl5 hG) q5) (h)))))))))))))))))))⟩
      · replace h := h.2 c4
        by_cases c6 : x2 = 2
        · replace h := h.1 c6
          obtain ⟨q7, h⟩ := h
          exact ⟨13, And.intro (gt0 hG) (Exists.intro _ (Exists.intro _ (Exists.intro _ (Exists.intro _ (And.intro rfl (And.intro (gt1 hG) (And.intro (Nat.le_of_ble_eq_true rfl) (And.intro (pX0_hasJudge (gB1 hG) _) (Or.inl (And.intro (bI_ne c1) (Or.inr (And.intro c2 (Or.inr (And.intro c4 (Or.inl (And.intro c6 (And.intro (gt0 hG) (And.intro (gt1 hG) (And.intro (gt6 hG) (And.intro (vin_len (gl6 hG) q7) (h)))))))))))))))))))))⟩
        · replace h := h.2 c6
          by_cases c8 : x2 = 3
          · replace h := h.1 c8
            obtain ⟨q9, h⟩ := h
            exact ⟨13, And.intro (gt0 hG) (Exists.intro _ (Exists.intro _ (Exists.intro _ (Exists.intro _ (And.intro rfl (And.intro (gt1 hG) (And.intro (Nat.le_of_ble_eq_true rfl) (And.intro (pX0_hasJudge (gB1 hG) _) (Or.inl (And.intro (bI_ne c1) (Or.inr (And.intro c2 (Or.inr (And.intro c4 (Or.inr (And.intro c6 (Or.inl (And.intro c8 (And.intro (gt0 hG) (And.intro (gt1 hG) (And.intro (gt2 hG) (And.intro (vin_len (gl2 hG) q9) (h)))))))))))))))))))))))⟩
          · replace h := h.2 c8
            by_cases c10 : x2 = 4
            · replace h := h.1 c10
              obtain ⟨q11, h⟩ := h
              exact ⟨13, And.intro (gt0 hG) (Exists.intro _ (Exists.intro _ (Exists.intro _ (Exists.intro _ (And.intro rfl (And.intro (gt1 hG) (And.intro (Nat.le_of_ble_eq_true rfl) (And.intro (pX0_hasJudge (gB1 hG) _) (Or.inl (And.intro (bI_ne c1) (Or.inr (And.intro c2 (Or.inr (And.intro c4 (Or.inr (And.intro c6 (Or.inr (And.intro c8 (Or.inl (And.intro c10 (And.intro (gt0 hG) (And.intro (gt1 hG) (And.intro (gt3 hG) (And.intro (vin_len (gl3 hG) q11) (h)))))))))))))))))))))))))⟩
            · replace h := h.2 c10
              by_cases c12 : x2 = 5
              · replace h := h.1 c12
                obtain ⟨v1, μ1, h1, n, h⟩ := h
                exact ⟨n + 11, And.intro (gt0 hG) (Exists.intro _ (Exists.intro _ (Exists.intro _ (Exists.intro _ (And.intro rfl (And.intro (gt1 hG) (And.intro (Nat.le_of_ble_eq_true rfl) (And.intro (pX0_hasJudge (gB1 hG) _) (Or.inl (And.intro (bI_ne c1) (Or.inr (And.intro c2 (Or.inr (And.intro c4 (Or.inr (And.intro c6 (Or.inr (And.intro c8 (Or.inr (And.intro c10 (Or.inl (And.intro c12 (And.intro (gt0 hG) (Exists.intro _ (Exists.intro _ (Exists.intro _ (Exists.intro _ (And.intro rfl (And.intro (gt1 hG) (And.intro (Nat.le_of_ble_eq_true rfl) (And.intro h1 (h))))))))))))))))))))))))))))))))⟩
              · replace h := h.2 c12
                exact ⟨9, And.intro (gt0 hG) (Exists.intro _ (Exists.intro _ (Exists.intro _ (Exists.intro _ (And.intro rfl (And.intro (gt1 hG) (And.intro (Nat.le_of_ble_eq_true rfl) (And.intro (pX0_hasJudge (gB1 hG) _) (Or.inl (And.intro (bI_ne c1) (Or.inr (And.intro c2 (Or.inr (And.intro c4 (Or.inr (And.intro c6 (Or.inr (And.intro c8 (Or.inr (And.intro c10 (Or.inr (And.intro c12 (h)))))))))))))))))))))))⟩
  · replace h := h.2 c1
    exact ⟨7, And.intro (gt0 hG) (Exists.intro _ (Exists.intro _ (Exists.intro _ (Exists.intro _ (And.intro rfl (And.intro (gt1 hG) (And.intro (Nat.le_of_ble_eq_true rfl) (And.intro (pX0_hasJudge (gB1 hG) _) (Or.inr (And.intro (bI_nne c1) (h)))))))))))⟩

set_option maxRecDepth 100000 in
set_option maxHeartbeats 4000000 in
theorem sX4_told_110 {E : aR} {A : Nat → Nat → Int32} {R : Nat → Nat → Option Nat} {G : Nat → Nat × Nat} (d1 : Option Value) (d2 : Option Value) (y0 : Int32)
    (h : E (some (.int y0)) (A, R, G)) :
    aw tX4_told E 110 [some (.ref 0), d1, d2] [.int y0] (A, R, G) := by
  exact ⟨1, h⟩

set_option maxRecDepth 100000 in
set_option maxHeartbeats 4000000 in
theorem sX4_paper_0 {E : aR} {A : Nat → Nat → Int32} {R : Nat → Nat → Option Nat} {G : Nat → Nat × Nat} (hG : aGS G) (x1 : Int32) (x2 : Int32)
    (h : ((thX A 1 x1) → (((x2 = 0) → ((vp_in x1 8) ∧ (E (some (.int (A 7 x1.toNatClampNeg))) (A, R, G)))) ∧ ((¬ (x2 = 0)) → (((x2 = 1) → ((vp_in x1 8) ∧ (E (some (.int (A 8 x1.toNatClampNeg))) (A, R, G)))) ∧ ((¬ (x2 = 1)) → (((x2 = 2) → ((vp_in x1 8) ∧ (E (some (.int (A 9 x1.toNatClampNeg))) (A, R, G)))) ∧ ((¬ (x2 = 2)) → (((x2 = 3) → (∃ (v1 : Int32) (μ1 : aM), CX0_judgesFor [.ref 1, .int x1] (A, R, G) (some (.int v1)) μ1 ∧ aw tX4_paper E 82 [some (.ref 0), some (.int x1), some (.int x2)] [.int v1] μ1)) ∧ ((¬ (x2 = 3)) → (E (some (.int (-7))) (A, R, G))))))))))) ∧ ((¬ (thX A 1 x1)) → (E (some (.int (-6))) (A, R, G)))) :
    aw tX4_paper E 0 [some (.ref 0), some (.int x1), some (.int x2)] [] (A, R, G) := by
  by_cases c1 : thX A 1 x1
  · replace h := h.1 c1
    by_cases c2 : x2 = 0
    · replace h := h.1 c2
      obtain ⟨q3, h⟩ := h
      exact ⟨13, And.intro (gt0 hG) (Exists.intro _ (Exists.intro _ (Exists.intro _ (Exists.intro _ (And.intro rfl (And.intro (gt1 hG) (And.intro (Nat.le_of_ble_eq_true rfl) (And.intro (pX0_hasCase (gB1 hG) _) (Or.inl (And.intro (bI_ne c1) (Or.inl (And.intro c2 (And.intro (gt0 hG) (And.intro (gt1 hG) (And.intro (gt7 hG) (And.intro (vin_len (gl7 hG) q3) (h)))))))))))))))))⟩
    · replace h := h.2 c2
      by_cases c4 : x2 = 1
      · replace h := h.1 c4
        obtain ⟨q5, h⟩ := h
        exact ⟨13, And.intro (gt0 hG) (Exists.intro _ (Exists.intro _ (Exists.intro _ (Exists.intro _ (And.intro rfl (And.intro (gt1 hG) (And.intro (Nat.le_of_ble_eq_true rfl) (And.intro (pX0_hasCase (gB1 hG) _) (Or.inl (And.intro (bI_ne c1) (Or.inr (And.intro c2 (Or.inl (And.intro c4 (And.intro (gt0 hG) (And.intro (gt1 hG) (And.intro (gt8 hG) (And.intro (vin_len (gl8 hG) q5) (h)))))))))))))))))))⟩
      · replace h := h.2 c4
        by_cases c6 : x2 = 2
        · replace h := h.1 c6
          obtain ⟨q7, h⟩ := h
          exact ⟨13, And.intro (gt0 hG) (Exists.intro _ (Exists.intro _ (Exists.intro _ (Exists.intro _ (And.intro rfl (And.intro (gt1 hG) (And.intro (Nat.le_of_ble_eq_true rfl) (And.intro (pX0_hasCase (gB1 hG) _) (Or.inl (And.intro (bI_ne c1) (Or.inr (And.intro c2 (Or.inr (And.intro c4 (Or.inl (And.intro c6 (And.intro (gt0 hG) (And.intro (gt1 hG) (And.intro (gt9 hG) (And.intro (vin_len (gl9 hG) q7) (h)))))))))))))))))))))⟩
        · replace h := h.2 c6
          by_cases c8 : x2 = 3
          · replace h := h.1 c8
            obtain ⟨v1, μ1, h1, n, h⟩ := h
            exact ⟨n + 11, And.intro (gt0 hG) (Exists.intro _ (Exists.intro _ (Exists.intro _ (Exists.intro _ (And.intro rfl (And.intro (gt1 hG) (And.intro (Nat.le_of_ble_eq_true rfl) (And.intro (pX0_hasCase (gB1 hG) _) (Or.inl (And.intro (bI_ne c1) (Or.inr (And.intro c2 (Or.inr (And.intro c4 (Or.inr (And.intro c6 (Or.inl (And.intro c8 (And.intro (gt0 hG) (Exists.intro _ (Exists.intro _ (Exists.intro _ (Exists.intro _ (And.intro rfl (And.intro (gt1 hG) (And.intro (Nat.le_of_ble_eq_true rfl) (And.intro h1 (h))))))))))))))))))))))))))))⟩
          · replace h := h.2 c8
            exact ⟨9, And.intro (gt0 hG) (Exists.intro _ (Exists.intro _ (Exists.intro _ (Exists.intro _ (And.intro rfl (And.intro (gt1 hG) (And.intro (Nat.le_of_ble_eq_true rfl) (And.intro (pX0_hasCase (gB1 hG) _) (Or.inl (And.intro (bI_ne c1) (Or.inr (And.intro c2 (Or.inr (And.intro c4 (Or.inr (And.intro c6 (Or.inr (And.intro c8 (h)))))))))))))))))))⟩
  · replace h := h.2 c1
    exact ⟨7, And.intro (gt0 hG) (Exists.intro _ (Exists.intro _ (Exists.intro _ (Exists.intro _ (And.intro rfl (And.intro (gt1 hG) (And.intro (Nat.le_of_ble_eq_true rfl) (And.intro (pX0_hasCase (gB1 hG) _) (Or.inr (And.intro (bI_nne c1) (h)))))))))))⟩

set_option maxRecDepth 100000 in
set_option maxHeartbeats 4000000 in
theorem sX4_paper_82 {E : aR} {A : Nat → Nat → Int32} {R : Nat → Nat → Option Nat} {G : Nat → Nat × Nat} (d1 : Option Value) (d2 : Option Value) (y0 : Int32)
    (h : E (some (.int y0)) (A, R, G)) :
    aw tX4_paper E 82 [some (.ref 0), d1, d2] [.int y0] (A, R, G) := by
  exact ⟨1, h⟩

set_option maxRecDepth 100000 in
set_option maxHeartbeats 4000000 in
theorem sX4_hearing_0 {E : aR} {A : Nat → Nat → Int32} {R : Nat → Nat → Option Nat} {G : Nat → Nat × Nat} (hG : aGS G) (x1 : Int32) (x2 : Int32) (x3 : Int32)
    (h : ((0 ≤ x1 ∧ x1 < A 1 9) → (((thX A 1 x2) → (((x3 = 0) → (∃ (v1 : Int32) (μ1 : aM), CX0_may [.ref 1, .int x1, .int x2] (A, R, G) (some (.int v1)) μ1 ∧ aw tX4_hearing E 65 [some (.ref 0), some (.int x1), some (.int x2), some (.int x3)] [.int v1] μ1)) ∧ ((¬ (x3 = 0)) → (((x3 = 1) → (∃ (v1 : Int32) (μ1 : aM), CX0_daysFor [.ref 1, .int x1, .int x2] (A, R, G) (some (.int v1)) μ1 ∧ aw tX4_hearing E 83 [some (.ref 0), some (.int x1), some (.int x2), some (.int x3)] [.int v1] μ1)) ∧ ((¬ (x3 = 1)) → (((x3 = 2) → (∃ (v1 : Int32) (μ1 : aM), CX0_hardnessOf [.ref 1, .int x1, .int x2] (A, R, G) (some (.int v1)) μ1 ∧ aw tX4_hearing E 96 [some (.ref 0), some (.int x1), some (.int x2), some (.int x3)] [.int v1, .int 1000] μ1)) ∧ ((¬ (x3 = 2)) → (E (some (.int (-7))) (A, R, G))))))))) ∧ ((¬ (thX A 1 x2)) → (E (some (.int (-6))) (A, R, G))))) ∧ ((¬ (0 ≤ x1 ∧ x1 < A 1 9)) → (E (some (.int (-5))) (A, R, G)))) :
    aw tX4_hearing E 0 [some (.ref 0), some (.int x1), some (.int x2), some (.int x3)] [] (A, R, G) := by
  by_cases c1 : 0 ≤ x1 ∧ x1 < A 1 9
  · replace h := h.1 c1
    by_cases c2 : thX A 1 x2
    · replace h := h.1 c2
      by_cases c3 : x3 = 0
      · replace h := h.1 c3
        obtain ⟨v1, μ1, h1, n, h⟩ := h
        exact ⟨n + 17, And.intro (gt0 hG) (Exists.intro _ (Exists.intro _ (Exists.intro _ (Exists.intro _ (And.intro rfl (And.intro (gt1 hG) (And.intro (Nat.le_of_ble_eq_true rfl) (And.intro (pX0_hasJudge (gB1 hG) _) (Or.inl (And.intro (bI_ne c1) (And.intro (gt0 hG) (Exists.intro _ (Exists.intro _ (Exists.intro _ (Exists.intro _ (And.intro rfl (And.intro (gt1 hG) (And.intro (Nat.le_of_ble_eq_true rfl) (And.intro (pX0_hasCase (gB1 hG) _) (Or.inl (And.intro (bI_ne c2) (Or.inl (And.intro c3 (And.intro (gt0 hG) (Exists.intro _ (Exists.intro _ (Exists.intro _ (Exists.intro _ (And.intro rfl (And.intro (gt1 hG) (And.intro (Nat.le_of_ble_eq_true rfl) (And.intro h1 (h)))))))))))))))))))))))))))))))))⟩
      · replace h := h.2 c3
        by_cases c4 : x3 = 1
        · replace h := h.1 c4
          obtain ⟨v1, μ1, h1, n, h⟩ := h
          exact ⟨n + 17, And.intro (gt0 hG) (Exists.intro _ (Exists.intro _ (Exists.intro _ (Exists.intro _ (And.intro rfl (And.intro (gt1 hG) (And.intro (Nat.le_of_ble_eq_true rfl) (And.intro (pX0_hasJudge (gB1 hG) _) (Or.inl (And.intro (bI_ne c1) (And.intro (gt0 hG) (Exists.intro _ (Exists.intro _ (Exists.intro _ (Exists.intro _ (And.intro rfl (And.intro (gt1 hG) (And.intro (Nat.le_of_ble_eq_true rfl) (And.intro (pX0_hasCase (gB1 hG) _) (Or.inl (And.intro (bI_ne c2) (Or.inr (And.intro c3 (Or.inl (And.intro c4 (And.intro (gt0 hG) (Exists.intro _ (Exists.intro _ (Exists.intro _ (Exists.intro _ (And.intro rfl (And.intro (gt1 hG) (And.intro (Nat.le_of_ble_eq_true rfl) (And.intro h1 (h)))))))))))))))))))))))))))))))))))⟩
        · replace h := h.2 c4
          by_cases c5 : x3 = 2
          · replace h := h.1 c5
            obtain ⟨v1, μ1, h1, n, h⟩ := h
            exact ⟨n + 18, And.intro (gt0 hG) (Exists.intro _ (Exists.intro _ (Exists.intro _ (Exists.intro _ (And.intro rfl (And.intro (gt1 hG) (And.intro (Nat.le_of_ble_eq_true rfl) (And.intro (pX0_hasJudge (gB1 hG) _) (Or.inl (And.intro (bI_ne c1) (And.intro (gt0 hG) (Exists.intro _ (Exists.intro _ (Exists.intro _ (Exists.intro _ (And.intro rfl (And.intro (gt1 hG) (And.intro (Nat.le_of_ble_eq_true rfl) (And.intro (pX0_hasCase (gB1 hG) _) (Or.inl (And.intro (bI_ne c2) (Or.inr (And.intro c3 (Or.inr (And.intro c4 (Or.inl (And.intro c5 (And.intro (gt0 hG) (Exists.intro _ (Exists.intro _ (Exists.intro _ (Exists.intro _ (And.intro rfl (And.intro (gt1 hG) (And.intro (Nat.le_of_ble_eq_true rfl) (And.intro h1 (h)))))))))))))))))))))))))))))))))))))⟩
          · replace h := h.2 c5
            exact ⟨14, And.intro (gt0 hG) (Exists.intro _ (Exists.intro _ (Exists.intro _ (Exists.intro _ (And.intro rfl (And.intro (gt1 hG) (And.intro (Nat.le_of_ble_eq_true rfl) (And.intro (pX0_hasJudge (gB1 hG) _) (Or.inl (And.intro (bI_ne c1) (And.intro (gt0 hG) (Exists.intro _ (Exists.intro _ (Exists.intro _ (Exists.intro _ (And.intro rfl (And.intro (gt1 hG) (And.intro (Nat.le_of_ble_eq_true rfl) (And.intro (pX0_hasCase (gB1 hG) _) (Or.inl (And.intro (bI_ne c2) (Or.inr (And.intro c3 (Or.inr (And.intro c4 (Or.inr (And.intro c5 (h))))))))))))))))))))))))))))⟩
    · replace h := h.2 c2
      exact ⟨12, And.intro (gt0 hG) (Exists.intro _ (Exists.intro _ (Exists.intro _ (Exists.intro _ (And.intro rfl (And.intro (gt1 hG) (And.intro (Nat.le_of_ble_eq_true rfl) (And.intro (pX0_hasJudge (gB1 hG) _) (Or.inl (And.intro (bI_ne c1) (And.intro (gt0 hG) (Exists.intro _ (Exists.intro _ (Exists.intro _ (Exists.intro _ (And.intro rfl (And.intro (gt1 hG) (And.intro (Nat.le_of_ble_eq_true rfl) (And.intro (pX0_hasCase (gB1 hG) _) (Or.inr (And.intro (bI_nne c2) (h))))))))))))))))))))))⟩
  · replace h := h.2 c1
    exact ⟨7, And.intro (gt0 hG) (Exists.intro _ (Exists.intro _ (Exists.intro _ (Exists.intro _ (And.intro rfl (And.intro (gt1 hG) (And.intro (Nat.le_of_ble_eq_true rfl) (And.intro (pX0_hasJudge (gB1 hG) _) (Or.inr (And.intro (bI_nne c1) (h)))))))))))⟩

set_option maxRecDepth 100000 in
set_option maxHeartbeats 4000000 in
theorem sX4_hearing_65 {E : aR} {A : Nat → Nat → Int32} {R : Nat → Nat → Option Nat} {G : Nat → Nat × Nat} (d1 : Option Value) (d2 : Option Value) (d3 : Option Value) (y0 : Int32)
    (h : ((y0 = 0) → (E (some (.int 0)) (A, R, G))) ∧ ((¬ (y0 = 0)) → (E (some (.int 1)) (A, R, G)))) :
    aw tX4_hearing E 65 [some (.ref 0), d1, d2, d3] [.int y0] (A, R, G) := by
  by_cases c1 : y0 = 0
  · replace h := h.1 c1
    exact ⟨3, Or.inl (And.intro c1 (h))⟩
  · replace h := h.2 c1
    exact ⟨4, Or.inr (And.intro c1 (h))⟩

set_option maxRecDepth 100000 in
set_option maxHeartbeats 4000000 in
theorem sX4_hearing_83 {E : aR} {A : Nat → Nat → Int32} {R : Nat → Nat → Option Nat} {G : Nat → Nat × Nat} (d1 : Option Value) (d2 : Option Value) (d3 : Option Value) (y0 : Int32)
    (h : E (some (.int y0)) (A, R, G)) :
    aw tX4_hearing E 83 [some (.ref 0), d1, d2, d3] [.int y0] (A, R, G) := by
  exact ⟨1, h⟩

set_option maxRecDepth 100000 in
set_option maxHeartbeats 4000000 in
theorem sX4_hearing_96 {E : aR} {A : Nat → Nat → Int32} {R : Nat → Nat → Option Nat} {G : Nat → Nat × Nat} (d1 : Option Value) (d2 : Option Value) (d3 : Option Value) (y0 : Int32) (y1 : Int32)
    (h : E (some (.int (y1 + y0))) (A, R, G)) :
    aw tX4_hearing E 96 [some (.ref 0), d1, d2, d3] [.int y0, .int y1] (A, R, G) := by
  exact ⟨2, h⟩

set_option maxRecDepth 100000 in
set_option maxHeartbeats 4000000 in
theorem sX4_hear_0 {E : aR} {A : Nat → Nat → Int32} {R : Nat → Nat → Option Nat} {G : Nat → Nat × Nat} (hG : aGS G) (x1 : Int32) (x2 : Int32)
    (h : ((0 ≤ x1 ∧ x1 < A 1 9) → (((thX A 1 x2) → (∃ (v1 : Int32) (μ1 : aM), CX0_can [.ref 1, .int x1, .int x2] (A, R, G) (some (.int v1)) μ1 ∧ aw tX4_hear E 37 [some (.ref 0), some (.int x1), some (.int x2)] [.int v1] μ1)) ∧ ((¬ (thX A 1 x2)) → (E (some (.int (-6))) (A, R, G))))) ∧ ((¬ (0 ≤ x1 ∧ x1 < A 1 9)) → (E (some (.int (-5))) (A, R, G)))) :
    aw tX4_hear E 0 [some (.ref 0), some (.int x1), some (.int x2)] [] (A, R, G) := by
  by_cases c1 : 0 ≤ x1 ∧ x1 < A 1 9
  · replace h := h.1 c1
    by_cases c2 : thX A 1 x2
    · replace h := h.1 c2
      obtain ⟨v1, μ1, h1, n, h⟩ := h
      exact ⟨n + 15, And.intro (gt0 hG) (Exists.intro _ (Exists.intro _ (Exists.intro _ (Exists.intro _ (And.intro rfl (And.intro (gt1 hG) (And.intro (Nat.le_of_ble_eq_true rfl) (And.intro (pX0_hasJudge (gB1 hG) _) (Or.inl (And.intro (bI_ne c1) (And.intro (gt0 hG) (Exists.intro _ (Exists.intro _ (Exists.intro _ (Exists.intro _ (And.intro rfl (And.intro (gt1 hG) (And.intro (Nat.le_of_ble_eq_true rfl) (And.intro (pX0_hasCase (gB1 hG) _) (Or.inl (And.intro (bI_ne c2) (And.intro (gt0 hG) (Exists.intro _ (Exists.intro _ (Exists.intro _ (Exists.intro _ (And.intro rfl (And.intro (gt1 hG) (And.intro (Nat.le_of_ble_eq_true rfl) (And.intro h1 (h)))))))))))))))))))))))))))))))⟩
    · replace h := h.2 c2
      exact ⟨12, And.intro (gt0 hG) (Exists.intro _ (Exists.intro _ (Exists.intro _ (Exists.intro _ (And.intro rfl (And.intro (gt1 hG) (And.intro (Nat.le_of_ble_eq_true rfl) (And.intro (pX0_hasJudge (gB1 hG) _) (Or.inl (And.intro (bI_ne c1) (And.intro (gt0 hG) (Exists.intro _ (Exists.intro _ (Exists.intro _ (Exists.intro _ (And.intro rfl (And.intro (gt1 hG) (And.intro (Nat.le_of_ble_eq_true rfl) (And.intro (pX0_hasCase (gB1 hG) _) (Or.inr (And.intro (bI_nne c2) (h))))))))))))))))))))))⟩
  · replace h := h.2 c1
    exact ⟨7, And.intro (gt0 hG) (Exists.intro _ (Exists.intro _ (Exists.intro _ (Exists.intro _ (And.intro rfl (And.intro (gt1 hG) (And.intro (Nat.le_of_ble_eq_true rfl) (And.intro (pX0_hasJudge (gB1 hG) _) (Or.inr (And.intro (bI_nne c1) (h)))))))))))⟩

set_option maxRecDepth 100000 in
set_option maxHeartbeats 4000000 in
theorem sX4_hear_37 {E : aR} {A : Nat → Nat → Int32} {R : Nat → Nat → Option Nat} {G : Nat → Nat × Nat} (hG : aGS G) (x1 : Int32) (x2 : Int32) (y0 : Int32)
    (h : ((y0 = 0) → (E (some (.int (-3))) (A, R, G))) ∧ ((¬ (y0 = 0)) → (∃ (v1 : Int32) (μ1 : aM), CX0_hold [.ref 1, .int x1, .int x2] (A, R, G) (some (.int v1)) μ1 ∧ aw tX4_hear E 55 [some (.ref 0), some (.int x1), some (.int x2)] [.int v1, .int 1000] μ1))) :
    aw tX4_hear E 37 [some (.ref 0), some (.int x1), some (.int x2)] [.int y0] (A, R, G) := by
  by_cases c1 : y0 = 0
  · replace h := h.1 c1
    exact ⟨3, Or.inr (And.intro (fun z => z c1) (h))⟩
  · replace h := h.2 c1
    obtain ⟨v1, μ1, h1, n, h⟩ := h
    exact ⟨n + 7, Or.inl (And.intro c1 (And.intro (gt0 hG) (Exists.intro _ (Exists.intro _ (Exists.intro _ (Exists.intro _ (And.intro rfl (And.intro (gt1 hG) (And.intro (Nat.le_of_ble_eq_true rfl) (And.intro h1 (h)))))))))))⟩

set_option maxRecDepth 100000 in
set_option maxHeartbeats 4000000 in
theorem sX4_hear_55 {E : aR} {A : Nat → Nat → Int32} {R : Nat → Nat → Option Nat} {G : Nat → Nat × Nat} (d1 : Option Value) (d2 : Option Value) (y0 : Int32) (y1 : Int32)
    (h : E (some (.int (y1 + y0))) (A, R, G)) :
    aw tX4_hear E 55 [some (.ref 0), d1, d2] [.int y0, .int y1] (A, R, G) := by
  exact ⟨2, h⟩

set_option maxRecDepth 100000 in
set_option maxHeartbeats 4000000 in
theorem sX4_rob_0 {E : aR} {A : Nat → Nat → Int32} {R : Nat → Nat → Option Nat} {G : Nat → Nat × Nat} (hG : aGS G) (x1 : Int32) (x2 : Int32)
    (h : ((0 ≤ x1 ∧ x1 < A 1 9) → (((0 ≤ x2 ∧ x2 ≤ 1023) → ((vp_in x1 6) ∧ (E (some (.int ((au A 4 x1.toNatClampNeg ((A 4 x1.toNatClampNeg) ^^^ x2)) 4 x1.toNatClampNeg))) ((au A 4 x1.toNatClampNeg ((A 4 x1.toNatClampNeg) ^^^ x2)), R, G)))) ∧ ((¬ (0 ≤ x2 ∧ x2 ≤ 1023)) → (E (some (.int (-7))) (A, R, G))))) ∧ ((¬ (0 ≤ x1 ∧ x1 < A 1 9)) → (E (some (.int (-5))) (A, R, G)))) :
    aw tX4_rob E 0 [some (.ref 0), some (.int x1), some (.int x2)] [] (A, R, G) := by
  by_cases c1 : 0 ≤ x1 ∧ x1 < A 1 9
  · replace h := h.1 c1
    by_cases c2 : 0 ≤ x2 ∧ x2 ≤ 1023
    · replace h := h.1 c2
      obtain ⟨q3, h⟩ := h
      exact ⟨23, And.intro (gt0 hG) (Exists.intro _ (Exists.intro _ (Exists.intro _ (Exists.intro _ (And.intro rfl (And.intro (gt1 hG) (And.intro (Nat.le_of_ble_eq_true rfl) (And.intro (pX0_hasJudge (gB1 hG) _) (Or.inl (And.intro (bI_ne c1) (Exists.intro _ (Exists.intro _ (And.intro (Nat.le_of_ble_eq_true rfl) (And.intro (Nat.le_of_ble_eq_true rfl) (And.intro (pX4_isSet _) (Or.inl (And.intro (bI_ne c2) (And.intro (gt0 hG) (And.intro (gt1 hG) (And.intro rfl (And.intro rfl (And.intro (gt4 hG) (And.intro (vin_len (gl4 hG) q3) (And.intro (gt4 hG) (And.intro (vin_len (gl4 hG) q3) (And.intro (gt0 hG) (And.intro (gt1 hG) (And.intro (gt4 hG) (And.intro (vin_len (gl4 hG) q3) (h))))))))))))))))))))))))))))))⟩
    · replace h := h.2 c2
      exact ⟨10, And.intro (gt0 hG) (Exists.intro _ (Exists.intro _ (Exists.intro _ (Exists.intro _ (And.intro rfl (And.intro (gt1 hG) (And.intro (Nat.le_of_ble_eq_true rfl) (And.intro (pX0_hasJudge (gB1 hG) _) (Or.inl (And.intro (bI_ne c1) (Exists.intro _ (Exists.intro _ (And.intro (Nat.le_of_ble_eq_true rfl) (And.intro (Nat.le_of_ble_eq_true rfl) (And.intro (pX4_isSet _) (Or.inr (And.intro (bI_nne c2) (h))))))))))))))))))⟩
  · replace h := h.2 c1
    exact ⟨7, And.intro (gt0 hG) (Exists.intro _ (Exists.intro _ (Exists.intro _ (Exists.intro _ (And.intro rfl (And.intro (gt1 hG) (And.intro (Nat.le_of_ble_eq_true rfl) (And.intro (pX0_hasJudge (gB1 hG) _) (Or.inr (And.intro (bI_nne c1) (h)))))))))))⟩

set_option maxRecDepth 100000 in
set_option maxHeartbeats 4000000 in
theorem sX4_day_0 {E : aR} {A : Nat → Nat → Int32} {R : Nat → Nat → Option Nat} {G : Nat → Nat × Nat} (hG : aGS G)
    (h : (((A 1 11) < 999) → (∃ (v1 : Int32) (μ1 : aM), CX0_passDay [.ref 1] (A, R, G) (some (.int v1)) μ1 ∧ aw tX4_day E 23 [some (.ref 0)] [.int v1] μ1)) ∧ ((¬ ((A 1 11) < 999)) → (E (some (.int (-3))) (A, R, G)))) :
    aw tX4_day E 0 [some (.ref 0)] [] (A, R, G) := by
  by_cases c1 : (A 1 11) < 999
  · replace h := h.1 c1
    obtain ⟨v1, μ1, h1, n, h⟩ := h
    exact ⟨n + 8, And.intro (gt0 hG) (And.intro (gt1 hG) (Or.inl (And.intro c1 (And.intro (gt0 hG) (Exists.intro _ (Exists.intro _ (Exists.intro _ (Exists.intro _ (And.intro rfl (And.intro (gt1 hG) (And.intro (Nat.le_of_ble_eq_true rfl) (And.intro h1 (h)))))))))))))⟩
  · replace h := h.2 c1
    exact ⟨7, And.intro (gt0 hG) (And.intro (gt1 hG) (Or.inr (And.intro c1 (h))))⟩

set_option maxRecDepth 100000 in
set_option maxHeartbeats 4000000 in
theorem sX4_day_23 {E : aR} {A : Nat → Nat → Int32} {R : Nat → Nat → Option Nat} {G : Nat → Nat × Nat} (y0 : Int32)
    (h : E (some (.int y0)) (A, R, G)) :
    aw tX4_day E 23 [some (.ref 0)] [.int y0] (A, R, G) := by
  exact ⟨1, h⟩

set_option maxRecDepth 100000 in
set_option maxHeartbeats 4000000 in
theorem sX4_run_0 {E : aR} {A : Nat → Nat → Int32} {R : Nat → Nat → Option Nat} {G : Nat → Nat × Nat} (hG : aGS G) (x1 : Int32) (x2 : Int32)
    (h : ((0 ≤ x1 ∧ x1 ≤ 40) → (∃ (v1 : Int32) (μ1 : aM), CX4_canRunTell [.ref 0, .int x2] (A, R, G) (some (.int v1)) μ1 ∧ aw tX4_run E 15 [some (.ref 0), some (.int x1), some (.int x2), none] [.int v1] μ1)) ∧ ((¬ (0 ≤ x1 ∧ x1 ≤ 40)) → (E (some (.int (-2))) (A, R, G)))) :
    aw tX4_run E 0 [some (.ref 0), some (.int x1), some (.int x2), none] [] (A, R, G) := by
  by_cases c1 : 0 ≤ x1 ∧ x1 ≤ 40
  · replace h := h.1 c1
    obtain ⟨v1, μ1, h1, n, h⟩ := h
    exact ⟨n + 8, Exists.intro _ (Exists.intro _ (And.intro (Nat.le_of_ble_eq_true rfl) (And.intro (Nat.le_of_ble_eq_true rfl) (And.intro (pX4_within _ _ _) (Or.inr (And.intro (bI_neq c1) (Exists.intro _ (Exists.intro _ (Exists.intro _ (Exists.intro _ (And.intro rfl (And.intro (gt0 hG) (And.intro (Nat.le_of_ble_eq_true rfl) (And.intro h1 (h)))))))))))))))⟩
  · replace h := h.2 c1
    exact ⟨7, Exists.intro _ (Exists.intro _ (And.intro (Nat.le_of_ble_eq_true rfl) (And.intro (Nat.le_of_ble_eq_true rfl) (And.intro (pX4_within _ _ _) (Or.inl (And.intro (bI_eq c1) (h)))))))⟩

set_option maxRecDepth 100000 in
set_option maxHeartbeats 4000000 in
theorem sX4_run_15 {E : aR} {A : Nat → Nat → Int32} {R : Nat → Nat → Option Nat} {G : Nat → Nat × Nat} (hG : aGS G) (x1 : Int32) (x2 : Int32) (d3 : Option Value) (y0 : Int32)
    (h : ((y0 = 0) → (E (some (.int (-2))) (A, R, G))) ∧ ((¬ (y0 = 0)) → (∃ (μ1 : aM), CX4_think [.ref 0] (A, R, G) none μ1 ∧ aw tX4_run E 25 [some (.ref 0), some (.int x1), some (.int x2), d3] [] μ1))) :
    aw tX4_run E 15 [some (.ref 0), some (.int x1), some (.int x2), d3] [.int y0] (A, R, G) := by
  by_cases c1 : y0 = 0
  · replace h := h.1 c1
    exact ⟨3, Or.inr (And.intro (fun z => z c1) (h))⟩
  · replace h := h.2 c1
    obtain ⟨μ1, h1, n, h⟩ := h
    exact ⟨n + 3, Or.inl (And.intro c1 (Exists.intro _ (Exists.intro _ (Exists.intro _ (Exists.intro _ (And.intro rfl (And.intro (gt0 hG) (And.intro (Nat.le_of_ble_eq_true rfl) (And.intro h1 (h))))))))))⟩

set_option maxRecDepth 100000 in
set_option maxHeartbeats 4000000 in
theorem sX4_run_25 {E : aR} {A : Nat → Nat → Int32} {R : Nat → Nat → Option Nat} {G : Nat → Nat × Nat} (hG : aGS G) (x1 : Int32) (x2 : Int32) (d3 : Option Value)
    (h : ∃ (v1 : Int32) (μ1 : aM), CX4_heardInThought [.ref 0, .int x1] (A, R, G) (some (.int v1)) μ1 ∧ aw tX4_run E 30 [some (.ref 0), some (.int x1), some (.int x2), d3] [.int v1] μ1) :
    aw tX4_run E 25 [some (.ref 0), some (.int x1), some (.int x2), d3] [] (A, R, G) := by
  obtain ⟨v1, μ1, h1, n, h⟩ := h
  exact ⟨n + 3, Exists.intro _ (Exists.intro _ (Exists.intro _ (Exists.intro _ (And.intro rfl (And.intro (gt0 hG) (And.intro (Nat.le_of_ble_eq_true rfl) (And.intro h1 (h))))))))⟩

set_option maxRecDepth 100000 in
set_option maxHeartbeats 4000000 in
theorem sX4_run_30 {E : aR} {A : Nat → Nat → Int32} {R : Nat → Nat → Option Nat} {G : Nat → Nat × Nat} (hG : aGS G) (d1 : Option Value) (x2 : Int32) (d3 : Option Value) (y0 : Int32)
    (h : ((x2 < 20) → (((x2 < 10) → (((x2 = 0) → (aw tX4_run E 99 [some (.ref 0), d1, some (.int x2), some (.int y0)] [.int (A 11 10)] (A, R, G))) ∧ ((¬ (x2 = 0)) → (((x2 = 1) → (aw tX4_run E 99 [some (.ref 0), d1, some (.int x2), some (.int y0)] [.int y0] (A, R, G))) ∧ ((¬ (x2 = 1)) → (∃ (v1 : Int32) (μ1 : aM), CX0_allWaited [.ref 11] (A, R, G) (some (.int v1)) μ1 ∧ aw tX4_run E 99 [some (.ref 0), d1, some (.int x2), some (.int y0)] [.int v1] μ1)))))) ∧ ((¬ (x2 < 10)) → ((vp_in (x2 - 10) 6) ∧ (E (some (.int (A 15 (x2 - 10).toNatClampNeg))) (A, R, G)))))) ∧ ((¬ (x2 < 20)) → ((vp_in (x2 - 20) 6) ∧ (E (some (.int (A 14 (x2 - 20).toNatClampNeg))) (A, R, G))))) :
    aw tX4_run E 30 [some (.ref 0), d1, some (.int x2), d3] [.int y0] (A, R, G) := by
  by_cases c1 : x2 < 20
  · replace h := h.1 c1
    by_cases c2 : x2 < 10
    · replace h := h.1 c2
      by_cases c3 : x2 = 0
      · replace h := h.1 c3
        obtain ⟨n, h⟩ := h
        exact ⟨n + 13, Or.inl (And.intro c1 (Or.inl (And.intro c2 (Or.inr (And.intro (fun z => z c3) (And.intro (gt0 hG) (And.intro (gt11 hG) (h))))))))⟩
      · replace h := h.2 c3
        by_cases c4 : x2 = 1
        · replace h := h.1 c4
          obtain ⟨n, h⟩ := h
          exact ⟨n + 14, Or.inl (And.intro c1 (Or.inl (And.intro c2 (Or.inl (And.intro c3 (Or.inr (And.intro (fun z => z c4) (h))))))))⟩
        · replace h := h.2 c4
          obtain ⟨v1, μ1, h1, n, h⟩ := h
          exact ⟨n + 15, Or.inl (And.intro c1 (Or.inl (And.intro c2 (Or.inl (And.intro c3 (Or.inl (And.intro c4 (And.intro (gt0 hG) (Exists.intro _ (Exists.intro _ (Exists.intro _ (Exists.intro _ (And.intro rfl (And.intro (gt11 hG) (And.intro (Nat.le_of_ble_eq_true rfl) (And.intro h1 (h)))))))))))))))))⟩
    · replace h := h.2 c2
      obtain ⟨q5, h⟩ := h
      exact ⟨15, Or.inl (And.intro c1 (Or.inr (And.intro c2 (And.intro (gt0 hG) (And.intro (gt11 hG) (And.intro (gt15 hG) (And.intro (vin_len (gl15 hG) q5) (h))))))))⟩
  · replace h := h.2 c1
    obtain ⟨q6, h⟩ := h
    exact ⟨12, Or.inr (And.intro c1 (And.intro (gt0 hG) (And.intro (gt11 hG) (And.intro (gt14 hG) (And.intro (vin_len (gl14 hG) q6) (h))))))⟩

set_option maxRecDepth 100000 in
set_option maxHeartbeats 4000000 in
theorem sX4_run_99 {E : aR} {A : Nat → Nat → Int32} {R : Nat → Nat → Option Nat} {G : Nat → Nat × Nat} (d1 : Option Value) (d2 : Option Value) (d3 : Option Value) (y0 : Int32)
    (h : E (some (.int y0)) (A, R, G)) :
    aw tX4_run E 99 [some (.ref 0), d1, d2, d3] [.int y0] (A, R, G) := by
  exact ⟨1, h⟩

set_option maxRecDepth 100000 in
set_option maxHeartbeats 4000000 in
theorem sX4_when_0 {E : aR} {A : Nat → Nat → Int32} {R : Nat → Nat → Option Nat} {G : Nat → Nat × Nat} (hG : aGS G) (x1 : Int32)
    (h : ((0 ≤ x1 ∧ x1 ≤ 8) → (((8 ≤ x1) → (∃ (μ1 : aM), CX4_think [.ref 0] (A, R, G) none μ1 ∧ aw tX4_when E 53 [some (.ref 0), some (.int x1), some (.int 255), none] [] μ1)) ∧ ((¬ (8 ≤ x1)) → (((thX A 1 x1) → (∃ (μ1 : aM), CX4_think [.ref 0] (A, R, G) none μ1 ∧ aw tX4_when E 53 [some (.ref 0), some (.int x1), some (.int ((1 : Int32) <<< (x1 &&& 31))), none] [] μ1)) ∧ ((¬ (thX A 1 x1)) → (E (some (.int (-6))) (A, R, G))))))) ∧ ((¬ (0 ≤ x1 ∧ x1 ≤ 8)) → (E (some (.int (-7))) (A, R, G)))) :
    aw tX4_when E 0 [some (.ref 0), some (.int x1), none, none] [] (A, R, G) := by
  by_cases c1 : 0 ≤ x1 ∧ x1 ≤ 8
  · replace h := h.1 c1
    by_cases c2 : 8 ≤ x1
    · replace h := h.1 c2
      obtain ⟨μ1, h1, n, h⟩ := h
      exact ⟨n + 15, Exists.intro _ (Exists.intro _ (And.intro (Nat.le_of_ble_eq_true rfl) (And.intro (Nat.le_of_ble_eq_true rfl) (And.intro (pX4_within _ _ _) (Or.inl (And.intro (bI_ne c1) (Or.inl (And.intro c2 (Or.inl (And.intro c2 (Exists.intro _ (Exists.intro _ (Exists.intro _ (Exists.intro _ (And.intro rfl (And.intro (gt0 hG) (And.intro (Nat.le_of_ble_eq_true rfl) (And.intro h1 (h)))))))))))))))))))⟩
    · replace h := h.2 c2
      by_cases c3 : thX A 1 x1
      · replace h := h.1 c3
        obtain ⟨μ1, h1, n, h⟩ := h
        exact ⟨n + 23, Exists.intro _ (Exists.intro _ (And.intro (Nat.le_of_ble_eq_true rfl) (And.intro (Nat.le_of_ble_eq_true rfl) (And.intro (pX4_within _ _ _) (Or.inl (And.intro (bI_ne c1) (Or.inr (And.intro c2 (And.intro (gt0 hG) (Exists.intro _ (Exists.intro _ (Exists.intro _ (Exists.intro _ (And.intro rfl (And.intro (gt1 hG) (And.intro (Nat.le_of_ble_eq_true rfl) (And.intro (pX0_hasCase (gB1 hG) _) (Or.inl (And.intro (bI_ne c3) (Or.inr (And.intro c2 (Exists.intro _ (Exists.intro _ (Exists.intro _ (Exists.intro _ (And.intro rfl (And.intro (gt0 hG) (And.intro (Nat.le_of_ble_eq_true rfl) (And.intro h1 (h))))))))))))))))))))))))))))))⟩
      · replace h := h.2 c3
        exact ⟨15, Exists.intro _ (Exists.intro _ (And.intro (Nat.le_of_ble_eq_true rfl) (And.intro (Nat.le_of_ble_eq_true rfl) (And.intro (pX4_within _ _ _) (Or.inl (And.intro (bI_ne c1) (Or.inr (And.intro c2 (And.intro (gt0 hG) (Exists.intro _ (Exists.intro _ (Exists.intro _ (Exists.intro _ (And.intro rfl (And.intro (gt1 hG) (And.intro (Nat.le_of_ble_eq_true rfl) (And.intro (pX0_hasCase (gB1 hG) _) (Or.inr (And.intro (bI_nne c3) (h))))))))))))))))))))⟩
  · replace h := h.2 c1
    exact ⟨7, Exists.intro _ (Exists.intro _ (And.intro (Nat.le_of_ble_eq_true rfl) (And.intro (Nat.le_of_ble_eq_true rfl) (And.intro (pX4_within _ _ _) (Or.inr (And.intro (bI_nne c1) (h)))))))⟩

set_option maxRecDepth 100000 in
set_option maxHeartbeats 4000000 in
theorem sX4_when_53 {E : aR} {A : Nat → Nat → Int32} {R : Nat → Nat → Option Nat} {G : Nat → Nat × Nat} (d1 : Option Value) (x2 : Int32) (d3 : Option Value)
    (h : aw tX4_when E 55 [some (.ref 0), d1, some (.int x2), some (.int 0)] [] (A, R, G)) :
    aw tX4_when E 53 [some (.ref 0), d1, some (.int x2), d3] [] (A, R, G) := by
  obtain ⟨n, h⟩ := h
  exact ⟨n + 2, h⟩

set_option maxRecDepth 100000 in
set_option maxHeartbeats 4000000 in
theorem sX4_when_55 {E : aR} {A : Nat → Nat → Int32} {R : Nat → Nat → Option Nat} {G : Nat → Nat × Nat} (hG : aGS G) (d1 : Option Value) (x2 : Int32) (x3 : Int32)
    (h : ((60 < x3) → (E (some (.int (-1))) (A, R, G))) ∧ ((¬ (60 < x3)) → (((((A 11 10) &&& x2) = 0) → (E (some (.int x3)) (A, R, G))) ∧ ((¬ (((A 11 10) &&& x2) = 0)) → (∃ (v1 : Int32) (μ1 : aM), CX0_passDay [.ref 11] (A, R, G) (some (.int v1)) μ1 ∧ aw tX4_when E 82 [some (.ref 0), none, some (.int x2), some (.int x3)] [.int v1] μ1))))) :
    aw tX4_when E 55 [some (.ref 0), d1, some (.int x2), some (.int x3)] [] (A, R, G) := by
  by_cases c1 : 60 < x3
  · replace h := h.1 c1
    exact ⟨5, Or.inl (And.intro c1 (h))⟩
  · replace h := h.2 c1
    by_cases c2 : ((A 11 10) &&& x2) = 0
    · replace h := h.1 c2
      exact ⟨11, Or.inr (And.intro c1 (And.intro (gt0 hG) (And.intro (gt11 hG) (Or.inr (And.intro (fun z => z c2) (h))))))⟩
    · replace h := h.2 c2
      obtain ⟨v1, μ1, h1, n, h⟩ := h
      exact ⟨n + 12, Or.inr (And.intro c1 (And.intro (gt0 hG) (And.intro (gt11 hG) (Or.inl (And.intro c2 (And.intro (gt0 hG) (Exists.intro _ (Exists.intro _ (Exists.intro _ (Exists.intro _ (And.intro rfl (And.intro (gt11 hG) (And.intro (Nat.le_of_ble_eq_true rfl) (And.intro h1 (h)))))))))))))))⟩

set_option maxRecDepth 100000 in
set_option maxHeartbeats 4000000 in
theorem sX4_when_82 {E : aR} {A : Nat → Nat → Int32} {R : Nat → Nat → Option Nat} {G : Nat → Nat × Nat} (d1 : Option Value) (x2 : Int32) (x3 : Int32) (y0 : Int32)
    (h : aw tX4_when E 55 [some (.ref 0), d1, some (.int x2), some (.int (x3 + 1))] [] (A, R, G)) :
    aw tX4_when E 82 [some (.ref 0), d1, some (.int x2), some (.int x3)] [.int y0] (A, R, G) := by
  obtain ⟨n, h⟩ := h
  exact ⟨n + 3, And.intro rfl (h)⟩

set_option maxRecDepth 100000 in
set_option maxHeartbeats 4000000 in
theorem sX4_sitting_0 {E : aR} {A : Nat → Nat → Int32} {R : Nat → Nat → Option Nat} {G : Nat → Nat × Nat} (hG : aGS G) (x1 : Int32)
    (h : ((0 ≤ x1 ∧ x1 ≤ 1) → (∃ (μ1 : aM), CX4_fillMost [.ref 0] (A, R, G) none μ1 ∧ aw tX4_sitting E 16 [some (.ref 0), some (.int x1), none, none, none, none] [] μ1)) ∧ ((¬ (0 ≤ x1 ∧ x1 ≤ 1)) → (E (some (.int (-2))) (A, R, G)))) :
    aw tX4_sitting E 0 [some (.ref 0), some (.int x1), none, none, none, none] [] (A, R, G) := by
  by_cases c1 : 0 ≤ x1 ∧ x1 ≤ 1
  · replace h := h.1 c1
    obtain ⟨μ1, h1, n, h⟩ := h
    exact ⟨n + 7, Exists.intro _ (Exists.intro _ (And.intro (Nat.le_of_ble_eq_true rfl) (And.intro (Nat.le_of_ble_eq_true rfl) (And.intro (pX4_within _ _ _) (Or.inl (And.intro (bI_ne c1) (Exists.intro _ (Exists.intro _ (Exists.intro _ (Exists.intro _ (And.intro rfl (And.intro (gt0 hG) (And.intro (Nat.le_of_ble_eq_true rfl) (And.intro h1 (h)))))))))))))))⟩
  · replace h := h.2 c1
    exact ⟨7, Exists.intro _ (Exists.intro _ (And.intro (Nat.le_of_ble_eq_true rfl) (And.intro (Nat.le_of_ble_eq_true rfl) (And.intro (pX4_within _ _ _) (Or.inr (And.intro (bI_nne c1) (h)))))))⟩

set_option maxRecDepth 100000 in
set_option maxHeartbeats 4000000 in
theorem sX4_sitting_16 {E : aR} {A : Nat → Nat → Int32} {R : Nat → Nat → Option Nat} {G : Nat → Nat × Nat} (hG : aGS G) (x1 : Int32) (d2 : Option Value) (d3 : Option Value) (d4 : Option Value) (d5 : Option Value)
    (h : ((x1 = 0) → (E (some (.int (A 39 0))) (A, R, G))) ∧ ((¬ (x1 = 0)) → (aw tX4_sitting E 34 [some (.ref 0), some (.int x1), some (.int 0), some (.int 0), some (.int 0), d5] [] (A, R, G)))) :
    aw tX4_sitting E 16 [some (.ref 0), some (.int x1), d2, d3, d4, d5] [] (A, R, G) := by
  by_cases c1 : x1 = 0
  · replace h := h.1 c1
    exact ⟨7, Or.inr (And.intro (fun z => z c1) (And.intro (gt0 hG) (And.intro (gt39 hG) (And.intro (vin_len (gl39 hG) (by unfold vp_in; decide)) (h)))))⟩
  · replace h := h.2 c1
    obtain ⟨n, h⟩ := h
    exact ⟨n + 8, Or.inl (And.intro c1 (h))⟩

set_option maxRecDepth 100000 in
set_option maxHeartbeats 4000000 in
theorem sX4_sitting_34 {E : aR} {A : Nat → Nat → Int32} {R : Nat → Nat → Option Nat} {G : Nat → Nat × Nat} (hG : aGS G) (d1 : Option Value) (x2 : Int32) (x3 : Int32) (x4 : Int32) (d5 : Option Value)
    (h : ((8 ≤ x4) → (E (some (.int x2)) (A, R, G))) ∧ ((¬ (8 ≤ x4)) → (∃ (v1 : Int32) (μ1 : aM), CX4_leastDigit [.ref 0, .int x4, .int x3] (A, R, G) (some (.int v1)) μ1 ∧ aw tX4_sitting E 48 [some (.ref 0), none, some (.int x2), some (.int x3), some (.int x4), none] [.int v1] μ1))) :
    aw tX4_sitting E 34 [some (.ref 0), d1, some (.int x2), some (.int x3), some (.int x4), d5] [] (A, R, G) := by
  by_cases c1 : 8 ≤ x4
  · replace h := h.1 c1
    exact ⟨5, Or.inl (And.intro c1 (h))⟩
  · replace h := h.2 c1
    obtain ⟨v1, μ1, h1, n, h⟩ := h
    exact ⟨n + 7, Or.inr (And.intro c1 (Exists.intro _ (Exists.intro _ (Exists.intro _ (Exists.intro _ (And.intro rfl (And.intro (gt0 hG) (And.intro (Nat.le_of_ble_eq_true rfl) (And.intro h1 (h))))))))))⟩

set_option maxRecDepth 100000 in
set_option maxHeartbeats 4000000 in
theorem sX4_sitting_48 {E : aR} {A : Nat → Nat → Int32} {R : Nat → Nat → Option Nat} {G : Nat → Nat × Nat} (d1 : Option Value) (x2 : Int32) (x3 : Int32) (x4 : Int32) (d5 : Option Value) (y0 : Int32)
    (h : ((y0 ≤ 0) → (aw tX4_sitting E 34 [some (.ref 0), (bif ac2 d1 then none else d1), some (.int ((10 * x2) + y0)), some (.int x3), some (.int (x4 + 1)), some (.int y0)] [] (A, R, G))) ∧ ((¬ (y0 ≤ 0)) → (aw tX4_sitting E 34 [some (.ref 0), (bif ac2 d1 then none else d1), some (.int ((10 * x2) + y0)), some (.int (x3 ||| ((1 : Int32) <<< ((y0 - 1) &&& 31)))), some (.int (x4 + 1)), some (.int y0)] [] (A, R, G)))) :
    aw tX4_sitting E 48 [some (.ref 0), d1, some (.int x2), some (.int x3), some (.int x4), d5] [.int y0] (A, R, G) := by
  by_cases c1 : y0 ≤ 0
  · replace h := h.1 c1
    obtain ⟨n, h⟩ := h
    exact ⟨n + 11, Or.inl (And.intro c1 (h))⟩
  · replace h := h.2 c1
    obtain ⟨n, h⟩ := h
    exact ⟨n + 19, Or.inr (And.intro c1 (h))⟩
