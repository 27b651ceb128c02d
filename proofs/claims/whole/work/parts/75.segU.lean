set_option maxRecDepth 100000 in
set_option maxHeartbeats 4000000 in
theorem sX1_addByte_0 {E : aR} {A : Nat → Nat → Int32} {R : Nat → Nat → Option Nat} {G : Nat → Nat × Nat} (hG : aGS G) (x1 : Int32)
    (h : ((160 ≤ (A 31 5)) → (E none (A, R, G))) ∧ ((¬ (160 ≤ (A 31 5))) → ((vp_in (A 31 5) 160) ∧ (E none ((au (au A 32 (A 31 5).toNatClampNeg x1) 31 5 ((((au A 32 (A 31 5).toNatClampNeg x1)) 31 5) + 1)), R, G))))) :
    aw tX1_addByte E 0 [some (.ref 31), some (.int x1)] [] (A, R, G) := by
  by_cases c1 : 160 ≤ (A 31 5)
  · replace h := h.1 c1
    exact ⟨5, And.intro (gt31 hG) (Or.inl (And.intro c1 (h)))⟩
  · replace h := h.2 c1
    obtain ⟨q2, h⟩ := h
    exact ⟨17, And.intro (gt31 hG) (Or.inr (And.intro c1 (And.intro (gt31 hG) (And.intro (gt31 hG) (And.intro (gt32 hG) (And.intro (vin_len (gl32 hG) q2) (And.intro rfl (And.intro (gt31 hG) (And.intro (gt31 hG) (h))))))))))⟩

set_option maxRecDepth 100000 in
set_option maxHeartbeats 4000000 in
theorem sX1_skip_0 {E : aR} {A : Nat → Nat → Int32} {R : Nat → Nat → Option Nat} {G : Nat → Nat × Nat} (hG : aGS G) (x1 : Int32)
    (h : (0 ≤ A 31 6) ∧ ((((tkX A) = x1) → (E (some (.int 1)) ((au A 31 6 ((A 31 6) + 1)), R, G))) ∧ ((¬ ((tkX A) = x1)) → (E (some (.int 0)) (A, R, G))))) :
    aw tX1_skip E 0 [some (.ref 31), some (.int x1)] [] (A, R, G) := by
  obtain ⟨q1, h⟩ := h
  by_cases c2 : (tkX A) = x1
  · replace h := h.1 c2
    exact ⟨12, Exists.intro _ (Exists.intro _ (Exists.intro _ (Exists.intro _ (And.intro rfl (And.intro (gt31 hG) (And.intro (Nat.le_of_ble_eq_true rfl) (And.intro (pX1_token hG  q1) (Or.inl (And.intro c2 (And.intro rfl (And.intro (gt31 hG) (And.intro (gt31 hG) (And.intro (Or.inr rfl) (h))))))))))))))⟩
  · replace h := h.2 c2
    exact ⟨6, Exists.intro _ (Exists.intro _ (Exists.intro _ (Exists.intro _ (And.intro rfl (And.intro (gt31 hG) (And.intro (Nat.le_of_ble_eq_true rfl) (And.intro (pX1_token hG  q1) (Or.inr (And.intro c2 (And.intro (Or.inl rfl) (h)))))))))))⟩

set_option maxRecDepth 100000 in
set_option maxHeartbeats 4000000 in
theorem sX1_add_0 {E : aR} {A : Nat → Nat → Int32} {R : Nat → Nat → Option Nat} {G : Nat → Nat × Nat} (hG : aGS G) (x1 : Int32)
    (h : ((160 ≤ (A 31 7)) → (E none (A, R, G))) ∧ ((¬ (160 ≤ (A 31 7))) → ((vp_in (A 31 7) 160) ∧ (E none ((au (au A 35 (A 31 7).toNatClampNeg x1) 31 7 ((((au A 35 (A 31 7).toNatClampNeg x1)) 31 7) + 1)), R, G))))) :
    aw tX1_add E 0 [some (.ref 31), some (.int x1)] [] (A, R, G) := by
  by_cases c1 : 160 ≤ (A 31 7)
  · replace h := h.1 c1
    exact ⟨5, And.intro (gt31 hG) (Or.inl (And.intro c1 (h)))⟩
  · replace h := h.2 c1
    obtain ⟨q2, h⟩ := h
    exact ⟨17, And.intro (gt31 hG) (Or.inr (And.intro c1 (And.intro (gt31 hG) (And.intro (gt31 hG) (And.intro (gt35 hG) (And.intro (vin_len (gl35 hG) q2) (And.intro rfl (And.intro (gt31 hG) (And.intro (gt31 hG) (h))))))))))⟩

set_option maxRecDepth 100000 in
set_option maxHeartbeats 4000000 in
theorem sX1_wordBetween_0 {E : aR} {A : Nat → Nat → Int32} {R : Nat → Nat → Option Nat} {G : Nat → Nat × Nat} (hG : aGS G) (x1 : Int32) (x2 : Int32)
    (h : ∃ (v1 : Int32) (μ1 : aM), CX1_isWord [.ref 31, .ref 1001, .int x1, .int x2] (A, R, G) (some (.int v1)) μ1 ∧ aw tX1_wordBetween E 8 [some (.ref 31), some (.int x1), some (.int x2)] [.int v1] μ1) :
    aw tX1_wordBetween E 0 [some (.ref 31), some (.int x1), some (.int x2)] [] (A, R, G) := by
  obtain ⟨v1, μ1, h1, n, h⟩ := h
  exact ⟨n + 5, Exists.intro _ (Exists.intro _ (Exists.intro _ (Exists.intro _ (And.intro rfl (And.intro (gt31 hG) (And.intro (Nat.le_of_ble_eq_true rfl) (And.intro h1 (h))))))))⟩

set_option maxRecDepth 100000 in
set_option maxHeartbeats 4000000 in
theorem sX1_wordBetween_8 {E : aR} {A : Nat → Nat → Int32} {R : Nat → Nat → Option Nat} {G : Nat → Nat × Nat} (hG : aGS G) (x1 : Int32) (x2 : Int32) (y0 : Int32)
    (h : ((y0 = 0) → (∃ (v1 : Int32) (μ1 : aM), CX1_isWord [.ref 31, .ref 1002, .int x1, .int x2] (A, R, G) (some (.int v1)) μ1 ∧ aw tX1_wordBetween E 22 [some (.ref 31), some (.int x1), some (.int x2)] [.int v1] μ1)) ∧ ((¬ (y0 = 0)) → (E (some (.int (-23))) (A, R, G)))) :
    aw tX1_wordBetween E 8 [some (.ref 31), some (.int x1), some (.int x2)] [.int y0] (A, R, G) := by
  by_cases c1 : y0 = 0
  · replace h := h.1 c1
    obtain ⟨v1, μ1, h1, n, h⟩ := h
    exact ⟨n + 6, Or.inl (And.intro c1 (Exists.intro _ (Exists.intro _ (Exists.intro _ (Exists.intro _ (And.intro rfl (And.intro (gt31 hG) (And.intro (Nat.le_of_ble_eq_true rfl) (And.intro h1 (h))))))))))⟩
  · replace h := h.2 c1
    exact ⟨3, Or.inr (And.intro c1 (h))⟩

set_option maxRecDepth 100000 in
set_option maxHeartbeats 4000000 in
theorem sX1_wordBetween_22 {E : aR} {A : Nat → Nat → Int32} {R : Nat → Nat → Option Nat} {G : Nat → Nat × Nat} (hG : aGS G) (x1 : Int32) (x2 : Int32) (y0 : Int32)
    (h : ((y0 = 0) → (∃ (v1 : Int32) (μ1 : aM), CX1_isWord [.ref 31, .ref 1003, .int x1, .int x2] (A, R, G) (some (.int v1)) μ1 ∧ aw tX1_wordBetween E 36 [some (.ref 31), some (.int x1), some (.int x2)] [.int v1] μ1)) ∧ ((¬ (y0 = 0)) → (E (some (.int (-24))) (A, R, G)))) :
    aw tX1_wordBetween E 22 [some (.ref 31), some (.int x1), some (.int x2)] [.int y0] (A, R, G) := by
  by_cases c1 : y0 = 0
  · replace h := h.1 c1
    obtain ⟨v1, μ1, h1, n, h⟩ := h
    exact ⟨n + 6, Or.inl (And.intro c1 (Exists.intro _ (Exists.intro _ (Exists.intro _ (Exists.intro _ (And.intro rfl (And.intro (gt31 hG) (And.intro (Nat.le_of_ble_eq_true rfl) (And.intro h1 (h))))))))))⟩
  · replace h := h.2 c1
    exact ⟨3, Or.inr (And.intro c1 (h))⟩

set_option maxRecDepth 100000 in
set_option maxHeartbeats 4000000 in
theorem sX1_wordBetween_36 {E : aR} {A : Nat → Nat → Int32} {R : Nat → Nat → Option Nat} {G : Nat → Nat × Nat} (hG : aGS G) (x1 : Int32) (x2 : Int32) (y0 : Int32)
    (h : ((y0 = 0) → (∃ (v1 : Int32) (μ1 : aM), CX1_isWord [.ref 31, .ref 1004, .int x1, .int x2] (A, R, G) (some (.int v1)) μ1 ∧ aw tX1_wordBetween E 50 [some (.ref 31), some (.int x1), some (.int x2)] [.int v1] μ1)) ∧ ((¬ (y0 = 0)) → (E (some (.int (-25))) (A, R, G)))) :
    aw tX1_wordBetween E 36 [some (.ref 31), some (.int x1), some (.int x2)] [.int y0] (A, R, G) := by
  by_cases c1 : y0 = 0
  · replace h := h.1 c1
    obtain ⟨v1, μ1, h1, n, h⟩ := h
    exact ⟨n + 6, Or.inl (And.intro c1 (Exists.intro _ (Exists.intro _ (Exists.intro _ (Exists.intro _ (And.intro rfl (And.intro (gt31 hG) (And.intro (Nat.le_of_ble_eq_true rfl) (And.intro h1 (h))))))))))⟩
  · replace h := h.2 c1
    exact ⟨3, Or.inr (And.intro c1 (h))⟩

set_option maxRecDepth 100000 in
set_option maxHeartbeats 4000000 in
theorem sX1_wordBetween_50 {E : aR} {A : Nat → Nat → Int32} {R : Nat → Nat → Option Nat} {G : Nat → Nat × Nat} (hG : aGS G) (x1 : Int32) (x2 : Int32) (y0 : Int32)
    (h : ((y0 = 0) → (∃ (v1 : Int32) (μ1 : aM), CX1_isWord [.ref 31, .ref 1005, .int x1, .int x2] (A, R, G) (some (.int v1)) μ1 ∧ aw tX1_wordBetween E 64 [some (.ref 31), some (.int x1), some (.int x2)] [.int v1] μ1)) ∧ ((¬ (y0 = 0)) → (E (some (.int (-7))) (A, R, G)))) :
    aw tX1_wordBetween E 50 [some (.ref 31), some (.int x1), some (.int x2)] [.int y0] (A, R, G) := by
  by_cases c1 : y0 = 0
  · replace h := h.1 c1
    obtain ⟨v1, μ1, h1, n, h⟩ := h
    exact ⟨n + 6, Or.inl (And.intro c1 (Exists.intro _ (Exists.intro _ (Exists.intro _ (Exists.intro _ (And.intro rfl (And.intro (gt31 hG) (And.intro (Nat.le_of_ble_eq_true rfl) (And.intro h1 (h))))))))))⟩
  · replace h := h.2 c1
    exact ⟨3, Or.inr (And.intro c1 (h))⟩

set_option maxRecDepth 100000 in
set_option maxHeartbeats 4000000 in
theorem sX1_wordBetween_64 {E : aR} {A : Nat → Nat → Int32} {R : Nat → Nat → Option Nat} {G : Nat → Nat × Nat} (hG : aGS G) (x1 : Int32) (x2 : Int32) (y0 : Int32)
    (h : ((y0 = 0) → (∃ (v1 : Int32) (μ1 : aM), CX1_isWord [.ref 31, .ref 1006, .int x1, .int x2] (A, R, G) (some (.int v1)) μ1 ∧ aw tX1_wordBetween E 78 [some (.ref 31), some (.int x1), some (.int x2)] [.int v1] μ1)) ∧ ((¬ (y0 = 0)) → (E (some (.int (-8))) (A, R, G)))) :
    aw tX1_wordBetween E 64 [some (.ref 31), some (.int x1), some (.int x2)] [.int y0] (A, R, G) := by
  by_cases c1 : y0 = 0
  · replace h := h.1 c1
    obtain ⟨v1, μ1, h1, n, h⟩ := h
    exact ⟨n + 6, Or.inl (And.intro c1 (Exists.intro _ (Exists.intro _ (Exists.intro _ (Exists.intro _ (And.intro rfl (And.intro (gt31 hG) (And.intro (Nat.le_of_ble_eq_true rfl) (And.intro h1 (h))))))))))⟩
  · replace h := h.2 c1
    exact ⟨3, Or.inr (And.intro c1 (h))⟩

set_option maxRecDepth 100000 in
set_option maxHeartbeats 4000000 in
theorem sX1_wordBetween_78 {E : aR} {A : Nat → Nat → Int32} {R : Nat → Nat → Option Nat} {G : Nat → Nat × Nat} (hG : aGS G) (x1 : Int32) (x2 : Int32) (y0 : Int32)
    (h : ((y0 = 0) → (∃ (v1 : Int32) (μ1 : aM), CX1_isWord [.ref 31, .ref 1007, .int x1, .int x2] (A, R, G) (some (.int v1)) μ1 ∧ aw tX1_wordBetween E 92 [some (.ref 31), some (.int x1), some (.int x2)] [.int v1] μ1)) ∧ ((¬ (y0 = 0)) → (E (some (.int (-9))) (A, R, G)))) :
    aw tX1_wordBetween E 78 [some (.ref 31), some (.int x1), some (.int x2)] [.int y0] (A, R, G) := by
  by_cases c1 : y0 = 0
  · replace h := h.1 c1
    obtain ⟨v1, μ1, h1, n, h⟩ := h
    exact ⟨n + 6, Or.inl (And.intro c1 (Exists.intro _ (Exists.intro _ (Exists.intro _ (Exists.intro _ (And.intro rfl (And.intro (gt31 hG) (And.intro (Nat.le_of_ble_eq_true rfl) (And.intro h1 (h))))))))))⟩
  · replace h := h.2 c1
    exact ⟨3, Or.inr (And.intro c1 (h))⟩

set_option maxRecDepth 100000 in
set_option maxHeartbeats 4000000 in
theorem sX1_wordBetween_92 {E : aR} {A : Nat → Nat → Int32} {R : Nat → Nat → Option Nat} {G : Nat → Nat × Nat} (hG : aGS G) (x1 : Int32) (x2 : Int32) (y0 : Int32)
    (h : ((y0 = 0) → (∃ (v1 : Int32) (μ1 : aM), CX1_isWord [.ref 31, .ref 1008, .int x1, .int x2] (A, R, G) (some (.int v1)) μ1 ∧ aw tX1_wordBetween E 105 [some (.ref 31), some (.int x1), some (.int x2)] [.int v1] μ1)) ∧ ((¬ (y0 = 0)) → (E (some (.int (-1))) (A, R, G)))) :
    aw tX1_wordBetween E 92 [some (.ref 31), some (.int x1), some (.int x2)] [.int y0] (A, R, G) := by
  by_cases c1 : y0 = 0
  · replace h := h.1 c1
    obtain ⟨v1, μ1, h1, n, h⟩ := h
    exact ⟨n + 6, Or.inl (And.intro c1 (Exists.intro _ (Exists.intro _ (Exists.intro _ (Exists.intro _ (And.intro rfl (And.intro (gt31 hG) (And.intro (Nat.le_of_ble_eq_true rfl) (And.intro h1 (h))))))))))⟩
  · replace h := h.2 c1
    exact ⟨3, Or.inr (And.intro c1 (h))⟩

set_option maxRecDepth 100000 in
set_option maxHeartbeats 4000000 in
theorem sX1_wordBetween_105 {E : aR} {A : Nat → Nat → Int32} {R : Nat → Nat → Option Nat} {G : Nat → Nat × Nat} (hG : aGS G) (x1 : Int32) (x2 : Int32) (y0 : Int32)
    (h : ((y0 = 0) → (∃ (v1 : Int32) (μ1 : aM), CX1_isWord [.ref 31, .ref 1009, .int x1, .int x2] (A, R, G) (some (.int v1)) μ1 ∧ aw tX1_wordBetween E 119 [some (.ref 31), some (.int x1), some (.int x2)] [.int v1] μ1)) ∧ ((¬ (y0 = 0)) → (E (some (.int (-2))) (A, R, G)))) :
    aw tX1_wordBetween E 105 [some (.ref 31), some (.int x1), some (.int x2)] [.int y0] (A, R, G) := by
  by_cases c1 : y0 = 0
  · replace h := h.1 c1
    obtain ⟨v1, μ1, h1, n, h⟩ := h
    exact ⟨n + 6, Or.inl (And.intro c1 (Exists.intro _ (Exists.intro _ (Exists.intro _ (Exists.intro _ (And.intro rfl (And.intro (gt31 hG) (And.intro (Nat.le_of_ble_eq_true rfl) (And.intro h1 (h))))))))))⟩
  · replace h := h.2 c1
    exact ⟨3, Or.inr (And.intro c1 (h))⟩

set_option maxRecDepth 100000 in
set_option maxHeartbeats 4000000 in
theorem sX1_wordBetween_119 {E : aR} {A : Nat → Nat → Int32} {R : Nat → Nat → Option Nat} {G : Nat → Nat × Nat} (hG : aGS G) (x1 : Int32) (x2 : Int32) (y0 : Int32)
    (h : ((y0 = 0) → (∃ (v1 : Int32) (μ1 : aM), CX1_isWord [.ref 31, .ref 1010, .int x1, .int x2] (A, R, G) (some (.int v1)) μ1 ∧ aw tX1_wordBetween E 133 [some (.ref 31), some (.int x1), some (.int x2)] [.int v1] μ1)) ∧ ((¬ (y0 = 0)) → (E (some (.int (-3))) (A, R, G)))) :
    aw tX1_wordBetween E 119 [some (.ref 31), some (.int x1), some (.int x2)] [.int y0] (A, R, G) := by
  by_cases c1 : y0 = 0
  · replace h := h.1 c1
    obtain ⟨v1, μ1, h1, n, h⟩ := h
    exact ⟨n + 6, Or.inl (And.intro c1 (Exists.intro _ (Exists.intro _ (Exists.intro _ (Exists.intro _ (And.intro rfl (And.intro (gt31 hG) (And.intro (Nat.le_of_ble_eq_true rfl) (And.intro h1 (h))))))))))⟩
  · replace h := h.2 c1
    exact ⟨3, Or.inr (And.intro c1 (h))⟩

set_option maxRecDepth 100000 in
set_option maxHeartbeats 4000000 in
theorem sX1_wordBetween_133 {E : aR} {A : Nat → Nat → Int32} {R : Nat → Nat → Option Nat} {G : Nat → Nat × Nat} (hG : aGS G) (x1 : Int32) (x2 : Int32) (y0 : Int32)
    (h : ((y0 = 0) → (∃ (v1 : Int32) (μ1 : aM), CX1_isWord [.ref 31, .ref 1011, .int x1, .int x2] (A, R, G) (some (.int v1)) μ1 ∧ aw tX1_wordBetween E 147 [some (.ref 31), some (.int x1), some (.int x2)] [.int v1] μ1)) ∧ ((¬ (y0 = 0)) → (E (some (.int (-4))) (A, R, G)))) :
    aw tX1_wordBetween E 133 [some (.ref 31), some (.int x1), some (.int x2)] [.int y0] (A, R, G) := by
  by_cases c1 : y0 = 0
  · replace h := h.1 c1
    obtain ⟨v1, μ1, h1, n, h⟩ := h
    exact ⟨n + 6, Or.inl (And.intro c1 (Exists.intro _ (Exists.intro _ (Exists.intro _ (Exists.intro _ (And.intro rfl (And.intro (gt31 hG) (And.intro (Nat.le_of_ble_eq_true rfl) (And.intro h1 (h))))))))))⟩
  · replace h := h.2 c1
    exact ⟨3, Or.inr (And.intro c1 (h))⟩

set_option maxRecDepth 100000 in
set_option maxHeartbeats 4000000 in
theorem sX1_wordBetween_147 {E : aR} {A : Nat → Nat → Int32} {R : Nat → Nat → Option Nat} {G : Nat → Nat × Nat} (hG : aGS G) (x1 : Int32) (x2 : Int32) (y0 : Int32)
    (h : ((y0 = 0) → (∃ (v1 : Int32) (μ1 : aM), CX1_isWord [.ref 31, .ref 1012, .int x1, .int x2] (A, R, G) (some (.int v1)) μ1 ∧ aw tX1_wordBetween E 161 [some (.ref 31), some (.int x1), some (.int x2)] [.int v1] μ1)) ∧ ((¬ (y0 = 0)) → (E (some (.int (-5))) (A, R, G)))) :
    aw tX1_wordBetween E 147 [some (.ref 31), some (.int x1), some (.int x2)] [.int y0] (A, R, G) := by
  by_cases c1 : y0 = 0
  · replace h := h.1 c1
    obtain ⟨v1, μ1, h1, n, h⟩ := h
    exact ⟨n + 6, Or.inl (And.intro c1 (Exists.intro _ (Exists.intro _ (Exists.intro _ (Exists.intro _ (And.intro rfl (And.intro (gt31 hG) (And.intro (Nat.le_of_ble_eq_true rfl) (And.intro h1 (h))))))))))⟩
  · replace h := h.2 c1
    exact ⟨3, Or.inr (And.intro c1 (h))⟩

set_option maxRecDepth 100000 in
set_option maxHeartbeats 4000000 in
theorem sX1_wordBetween_161 {E : aR} {A : Nat → Nat → Int32} {R : Nat → Nat → Option Nat} {G : Nat → Nat × Nat} (d1 : Option Value) (d2 : Option Value) (y0 : Int32)
    (h : ((y0 = 0) → (E (some (.int (-27))) (A, R, G))) ∧ ((¬ (y0 = 0)) → (E (some (.int (-6))) (A, R, G)))) :
    aw tX1_wordBetween E 161 [some (.ref 31), d1, d2] [.int y0] (A, R, G) := by
  by_cases c1 : y0 = 0
  · replace h := h.1 c1
    exact ⟨3, Or.inl (And.intro c1 (h))⟩
  · replace h := h.2 c1
    exact ⟨4, Or.inr (And.intro c1 (h))⟩

set_option maxRecDepth 100000 in
set_option maxHeartbeats 4000000 in
theorem sX1_numberBetween_0 {E : aR} {A : Nat → Nat → Int32} {R : Nat → Nat → Option Nat} {G : Nat → Nat × Nat} (x1 : Int32) (x2 : Int32)
    (h : (((x2 - x1) ≤ 4) → (aw tX1_numberBetween E 15 [some (.ref 31), some (.int x1), some (.int x2), some (.int 0), some (.int x1)] [] (A, R, G))) ∧ ((¬ ((x2 - x1) ≤ 4)) → (E (some (.int (-27))) (A, R, G)))) :
    aw tX1_numberBetween E 0 [some (.ref 31), some (.int x1), some (.int x2), none, none] [] (A, R, G) := by
  by_cases c1 : (x2 - x1) ≤ 4
  · replace h := h.1 c1
    obtain ⟨n, h⟩ := h
    exact ⟨n + 9, Or.inl (And.intro c1 (h))⟩
  · replace h := h.2 c1
    exact ⟨7, Or.inr (And.intro c1 (h))⟩

set_option maxRecDepth 100000 in
set_option maxHeartbeats 4000000 in
theorem sX1_numberBetween_15 {E : aR} {A : Nat → Nat → Int32} {R : Nat → Nat → Option Nat} {G : Nat → Nat × Nat} (hG : aGS G) (d1 : Option Value) (x2 : Int32) (x3 : Int32) (x4 : Int32)
    (h : ((x2 ≤ x4) → (E (some (.int x3)) (A, R, G))) ∧ ((¬ (x2 ≤ x4)) → ((vp_in x4 160) ∧ (aw tX1_numberBetween E 15 [some (.ref 31), none, some (.int x2), some (.int (((10 * x3) + (A 32 x4.toNatClampNeg)) - 48)), some (.int (x4 + 1))] [] (A, R, G))))) :
    aw tX1_numberBetween E 15 [some (.ref 31), d1, some (.int x2), some (.int x3), some (.int x4)] [] (A, R, G) := by
  by_cases c1 : x2 ≤ x4
  · replace h := h.1 c1
    exact ⟨5, Or.inl (And.intro c1 (h))⟩
  · replace h := h.2 c1
    obtain ⟨q2, h⟩ := h
    obtain ⟨n, h⟩ := h
    exact ⟨n + 16, Or.inr (And.intro c1 (And.intro (gt31 hG) (And.intro (gt32 hG) (And.intro (vin_len (gl32 hG) q2) (h)))))⟩

set_option maxRecDepth 100000 in
set_option maxHeartbeats 4000000 in
theorem sX1_endOfToken_0 {E : aR} {A : Nat → Nat → Int32} {R : Nat → Nat → Option Nat} {G : Nat → Nat × Nat} (hG : aGS G) (x1 : Int32)
    (h : (inT A x1) ∧ (((ltX A x1) → (aw tX1_endOfToken E 10 [some (.ref 31), some (.int x1), some (.int x1)] [] (A, R, G))) ∧ ((¬ (ltX A x1)) → (((dgX A x1) → (aw tX1_endOfToken E 40 [some (.ref 31), some (.int x1), some (.int x1)] [] (A, R, G))) ∧ ((¬ (dgX A x1)) → ((((A 31 5) ≤ x1) → (E (some (.int x1)) (A, R, G))) ∧ ((¬ ((A 31 5) ≤ x1)) → (E (some (.int (x1 + 1))) (A, R, G))))))))) :
    aw tX1_endOfToken E 0 [some (.ref 31), some (.int x1), none] [] (A, R, G) := by
  obtain ⟨q1, h⟩ := h
  by_cases c2 : ltX A x1
  · replace h := h.1 c2
    obtain ⟨n, h⟩ := h
    exact ⟨n + 6, Exists.intro _ (Exists.intro _ (Exists.intro _ (Exists.intro _ (And.intro rfl (And.intro (gt31 hG) (And.intro (Nat.le_of_ble_eq_true rfl) (And.intro (pX1_isLetter hG _ q1) (Or.inr (And.intro (bI_neq c2) (h))))))))))⟩
  · replace h := h.2 c2
    by_cases c3 : dgX A x1
    · replace h := h.1 c3
      obtain ⟨n, h⟩ := h
      exact ⟨n + 10, Exists.intro _ (Exists.intro _ (Exists.intro _ (Exists.intro _ (And.intro rfl (And.intro (gt31 hG) (And.intro (Nat.le_of_ble_eq_true rfl) (And.intro (pX1_isLetter hG _ q1) (Or.inl (And.intro (bI_eq c2) (Exists.intro _ (Exists.intro _ (Exists.intro _ (Exists.intro _ (And.intro rfl (And.intro (gt31 hG) (And.intro (Nat.le_of_ble_eq_true rfl) (And.intro (pX1_isDigit hG _ q1) (Or.inr (And.intro (bI_neq c3) (h))))))))))))))))))))⟩
    · replace h := h.2 c3
      by_cases c4 : (A 31 5) ≤ x1
      · replace h := h.1 c4
        exact ⟨16, Exists.intro _ (Exists.intro _ (Exists.intro _ (Exists.intro _ (And.intro rfl (And.intro (gt31 hG) (And.intro (Nat.le_of_ble_eq_true rfl) (And.intro (pX1_isLetter hG _ q1) (Or.inl (And.intro (bI_eq c2) (Exists.intro _ (Exists.intro _ (Exists.intro _ (Exists.intro _ (And.intro rfl (And.intro (gt31 hG) (And.intro (Nat.le_of_ble_eq_true rfl) (And.intro (pX1_isDigit hG _ q1) (Or.inl (And.intro (bI_eq c3) (And.intro (gt31 hG) (Or.inl (And.intro c4 (h)))))))))))))))))))))))⟩
      · replace h := h.2 c4
        exact ⟨17, Exists.intro _ (Exists.intro _ (Exists.intro _ (Exists.intro _ (And.intro rfl (And.intro (gt31 hG) (And.intro (Nat.le_of_ble_eq_true rfl) (And.intro (pX1_isLetter hG _ q1) (Or.inl (And.intro (bI_eq c2) (Exists.intro _ (Exists.intro _ (Exists.intro _ (Exists.intro _ (And.intro rfl (And.intro (gt31 hG) (And.intro (Nat.le_of_ble_eq_true rfl) (And.intro (pX1_isDigit hG _ q1) (Or.inl (And.intro (bI_eq c3) (And.intro (gt31 hG) (Or.inr (And.intro c4 (h)))))))))))))))))))))))⟩

set_option maxRecDepth 100000 in
set_option maxHeartbeats 4000000 in
theorem sX1_endOfToken_10 {E : aR} {A : Nat → Nat → Int32} {R : Nat → Nat → Option Nat} {G : Nat → Nat × Nat} (hG : aGS G) (d1 : Option Value) (x2 : Int32)
    (h : (((A 31 5) ≤ x2) → (E (some (.int x2)) (A, R, G))) ∧ ((¬ ((A 31 5) ≤ x2)) → ((inT A x2) ∧ (((ltX A x2) → (aw tX1_endOfToken E 10 [some (.ref 31), none, some (.int (x2 + 1))] [] (A, R, G))) ∧ ((¬ (ltX A x2)) → (E (some (.int x2)) (A, R, G))))))) :
    aw tX1_endOfToken E 10 [some (.ref 31), d1, some (.int x2)] [] (A, R, G) := by
  by_cases c1 : (A 31 5) ≤ x2
  · replace h := h.1 c1
    exact ⟨6, And.intro (gt31 hG) (Or.inl (And.intro c1 (h)))⟩
  · replace h := h.2 c1
    obtain ⟨q2, h⟩ := h
    by_cases c3 : ltX A x2
    · replace h := h.1 c3
      obtain ⟨n, h⟩ := h
      exact ⟨n + 10, And.intro (gt31 hG) (Or.inr (And.intro c1 (Exists.intro _ (Exists.intro _ (Exists.intro _ (Exists.intro _ (And.intro rfl (And.intro (gt31 hG) (And.intro (Nat.le_of_ble_eq_true rfl) (And.intro (pX1_isLetter hG _ q2) (Or.inr (And.intro (bI_neq c3) (h)))))))))))))⟩
    · replace h := h.2 c3
      exact ⟨10, And.intro (gt31 hG) (Or.inr (And.intro c1 (Exists.intro _ (Exists.intro _ (Exists.intro _ (Exists.intro _ (And.intro rfl (And.intro (gt31 hG) (And.intro (Nat.le_of_ble_eq_true rfl) (And.intro (pX1_isLetter hG _ q2) (Or.inl (And.intro (bI_eq c3) (h)))))))))))))⟩

set_option maxRecDepth 100000 in
set_option maxHeartbeats 4000000 in
theorem sX1_endOfToken_40 {E : aR} {A : Nat → Nat → Int32} {R : Nat → Nat → Option Nat} {G : Nat → Nat × Nat} (hG : aGS G) (d1 : Option Value) (x2 : Int32)
    (h : (((A 31 5) ≤ x2) → (E (some (.int x2)) (A, R, G))) ∧ ((¬ ((A 31 5) ≤ x2)) → ((inT A x2) ∧ (((dgX A x2) → (aw tX1_endOfToken E 40 [some (.ref 31), none, some (.int (x2 + 1))] [] (A, R, G))) ∧ ((¬ (dgX A x2)) → (E (some (.int x2)) (A, R, G))))))) :
    aw tX1_endOfToken E 40 [some (.ref 31), d1, some (.int x2)] [] (A, R, G) := by
  by_cases c1 : (A 31 5) ≤ x2
  · replace h := h.1 c1
    exact ⟨6, And.intro (gt31 hG) (Or.inl (And.intro c1 (h)))⟩
  · replace h := h.2 c1
    obtain ⟨q2, h⟩ := h
    by_cases c3 : dgX A x2
    · replace h := h.1 c3
      obtain ⟨n, h⟩ := h
      exact ⟨n + 10, And.intro (gt31 hG) (Or.inr (And.intro c1 (Exists.intro _ (Exists.intro _ (Exists.intro _ (Exists.intro _ (And.intro rfl (And.intro (gt31 hG) (And.intro (Nat.le_of_ble_eq_true rfl) (And.intro (pX1_isDigit hG _ q2) (Or.inr (And.intro (bI_neq c3) (h)))))))))))))⟩
    · replace h := h.2 c3
      exact ⟨10, And.intro (gt31 hG) (Or.inr (And.intro c1 (Exists.intro _ (Exists.intro _ (Exists.intro _ (Exists.intro _ (And.intro rfl (And.intro (gt31 hG) (And.intro (Nat.le_of_ble_eq_true rfl) (And.intro (pX1_isDigit hG _ q2) (Or.inl (And.intro (bI_eq c3) (h)))))))))))))⟩

set_option maxRecDepth 100000 in
set_option maxHeartbeats 4000000 in
theorem sX1_tokenBetween_0 {E : aR} {A : Nat → Nat → Int32} {R : Nat → Nat → Option Nat} {G : Nat → Nat × Nat} (hG : aGS G) (x1 : Int32) (x2 : Int32)
    (h : ((x1 < (A 31 5)) → ((inT A x1) ∧ (((ltX A x1) → (∃ (v1 : Int32) (μ1 : aM), CX1_wordBetween [.ref 31, .int x1, .int x2] (A, R, G) (some (.int v1)) μ1 ∧ aw tX1_tokenBetween E 25 [some (.ref 31), some (.int x1), some (.int x2)] [.int v1] μ1)) ∧ ((¬ (ltX A x1)) → (((dgX A x1) → (∃ (v1 : Int32) (μ1 : aM), CX1_numberBetween [.ref 31, .int x1, .int x2] (A, R, G) (some (.int v1)) μ1 ∧ aw tX1_tokenBetween E 40 [some (.ref 31), some (.int x1), some (.int x2)] [.int v1] μ1)) ∧ ((¬ (dgX A x1)) → ((vp_in x1 160) ∧ (E (some (.int (sgX (A 32 x1.toNatClampNeg)))) (A, R, G))))))))) ∧ ((¬ (x1 < (A 31 5))) → (E (some (.int (-26))) (A, R, G)))) :
    aw tX1_tokenBetween E 0 [some (.ref 31), some (.int x1), some (.int x2)] [] (A, R, G) := by
  by_cases c1 : x1 < (A 31 5)
  · replace h := h.1 c1
    obtain ⟨q2, h⟩ := h
    by_cases c3 : ltX A x1
    · replace h := h.1 c3
      obtain ⟨v1, μ1, h1, n, h⟩ := h
      exact ⟨n + 12, And.intro (gt31 hG) (Or.inl (And.intro c1 (Exists.intro _ (Exists.intro _ (Exists.intro _ (Exists.intro _ (And.intro rfl (And.intro (gt31 hG) (And.intro (Nat.le_of_ble_eq_true rfl) (And.intro (pX1_isLetter hG _ q2) (Or.inr (And.intro (bI_neq c3) (Exists.intro _ (Exists.intro _ (Exists.intro _ (Exists.intro _ (And.intro rfl (And.intro (gt31 hG) (And.intro (Nat.le_of_ble_eq_true rfl) (And.intro h1 (h)))))))))))))))))))))⟩
    · replace h := h.2 c3
      by_cases c4 : dgX A x1
      · replace h := h.1 c4
        obtain ⟨v1, μ1, h1, n, h⟩ := h
        exact ⟨n + 16, And.intro (gt31 hG) (Or.inl (And.intro c1 (Exists.intro _ (Exists.intro _ (Exists.intro _ (Exists.intro _ (And.intro rfl (And.intro (gt31 hG) (And.intro (Nat.le_of_ble_eq_true rfl) (And.intro (pX1_isLetter hG _ q2) (Or.inl (And.intro (bI_eq c3) (Exists.intro _ (Exists.intro _ (Exists.intro _ (Exists.intro _ (And.intro rfl (And.intro (gt31 hG) (And.intro (Nat.le_of_ble_eq_true rfl) (And.intro (pX1_isDigit hG _ q2) (Or.inr (And.intro (bI_neq c4) (Exists.intro _ (Exists.intro _ (Exists.intro _ (Exists.intro _ (And.intro rfl (And.intro (gt31 hG) (And.intro (Nat.le_of_ble_eq_true rfl) (And.intro h1 (h)))))))))))))))))))))))))))))))⟩
      · replace h := h.2 c4
        obtain ⟨q5, h⟩ := h
        exact ⟨18, And.intro (gt31 hG) (Or.inl (And.intro c1 (Exists.intro _ (Exists.intro _ (Exists.intro _ (Exists.intro _ (And.intro rfl (And.intro (gt31 hG) (And.intro (Nat.le_of_ble_eq_true rfl) (And.intro (pX1_isLetter hG _ q2) (Or.inl (And.intro (bI_eq c3) (Exists.intro _ (Exists.intro _ (Exists.intro _ (Exists.intro _ (And.intro rfl (And.intro (gt31 hG) (And.intro (Nat.le_of_ble_eq_true rfl) (And.intro (pX1_isDigit hG _ q2) (Or.inl (And.intro (bI_eq c4) (And.intro (gt31 hG) (And.intro (gt32 hG) (And.intro (vin_len (gl32 hG) q5) (Exists.intro _ (Exists.intro _ (And.intro (Nat.le_of_ble_eq_true rfl) (And.intro (Nat.le_of_ble_eq_true rfl) (And.intro (pX1_signOf _) (h)))))))))))))))))))))))))))))))⟩
  · replace h := h.2 c1
    exact ⟨6, And.intro (gt31 hG) (Or.inr (And.intro c1 (h)))⟩

set_option maxRecDepth 100000 in
set_option maxHeartbeats 4000000 in
theorem sX1_tokenBetween_25 {E : aR} {A : Nat → Nat → Int32} {R : Nat → Nat → Option Nat} {G : Nat → Nat × Nat} (d1 : Option Value) (d2 : Option Value) (y0 : Int32)
    (h : E (some (.int y0)) (A, R, G)) :
    aw tX1_tokenBetween E 25 [some (.ref 31), d1, d2] [.int y0] (A, R, G) := by
  exact ⟨1, h⟩

set_option maxRecDepth 100000 in
set_option maxHeartbeats 4000000 in
theorem sX1_tokenBetween_40 {E : aR} {A : Nat → Nat → Int32} {R : Nat → Nat → Option Nat} {G : Nat → Nat × Nat} (d1 : Option Value) (d2 : Option Value) (y0 : Int32)
    (h : E (some (.int y0)) (A, R, G)) :
    aw tX1_tokenBetween E 40 [some (.ref 31), d1, d2] [.int y0] (A, R, G) := by
  exact ⟨1, h⟩

set_option maxRecDepth 100000 in
set_option maxHeartbeats 4000000 in
theorem sX1_scan_0 {E : aR} {A : Nat → Nat → Int32} {R : Nat → Nat → Option Nat} {G : Nat → Nat × Nat}
    (h : aw tX1_scan E 4 [some (.ref 31), some (.int 0), some (.int 0), none] [] (A, R, G)) :
    aw tX1_scan E 0 [some (.ref 31), none, none, none] [] (A, R, G) := by
  obtain ⟨n, h⟩ := h
  exact ⟨n + 4, h⟩

set_option maxRecDepth 100000 in
set_option maxHeartbeats 4000000 in
theorem sX1_scan_4 {E : aR} {A : Nat → Nat → Int32} {R : Nat → Nat → Option Nat} {G : Nat → Nat × Nat} (x1 : Int32) (x2 : Int32) (d3 : Option Value)
    (h : ((160 < x2) → (E none (A, R, G))) ∧ ((¬ (160 < x2)) → (aw tX1_scan E 11 [some (.ref 31), some (.int x1), some (.int x2), none] [] (A, R, G)))) :
    aw tX1_scan E 4 [some (.ref 31), some (.int x1), some (.int x2), d3] [] (A, R, G) := by
  by_cases c1 : 160 < x2
  · replace h := h.1 c1
    exact ⟨4, Or.inl (And.intro c1 (h))⟩
  · replace h := h.2 c1
    obtain ⟨n, h⟩ := h
    exact ⟨n + 3, Or.inr (And.intro c1 (h))⟩

set_option maxRecDepth 100000 in
set_option maxHeartbeats 4000000 in
theorem sX1_scan_11 {E : aR} {A : Nat → Nat → Int32} {R : Nat → Nat → Option Nat} {G : Nat → Nat × Nat} (hG : aGS G) (x1 : Int32) (x2 : Int32) (d3 : Option Value)
    (h : (((A 31 5) ≤ x1) → ((vp_in x2 161) ∧ (∃ (v1 : Int32) (μ1 : aM), CX1_endOfToken [.ref 31, .int x1] ((au A 34 x2.toNatClampNeg x1), R, G) (some (.int v1)) μ1 ∧ aw tX1_scan E 59 [some (.ref 31), some (.int x1), some (.int x2), none] [.int v1] μ1))) ∧ ((¬ ((A 31 5) ≤ x1)) → ((vp_in x1 160) ∧ ((((A 32 x1.toNatClampNeg) = 32) → (aw tX1_scan E 11 [some (.ref 31), some (.int (x1 + 1)), some (.int x2), none] [] (A, R, G))) ∧ ((¬ ((A 32 x1.toNatClampNeg) = 32)) → ((((A 32 x1.toNatClampNeg) = 10) → (aw tX1_scan E 11 [some (.ref 31), some (.int (x1 + 1)), some (.int x2), none] [] (A, R, G))) ∧ ((¬ ((A 32 x1.toNatClampNeg) = 10)) → ((vp_in x2 161) ∧ (∃ (v1 : Int32) (μ1 : aM), CX1_endOfToken [.ref 31, .int x1] ((au A 34 x2.toNatClampNeg x1), R, G) (some (.int v1)) μ1 ∧ aw tX1_scan E 59 [some (.ref 31), some (.int x1), some (.int x2), none] [.int v1] μ1))))))))) :
    aw tX1_scan E 11 [some (.ref 31), some (.int x1), some (.int x2), d3] [] (A, R, G) := by
  by_cases c1 : (A 31 5) ≤ x1
  · replace h := h.1 c1
    obtain ⟨q2, h⟩ := h
    obtain ⟨v1, μ1, h1, n, h⟩ := h
    exact ⟨n + 12, And.intro (gt31 hG) (Or.inl (And.intro c1 (And.intro (gt31 hG) (And.intro (gt34 hG) (And.intro (vin_len (gl34 hG) q2) (Exists.intro _ (Exists.intro _ (Exists.intro _ (Exists.intro _ (And.intro rfl (And.intro (gt31 hG) (And.intro (Nat.le_of_ble_eq_true rfl) (And.intro h1 (h))))))))))))))⟩
  · replace h := h.2 c1
    obtain ⟨q3, h⟩ := h
    by_cases c4 : (A 32 x1.toNatClampNeg) = 32
    · replace h := h.1 c4
      obtain ⟨n, h⟩ := h
      exact ⟨n + 12, And.intro (gt31 hG) (Or.inr (And.intro c1 (And.intro (gt31 hG) (And.intro (gt32 hG) (And.intro (vin_len (gl32 hG) q3) (Or.inl (And.intro c4 (h))))))))⟩
    · replace h := h.2 c4
      by_cases c5 : (A 32 x1.toNatClampNeg) = 10
      · replace h := h.1 c5
        obtain ⟨n, h⟩ := h
        exact ⟨n + 18, And.intro (gt31 hG) (Or.inr (And.intro c1 (And.intro (gt31 hG) (And.intro (gt32 hG) (And.intro (vin_len (gl32 hG) q3) (Or.inr (And.intro c4 (And.intro (gt31 hG) (And.intro (gt32 hG) (And.intro (vin_len (gl32 hG) q3) (Or.inr (And.intro (fun z => z c5) (h)))))))))))))⟩
      · replace h := h.2 c5
        obtain ⟨q6, h⟩ := h
        obtain ⟨v1, μ1, h1, n, h⟩ := h
        exact ⟨n + 24, And.intro (gt31 hG) (Or.inr (And.intro c1 (And.intro (gt31 hG) (And.intro (gt32 hG) (And.intro (vin_len (gl32 hG) q3) (Or.inr (And.intro c4 (And.intro (gt31 hG) (And.intro (gt32 hG) (And.intro (vin_len (gl32 hG) q3) (Or.inl (And.intro c5 (And.intro (gt31 hG) (And.intro (gt34 hG) (And.intro (vin_len (gl34 hG) q6) (Exists.intro _ (Exists.intro _ (Exists.intro _ (Exists.intro _ (And.intro rfl (And.intro (gt31 hG) (And.intro (Nat.le_of_ble_eq_true rfl) (And.intro h1 (h))))))))))))))))))))))))⟩

set_option maxRecDepth 100000 in
set_option maxHeartbeats 4000000 in
theorem sX1_scan_59 {E : aR} {A : Nat → Nat → Int32} {R : Nat → Nat → Option Nat} {G : Nat → Nat × Nat} (hG : aGS G) (x1 : Int32) (x2 : Int32) (d3 : Option Value) (y0 : Int32)
    (h : ∃ (v1 : Int32) (μ1 : aM), CX1_tokenBetween [.ref 31, .int x1, .int y0] (A, R, G) (some (.int v1)) μ1 ∧ aw tX1_scan E 71 [some (.ref 31), some (.int x1), some (.int x2), some (.int y0)] [.int v1, .int x2, .ref 33] μ1) :
    aw tX1_scan E 59 [some (.ref 31), some (.int x1), some (.int x2), d3] [.int y0] (A, R, G) := by
  obtain ⟨v1, μ1, h1, n, h⟩ := h
  exact ⟨n + 8, And.intro (gt31 hG) (Exists.intro _ (Exists.intro _ (Exists.intro _ (Exists.intro _ (And.intro rfl (And.intro (gt31 hG) (And.intro (Nat.le_of_ble_eq_true rfl) (And.intro h1 (h)))))))))⟩

set_option maxRecDepth 100000 in
set_option maxHeartbeats 4000000 in
theorem sX1_scan_71 {E : aR} {A : Nat → Nat → Int32} {R : Nat → Nat → Option Nat} {G : Nat → Nat × Nat} (hG : aGS G) (d1 : Option Value) (x2 : Int32) (x3 : Int32) (y0 : Int32) (y1 : Int32) (y2 : Nat)
    (h : ((G y2).1 = 1) ∧ ((vp_in y1 (G y2).2) ∧ ((vp_in x2 161) ∧ (((((au A y2 y1.toNatClampNeg y0) 33 x2.toNatClampNeg) = (-26)) → (E none ((au A y2 y1.toNatClampNeg y0), R, G))) ∧ ((¬ (((au A y2 y1.toNatClampNeg y0) 33 x2.toNatClampNeg) = (-26))) → (((((au A y2 y1.toNatClampNeg y0) 33 x2.toNatClampNeg) = (-27)) → (E none ((au A y2 y1.toNatClampNeg y0), R, G))) ∧ ((¬ (((au A y2 y1.toNatClampNeg y0) 33 x2.toNatClampNeg) = (-27))) → (aw tX1_scan E 4 [some (.ref 31), some (.int x3), some (.int (x2 + 1)), some (.int x3)] [] ((au A y2 y1.toNatClampNeg y0), R, G))))))))) :
    aw tX1_scan E 71 [some (.ref 31), d1, some (.int x2), some (.int x3)] [.int y0, .int y1, .ref y2] (A, R, G) := by
  obtain ⟨q1, h⟩ := h
  obtain ⟨q2, h⟩ := h
  obtain ⟨q3, h⟩ := h
  by_cases c4 : ((au A y2 y1.toNatClampNeg y0) 33 x2.toNatClampNeg) = (-26)
  · replace h := h.1 c4
    exact ⟨8, And.intro q1 (And.intro q2 (And.intro (gt31 hG) (And.intro (gt33 hG) (And.intro (vin_len (gl33 hG) q3) (Or.inl (And.intro c4 (h)))))))⟩
  · replace h := h.2 c4
    by_cases c5 : ((au A y2 y1.toNatClampNeg y0) 33 x2.toNatClampNeg) = (-27)
    · replace h := h.1 c5
      exact ⟨14, And.intro q1 (And.intro q2 (And.intro (gt31 hG) (And.intro (gt33 hG) (And.intro (vin_len (gl33 hG) q3) (Or.inr (And.intro c4 (And.intro (gt31 hG) (And.intro (gt33 hG) (And.intro (vin_len (gl33 hG) q3) (Or.inr (And.intro (fun z => z c5) (h))))))))))))⟩
    · replace h := h.2 c5
      obtain ⟨n, h⟩ := h
      exact ⟨n + 17, And.intro q1 (And.intro q2 (And.intro (gt31 hG) (And.intro (gt33 hG) (And.intro (vin_len (gl33 hG) q3) (Or.inr (And.intro c4 (And.intro (gt31 hG) (And.intro (gt33 hG) (And.intro (vin_len (gl33 hG) q3) (Or.inl (And.intro c5 (h))))))))))))⟩

set_option maxRecDepth 100000 in
set_option maxHeartbeats 4000000 in
theorem sX1_readPart_0 {E : aR} {A : Nat → Nat → Int32} {R : Nat → Nat → Option Nat} {G : Nat → Nat × Nat} (hG : aGS G) (x1 : Int32)
    (h : ((x1 = 0) → (∃ (v1 : Int32) (μ1 : aM), CX1_skip [.ref 31, .int (-23)] (A, R, G) (some (.int v1)) μ1 ∧ aw tX1_readPart E 27 [some (.ref 31), some (.int x1), some (.int (-23))] [.int v1] μ1)) ∧ ((¬ (x1 = 0)) → (((x1 = 1) → (∃ (v1 : Int32) (μ1 : aM), CX1_skip [.ref 31, .int (-24)] (A, R, G) (some (.int v1)) μ1 ∧ aw tX1_readPart E 27 [some (.ref 31), some (.int x1), some (.int (-24))] [.int v1] μ1)) ∧ ((¬ (x1 = 1)) → (∃ (v1 : Int32) (μ1 : aM), CX1_skip [.ref 31, .int (-25)] (A, R, G) (some (.int v1)) μ1 ∧ aw tX1_readPart E 27 [some (.ref 31), some (.int x1), some (.int (-25))] [.int v1] μ1))))) :
    aw tX1_readPart E 0 [some (.ref 31), some (.int x1), none] [] (A, R, G) := by
  by_cases c1 : x1 = 0
  · replace h := h.1 c1
    obtain ⟨v1, μ1, h1, n, h⟩ := h
    exact ⟨n + 8, Or.inr (And.intro (fun z => z c1) (Exists.intro _ (Exists.intro _ (Exists.intro _ (Exists.intro _ (And.intro rfl (And.intro (gt31 hG) (And.intro (Nat.le_of_ble_eq_true rfl) (And.intro h1 (h))))))))))⟩
  · replace h := h.2 c1
    by_cases c2 : x1 = 1
    · replace h := h.1 c2
      obtain ⟨v1, μ1, h1, n, h⟩ := h
      exact ⟨n + 11, Or.inl (And.intro c1 (Or.inr (And.intro (fun z => z c2) (Exists.intro _ (Exists.intro _ (Exists.intro _ (Exists.intro _ (And.intro rfl (And.intro (gt31 hG) (And.intro (Nat.le_of_ble_eq_true rfl) (And.intro h1 (h))))))))))))⟩
    · replace h := h.2 c2
      obtain ⟨v1, μ1, h1, n, h⟩ := h
      exact ⟨n + 10, Or.inl (And.intro c1 (Or.inl (And.intro c2 (Exists.intro _ (Exists.intro _ (Exists.intro _ (Exists.intro _ (And.intro rfl (And.intro (gt31 hG) (And.intro (Nat.le_of_ble_eq_true rfl) (And.intro h1 (h))))))))))))⟩

set_option maxRecDepth 100000 in
set_option maxHeartbeats 4000000 in
theorem sX1_readPart_27 {E : aR} {A : Nat → Nat → Int32} {R : Nat → Nat → Option Nat} {G : Nat → Nat × Nat} (x1 : Int32) (d2 : Option Value) (y0 : Int32)
    (h : ((y0 = 0) → (E (some (.int 0)) (A, R, G))) ∧ ((¬ (y0 = 0)) → (∃ (v1 : Int32) (μ1 : aM), (gR 60).1 [.ref 31, .int 0, .int 0] (A, R, G) (some (.int v1)) μ1 ∧ aw tX1_readPart E 36 [some (.ref 31), some (.int x1), d2] [.int v1] μ1))) :
    aw tX1_readPart E 27 [some (.ref 31), some (.int x1), d2] [.int y0] (A, R, G) := by
  by_cases c1 : y0 = 0
  · replace h := h.1 c1
    exact ⟨3, Or.inl (And.intro c1 (And.intro (Or.inl rfl) (h)))⟩
  · replace h := h.2 c1
    obtain ⟨v1, μ1, h1, n, h⟩ := h
    exact ⟨n + 5, Or.inr (And.intro c1 (Exists.intro _ (Exists.intro _ (And.intro (Nat.le_of_ble_eq_true rfl) (And.intro (Nat.le_of_ble_eq_true rfl) (And.intro h1 (h)))))))⟩

set_option maxRecDepth 100000 in
set_option maxHeartbeats 4000000 in
theorem sX1_readPart_36 {E : aR} {A : Nat → Nat → Int32} {R : Nat → Nat → Option Nat} {G : Nat → Nat × Nat} (hG : aGS G) (x1 : Int32) (d2 : Option Value) (y0 : Int32)
    (h : ((y0 = 0) → (E (some (.int 0)) (A, R, G))) ∧ ((¬ (y0 = 0)) → (∃ (v1 : Int32) (μ1 : aM), CX1_skip [.ref 31, .int (-22)] (A, R, G) (some (.int v1)) μ1 ∧ aw tX1_readPart E 45 [some (.ref 31), some (.int x1), d2] [.int v1] μ1))) :
    aw tX1_readPart E 36 [some (.ref 31), some (.int x1), d2] [.int y0] (A, R, G) := by
  by_cases c1 : y0 = 0
  · replace h := h.1 c1
    exact ⟨3, Or.inl (And.intro c1 (And.intro (Or.inl rfl) (h)))⟩
  · replace h := h.2 c1
    obtain ⟨v1, μ1, h1, n, h⟩ := h
    exact ⟨n + 4, Or.inr (And.intro c1 (Exists.intro _ (Exists.intro _ (Exists.intro _ (Exists.intro _ (And.intro rfl (And.intro (gt31 hG) (And.intro (Nat.le_of_ble_eq_true rfl) (And.intro h1 (h))))))))))⟩

set_option maxRecDepth 100000 in
set_option maxHeartbeats 4000000 in
theorem sX1_readPart_45 {E : aR} {A : Nat → Nat → Int32} {R : Nat → Nat → Option Nat} {G : Nat → Nat × Nat} (hG : aGS G) (x1 : Int32) (d2 : Option Value) (y0 : Int32)
    (h : ((y0 = 0) → (E (some (.int 0)) (A, R, G))) ∧ ((¬ (y0 = 0)) → ((vp_in x1 3) ∧ (E (some (.int 1)) ((au A 36 x1.toNatClampNeg (A 31 7)), R, G))))) :
    aw tX1_readPart E 45 [some (.ref 31), some (.int x1), d2] [.int y0] (A, R, G) := by
  by_cases c1 : y0 = 0
  · replace h := h.1 c1
    exact ⟨3, Or.inr (And.intro (fun z => z c1) (And.intro (Or.inl rfl) (h)))⟩
  · replace h := h.2 c1
    obtain ⟨q2, h⟩ := h
    exact ⟨9, Or.inl (And.intro c1 (And.intro (gt31 hG) (And.intro (gt31 hG) (And.intro (gt36 hG) (And.intro (vin_len (gl36 hG) q2) (And.intro (Or.inr rfl) (h)))))))⟩

set_option maxRecDepth 100000 in
set_option maxHeartbeats 4000000 in
theorem sX1_faultOfTape_0 {E : aR} {A : Nat → Nat → Int32} {R : Nat → Nat → Option Nat} {G : Nat → Nat × Nat} (hG : aGS G)
    (h : ∃ (μ1 : aM), CX1_scan [.ref 31] (A, R, G) none μ1 ∧ aw tX1_faultOfTape E 4 [some (.ref 31), none] [] μ1) :
    aw tX1_faultOfTape E 0 [some (.ref 31), none] [] (A, R, G) := by
  obtain ⟨μ1, h1, n, h⟩ := h
  exact ⟨n + 2, Exists.intro _ (Exists.intro _ (Exists.intro _ (Exists.intro _ (And.intro rfl (And.intro (gt31 hG) (And.intro (Nat.le_of_ble_eq_true rfl) (And.intro h1 (h))))))))⟩

set_option maxRecDepth 100000 in
set_option maxHeartbeats 4000000 in
theorem sX1_faultOfTape_4 {E : aR} {A : Nat → Nat → Int32} {R : Nat → Nat → Option Nat} {G : Nat → Nat × Nat} (hG : aGS G) (d1 : Option Value)
    (h : aw tX1_faultOfTape E 16 [some (.ref 31), some (.int 0)] [] ((au (au A 31 6 0) 31 7 0), R, G)) :
    aw tX1_faultOfTape E 4 [some (.ref 31), d1] [] (A, R, G) := by
  obtain ⟨n, h⟩ := h
  exact ⟨n + 8, And.intro (gt31 hG) (And.intro (gt31 hG) (h))⟩

set_option maxRecDepth 100000 in
set_option maxHeartbeats 4000000 in
theorem sX1_faultOfTape_16 {E : aR} {A : Nat → Nat → Int32} {R : Nat → Nat → Option Nat} {G : Nat → Nat × Nat} (hG : aGS G) (x1 : Int32)
    (h : ((3 ≤ x1) → ((0 ≤ A 31 6) ∧ ((((tkX A) = (-26)) → (E (some (.int (-1))) (A, R, G))) ∧ ((¬ ((tkX A) = (-26))) → (E (some (.int (plX A))) (A, R, G)))))) ∧ ((¬ (3 ≤ x1)) → (∃ (v1 : Int32) (μ1 : aM), CX1_readPart [.ref 31, .int x1] (A, R, G) (some (.int v1)) μ1 ∧ aw tX1_faultOfTape E 26 [some (.ref 31), some (.int x1)] [.int v1] μ1))) :
    aw tX1_faultOfTape E 16 [some (.ref 31), some (.int x1)] [] (A, R, G) := by
  by_cases c1 : 3 ≤ x1
  · replace h := h.1 c1
    obtain ⟨q2, h⟩ := h
    by_cases c3 : (tkX A) = (-26)
    · replace h := h.1 c3
      exact ⟨10, Or.inl (And.intro c1 (Exists.intro _ (Exists.intro _ (Exists.intro _ (Exists.intro _ (And.intro rfl (And.intro (gt31 hG) (And.intro (Nat.le_of_ble_eq_true rfl) (And.intro (pX1_token hG  q2) (Or.inr (And.intro (fun z => z c3) (h))))))))))))⟩
    · replace h := h.2 c3
      exact ⟨10, Or.inl (And.intro c1 (Exists.intro _ (Exists.intro _ (Exists.intro _ (Exists.intro _ (And.intro rfl (And.intro (gt31 hG) (And.intro (Nat.le_of_ble_eq_true rfl) (And.intro (pX1_token hG  q2) (Or.inl (And.intro c3 (Exists.intro _ (Exists.intro _ (Exists.intro _ (Exists.intro _ (And.intro rfl (And.intro (gt31 hG) (And.intro (Nat.le_of_ble_eq_true rfl) (And.intro (pX1_place hG  q2) (h))))))))))))))))))))⟩
  · replace h := h.2 c1
    obtain ⟨v1, μ1, h1, n, h⟩ := h
    exact ⟨n + 6, Or.inr (And.intro c1 (Exists.intro _ (Exists.intro _ (Exists.intro _ (Exists.intro _ (And.intro rfl (And.intro (gt31 hG) (And.intro (Nat.le_of_ble_eq_true rfl) (And.intro h1 (h))))))))))⟩

set_option maxRecDepth 100000 in
set_option maxHeartbeats 4000000 in
theorem sX1_faultOfTape_26 {E : aR} {A : Nat → Nat → Int32} {R : Nat → Nat → Option Nat} {G : Nat → Nat × Nat} (hG : aGS G) (x1 : Int32) (y0 : Int32)
    (h : ((y0 = 0) → ((0 ≤ A 31 6) ∧ (E (some (.int (plX A))) (A, R, G)))) ∧ ((¬ (y0 = 0)) → (aw tX1_faultOfTape E 16 [some (.ref 31), some (.int (x1 + 1))] [] (A, R, G)))) :
    aw tX1_faultOfTape E 26 [some (.ref 31), some (.int x1)] [.int y0] (A, R, G) := by
  by_cases c1 : y0 = 0
  · replace h := h.1 c1
    obtain ⟨q2, h⟩ := h
    exact ⟨4, Or.inr (And.intro (fun z => z c1) (Exists.intro _ (Exists.intro _ (Exists.intro _ (Exists.intro _ (And.intro rfl (And.intro (gt31 hG) (And.intro (Nat.le_of_ble_eq_true rfl) (And.intro (pX1_place hG  q2) (h))))))))))⟩
  · replace h := h.2 c1
    obtain ⟨n, h⟩ := h
    exact ⟨n + 3, Or.inl (And.intro c1 (h))⟩

set_option maxRecDepth 100000 in
set_option maxHeartbeats 4000000 in
theorem sX5_wordFrom_0 {E : aR} {A : Nat → Nat → Int32} {R : Nat → Nat → Option Nat} {G : Nat → Nat × Nat} (x1 : Int32) (x2 : Int32)
    (h : aw tX5_wordFrom E 2 [some (.ref 48), some (.int x1), some (.int x2), some (.int 0), none, none] [] (A, R, G)) :
    aw tX5_wordFrom E 0 [some (.ref 48), some (.int x1), some (.int x2), none, none, none] [] (A, R, G) := by
  obtain ⟨n, h⟩ := h
  exact ⟨n + 2, h⟩

set_option maxRecDepth 100000 in
set_option maxHeartbeats 4000000 in
theorem sX5_wordFrom_2 {E : aR} {A : Nat → Nat → Int32} {R : Nat → Nat → Option Nat} {G : Nat → Nat × Nat} (x1 : Int32) (x2 : Int32) (x3 : Int32) (d4 : Option Value) (d5 : Option Value)
    (h : ((12 ≤ x3) → (E (some (.int 12)) (A, R, G))) ∧ ((¬ (12 ≤ x3)) → (((8 < (x2 - x1)) → (aw tX5_wordFrom E 26 [some (.ref 48), some (.int x1), some (.int x2), some (.int x3), some (.int 0), some (.int 0)] [] (A, R, G))) ∧ ((¬ (8 < (x2 - x1))) → (aw tX5_wordFrom E 26 [some (.ref 48), some (.int x1), some (.int x2), some (.int x3), some (.int 1), some (.int 0)] [] (A, R, G)))))) :
    aw tX5_wordFrom E 2 [some (.ref 48), some (.int x1), some (.int x2), some (.int x3), d4, d5] [] (A, R, G) := by
  by_cases c1 : 12 ≤ x3
  · replace h := h.1 c1
    exact ⟨5, Or.inl (And.intro c1 (h))⟩
  · replace h := h.2 c1
    by_cases c2 : 8 < (x2 - x1)
    · replace h := h.1 c2
      obtain ⟨n, h⟩ := h
      exact ⟨n + 12, Or.inr (And.intro c1 (Or.inl (And.intro c2 (h))))⟩
    · replace h := h.2 c2
      obtain ⟨n, h⟩ := h
      exact ⟨n + 13, Or.inr (And.intro c1 (Or.inr (And.intro c2 (h))))⟩

set_option maxRecDepth 100000 in
set_option maxHeartbeats 4000000 in
theorem sX5_wordFrom_26 {E : aR} {A : Nat → Nat → Int32} {R : Nat → Nat → Option Nat} {G : Nat → Nat × Nat} (hG : aGS G) (x1 : Int32) (x2 : Int32) (x3 : Int32) (x4 : Int32) (x5 : Int32)
    (h : ((8 ≤ x5) → (((x4 = 0) → (aw tX5_wordFrom E 2 [some (.ref 48), some (.int x1), some (.int x2), some (.int (x3 + 1)), some (.int x4), some (.int x5)] [] (A, R, G))) ∧ ((¬ (x4 = 0)) → (E (some (.int x3)) (A, R, G))))) ∧ ((¬ (8 ≤ x5)) → (((x4 = 0) → (aw tX5_wordFrom E 2 [some (.ref 48), some (.int x1), some (.int x2), some (.int (x3 + 1)), some (.int x4), some (.int x5)] [] (A, R, G))) ∧ ((¬ (x4 = 0)) → ((vp_in ((8 * x3) + x5) 96) ∧ (((x2 ≤ (x1 + x5)) → ((((A 62 ((8 * x3) + x5).toNatClampNeg) = 32) → (aw tX5_wordFrom E 26 [some (.ref 48), some (.int x1), some (.int x2), some (.int x3), some (.int 1), some (.int (x5 + 1))] [] (A, R, G))) ∧ ((¬ ((A 62 ((8 * x3) + x5).toNatClampNeg) = 32)) → (aw tX5_wordFrom E 26 [some (.ref 48), some (.int x1), some (.int x2), some (.int x3), some (.int 0), some (.int (x5 + 1))] [] (A, R, G))))) ∧ ((¬ (x2 ≤ (x1 + x5))) → ((vp_in (x1 + x5) 160) ∧ ((((A 62 ((8 * x3) + x5).toNatClampNeg) = (A 53 (x1 + x5).toNatClampNeg)) → (aw tX5_wordFrom E 26 [some (.ref 48), some (.int x1), some (.int x2), some (.int x3), some (.int 1), some (.int (x5 + 1))] [] (A, R, G))) ∧ ((¬ ((A 62 ((8 * x3) + x5).toNatClampNeg) = (A 53 (x1 + x5).toNatClampNeg))) → (aw tX5_wordFrom E 26 [some (.ref 48), some (.int x1), some (.int x2), some (.int x3), some (.int 0), some (.int (x5 + 1))] [] (A, R, G)))))))))))) :
    aw tX5_wordFrom E 26 [some (.ref 48), some (.int x1), some (.int x2), some (.int x3), some (.int x4), some (.int x5)] [] (A, R, G) := by
  by_cases c1 : 8 ≤ x5
  · replace h := h.1 c1
    by_cases c2 : x4 = 0
    · replace h := h.1 c2
      obtain ⟨n, h⟩ := h
      exact ⟨n + 7, Or.inl (And.intro c1 (Or.inl (And.intro c2 (h))))⟩
    · replace h := h.2 c2
      exact ⟨7, Or.inl (And.intro c1 (Or.inr (And.intro c2 (h))))⟩
  · replace h := h.2 c1
    by_cases c3 : x4 = 0
    · replace h := h.1 c3
      obtain ⟨n, h⟩ := h
      exact ⟨n + 9, Or.inr (And.intro c1 (Or.inl (And.intro c3 (Or.inl (And.intro c3 (h))))))⟩
    · replace h := h.2 c3
      obtain ⟨q4, h⟩ := h
      by_cases c5 : x2 ≤ (x1 + x5)
      · replace h := h.1 c5
        by_cases c6 : (A 62 ((8 * x3) + x5).toNatClampNeg) = 32
        · replace h := h.1 c6
          obtain ⟨n, h⟩ := h
          exact ⟨n + 25, Or.inr (And.intro c1 (Or.inr (And.intro c3 (And.intro (gt48 hG) (And.intro (gt62 hG) (And.intro (vin_len (gl62 hG) q4) (Or.inl (And.intro c5 (Or.inr (And.intro (fun z => z c6) (h)))))))))))⟩
        · replace h := h.2 c6
          obtain ⟨n, h⟩ := h
          exact ⟨n + 24, Or.inr (And.intro c1 (Or.inr (And.intro c3 (And.intro (gt48 hG) (And.intro (gt62 hG) (And.intro (vin_len (gl62 hG) q4) (Or.inl (And.intro c5 (Or.inl (And.intro c6 (h)))))))))))⟩
      · replace h := h.2 c5
        obtain ⟨q7, h⟩ := h
        by_cases c8 : (A 62 ((8 * x3) + x5).toNatClampNeg) = (A 53 (x1 + x5).toNatClampNeg)
        · replace h := h.1 c8
          obtain ⟨n, h⟩ := h
          exact ⟨n + 31, Or.inr (And.intro c1 (Or.inr (And.intro c3 (And.intro (gt48 hG) (And.intro (gt62 hG) (And.intro (vin_len (gl62 hG) q4) (Or.inr (And.intro c5 (And.intro (gt48 hG) (And.intro (gt53 hG) (And.intro (vin_len (gl53 hG) q7) (Or.inr (And.intro (fun z => z c8) (h))))))))))))))⟩
        · replace h := h.2 c8
          obtain ⟨n, h⟩ := h
          exact ⟨n + 30, Or.inr (And.intro c1 (Or.inr (And.intro c3 (And.intro (gt48 hG) (And.intro (gt62 hG) (And.intro (vin_len (gl62 hG) q4) (Or.inr (And.intro c5 (And.intro (gt48 hG) (And.intro (gt53 hG) (And.intro (vin_len (gl53 hG) q7) (Or.inl (And.intro c8 (h))))))))))))))⟩

set_option maxRecDepth 100000 in
set_option maxHeartbeats 4000000 in
theorem sX5_next_0 {E : aR} {A : Nat → Nat → Int32} {R : Nat → Nat → Option Nat} {G : Nat → Nat × Nat} (hG : aGS G)
    (h : (((A 48 8) ≤ (A 48 20)) → (aw tX5_next E 52 [some (.ref 48), none, none] [] (A, R, G))) ∧ ((¬ ((A 48 8) ≤ (A 48 20))) → ((vp_in (A 48 20) 160) ∧ ((((A 53 (A 48 20).toNatClampNeg) = 32) → (aw tX5_next E 39 [some (.ref 48), none, none] [] (A, R, G))) ∧ ((¬ ((A 53 (A 48 20).toNatClampNeg) = 32)) → ((((A 53 (A 48 20).toNatClampNeg) = 10) → (aw tX5_next E 39 [some (.ref 48), none, none] [] (A, R, G))) ∧ ((¬ ((A 53 (A 48 20).toNatClampNeg) = 10)) → (aw tX5_next E 52 [some (.ref 48), none, none] [] (A, R, G))))))))) :
    aw tX5_next E 0 [some (.ref 48), none, none] [] (A, R, G) := by
  by_cases c1 : (A 48 8) ≤ (A 48 20)
  · replace h := h.1 c1
    obtain ⟨n, h⟩ := h
    exact ⟨n + 5, And.intro (gt48 hG) (And.intro (gt48 hG) (Or.inl (And.intro c1 (h))))⟩
  · replace h := h.2 c1
    obtain ⟨q2, h⟩ := h
    by_cases c3 : (A 53 (A 48 20).toNatClampNeg) = 32
    · replace h := h.1 c3
      obtain ⟨n, h⟩ := h
      exact ⟨n + 12, And.intro (gt48 hG) (And.intro (gt48 hG) (Or.inr (And.intro c1 (And.intro (gt48 hG) (And.intro (gt48 hG) (And.intro (gt53 hG) (And.intro (vin_len (gl53 hG) q2) (Or.inl (And.intro c3 (h))))))))))⟩
    · replace h := h.2 c3
      by_cases c4 : (A 53 (A 48 20).toNatClampNeg) = 10
      · replace h := h.1 c4
        obtain ⟨n, h⟩ := h
        exact ⟨n + 19, And.intro (gt48 hG) (And.intro (gt48 hG) (Or.inr (And.intro c1 (And.intro (gt48 hG) (And.intro (gt48 hG) (And.intro (gt53 hG) (And.intro (vin_len (gl53 hG) q2) (Or.inr (And.intro c3 (And.intro (gt48 hG) (And.intro (gt48 hG) (And.intro (gt53 hG) (And.intro (vin_len (gl53 hG) q2) (Or.inr (And.intro (fun z => z c4) (h))))))))))))))))⟩
      · replace h := h.2 c4
        obtain ⟨n, h⟩ := h
        exact ⟨n + 19, And.intro (gt48 hG) (And.intro (gt48 hG) (Or.inr (And.intro c1 (And.intro (gt48 hG) (And.intro (gt48 hG) (And.intro (gt53 hG) (And.intro (vin_len (gl53 hG) q2) (Or.inr (And.intro c3 (And.intro (gt48 hG) (And.intro (gt48 hG) (And.intro (gt53 hG) (And.intro (vin_len (gl53 hG) q2) (Or.inl (And.intro c4 (h))))))))))))))))⟩

set_option maxRecDepth 100000 in
set_option maxHeartbeats 4000000 in
theorem sX5_next_39 {E : aR} {A : Nat → Nat → Int32} {R : Nat → Nat → Option Nat} {G : Nat → Nat × Nat} (hG : aGS G) (d1 : Option Value) (d2 : Option Value)
    (h : aw tX5_next E 0 [some (.ref 48), d1, d2] [] ((au A 48 20 ((A 48 20) + 1)), R, G)) :
    aw tX5_next E 39 [some (.ref 48), d1, d2] [] (A, R, G) := by
  obtain ⟨n, h⟩ := h
  exact ⟨n + 7, And.intro rfl (And.intro (gt48 hG) (And.intro (gt48 hG) (h)))⟩

set_option maxRecDepth 100000 in
set_option maxHeartbeats 4000000 in
theorem sX5_next_52 {E : aR} {A : Nat → Nat → Int32} {R : Nat → Nat → Option Nat} {G : Nat → Nat × Nat} (hG : aGS G) (d1 : Option Value) (d2 : Option Value)
    (h : (((((au (au (au A 48 21 (A 48 20)) 48 22 0) 48 23 0)) 48 20) = (((au (au (au A 48 21 (A 48 20)) 48 22 0) 48 23 0)) 48 8)) → (E none ((au (au (au A 48 21 (A 48 20)) 48 22 0) 48 23 0), R, G))) ∧ ((¬ ((((au (au (au A 48 21 (A 48 20)) 48 22 0) 48 23 0)) 48 20) = (((au (au (au A 48 21 (A 48 20)) 48 22 0) 48 23 0)) 48 8))) → ((vp_in (((au (au (au A 48 21 (A 48 20)) 48 22 0) 48 23 0)) 48 20) 160) ∧ (((97 ≤ ((au (au (au A 48 21 (A 48 20)) 48 22 0) 48 23 0) 53 (((au (au (au A 48 21 (A 48 20)) 48 22 0) 48 23 0)) 48 20).toNatClampNeg) ∧ ((au (au (au A 48 21 (A 48 20)) 48 22 0) 48 23 0) 53 (((au (au (au A 48 21 (A 48 20)) 48 22 0) 48 23 0)) 48 20).toNatClampNeg) ≤ 122) → (aw tX5_next E 103 [some (.ref 48), some (.int ((au (au (au A 48 21 (A 48 20)) 48 22 0) 48 23 0) 53 (((au (au (au A 48 21 (A 48 20)) 48 22 0) 48 23 0)) 48 20).toNatClampNeg)), d2] [] ((au (au (au A 48 21 (A 48 20)) 48 22 0) 48 23 0), R, G))) ∧ ((¬ (97 ≤ ((au (au (au A 48 21 (A 48 20)) 48 22 0) 48 23 0) 53 (((au (au (au A 48 21 (A 48 20)) 48 22 0) 48 23 0)) 48 20).toNatClampNeg) ∧ ((au (au (au A 48 21 (A 48 20)) 48 22 0) 48 23 0) 53 (((au (au (au A 48 21 (A 48 20)) 48 22 0) 48 23 0)) 48 20).toNatClampNeg) ≤ 122)) → (((48 ≤ ((au (au (au A 48 21 (A 48 20)) 48 22 0) 48 23 0) 53 (((au (au (au A 48 21 (A 48 20)) 48 22 0) 48 23 0)) 48 20).toNatClampNeg) ∧ ((au (au (au A 48 21 (A 48 20)) 48 22 0) 48 23 0) 53 (((au (au (au A 48 21 (A 48 20)) 48 22 0) 48 23 0)) 48 20).toNatClampNeg) ≤ 57) → (aw tX5_next E 230 [some (.ref 48), some (.int ((au (au (au A 48 21 (A 48 20)) 48 22 0) 48 23 0) 53 (((au (au (au A 48 21 (A 48 20)) 48 22 0) 48 23 0)) 48 20).toNatClampNeg)), some (.int 0)] [] ((au (au (au A 48 21 (A 48 20)) 48 22 0) 48 23 0), R, G))) ∧ ((¬ (48 ≤ ((au (au (au A 48 21 (A 48 20)) 48 22 0) 48 23 0) 53 (((au (au (au A 48 21 (A 48 20)) 48 22 0) 48 23 0)) 48 20).toNatClampNeg) ∧ ((au (au (au A 48 21 (A 48 20)) 48 22 0) 48 23 0) 53 (((au (au (au A 48 21 (A 48 20)) 48 22 0) 48 23 0)) 48 20).toNatClampNeg) ≤ 57)) → (((((au (au (au A 48 21 (A 48 20)) 48 22 0) 48 23 0) 53 (((au (au (au A 48 21 (A 48 20)) 48 22 0) 48 23 0)) 48 20).toNatClampNeg) = 40) → (aw tX5_next E 374 [some (.ref 48), some (.int ((au (au (au A 48 21 (A 48 20)) 48 22 0) 48 23 0) 53 (((au (au (au A 48 21 (A 48 20)) 48 22 0) 48 23 0)) 48 20).toNatClampNeg)), d2] [] ((au (au (au A 48 21 (A 48 20)) 48 22 0) 48 23 0), R, G))) ∧ ((¬ (((au (au (au A 48 21 (A 48 20)) 48 22 0) 48 23 0) 53 (((au (au (au A 48 21 (A 48 20)) 48 22 0) 48 23 0)) 48 20).toNatClampNeg) = 40)) → (((((au (au (au A 48 21 (A 48 20)) 48 22 0) 48 23 0) 53 (((au (au (au A 48 21 (A 48 20)) 48 22 0) 48 23 0)) 48 20).toNatClampNeg) = 41) → (aw tX5_next E 374 [some (.ref 48), some (.int ((au (au (au A 48 21 (A 48 20)) 48 22 0) 48 23 0) 53 (((au (au (au A 48 21 (A 48 20)) 48 22 0) 48 23 0)) 48 20).toNatClampNeg)), d2] [] ((au (au (au A 48 21 (A 48 20)) 48 22 0) 48 23 0), R, G))) ∧ ((¬ (((au (au (au A 48 21 (A 48 20)) 48 22 0) 48 23 0) 53 (((au (au (au A 48 21 (A 48 20)) 48 22 0) 48 23 0)) 48 20).toNatClampNeg) = 41)) → (((((au (au (au A 48 21 (A 48 20)) 48 22 0) 48 23 0) 53 (((au (au (au A 48 21 (A 48 20)) 48 22 0) 48 23 0)) 48 20).toNatClampNeg) = 59) → (aw tX5_next E 374 [some (.ref 48), some (.int ((au (au (au A 48 21 (A 48 20)) 48 22 0) 48 23 0) 53 (((au (au (au A 48 21 (A 48 20)) 48 22 0) 48 23 0)) 48 20).toNatClampNeg)), d2] [] ((au (au (au A 48 21 (A 48 20)) 48 22 0) 48 23 0), R, G))) ∧ ((¬ (((au (au (au A 48 21 (A 48 20)) 48 22 0) 48 23 0) 53 (((au (au (au A 48 21 (A 48 20)) 48 22 0) 48 23 0)) 48 20).toNatClampNeg) = 59)) → (((((au (au (au A 48 21 (A 48 20)) 48 22 0) 48 23 0) 53 (((au (au (au A 48 21 (A 48 20)) 48 22 0) 48 23 0)) 48 20).toNatClampNeg) = 43) → (aw tX5_next E 374 [some (.ref 48), some (.int ((au (au (au A 48 21 (A 48 20)) 48 22 0) 48 23 0) 53 (((au (au (au A 48 21 (A 48 20)) 48 22 0) 48 23 0)) 48 20).toNatClampNeg)), d2] [] ((au (au (au A 48 21 (A 48 20)) 48 22 0) 48 23 0), R, G))) ∧ ((¬ (((au (au (au A 48 21 (A 48 20)) 48 22 0) 48 23 0) 53 (((au (au (au A 48 21 (A 48 20)) 48 22 0) 48 23 0)) 48 20).toNatClampNeg) = 43)) → (((((au (au (au A 48 21 (A 48 20)) 48 22 0) 48 23 0) 53 (((au (au (au A 48 21 (A 48 20)) 48 22 0) 48 23 0)) 48 20).toNatClampNeg) = 45) → (aw tX5_next E 374 [some (.ref 48), some (.int ((au (au (au A 48 21 (A 48 20)) 48 22 0) 48 23 0) 53 (((au (au (au A 48 21 (A 48 20)) 48 22 0) 48 23 0)) 48 20).toNatClampNeg)), d2] [] ((au (au (au A 48 21 (A 48 20)) 48 22 0) 48 23 0), R, G))) ∧ ((¬ (((au (au (au A 48 21 (A 48 20)) 48 22 0) 48 23 0) 53 (((au (au (au A 48 21 (A 48 20)) 48 22 0) 48 23 0)) 48 20).toNatClampNeg) = 45)) → (((((au (au (au A 48 21 (A 48 20)) 48 22 0) 48 23 0) 53 (((au (au (au A 48 21 (A 48 20)) 48 22 0) 48 23 0)) 48 20).toNatClampNeg) = 42) → (aw tX5_next E 374 [some (.ref 48), some (.int ((au (au (au A 48 21 (A 48 20)) 48 22 0) 48 23 0) 53 (((au (au (au A 48 21 (A 48 20)) 48 22 0) 48 23 0)) 48 20).toNatClampNeg)), d2] [] ((au (au (au A 48 21 (A 48 20)) 48 22 0) 48 23 0), R, G))) ∧ ((¬ (((au (au (au A 48 21 (A 48 20)) 48 22 0) 48 23 0) 53 (((au (au (au A 48 21 (A 48 20)) 48 22 0) 48 23 0)) 48 20).toNatClampNeg) = 42)) → (((((au (au (au A 48 21 (A 48 20)) 48 22 0) 48 23 0) 53 (((au (au (au A 48 21 (A 48 20)) 48 22 0) 48 23 0)) 48 20).toNatClampNeg) = 60) → (aw tX5_next E 374 [some (.ref 48), some (.int ((au (au (au A 48 21 (A 48 20)) 48 22 0) 48 23 0) 53 (((au (au (au A 48 21 (A 48 20)) 48 22 0) 48 23 0)) 48 20).toNatClampNeg)), d2] [] ((au (au (au A 48 21 (A 48 20)) 48 22 0) 48 23 0), R, G))) ∧ ((¬ (((au (au (au A 48 21 (A 48 20)) 48 22 0) 48 23 0) 53 (((au (au (au A 48 21 (A 48 20)) 48 22 0) 48 23 0)) 48 20).toNatClampNeg) = 60)) → (((((au (au (au A 48 21 (A 48 20)) 48 22 0) 48 23 0) 53 (((au (au (au A 48 21 (A 48 20)) 48 22 0) 48 23 0)) 48 20).toNatClampNeg) = 61) → (aw tX5_next E 374 [some (.ref 48), some (.int ((au (au (au A 48 21 (A 48 20)) 48 22 0) 48 23 0) 53 (((au (au (au A 48 21 (A 48 20)) 48 22 0) 48 23 0)) 48 20).toNatClampNeg)), d2] [] ((au (au (au A 48 21 (A 48 20)) 48 22 0) 48 23 0), R, G))) ∧ ((¬ (((au (au (au A 48 21 (A 48 20)) 48 22 0) 48 23 0) 53 (((au (au (au A 48 21 (A 48 20)) 48 22 0) 48 23 0)) 48 20).toNatClampNeg) = 61)) → (aw tX5_next E 403 [some (.ref 48), some (.int ((au (au (au A 48 21 (A 48 20)) 48 22 0) 48 23 0) 53 (((au (au (au A 48 21 (A 48 20)) 48 22 0) 48 23 0)) 48 20).toNatClampNeg)), some (.int 0)] [] ((au (au (au (au (au A 48 21 (A 48 20)) 48 22 0) 48 23 0) 48 22 (-1)) 48 20 ((((au (au (au (au A 48 21 (A 48 20)) 48 22 0) 48 23 0) 48 22 (-1))) 48 20) + 1)), R, G))))))))))))))))))))))))) :
    aw tX5_next E 52 [some (.ref 48), d1, d2] [] (A, R, G) := by
  by_cases c1 : (((au (au (au A 48 21 (A 48 20)) 48 22 0) 48 23 0)) 48 20) = (((au (au (au A 48 21 (A 48 20)) 48 22 0) 48 23 0)) 48 8)
  · replace h := h.1 c1
    exact ⟨16, And.intro (gt48 hG) (And.intro (gt48 hG) (And.intro (gt48 hG) (And.intro (gt48 hG) (And.intro (gt48 hG) (And.intro (gt48 hG) (Or.inr (And.intro (fun z => z c1) (h))))))))⟩
  · replace h := h.2 c1
    obtain ⟨q2, h⟩ := h
    by_cases c3 : 97 ≤ ((au (au (au A 48 21 (A 48 20)) 48 22 0) 48 23 0) 53 (((au (au (au A 48 21 (A 48 20)) 48 22 0) 48 23 0)) 48 20).toNatClampNeg) ∧ ((au (au (au A 48 21 (A 48 20)) 48 22 0) 48 23 0) 53 (((au (au (au A 48 21 (A 48 20)) 48 22 0) 48 23 0)) 48 20).toNatClampNeg) ≤ 122
    · replace h := h.1 c3
      obtain ⟨n, h⟩ := h
      exact ⟨n + 26, And.intro (gt48 hG) (And.intro (gt48 hG) (And.intro (gt48 hG) (And.intro (gt48 hG) (And.intro (gt48 hG) (And.intro (gt48 hG) (Or.inl (And.intro c1 (And.intro (gt48 hG) (And.intro (gt48 hG) (And.intro (gt53 hG) (And.intro (vin_len (gl53 hG) q2) (Exists.intro _ (Exists.intro _ (And.intro (Nat.le_of_ble_eq_true rfl) (And.intro (Nat.le_of_ble_eq_true rfl) (And.intro (pX5_in _ _ _) (Or.inr (And.intro (bI_neq c3) (h)))))))))))))))))))⟩
    · replace h := h.2 c3
      by_cases c4 : 48 ≤ ((au (au (au A 48 21 (A 48 20)) 48 22 0) 48 23 0) 53 (((au (au (au A 48 21 (A 48 20)) 48 22 0) 48 23 0)) 48 20).toNatClampNeg) ∧ ((au (au (au A 48 21 (A 48 20)) 48 22 0) 48 23 0) 53 (((au (au (au A 48 21 (A 48 20)) 48 22 0) 48 23 0)) 48 20).toNatClampNeg) ≤ 57
      · replace h := h.1 c4
        obtain ⟨n, h⟩ := h
        exact ⟨n + 33, And.intro (gt48 hG) (And.intro (gt48 hG) (And.intro (gt48 hG) (And.intro (gt48 hG) (And.intro (gt48 hG) (And.intro (gt48 hG) (Or.inl (And.intro c1 (And.intro (gt48 hG) (And.intro (gt48 hG) (And.intro (gt53 hG) (And.intro (vin_len (gl53 hG) q2) (Exists.intro _ (Exists.intro _ (And.intro (Nat.le_of_ble_eq_true rfl) (And.intro (Nat.le_of_ble_eq_true rfl) (And.intro (pX5_in _ _ _) (Or.inl (And.intro (bI_eq c3) (Exists.intro _ (Exists.intro _ (And.intro (Nat.le_of_ble_eq_true rfl) (And.intro (Nat.le_of_ble_eq_true rfl) (And.intro (pX5_in _ _ _) (Or.inr (And.intro (bI_neq c4) (h))))))))))))))))))))))))))⟩
      · replace h := h.2 c4
        by_cases c5 : ((au (au (au A 48 21 (A 48 20)) 48 22 0) 48 23 0) 53 (((au (au (au A 48 21 (A 48 20)) 48 22 0) 48 23 0)) 48 20).toNatClampNeg) = 40
        · replace h := h.1 c5
          obtain ⟨n, h⟩ := h
          exact ⟨n + 34, And.intro (gt48 hG) (And.intro (gt48 hG) (And.intro (gt48 hG) (And.intro (gt48 hG) (And.intro (gt48 hG) (And.intro (gt48 hG) (Or.inl (And.intro c1 (And.intro (gt48 hG) (And.intro (gt48 hG) (And.intro (gt53 hG) (And.intro (vin_len (gl53 hG) q2) (Exists.intro _ (Exists.intro _ (And.intro (Nat.le_of_ble_eq_true rfl) (And.intro (Nat.le_of_ble_eq_true rfl) (And.intro (pX5_in _ _ _) (Or.inl (And.intro (bI_eq c3) (Exists.intro _ (Exists.intro _ (And.intro (Nat.le_of_ble_eq_true rfl) (And.intro (Nat.le_of_ble_eq_true rfl) (And.intro (pX5_in _ _ _) (Or.inl (And.intro (bI_eq c4) (Or.inl (And.intro c5 (h))))))))))))))))))))))))))))⟩
        · replace h := h.2 c5
          by_cases c6 : ((au (au (au A 48 21 (A 48 20)) 48 22 0) 48 23 0) 53 (((au (au (au A 48 21 (A 48 20)) 48 22 0) 48 23 0)) 48 20).toNatClampNeg) = 41
          · replace h := h.1 c6
            obtain ⟨n, h⟩ := h
            exact ⟨n + 37, And.intro (gt48 hG) (And.intro (gt48 hG) (And.intro (gt48 hG) (And.intro (gt48 hG) (And.intro (gt48 hG) (And.intro (gt48 hG) (Or.inl (And.intro c1 (And.intro (gt48 hG) (And.intro (gt48 hG) (And.intro (gt53 hG) (And.intro (vin_len (gl53 hG) q2) (Exists.intro _ (Exists.intro _ (And.intro (Nat.le_of_ble_eq_true rfl) (And.intro (Nat.le_of_ble_eq_true rfl) (And.intro (pX5_in _ _ _) (Or.inl (And.intro (bI_eq c3) (Exists.intro _ (Exists.intro _ (And.intro (Nat.le_of_ble_eq_true rfl) (And.intro (Nat.le_of_ble_eq_true rfl) (And.intro (pX5_in _ _ _) (Or.inl (And.intro (bI_eq c4) (Or.inr (And.intro c5 (Or.inl (And.intro c6 (h))))))))))))))))))))))))))))))⟩
          · replace h := h.2 c6
            by_cases c7 : ((au (au (au A 48 21 (A 48 20)) 48 22 0) 48 23 0) 53 (((au (au (au A 48 21 (A 48 20)) 48 22 0) 48 23 0)) 48 20).toNatClampNeg) = 59
            · replace h := h.1 c7
              obtain ⟨n, h⟩ := h
              exact ⟨n + 40, And.intro (gt48 hG) (And.intro (gt48 hG) (And.intro (gt48 hG) (And.intro (gt48 hG) (And.intro (gt48 hG) (And.intro (gt48 hG) (Or.inl (And.intro c1 (And.intro (gt48 hG) (And.intro (gt48 hG) (And.intro (gt53 hG) (And.intro (vin_len (gl53 hG) q2) (Exists.intro _ (Exists.intro _ (And.intro (Nat.le_of_ble_eq_true rfl) (And.intro (Nat.le_of_ble_eq_true rfl) (And.intro (pX5_in _ _ _) (Or.inl (And.intro (bI_eq c3) (Exists.intro _ (Exists.intro _ (And.intro (Nat.le_of_ble_eq_true rfl) (And.intro (Nat.le_of_ble_eq_true rfl) (And.intro (pX5_in _ _ _) (Or.inl (And.intro (bI_eq c4) (Or.inr (And.intro c5 (Or.inr (And.intro c6 (Or.inl (And.intro c7 (h))))))))))))))))))))))))))))))))⟩
            · replace h := h.2 c7
              by_cases c8 : ((au (au (au A 48 21 (A 48 20)) 48 22 0) 48 23 0) 53 (((au (au (au A 48 21 (A 48 20)) 48 22 0) 48 23 0)) 48 20).toNatClampNeg) = 43
              · replace h := h.1 c8
                obtain ⟨n, h⟩ := h
                exact ⟨n + 43, And.intro (gt48 hG) (And.intro (gt48 hG) (And.intro (gt48 hG) (And.intro (gt48 hG) (And.intro (gt48 hG) (And.intro (gt48 hG) (Or.inl (And.intro c1 (And.intro (gt48 hG) (And.intro (gt48 hG) (And.intro (gt53 hG) (And.intro (vin_len (gl53 hG) q2) (Exists.intro _ (Exists.intro _ (And.intro (Nat.le_of_ble_eq_true rfl) (And.intro (Nat.le_of_ble_eq_true rfl) (And.intro (pX5_in _ _ _) (Or.inl (And.intro (bI_eq c3) (Exists.intro _ (Exists.intro _ (And.intro (Nat.le_of_ble_eq_true rfl) (And.intro (Nat.le_of_ble_eq_true rfl) (And.intro (pX5_in _ _ _) (Or.inl (And.intro (bI_eq c4) (Or.inr (And.intro c5 (Or.inr (And.intro c6 (Or.inr (And.intro c7 (Or.inl (And.intro c8 (h))))))))))))))))))))))))))))))))))⟩
              · replace h := h.2 c8
                by_cases c9 : ((au (au (au A 48 21 (A 48 20)) 48 22 0) 48 23 0) 53 (((au (au (au A 48 21 (A 48 20)) 48 22 0) 48 23 0)) 48 20).toNatClampNeg) = 45
                · replace h := h.1 c9
                  obtain ⟨n, h⟩ := h
                  exact ⟨n + 46, And.intro (gt48 hG) (And.intro (gt48 hG) (And.intro (gt48 hG) (And.intro (gt48 hG) (And.intro (gt48 hG) (And.intro (gt48 hG) (Or.inl (And.intro c1 (And.intro (gt48 hG) (And.intro (gt48 hG) (And.intro (gt53 hG) (And.intro (vin_len (gl53 hG) q2) (Exists.intro _ (Exists.intro _ (And.intro (Nat.le_of_ble_eq_true rfl) (And.intro (Nat.le_of_ble_eq_true rfl) (And.intro (pX5_in _ _ _) (Or.inl (And.intro (bI_eq c3) (Exists.intro _ (Exists.intro _ (And.intro (Nat.le_of_ble_eq_true rfl) (And.intro (Nat.le_of_ble_eq_true rfl) (And.intro (pX5_in _ _ _) (Or.inl (And.intro (bI_eq c4) (Or.inr (And.intro c5 (Or.inr (And.intro c6 (Or.inr (And.intro c7 (Or.inr (And.intro c8 (Or.inl (And.intro c9 (h))))))))))))))))))))))))))))))))))))⟩
                · replace h := h.2 c9
                  by_cases c10 : ((au (au (au A 48 21 (A 48 20)) 48 22 0) 48 23 0) 53 (((au (au (au A 48 21 (A 48 20)) 48 22 0) 48 23 0)) 48 20).toNatClampNeg) = 42
                  · replace h := h.1 c10
                    obtain ⟨n, h⟩ := h
                    exact ⟨n + 49, And.intro (gt48 hG) (And.intro (gt48 hG) (And.intro (gt48 hG) (And.intro (gt48 hG) (And.intro (gt48 hG) (And.intro (gt48 hG) (Or.inl (And.intro c1 (And.intro (gt48 hG) (And.intro (gt48 hG) (And.intro (gt53 hG) (And.intro (vin_len (gl53 hG) q2) (Exists.intro _ (Exists.intro _ (And.intro (Nat.le_of_ble_eq_true rfl) (And.intro (Nat.le_of_ble_eq_true rfl) (And.intro (pX5_in _ _ _) (Or.inl (And.intro (bI_eq c3) (Exists.intro _ (Exists.intro _ (And.intro (Nat.le_of_ble_eq_true rfl) (And.intro (Nat.le_of_ble_eq_true rfl) (And.intro (pX5_in _ _ _) (Or.inl (And.intro (bI_eq c4) (Or.inr (And.intro c5 (Or.inr (And.intro c6 (Or.inr (And.intro c7 (Or.inr (And.intro c8 (Or.inr (And.intro c9 (Or.inl (And.intro c10 (h))))))))))))))))))))))))))))))))))))))⟩
                  · replace h := h.2 c10
                    by_cases c11 : ((au (au (au A 48 21 (A 48 20)) 48 22 0) 48 23 0) 53 (((au (au (au A 48 21 (A 48 20)) 48 22 0) 48 23 0)) 48 20).toNatClampNeg) = 60
                    · replace h := h.1 c11
                      obtain ⟨n, h⟩ := h
                      exact ⟨n + 52, And.intro (gt48 hG) (And.intro (gt48 hG) (And.intro (gt48 hG) (And.intro (gt48 hG) (And.intro (gt48 hG) (And.intro (gt48 hG) (Or.inl (And.intro c1 (And.intro (gt48 hG) (And.intro (gt48 hG) (And.intro (gt53 hG) (And.intro (vin_len (gl53 hG) q2) (Exists.intro _ (Exists.intro _ (And.intro (Nat.le_of_ble_eq_true rfl) (And.intro (Nat.le_of_ble_eq_true rfl) (And.intro (pX5_in _ _ _) (Or.inl (And.intro (bI_eq c3) (Exists.intro _ (Exists.intro _ (And.intro (Nat.le_of_ble_eq_true rfl) (And.intro (Nat.le_of_ble_eq_true rfl) (And.intro (pX5_in _ _ _) (Or.inl (And.intro (bI_eq c4) (Or.inr (And.intro c5 (Or.inr (And.intro c6 (Or.inr (And.intro c7 (Or.inr (And.intro c8 (Or.inr (And.intro c9 (Or.inr (And.intro c10 (Or.inl (And.intro c11 (h))))))))))))))))))))))))))))))))))))))))⟩
                    · replace h := h.2 c11
                      by_cases c12 : ((au (au (au A 48 21 (A 48 20)) 48 22 0) 48 23 0) 53 (((au (au (au A 48 21 (A 48 20)) 48 22 0) 48 23 0)) 48 20).toNatClampNeg) = 61
                      · replace h := h.1 c12
                        obtain ⟨n, h⟩ := h
                        exact ⟨n + 55, And.intro (gt48 hG) (And.intro (gt48 hG) (And.intro (gt48 hG) (And.intro (gt48 hG) (And.intro (gt48 hG) (And.intro (gt48 hG) (Or.inl (And.intro c1 (And.intro (gt48 hG) (And.intro (gt48 hG) (And.intro (gt53 hG) (And.intro (vin_len (gl53 hG) q2) (Exists.intro _ (Exists.intro _ (And.intro (Nat.le_of_ble_eq_true rfl) (And.intro (Nat.le_of_ble_eq_true rfl) (And.intro (pX5_in _ _ _) (Or.inl (And.intro (bI_eq c3) (Exists.intro _ (Exists.intro _ (And.intro (Nat.le_of_ble_eq_true rfl) (And.intro (Nat.le_of_ble_eq_true rfl) (And.intro (pX5_in _ _ _) (Or.inl (And.intro (bI_eq c4) (Or.inr (And.intro c5 (Or.inr (And.intro c6 (Or.inr (And.intro c7 (Or.inr (And.intro c8 (Or.inr (And.intro c9 (Or.inr (And.intro c10 (Or.inr (And.intro c11 (Or.inr (And.intro (fun z => z c12) (h))))))))))))))))))))))))))))))))))))))))))⟩
                      · replace h := h.2 c12
                        obtain ⟨n, h⟩ := h
                        exact ⟨n + 68, And.intro (gt48 hG) (And.intro (gt48 hG) (And.intro (gt48 hG) (And.intro (gt48 hG) (And.intro (gt48 hG) (And.intro (gt48 hG) (Or.inl (And.intro c1 (And.intro (gt48 hG) (And.intro (gt48 hG) (And.intro (gt53 hG) (And.intro (vin_len (gl53 hG) q2) (Exists.intro _ (Exists.intro _ (And.intro (Nat.le_of_ble_eq_true rfl) (And.intro (Nat.le_of_ble_eq_true rfl) (And.intro (pX5_in _ _ _) (Or.inl (And.intro (bI_eq c3) (Exists.intro _ (Exists.intro _ (And.intro (Nat.le_of_ble_eq_true rfl) (And.intro (Nat.le_of_ble_eq_true rfl) (And.intro (pX5_in _ _ _) (Or.inl (And.intro (bI_eq c4) (Or.inr (And.intro c5 (Or.inr (And.intro c6 (Or.inr (And.intro c7 (Or.inr (And.intro c8 (Or.inr (And.intro c9 (Or.inr (And.intro c10 (Or.inr (And.intro c11 (Or.inl (And.intro c12 (Or.inl (And.intro (by decide) (And.intro (gt48 hG) (And.intro rfl (And.intro (gt48 hG) (And.intro (gt48 hG) (h))))))))))))))))))))))))))))))))))))))))))))))))⟩

set_option maxRecDepth 100000 in
set_option maxHeartbeats 4000000 in
theorem sX5_next_103 {E : aR} {A : Nat → Nat → Int32} {R : Nat → Nat → Option Nat} {G : Nat → Nat × Nat} (hG : aGS G) (d1 : Option Value) (d2 : Option Value)
    (h : (((A 48 8) ≤ (A 48 20)) → (aw tX5_next E 146 [some (.ref 48), none, none] [] (A, R, G))) ∧ ((¬ ((A 48 8) ≤ (A 48 20))) → ((vp_in (A 48 20) 160) ∧ (((97 ≤ (A 53 (A 48 20).toNatClampNeg) ∧ (A 53 (A 48 20).toNatClampNeg) ≤ 122) → (aw tX5_next E 103 [some (.ref 48), none, none] [] ((au A 48 20 ((A 48 20) + 1)), R, G))) ∧ ((¬ (97 ≤ (A 53 (A 48 20).toNatClampNeg) ∧ (A 53 (A 48 20).toNatClampNeg) ≤ 122)) → (aw tX5_next E 146 [some (.ref 48), none, none] [] (A, R, G))))))) :
    aw tX5_next E 103 [some (.ref 48), d1, d2] [] (A, R, G) := by
  by_cases c1 : (A 48 8) ≤ (A 48 20)
  · replace h := h.1 c1
    obtain ⟨n, h⟩ := h
    exact ⟨n + 5, And.intro (gt48 hG) (And.intro (gt48 hG) (Or.inl (And.intro c1 (h))))⟩
  · replace h := h.2 c1
    obtain ⟨q2, h⟩ := h
    by_cases c3 : 97 ≤ (A 53 (A 48 20).toNatClampNeg) ∧ (A 53 (A 48 20).toNatClampNeg) ≤ 122
    · replace h := h.1 c3
      obtain ⟨n, h⟩ := h
      exact ⟨n + 21, And.intro (gt48 hG) (And.intro (gt48 hG) (Or.inr (And.intro c1 (And.intro (gt48 hG) (And.intro (gt48 hG) (And.intro (gt53 hG) (And.intro (vin_len (gl53 hG) q2) (Exists.intro _ (Exists.intro _ (And.intro (Nat.le_of_ble_eq_true rfl) (And.intro (Nat.le_of_ble_eq_true rfl) (And.intro (pX5_in _ _ _) (Or.inr (And.intro (bI_neq c3) (And.intro rfl (And.intro (gt48 hG) (And.intro (gt48 hG) (h))))))))))))))))))⟩
    · replace h := h.2 c3
      obtain ⟨n, h⟩ := h
      exact ⟨n + 14, And.intro (gt48 hG) (And.intro (gt48 hG) (Or.inr (And.intro c1 (And.intro (gt48 hG) (And.intro (gt48 hG) (And.intro (gt53 hG) (And.intro (vin_len (gl53 hG) q2) (Exists.intro _ (Exists.intro _ (And.intro (Nat.le_of_ble_eq_true rfl) (And.intro (Nat.le_of_ble_eq_true rfl) (And.intro (pX5_in _ _ _) (Or.inl (And.intro (bI_eq c3) (h)))))))))))))))⟩

set_option maxRecDepth 100000 in
set_option maxHeartbeats 4000000 in
theorem sX5_next_146 {E : aR} {A : Nat → Nat → Int32} {R : Nat → Nat → Option Nat} {G : Nat → Nat × Nat} (hG : aGS G) (d1 : Option Value) (d2 : Option Value)
    (h : ∃ (v1 : Int32) (μ1 : aM), CX5_wordFrom [.ref 48, .int (A 48 21), .int (A 48 20)] (A, R, G) (some (.int v1)) μ1 ∧ aw tX5_next E 158 [some (.ref 48), d1, d2] [.int v1] μ1) :
    aw tX5_next E 146 [some (.ref 48), d1, d2] [] (A, R, G) := by
  obtain ⟨v1, μ1, h1, n, h⟩ := h
  exact ⟨n + 6, And.intro (gt48 hG) (And.intro (gt48 hG) (Exists.intro _ (Exists.intro _ (Exists.intro _ (Exists.intro _ (And.intro rfl (And.intro (gt48 hG) (And.intro (Nat.le_of_ble_eq_true rfl) (And.intro h1 (h))))))))))⟩

set_option maxRecDepth 100000 in
set_option maxHeartbeats 4000000 in
theorem sX5_next_158 {E : aR} {A : Nat → Nat → Int32} {R : Nat → Nat → Option Nat} {G : Nat → Nat × Nat} (hG : aGS G) (d1 : Option Value) (d2 : Option Value) (y0 : Int32)
    (h : ((3 ≤ y0) → (((9 ≤ y0) → (((y0 = 12) → (aw tX5_next E 403 [some (.ref 48), (bif ac2 d1 then none else d1), some (.int y0)] [] ((au (au A 48 22 (-1)) 48 23 (y0 - 3)), R, G))) ∧ ((¬ (y0 = 12)) → (aw tX5_next E 403 [some (.ref 48), (bif ac2 d1 then none else d1), some (.int y0)] [] ((au (au A 48 22 ((4 + y0) - 9)) 48 23 (y0 - 3)), R, G))))) ∧ ((¬ (9 ≤ y0)) → (aw tX5_next E 403 [some (.ref 48), (bif ac2 d1 then none else d1), some (.int y0)] [] ((au (au A 48 22 2) 48 23 (y0 - 3)), R, G))))) ∧ ((¬ (3 ≤ y0)) → (aw tX5_next E 403 [some (.ref 48), (bif ac2 d1 then none else d1), some (.int y0)] [] ((au (au A 48 22 3) 48 23 y0), R, G)))) :
    aw tX5_next E 158 [some (.ref 48), d1, d2] [.int y0] (A, R, G) := by
  by_cases c1 : 3 ≤ y0
  · replace h := h.1 c1
    by_cases c2 : 9 ≤ y0
    · replace h := h.1 c2
      by_cases c3 : y0 = 12
      · replace h := h.1 c3
        obtain ⟨n, h⟩ := h
        exact ⟨n + 23, Or.inl (And.intro c1 (Or.inl (And.intro c2 (Or.inr (And.intro (fun z => z c3) (And.intro (gt48 hG) (Or.inl (And.intro c1 (And.intro (gt48 hG) (h))))))))))⟩
      · replace h := h.2 c3
        obtain ⟨n, h⟩ := h
        exact ⟨n + 26, Or.inl (And.intro c1 (Or.inl (And.intro c2 (Or.inl (And.intro c3 (And.intro (gt48 hG) (Or.inl (And.intro c1 (And.intro (gt48 hG) (h))))))))))⟩
    · replace h := h.2 c2
      obtain ⟨n, h⟩ := h
      exact ⟨n + 20, Or.inl (And.intro c1 (Or.inr (And.intro c2 (And.intro (gt48 hG) (Or.inl (And.intro c1 (And.intro (gt48 hG) (h))))))))⟩
  · replace h := h.2 c1
    obtain ⟨n, h⟩ := h
    exact ⟨n + 16, Or.inr (And.intro c1 (And.intro (gt48 hG) (Or.inr (And.intro c1 (And.intro (gt48 hG) (h))))))⟩

set_option maxRecDepth 100000 in
set_option maxHeartbeats 4000000 in
theorem sX5_next_230 {E : aR} {A : Nat → Nat → Int32} {R : Nat → Nat → Option Nat} {G : Nat → Nat × Nat} (hG : aGS G) (d1 : Option Value) (x2 : Int32)
    (h : (((A 48 8) ≤ (A 48 20)) → (aw tX5_next E 309 [some (.ref 48), none, some (.int x2)] [] (A, R, G))) ∧ ((¬ ((A 48 8) ≤ (A 48 20))) → ((vp_in (A 48 20) 160) ∧ (((48 ≤ (A 53 (A 48 20).toNatClampNeg) ∧ (A 53 (A 48 20).toNatClampNeg) ≤ 57) → (((4 ≤ x2) → (aw tX5_next E 230 [some (.ref 48), none, some (.int (x2 + 1))] [] ((au (au A 48 23 0) 48 20 ((((au A 48 23 0)) 48 20) + 1)), R, G))) ∧ ((¬ (4 ≤ x2)) → (aw tX5_next E 306 [some (.ref 48), none, some (.int (x2 + 1))] [] ((au (au A 48 23 (((10 * (A 48 23)) + (A 53 (A 48 20).toNatClampNeg)) - 48)) 48 20 ((((au A 48 23 (((10 * (A 48 23)) + (A 53 (A 48 20).toNatClampNeg)) - 48))) 48 20) + 1)), R, G))))) ∧ ((¬ (48 ≤ (A 53 (A 48 20).toNatClampNeg) ∧ (A 53 (A 48 20).toNatClampNeg) ≤ 57)) → (aw tX5_next E 309 [some (.ref 48), none, some (.int x2)] [] (A, R, G))))))) :
    aw tX5_next E 230 [some (.ref 48), d1, some (.int x2)] [] (A, R, G) := by
  by_cases c1 : (A 48 8) ≤ (A 48 20)
  · replace h := h.1 c1
    obtain ⟨n, h⟩ := h
    exact ⟨n + 5, And.intro (gt48 hG) (And.intro (gt48 hG) (Or.inl (And.intro c1 (h))))⟩
  · replace h := h.2 c1
    obtain ⟨q2, h⟩ := h
    by_cases c3 : 48 ≤ (A 53 (A 48 20).toNatClampNeg) ∧ (A 53 (A 48 20).toNatClampNeg) ≤ 57
    · replace h := h.1 c3
      by_cases c4 : 4 ≤ x2
      · replace h := h.1 c4
        obtain ⟨n, h⟩ := h
        exact ⟨n + 28, And.intro (gt48 hG) (And.intro (gt48 hG) (Or.inr (And.intro c1 (And.intro (gt48 hG) (And.intro (gt48 hG) (And.intro (gt53 hG) (And.intro (vin_len (gl53 hG) q2) (Exists.intro _ (Exists.intro _ (And.intro (Nat.le_of_ble_eq_true rfl) (And.intro (Nat.le_of_ble_eq_true rfl) (And.intro (pX5_in _ _ _) (Or.inr (And.intro (bI_neq c3) (Or.inl (And.intro c4 (And.intro (gt48 hG) (And.intro rfl (And.intro (gt48 hG) (And.intro (gt48 hG) (h)))))))))))))))))))))⟩
      · replace h := h.2 c4
        obtain ⟨n, h⟩ := h
        exact ⟨n + 39, And.intro (gt48 hG) (And.intro (gt48 hG) (Or.inr (And.intro c1 (And.intro (gt48 hG) (And.intro (gt48 hG) (And.intro (gt53 hG) (And.intro (vin_len (gl53 hG) q2) (Exists.intro _ (Exists.intro _ (And.intro (Nat.le_of_ble_eq_true rfl) (And.intro (Nat.le_of_ble_eq_true rfl) (And.intro (pX5_in _ _ _) (Or.inr (And.intro (bI_neq c3) (Or.inr (And.intro c4 (And.intro (gt48 hG) (And.intro (gt48 hG) (And.intro (gt48 hG) (And.intro (gt53 hG) (And.intro (vin_len (gl53 hG) q2) (And.intro (gt48 hG) (And.intro rfl (And.intro (gt48 hG) (And.intro (gt48 hG) (h))))))))))))))))))))))))))⟩
    · replace h := h.2 c3
      obtain ⟨n, h⟩ := h
      exact ⟨n + 14, And.intro (gt48 hG) (And.intro (gt48 hG) (Or.inr (And.intro c1 (And.intro (gt48 hG) (And.intro (gt48 hG) (And.intro (gt53 hG) (And.intro (vin_len (gl53 hG) q2) (Exists.intro _ (Exists.intro _ (And.intro (Nat.le_of_ble_eq_true rfl) (And.intro (Nat.le_of_ble_eq_true rfl) (And.intro (pX5_in _ _ _) (Or.inl (And.intro (bI_eq c3) (h)))))))))))))))⟩

set_option maxRecDepth 100000 in
set_option maxHeartbeats 4000000 in
theorem sX5_next_306 {E : aR} {A : Nat → Nat → Int32} {R : Nat → Nat → Option Nat} {G : Nat → Nat × Nat} (d1 : Option Value) (x2 : Int32)
    (h : aw tX5_next E 230 [some (.ref 48), d1, some (.int x2)] [] (A, R, G)) :
    aw tX5_next E 306 [some (.ref 48), d1, some (.int x2)] [] (A, R, G) := by
  obtain ⟨n, h⟩ := h
  exact ⟨n + 1, h⟩

set_option maxRecDepth 100000 in
set_option maxHeartbeats 4000000 in
theorem sX5_next_309 {E : aR} {A : Nat → Nat → Int32} {R : Nat → Nat → Option Nat} {G : Nat → Nat × Nat} (hG : aGS G) (d1 : Option Value) (x2 : Int32)
    (h : ((x2 ≤ 4) → (aw tX5_next E 403 [some (.ref 48), d1, some (.int x2)] [] ((au A 48 22 1), R, G))) ∧ ((¬ (x2 ≤ 4)) → (aw tX5_next E 403 [some (.ref 48), d1, some (.int x2)] [] ((au A 48 22 (-1)), R, G)))) :
    aw tX5_next E 309 [some (.ref 48), d1, some (.int x2)] [] (A, R, G) := by
  by_cases c1 : x2 ≤ 4
  · replace h := h.1 c1
    obtain ⟨n, h⟩ := h
    exact ⟨n + 7, Or.inl (And.intro c1 (And.intro (gt48 hG) (h)))⟩
  · replace h := h.2 c1
    obtain ⟨n, h⟩ := h
    exact ⟨n + 8, Or.inr (And.intro c1 (And.intro (gt48 hG) (h)))⟩

set_option maxRecDepth 100000 in
set_option maxHeartbeats 4000000 in
theorem sX5_next_374 {E : aR} {A : Nat → Nat → Int32} {R : Nat → Nat → Option Nat} {G : Nat → Nat × Nat} (hG : aGS G) (x1 : Int32) (d2 : Option Value)
    (h : aw tX5_next E 403 [some (.ref 48), some (.int x1), some (.int 1)] [] ((au (au A 48 22 x1) 48 20 ((((au A 48 22 x1)) 48 20) + 1)), R, G)) :
    aw tX5_next E 374 [some (.ref 48), some (.int x1), d2] [] (A, R, G) := by
  obtain ⟨n, h⟩ := h
  exact ⟨n + 15, Or.inr (And.intro (by decide) (And.intro (gt48 hG) (And.intro rfl (And.intro (gt48 hG) (And.intro (gt48 hG) (h))))))⟩

set_option maxRecDepth 100000 in
set_option maxHeartbeats 4000000 in
theorem sX5_next_403 {E : aR} {A : Nat → Nat → Int32} {R : Nat → Nat → Option Nat} {G : Nat → Nat × Nat} (d1 : Option Value) (d2 : Option Value)
    (h : E none (A, R, G)) :
    aw tX5_next E 403 [some (.ref 48), d1, d2] [] (A, R, G) := by
  exact ⟨1, h⟩

set_option maxRecDepth 100000 in
set_option maxHeartbeats 4000000 in
theorem sX5_puts_0 {E : aR} {A : Nat → Nat → Int32} {R : Nat → Nat → Option Nat} {G : Nat → Nat × Nat} (hG : aGS G) (x1 : Int32)
    (h : (vp_in ((200 * (A 48 11)) + (A 48 28)) 1200) ∧ (E none ((au (au A 54 ((200 * (A 48 11)) + (A 48 28)).toNatClampNeg x1) 48 28 ((((au A 54 ((200 * (A 48 11)) + (A 48 28)).toNatClampNeg x1)) 48 28) + 1)), R, G))) :
    aw tX5_puts E 0 [some (.ref 48), some (.int x1)] [] (A, R, G) := by
  obtain ⟨q1, h⟩ := h
  exact ⟨18, And.intro (gt48 hG) (And.intro (gt48 hG) (And.intro (gt48 hG) (And.intro (gt54 hG) (And.intro (vin_len (gl54 hG) q1) (And.intro rfl (And.intro (gt48 hG) (And.intro (gt48 hG) (h))))))))⟩

set_option maxRecDepth 100000 in
set_option maxHeartbeats 4000000 in
theorem sX5_holds_0 {E : aR} {A : Nat → Nat → Int32} {R : Nat → Nat → Option Nat} {G : Nat → Nat × Nat} (hG : aGS G) (x1 : Int32)
    (h : (vp_in (A 48 26) 200) ∧ (E none ((au (au A 63 (A 48 26).toNatClampNeg x1) 48 26 ((((au A 63 (A 48 26).toNatClampNeg x1)) 48 26) + 1)), R, G))) :
    aw tX5_holds E 0 [some (.ref 48), some (.int x1)] [] (A, R, G) := by
  obtain ⟨q1, h⟩ := h
  exact ⟨13, And.intro (gt48 hG) (And.intro (gt48 hG) (And.intro (gt63 hG) (And.intro (vin_len (gl63 hG) q1) (And.intro rfl (And.intro (gt48 hG) (And.intro (gt48 hG) (h)))))))⟩

set_option maxRecDepth 100000 in
set_option maxHeartbeats 4000000 in
theorem sX5_opensOne_0 {E : aR} {A : Nat → Nat → Int32} {R : Nat → Nat → Option Nat} {G : Nat → Nat × Nat} (hG : aGS G) (x1 : Int32)
    (h : (((A 48 27) = 5) → (E (some (.int 0)) (A, R, G))) ∧ ((¬ ((A 48 27) = 5)) → (∃ (μ1 : aM), CX5_holds [.ref 48, .int x1] ((au A 48 27 ((A 48 27) + 1)), R, G) none μ1 ∧ aw tX5_opensOne E 25 [some (.ref 48), some (.int x1)] [] μ1))) :
    aw tX5_opensOne E 0 [some (.ref 48), some (.int x1)] [] (A, R, G) := by
  by_cases c1 : (A 48 27) = 5
  · replace h := h.1 c1
    exact ⟨6, And.intro (gt48 hG) (Or.inr (And.intro (fun z => z c1) (And.intro (Or.inl rfl) (h))))⟩
  · replace h := h.2 c1
    obtain ⟨μ1, h1, n, h⟩ := h
    exact ⟨n + 13, And.intro (gt48 hG) (Or.inl (And.intro c1 (And.intro rfl (And.intro (gt48 hG) (And.intro (gt48 hG) (Exists.intro _ (Exists.intro _ (Exists.intro _ (Exists.intro _ (And.intro rfl (And.intro (gt48 hG) (And.intro (Nat.le_of_ble_eq_true rfl) (And.intro h1 (h))))))))))))))⟩

set_option maxRecDepth 100000 in
set_option maxHeartbeats 4000000 in
theorem sX5_opensOne_25 {E : aR} {A : Nat → Nat → Int32} {R : Nat → Nat → Option Nat} {G : Nat → Nat × Nat} (d1 : Option Value)
    (h : E (some (.int 1)) (A, R, G)) :
    aw tX5_opensOne E 25 [some (.ref 48), d1] [] (A, R, G) := by
  exact ⟨2, And.intro (Or.inr rfl) (h)⟩

set_option maxRecDepth 100000 in
set_option maxHeartbeats 4000000 in
theorem sX5_unwinds_0 {E : aR} {A : Nat → Nat → Int32} {R : Nat → Nat → Option Nat} {G : Nat → Nat × Nat} (hG : aGS G) (x1 : Int32)
    (h : (((A 48 26) ≤ 0) → (E none (A, R, G))) ∧ ((¬ ((A 48 26) ≤ 0)) → ((vp_in ((A 48 26) - 1) 200) ∧ ((((rkM (A 63 ((A 48 26) - 1).toNatClampNeg)) < x1) → (E none (A, R, G))) ∧ ((¬ ((rkM (A 63 ((A 48 26) - 1).toNatClampNeg)) < x1)) → ((vp_in (((au A 48 26 ((A 48 26) - 1))) 48 26) 200) ∧ (((((au A 48 26 ((A 48 26) - 1)) 63 (((au A 48 26 ((A 48 26) - 1))) 48 26).toNatClampNeg) = 13) → (∃ (μ1 : aM), CX5_puts [.ref 48, .int ((au A 48 26 ((A 48 26) - 1)) 63 (((au A 48 26 ((A 48 26) - 1))) 48 26).toNatClampNeg)] ((au (au A 48 26 ((A 48 26) - 1)) 48 27 ((((au A 48 26 ((A 48 26) - 1))) 48 27) - 1)), R, G) none μ1 ∧ aw tX5_unwinds E 76 [some (.ref 48), some (.int x1), some (.int ((au A 48 26 ((A 48 26) - 1)) 63 (((au A 48 26 ((A 48 26) - 1))) 48 26).toNatClampNeg))] [] μ1)) ∧ ((¬ (((au A 48 26 ((A 48 26) - 1)) 63 (((au A 48 26 ((A 48 26) - 1))) 48 26).toNatClampNeg) = 13)) → (((((au A 48 26 ((A 48 26) - 1)) 63 (((au A 48 26 ((A 48 26) - 1))) 48 26).toNatClampNeg) = 19) → (∃ (μ1 : aM), CX5_puts [.ref 48, .int ((au A 48 26 ((A 48 26) - 1)) 63 (((au A 48 26 ((A 48 26) - 1))) 48 26).toNatClampNeg)] ((au (au A 48 26 ((A 48 26) - 1)) 48 27 ((((au A 48 26 ((A 48 26) - 1))) 48 27) - 1)), R, G) none μ1 ∧ aw tX5_unwinds E 76 [some (.ref 48), some (.int x1), some (.int ((au A 48 26 ((A 48 26) - 1)) 63 (((au A 48 26 ((A 48 26) - 1))) 48 26).toNatClampNeg))] [] μ1)) ∧ ((¬ (((au A 48 26 ((A 48 26) - 1)) 63 (((au A 48 26 ((A 48 26) - 1))) 48 26).toNatClampNeg) = 19)) → (∃ (μ1 : aM), CX5_puts [.ref 48, .int ((au A 48 26 ((A 48 26) - 1)) 63 (((au A 48 26 ((A 48 26) - 1))) 48 26).toNatClampNeg)] ((au (au A 48 26 ((A 48 26) - 1)) 48 27 ((((au A 48 26 ((A 48 26) - 1))) 48 27) - 0)), R, G) none μ1 ∧ aw tX5_unwinds E 76 [some (.ref 48), some (.int x1), some (.int ((au A 48 26 ((A 48 26) - 1)) 63 (((au A 48 26 ((A 48 26) - 1))) 48 26).toNatClampNeg))] [] μ1))))))))))) :
    aw tX5_unwinds E 0 [some (.ref 48), some (.int x1), none] [] (A, R, G) := by
  by_cases c1 : (A 48 26) ≤ 0
  · replace h := h.1 c1
    exact ⟨4, And.intro (gt48 hG) (Or.inl (And.intro c1 (h)))⟩
  · replace h := h.2 c1
    obtain ⟨q2, h⟩ := h
    by_cases c3 : (rkM (A 63 ((A 48 26) - 1).toNatClampNeg)) < x1
    · replace h := h.1 c3
      exact ⟨14, And.intro (gt48 hG) (Or.inr (And.intro c1 (And.intro (gt48 hG) (And.intro (gt48 hG) (And.intro (gt63 hG) (And.intro (vin_len (gl63 hG) q2) (Exists.intro _ (Exists.intro _ (And.intro (Nat.le_of_ble_eq_true rfl) (And.intro (Nat.le_of_ble_eq_true rfl) (And.intro (pX5_rank _) (Or.inl (And.intro c3 (h))))))))))))))⟩
    · replace h := h.2 c3
      obtain ⟨q4, h⟩ := h
      by_cases c5 : ((au A 48 26 ((A 48 26) - 1)) 63 (((au A 48 26 ((A 48 26) - 1))) 48 26).toNatClampNeg) = 13
      · replace h := h.1 c5
        obtain ⟨μ1, h1, n, h⟩ := h
        exact ⟨n + 38, And.intro (gt48 hG) (Or.inr (And.intro c1 (And.intro (gt48 hG) (And.intro (gt48 hG) (And.intro (gt63 hG) (And.intro (vin_len (gl63 hG) q2) (Exists.intro _ (Exists.intro _ (And.intro (Nat.le_of_ble_eq_true rfl) (And.intro (Nat.le_of_ble_eq_true rfl) (And.intro (pX5_rank _) (Or.inr (And.intro c3 (And.intro rfl (And.intro (gt48 hG) (And.intro (gt48 hG) (And.intro (gt48 hG) (And.intro (gt48 hG) (And.intro (gt63 hG) (And.intro (vin_len (gl63 hG) q4) (And.intro rfl (And.intro (gt48 hG) (Or.inl (And.intro c5 (And.intro (gt48 hG) (Exists.intro _ (Exists.intro _ (Exists.intro _ (Exists.intro _ (And.intro rfl (And.intro (gt48 hG) (And.intro (Nat.le_of_ble_eq_true rfl) (And.intro h1 (h))))))))))))))))))))))))))))))))))⟩
      · replace h := h.2 c5
        by_cases c6 : ((au A 48 26 ((A 48 26) - 1)) 63 (((au A 48 26 ((A 48 26) - 1))) 48 26).toNatClampNeg) = 19
        · replace h := h.1 c6
          obtain ⟨μ1, h1, n, h⟩ := h
          exact ⟨n + 41, And.intro (gt48 hG) (Or.inr (And.intro c1 (And.intro (gt48 hG) (And.intro (gt48 hG) (And.intro (gt63 hG) (And.intro (vin_len (gl63 hG) q2) (Exists.intro _ (Exists.intro _ (And.intro (Nat.le_of_ble_eq_true rfl) (And.intro (Nat.le_of_ble_eq_true rfl) (And.intro (pX5_rank _) (Or.inr (And.intro c3 (And.intro rfl (And.intro (gt48 hG) (And.intro (gt48 hG) (And.intro (gt48 hG) (And.intro (gt48 hG) (And.intro (gt63 hG) (And.intro (vin_len (gl63 hG) q4) (And.intro rfl (And.intro (gt48 hG) (Or.inr (And.intro c5 (Or.inr (And.intro (fun z => z c6) (And.intro (gt48 hG) (Exists.intro _ (Exists.intro _ (Exists.intro _ (Exists.intro _ (And.intro rfl (And.intro (gt48 hG) (And.intro (Nat.le_of_ble_eq_true rfl) (And.intro h1 (h))))))))))))))))))))))))))))))))))))⟩
        · replace h := h.2 c6
          obtain ⟨μ1, h1, n, h⟩ := h
          exact ⟨n + 40, And.intro (gt48 hG) (Or.inr (And.intro c1 (And.intro (gt48 hG) (And.intro (gt48 hG) (And.intro (gt63 hG) (And.intro (vin_len (gl63 hG) q2) (Exists.intro _ (Exists.intro _ (And.intro (Nat.le_of_ble_eq_true rfl) (And.intro (Nat.le_of_ble_eq_true rfl) (And.intro (pX5_rank _) (Or.inr (And.intro c3 (And.intro rfl (And.intro (gt48 hG) (And.intro (gt48 hG) (And.intro (gt48 hG) (And.intro (gt48 hG) (And.intro (gt63 hG) (And.intro (vin_len (gl63 hG) q4) (And.intro rfl (And.intro (gt48 hG) (Or.inr (And.intro c5 (Or.inl (And.intro c6 (And.intro (gt48 hG) (Exists.intro _ (Exists.intro _ (Exists.intro _ (Exists.intro _ (And.intro rfl (And.intro (gt48 hG) (And.intro (Nat.le_of_ble_eq_true rfl) (And.intro h1 (h))))))))))))))))))))))))))))))))))))⟩

set_option maxRecDepth 100000 in
set_option maxHeartbeats 4000000 in
theorem sX5_unwinds_76 {E : aR} {A : Nat → Nat → Int32} {R : Nat → Nat → Option Nat} {G : Nat → Nat × Nat} (x1 : Int32) (d2 : Option Value)
    (h : aw tX5_unwinds E 0 [some (.ref 48), some (.int x1), d2] [] (A, R, G)) :
    aw tX5_unwinds E 76 [some (.ref 48), some (.int x1), d2] [] (A, R, G) := by
  obtain ⟨n, h⟩ := h
  exact ⟨n + 1, h⟩

set_option maxRecDepth 100000 in
set_option maxHeartbeats 4000000 in
theorem sX5_between_0 {E : aR} {A : Nat → Nat → Int32} {R : Nat → Nat → Option Nat} {G : Nat → Nat × Nat} (hG : aGS G) (x1 : Int32)
    (h : (((rkM x1) = 4) → (∃ (μ1 : aM), CX5_unwinds [.ref 48, .int 5] (A, R, G) none μ1 ∧ aw tX5_between E 20 [some (.ref 48), some (.int x1)] [] μ1)) ∧ ((¬ ((rkM x1) = 4)) → (∃ (μ1 : aM), CX5_unwinds [.ref 48, .int (rkM x1)] (A, R, G) none μ1 ∧ aw tX5_between E 20 [some (.ref 48), some (.int x1)] [] μ1))) :
    aw tX5_between E 0 [some (.ref 48), some (.int x1)] [] (A, R, G) := by
  by_cases c1 : (rkM x1) = 4
  · replace h := h.1 c1
    obtain ⟨μ1, h1, n, h⟩ := h
    exact ⟨n + 8, Exists.intro _ (Exists.intro _ (And.intro (Nat.le_of_ble_eq_true rfl) (And.intro (Nat.le_of_ble_eq_true rfl) (And.intro (pX5_rank _) (Or.inr (And.intro (fun z => z c1) (Exists.intro _ (Exists.intro _ (Exists.intro _ (Exists.intro _ (And.intro rfl (And.intro (gt48 hG) (And.intro (Nat.le_of_ble_eq_true rfl) (And.intro h1 (h)))))))))))))))⟩
  · replace h := h.2 c1
    obtain ⟨μ1, h1, n, h⟩ := h
    exact ⟨n + 8, Exists.intro _ (Exists.intro _ (And.intro (Nat.le_of_ble_eq_true rfl) (And.intro (Nat.le_of_ble_eq_true rfl) (And.intro (pX5_rank _) (Or.inl (And.intro c1 (Exists.intro _ (Exists.intro _ (And.intro (Nat.le_of_ble_eq_true rfl) (And.intro (Nat.le_of_ble_eq_true rfl) (And.intro (pX5_rank _) (Exists.intro _ (Exists.intro _ (Exists.intro _ (Exists.intro _ (And.intro rfl (And.intro (gt48 hG) (And.intro (Nat.le_of_ble_eq_true rfl) (And.intro h1 (h))))))))))))))))))))⟩

set_option maxRecDepth 100000 in
set_option maxHeartbeats 4000000 in
theorem sX5_between_20 {E : aR} {A : Nat → Nat → Int32} {R : Nat → Nat → Option Nat} {G : Nat → Nat × Nat} (hG : aGS G) (x1 : Int32)
    (h : (((rkM x1) = 4) → ((((A 48 26) ≤ 0) → (∃ (μ1 : aM), CX5_holds [.ref 48, .int x1] (A, R, G) none μ1 ∧ aw tX5_between E 60 [some (.ref 48), some (.int x1)] [] μ1)) ∧ ((¬ ((A 48 26) ≤ 0)) → ((vp_in ((A 48 26) - 1) 200) ∧ ((((rkM (A 63 ((A 48 26) - 1).toNatClampNeg)) = 4) → (E (some (.int 0)) (A, R, G))) ∧ ((¬ ((rkM (A 63 ((A 48 26) - 1).toNatClampNeg)) = 4)) → (∃ (μ1 : aM), CX5_holds [.ref 48, .int x1] (A, R, G) none μ1 ∧ aw tX5_between E 60 [some (.ref 48), some (.int x1)] [] μ1))))))) ∧ ((¬ ((rkM x1) = 4)) → (∃ (μ1 : aM), CX5_holds [.ref 48, .int x1] (A, R, G) none μ1 ∧ aw tX5_between E 60 [some (.ref 48), some (.int x1)] [] μ1))) :
    aw tX5_between E 20 [some (.ref 48), some (.int x1)] [] (A, R, G) := by
  by_cases c1 : (rkM x1) = 4
  · replace h := h.1 c1
    by_cases c2 : (A 48 26) ≤ 0
    · replace h := h.1 c2
      obtain ⟨μ1, h1, n, h⟩ := h
      exact ⟨n + 10, Exists.intro _ (Exists.intro _ (And.intro (Nat.le_of_ble_eq_true rfl) (And.intro (Nat.le_of_ble_eq_true rfl) (And.intro (pX5_rank _) (Or.inr (And.intro (fun z => z c1) (And.intro (gt48 hG) (Or.inl (And.intro c2 (Exists.intro _ (Exists.intro _ (Exists.intro _ (Exists.intro _ (And.intro rfl (And.intro (gt48 hG) (And.intro (Nat.le_of_ble_eq_true rfl) (And.intro h1 (h))))))))))))))))))⟩
    · replace h := h.2 c2
      obtain ⟨q3, h⟩ := h
      by_cases c4 : (rkM (A 63 ((A 48 26) - 1).toNatClampNeg)) = 4
      · replace h := h.1 c4
        exact ⟨19, Exists.intro _ (Exists.intro _ (And.intro (Nat.le_of_ble_eq_true rfl) (And.intro (Nat.le_of_ble_eq_true rfl) (And.intro (pX5_rank _) (Or.inr (And.intro (fun z => z c1) (And.intro (gt48 hG) (Or.inr (And.intro c2 (And.intro (gt48 hG) (And.intro (gt48 hG) (And.intro (gt63 hG) (And.intro (vin_len (gl63 hG) q3) (Exists.intro _ (Exists.intro _ (And.intro (Nat.le_of_ble_eq_true rfl) (And.intro (Nat.le_of_ble_eq_true rfl) (And.intro (pX5_rank _) (Or.inr (And.intro (fun z => z c4) (And.intro (Or.inl rfl) (h))))))))))))))))))))))⟩
      · replace h := h.2 c4
        obtain ⟨μ1, h1, n, h⟩ := h
        exact ⟨n + 20, Exists.intro _ (Exists.intro _ (And.intro (Nat.le_of_ble_eq_true rfl) (And.intro (Nat.le_of_ble_eq_true rfl) (And.intro (pX5_rank _) (Or.inr (And.intro (fun z => z c1) (And.intro (gt48 hG) (Or.inr (And.intro c2 (And.intro (gt48 hG) (And.intro (gt48 hG) (And.intro (gt63 hG) (And.intro (vin_len (gl63 hG) q3) (Exists.intro _ (Exists.intro _ (And.intro (Nat.le_of_ble_eq_true rfl) (And.intro (Nat.le_of_ble_eq_true rfl) (And.intro (pX5_rank _) (Or.inl (And.intro c4 (Exists.intro _ (Exists.intro _ (Exists.intro _ (Exists.intro _ (And.intro rfl (And.intro (gt48 hG) (And.intro (Nat.le_of_ble_eq_true rfl) (And.intro h1 (h)))))))))))))))))))))))))))))⟩
  · replace h := h.2 c1
    obtain ⟨μ1, h1, n, h⟩ := h
    exact ⟨n + 7, Exists.intro _ (Exists.intro _ (And.intro (Nat.le_of_ble_eq_true rfl) (And.intro (Nat.le_of_ble_eq_true rfl) (And.intro (pX5_rank _) (Or.inl (And.intro c1 (Exists.intro _ (Exists.intro _ (Exists.intro _ (Exists.intro _ (And.intro rfl (And.intro (gt48 hG) (And.intro (Nat.le_of_ble_eq_true rfl) (And.intro h1 (h)))))))))))))))⟩

set_option maxRecDepth 100000 in
set_option maxHeartbeats 4000000 in
theorem sX5_between_60 {E : aR} {A : Nat → Nat → Int32} {R : Nat → Nat → Option Nat} {G : Nat → Nat × Nat} (d1 : Option Value)
    (h : E (some (.int 1)) (A, R, G)) :
    aw tX5_between E 60 [some (.ref 48), d1] [] (A, R, G) := by
  exact ⟨2, And.intro (Or.inr rfl) (h)⟩

set_option maxRecDepth 100000 in
set_option maxHeartbeats 4000000 in
theorem sX5_eRead_0 {E : aR} {A : Nat → Nat → Int32} {R : Nat → Nat → Option Nat} {G : Nat → Nat × Nat} (hG : aGS G)
    (h : aw tX5_eRead E 14 [some (.ref 48), some (.int 1), some (.int 1), none] [] ((au (au A 48 26 0) 48 27 0), R, G)) :
    aw tX5_eRead E 0 [some (.ref 48), none, none, none] [] (A, R, G) := by
  obtain ⟨n, h⟩ := h
  exact ⟨n + 10, And.intro (gt48 hG) (And.intro (gt48 hG) (h))⟩

set_option maxRecDepth 100000 in
set_option maxHeartbeats 4000000 in
theorem sX5_eRead_14 {E : aR} {A : Nat → Nat → Int32} {R : Nat → Nat → Option Nat} {G : Nat → Nat × Nat} (hG : aGS G) (x1 : Int32) (x2 : Int32) (d3 : Option Value)
    (h : ∃ (μ1 : aM), CX5_next [.ref 48] (A, R, G) none μ1 ∧ aw tX5_eRead E 18 [some (.ref 48), some (.int x1), some (.int x2), none] [] μ1) :
    aw tX5_eRead E 14 [some (.ref 48), some (.int x1), some (.int x2), d3] [] (A, R, G) := by
  obtain ⟨μ1, h1, n, h⟩ := h
  exact ⟨n + 2, Exists.intro _ (Exists.intro _ (Exists.intro _ (Exists.intro _ (And.intro rfl (And.intro (gt48 hG) (And.intro (Nat.le_of_ble_eq_true rfl) (And.intro h1 (h))))))))⟩

set_option maxRecDepth 100000 in
set_option maxHeartbeats 4000000 in
theorem sX5_eRead_18 {E : aR} {A : Nat → Nat → Int32} {R : Nat → Nat → Option Nat} {G : Nat → Nat × Nat} (hG : aGS G) (x1 : Int32) (x2 : Int32) (d3 : Option Value)
    (h : ((x1 = 0) → ((((A 48 22) = 59) → (∃ (μ1 : aM), CX5_unwinds [.ref 48, .int 1] (A, R, G) none μ1 ∧ aw tX5_eRead E 164 [some (.ref 48), some (.int x1), some (.int x2), d3] [] μ1)) ∧ ((¬ ((A 48 22) = 59)) → ((((A 48 22) = 41) → (∃ (μ1 : aM), CX5_unwinds [.ref 48, .int 1] (A, R, G) none μ1 ∧ aw tX5_eRead E 191 [some (.ref 48), some (.int x1), some (.int x2), d3] [] μ1)) ∧ ((¬ ((A 48 22) = 41)) → ((((sgM (A 48 22)) = (-1)) → (E (some (.int 0)) (A, R, G))) ∧ ((¬ ((sgM (A 48 22)) = (-1))) → (∃ (v1 : Int32) (μ1 : aM), CX5_between [.ref 48, .int (sgM (A 48 22))] (A, R, G) (some (.int v1)) μ1 ∧ aw tX5_eRead E 244 [some (.ref 48), some (.int x1), some (.int x2), some (.int (sgM (A 48 22)))] [.int v1] μ1)))))))) ∧ ((¬ (x1 = 0)) → ((((A 48 22) = 1) → (∃ (μ1 : aM), CX5_puts [.ref 48, .int (100000 + (A 48 23))] (A, R, G) none μ1 ∧ aw tX5_eRead E 64 [some (.ref 48), some (.int x1), some (.int x2), d3] [] μ1)) ∧ ((¬ ((A 48 22) = 1)) → ((((A 48 22) = 2) → (∃ (μ1 : aM), CX5_puts [.ref 48, .int (A 48 23)] (A, R, G) none μ1 ∧ aw tX5_eRead E 64 [some (.ref 48), some (.int x1), some (.int x2), d3] [] μ1)) ∧ ((¬ ((A 48 22) = 2)) → ((((A 48 22) = 6) → (((x2 = 0) → ((((A 48 22) = 45) → (∃ (v1 : Int32) (μ1 : aM), CX5_opensOne [.ref 48, .int 19] (A, R, G) (some (.int v1)) μ1 ∧ aw tX5_eRead E 114 [some (.ref 48), some (.int x1), some (.int x2), d3] [.int v1] μ1)) ∧ ((¬ ((A 48 22) = 45)) → ((((A 48 22) = 40) → (∃ (v1 : Int32) (μ1 : aM), CX5_opensOne [.ref 48, .int 0] (A, R, G) (some (.int v1)) μ1 ∧ aw tX5_eRead E 138 [some (.ref 48), some (.int x1), some (.int x2), d3] [.int v1] μ1)) ∧ ((¬ ((A 48 22) = 40)) → (E (some (.int 0)) (A, R, G))))))) ∧ ((¬ (x2 = 0)) → (∃ (v1 : Int32) (μ1 : aM), CX5_opensOne [.ref 48, .int 13] (A, R, G) (some (.int v1)) μ1 ∧ aw tX5_eRead E 94 [some (.ref 48), some (.int x1), some (.int x2), d3] [.int v1] μ1)))) ∧ ((¬ ((A 48 22) = 6)) → ((((A 48 22) = 45) → (∃ (v1 : Int32) (μ1 : aM), CX5_opensOne [.ref 48, .int 19] (A, R, G) (some (.int v1)) μ1 ∧ aw tX5_eRead E 114 [some (.ref 48), some (.int x1), some (.int x2), d3] [.int v1] μ1)) ∧ ((¬ ((A 48 22) = 45)) → ((((A 48 22) = 40) → (∃ (v1 : Int32) (μ1 : aM), CX5_opensOne [.ref 48, .int 0] (A, R, G) (some (.int v1)) μ1 ∧ aw tX5_eRead E 138 [some (.ref 48), some (.int x1), some (.int x2), d3] [.int v1] μ1)) ∧ ((¬ ((A 48 22) = 40)) → (E (some (.int 0)) (A, R, G)))))))))))))) :
    aw tX5_eRead E 18 [some (.ref 48), some (.int x1), some (.int x2), d3] [] (A, R, G) := by
  by_cases c1 : x1 = 0
  · replace h := h.1 c1
    by_cases c2 : (A 48 22) = 59
    · replace h := h.1 c2
      obtain ⟨μ1, h1, n, h⟩ := h
      exact ⟨n + 9, Or.inl (And.intro c1 (And.intro (gt48 hG) (Or.inr (And.intro (fun z => z c2) (Exists.intro _ (Exists.intro _ (Exists.intro _ (Exists.intro _ (And.intro rfl (And.intro (gt48 hG) (And.intro (Nat.le_of_ble_eq_true rfl) (And.intro h1 (h)))))))))))))⟩
    · replace h := h.2 c2
      by_cases c3 : (A 48 22) = 41
      · replace h := h.1 c3
        obtain ⟨μ1, h1, n, h⟩ := h
        exact ⟨n + 13, Or.inl (And.intro c1 (And.intro (gt48 hG) (Or.inl (And.intro c2 (And.intro (gt48 hG) (Or.inr (And.intro (fun z => z c3) (Exists.intro _ (Exists.intro _ (Exists.intro _ (Exists.intro _ (And.intro rfl (And.intro (gt48 hG) (And.intro (Nat.le_of_ble_eq_true rfl) (And.intro h1 (h))))))))))))))))⟩
      · replace h := h.2 c3
        by_cases c4 : (sgM (A 48 22)) = (-1)
        · replace h := h.1 c4
          exact ⟨18, Or.inl (And.intro c1 (And.intro (gt48 hG) (Or.inl (And.intro c2 (And.intro (gt48 hG) (Or.inl (And.intro c3 (Exists.intro _ (Exists.intro _ (Exists.intro _ (Exists.intro _ (And.intro rfl (And.intro (gt48 hG) (And.intro (Nat.le_of_ble_eq_true rfl) (And.intro (pX5_signOf hG ) (Or.inl (And.intro c4 (And.intro (Or.inl rfl) (h)))))))))))))))))))⟩
        · replace h := h.2 c4
          obtain ⟨v1, μ1, h1, n, h⟩ := h
          exact ⟨n + 19, Or.inl (And.intro c1 (And.intro (gt48 hG) (Or.inl (And.intro c2 (And.intro (gt48 hG) (Or.inl (And.intro c3 (Exists.intro _ (Exists.intro _ (Exists.intro _ (Exists.intro _ (And.intro rfl (And.intro (gt48 hG) (And.intro (Nat.le_of_ble_eq_true rfl) (And.intro (pX5_signOf hG ) (Or.inr (And.intro c4 (Exists.intro _ (Exists.intro _ (Exists.intro _ (Exists.intro _ (And.intro rfl (And.intro (gt48 hG) (And.intro (Nat.le_of_ble_eq_true rfl) (And.intro h1 (h))))))))))))))))))))))))))⟩
  · replace h := h.2 c1
    by_cases c5 : (A 48 22) = 1
    · replace h := h.1 c5
      obtain ⟨μ1, h1, n, h⟩ := h
      exact ⟨n + 17, Or.inr (And.intro c1 (And.intro (gt48 hG) (Or.inl (And.intro c5 (And.intro (gt48 hG) (Or.inr (And.intro (fun z => z c5) (And.intro (gt48 hG) (Exists.intro _ (Exists.intro _ (Exists.intro _ (Exists.intro _ (And.intro rfl (And.intro (gt48 hG) (And.intro (Nat.le_of_ble_eq_true rfl) (And.intro h1 (h)))))))))))))))))⟩
    · replace h := h.2 c5
      by_cases c6 : (A 48 22) = 2
      · replace h := h.1 c6
        obtain ⟨μ1, h1, n, h⟩ := h
        exact ⟨n + 18, Or.inr (And.intro c1 (And.intro (gt48 hG) (Or.inr (And.intro c5 (And.intro (gt48 hG) (Or.inr (And.intro (fun z => z c6) (And.intro (gt48 hG) (Or.inl (And.intro c5 (And.intro (gt48 hG) (Exists.intro _ (Exists.intro _ (Exists.intro _ (Exists.intro _ (And.intro rfl (And.intro (gt48 hG) (And.intro (Nat.le_of_ble_eq_true rfl) (And.intro h1 (h))))))))))))))))))))⟩
      · replace h := h.2 c6
        by_cases c7 : (A 48 22) = 6
        · replace h := h.1 c7
          by_cases c8 : x2 = 0
          · replace h := h.1 c8
            by_cases c9 : (A 48 22) = 45
            · replace h := h.1 c9
              obtain ⟨v1, μ1, h1, n, h⟩ := h
              exact ⟨n + 23, Or.inr (And.intro c1 (And.intro (gt48 hG) (Or.inr (And.intro c5 (And.intro (gt48 hG) (Or.inl (And.intro c6 (And.intro (gt48 hG) (Or.inr (And.intro (fun z => z c7) (Or.inl (And.intro c8 (And.intro (gt48 hG) (Or.inr (And.intro (fun z => z c9) (Exists.intro _ (Exists.intro _ (Exists.intro _ (Exists.intro _ (And.intro rfl (And.intro (gt48 hG) (And.intro (Nat.le_of_ble_eq_true rfl) (And.intro h1 (h))))))))))))))))))))))))⟩
            · replace h := h.2 c9
              by_cases c10 : (A 48 22) = 40
              · replace h := h.1 c10
                obtain ⟨v1, μ1, h1, n, h⟩ := h
                exact ⟨n + 27, Or.inr (And.intro c1 (And.intro (gt48 hG) (Or.inr (And.intro c5 (And.intro (gt48 hG) (Or.inl (And.intro c6 (And.intro (gt48 hG) (Or.inr (And.intro (fun z => z c7) (Or.inl (And.intro c8 (And.intro (gt48 hG) (Or.inl (And.intro c9 (And.intro (gt48 hG) (Or.inr (And.intro (fun z => z c10) (Exists.intro _ (Exists.intro _ (Exists.intro _ (Exists.intro _ (And.intro rfl (And.intro (gt48 hG) (And.intro (Nat.le_of_ble_eq_true rfl) (And.intro h1 (h)))))))))))))))))))))))))))⟩
              · replace h := h.2 c10
                exact ⟨26, Or.inr (And.intro c1 (And.intro (gt48 hG) (Or.inr (And.intro c5 (And.intro (gt48 hG) (Or.inl (And.intro c6 (And.intro (gt48 hG) (Or.inr (And.intro (fun z => z c7) (Or.inl (And.intro c8 (And.intro (gt48 hG) (Or.inl (And.intro c9 (And.intro (gt48 hG) (Or.inl (And.intro c10 (And.intro (Or.inl rfl) (h))))))))))))))))))))⟩
          · replace h := h.2 c8
            obtain ⟨v1, μ1, h1, n, h⟩ := h
            exact ⟨n + 19, Or.inr (And.intro c1 (And.intro (gt48 hG) (Or.inr (And.intro c5 (And.intro (gt48 hG) (Or.inl (And.intro c6 (And.intro (gt48 hG) (Or.inr (And.intro (fun z => z c7) (Or.inr (And.intro c8 (Exists.intro _ (Exists.intro _ (Exists.intro _ (Exists.intro _ (And.intro rfl (And.intro (gt48 hG) (And.intro (Nat.le_of_ble_eq_true rfl) (And.intro h1 (h)))))))))))))))))))))⟩
        · replace h := h.2 c7
          by_cases c11 : (A 48 22) = 45
          · replace h := h.1 c11
            obtain ⟨v1, μ1, h1, n, h⟩ := h
            exact ⟨n + 21, Or.inr (And.intro c1 (And.intro (gt48 hG) (Or.inr (And.intro c5 (And.intro (gt48 hG) (Or.inl (And.intro c6 (And.intro (gt48 hG) (Or.inl (And.intro c7 (And.intro (gt48 hG) (Or.inr (And.intro (fun z => z c11) (Exists.intro _ (Exists.intro _ (Exists.intro _ (Exists.intro _ (And.intro rfl (And.intro (gt48 hG) (And.intro (Nat.le_of_ble_eq_true rfl) (And.intro h1 (h))))))))))))))))))))))⟩
          · replace h := h.2 c11
            by_cases c12 : (A 48 22) = 40
            · replace h := h.1 c12
              obtain ⟨v1, μ1, h1, n, h⟩ := h
              exact ⟨n + 25, Or.inr (And.intro c1 (And.intro (gt48 hG) (Or.inr (And.intro c5 (And.intro (gt48 hG) (Or.inl (And.intro c6 (And.intro (gt48 hG) (Or.inl (And.intro c7 (And.intro (gt48 hG) (Or.inl (And.intro c11 (And.intro (gt48 hG) (Or.inr (And.intro (fun z => z c12) (Exists.intro _ (Exists.intro _ (Exists.intro _ (Exists.intro _ (And.intro rfl (And.intro (gt48 hG) (And.intro (Nat.le_of_ble_eq_true rfl) (And.intro h1 (h)))))))))))))))))))))))))⟩
            · replace h := h.2 c12
              exact ⟨24, Or.inr (And.intro c1 (And.intro (gt48 hG) (Or.inr (And.intro c5 (And.intro (gt48 hG) (Or.inl (And.intro c6 (And.intro (gt48 hG) (Or.inl (And.intro c7 (And.intro (gt48 hG) (Or.inl (And.intro c11 (And.intro (gt48 hG) (Or.inl (And.intro c12 (And.intro (Or.inl rfl) (h))))))))))))))))))⟩

set_option maxRecDepth 100000 in
set_option maxHeartbeats 4000000 in
theorem sX5_eRead_64 {E : aR} {A : Nat → Nat → Int32} {R : Nat → Nat → Option Nat} {G : Nat → Nat × Nat} (hG : aGS G) (d1 : Option Value) (x2 : Int32) (d3 : Option Value)
    (h : ∃ (μ1 : aM), CX5_unwinds [.ref 48, .int 7] (A, R, G) none μ1 ∧ aw tX5_eRead E 70 [some (.ref 48), d1, some (.int x2), d3] [] μ1) :
    aw tX5_eRead E 64 [some (.ref 48), d1, some (.int x2), d3] [] (A, R, G) := by
  obtain ⟨μ1, h1, n, h⟩ := h
  exact ⟨n + 3, Exists.intro _ (Exists.intro _ (Exists.intro _ (Exists.intro _ (And.intro rfl (And.intro (gt48 hG) (And.intro (Nat.le_of_ble_eq_true rfl) (And.intro h1 (h))))))))⟩

set_option maxRecDepth 100000 in
set_option maxHeartbeats 4000000 in
theorem sX5_eRead_70 {E : aR} {A : Nat → Nat → Int32} {R : Nat → Nat → Option Nat} {G : Nat → Nat × Nat} (d1 : Option Value) (x2 : Int32) (d3 : Option Value)
    (h : aw tX5_eRead E 14 [some (.ref 48), some (.int 0), some (.int x2), d3] [] (A, R, G)) :
    aw tX5_eRead E 70 [some (.ref 48), d1, some (.int x2), d3] [] (A, R, G) := by
  obtain ⟨n, h⟩ := h
  exact ⟨n + 3, h⟩

set_option maxRecDepth 100000 in
set_option maxHeartbeats 4000000 in
theorem sX5_eRead_94 {E : aR} {A : Nat → Nat → Int32} {R : Nat → Nat → Option Nat} {G : Nat → Nat × Nat} (x1 : Int32) (x2 : Int32) (d3 : Option Value) (y0 : Int32)
    (h : ((y0 = 0) → (E (some (.int 0)) (A, R, G))) ∧ ((¬ (y0 = 0)) → (aw tX5_eRead E 14 [some (.ref 48), some (.int x1), some (.int x2), d3] [] (A, R, G)))) :
    aw tX5_eRead E 94 [some (.ref 48), some (.int x1), some (.int x2), d3] [.int y0] (A, R, G) := by
  by_cases c1 : y0 = 0
  · replace h := h.1 c1
    exact ⟨3, Or.inr (And.intro (fun z => z c1) (And.intro (Or.inl rfl) (h)))⟩
  · replace h := h.2 c1
    obtain ⟨n, h⟩ := h
    exact ⟨n + 1, Or.inl (And.intro c1 (h))⟩

set_option maxRecDepth 100000 in
set_option maxHeartbeats 4000000 in
theorem sX5_eRead_114 {E : aR} {A : Nat → Nat → Int32} {R : Nat → Nat → Option Nat} {G : Nat → Nat × Nat} (x1 : Int32) (d2 : Option Value) (d3 : Option Value) (y0 : Int32)
    (h : ((y0 = 0) → (E (some (.int 0)) (A, R, G))) ∧ ((¬ (y0 = 0)) → (aw tX5_eRead E 14 [some (.ref 48), some (.int x1), some (.int 0), d3] [] (A, R, G)))) :
    aw tX5_eRead E 114 [some (.ref 48), some (.int x1), d2, d3] [.int y0] (A, R, G) := by
  by_cases c1 : y0 = 0
  · replace h := h.1 c1
    exact ⟨3, Or.inr (And.intro (fun z => z c1) (And.intro (Or.inl rfl) (h)))⟩
  · replace h := h.2 c1
    obtain ⟨n, h⟩ := h
    exact ⟨n + 4, Or.inl (And.intro c1 (h))⟩

set_option maxRecDepth 100000 in
set_option maxHeartbeats 4000000 in
theorem sX5_eRead_138 {E : aR} {A : Nat → Nat → Int32} {R : Nat → Nat → Option Nat} {G : Nat → Nat × Nat} (x1 : Int32) (d2 : Option Value) (d3 : Option Value) (y0 : Int32)
    (h : ((y0 = 0) → (E (some (.int 0)) (A, R, G))) ∧ ((¬ (y0 = 0)) → (aw tX5_eRead E 14 [some (.ref 48), some (.int x1), some (.int 1), d3] [] (A, R, G)))) :
    aw tX5_eRead E 138 [some (.ref 48), some (.int x1), d2, d3] [.int y0] (A, R, G) := by
  by_cases c1 : y0 = 0
  · replace h := h.1 c1
    exact ⟨3, Or.inr (And.intro (fun z => z c1) (And.intro (Or.inl rfl) (h)))⟩
  · replace h := h.2 c1
    obtain ⟨n, h⟩ := h
    exact ⟨n + 4, Or.inl (And.intro c1 (h))⟩

set_option maxRecDepth 100000 in
set_option maxHeartbeats 4000000 in
theorem sX5_eRead_164 {E : aR} {A : Nat → Nat → Int32} {R : Nat → Nat → Option Nat} {G : Nat → Nat × Nat} (hG : aGS G) (d1 : Option Value) (d2 : Option Value) (d3 : Option Value)
    (h : (((A 48 26) = 0) → (E (some (.int 1)) (A, R, G))) ∧ ((¬ ((A 48 26) = 0)) → (E (some (.int 0)) (A, R, G)))) :
    aw tX5_eRead E 164 [some (.ref 48), d1, d2, d3] [] (A, R, G) := by
  by_cases c1 : (A 48 26) = 0
  · replace h := h.1 c1
    exact ⟨6, And.intro (gt48 hG) (Or.inr (And.intro (fun z => z c1) (And.intro (Or.inr rfl) (h))))⟩
  · replace h := h.2 c1
    exact ⟨5, And.intro (gt48 hG) (Or.inl (And.intro c1 (And.intro (Or.inl rfl) (h))))⟩

set_option maxRecDepth 100000 in
set_option maxHeartbeats 4000000 in
theorem sX5_eRead_191 {E : aR} {A : Nat → Nat → Int32} {R : Nat → Nat → Option Nat} {G : Nat → Nat × Nat} (hG : aGS G) (x1 : Int32) (x2 : Int32) (d3 : Option Value)
    (h : (((A 48 26) = 0) → (E (some (.int 0)) (A, R, G))) ∧ ((¬ ((A 48 26) = 0)) → (∃ (μ1 : aM), CX5_unwinds [.ref 48, .int 7] ((au (au A 48 26 ((A 48 26) - 1)) 48 27 ((((au A 48 26 ((A 48 26) - 1))) 48 27) - 1)), R, G) none μ1 ∧ aw tX5_eRead E 226 [some (.ref 48), some (.int x1), some (.int x2), d3] [] μ1))) :
    aw tX5_eRead E 191 [some (.ref 48), some (.int x1), some (.int x2), d3] [] (A, R, G) := by
  by_cases c1 : (A 48 26) = 0
  · replace h := h.1 c1
    exact ⟨5, And.intro (gt48 hG) (Or.inr (And.intro (fun z => z c1) (And.intro (Or.inl rfl) (h))))⟩
  · replace h := h.2 c1
    obtain ⟨μ1, h1, n, h⟩ := h
    exact ⟨n + 18, And.intro (gt48 hG) (Or.inl (And.intro c1 (And.intro rfl (And.intro (gt48 hG) (And.intro (gt48 hG) (And.intro rfl (And.intro (gt48 hG) (And.intro (gt48 hG) (Exists.intro _ (Exists.intro _ (Exists.intro _ (Exists.intro _ (And.intro rfl (And.intro (gt48 hG) (And.intro (Nat.le_of_ble_eq_true rfl) (And.intro h1 (h)))))))))))))))))⟩

set_option maxRecDepth 100000 in
set_option maxHeartbeats 4000000 in
theorem sX5_eRead_226 {E : aR} {A : Nat → Nat → Int32} {R : Nat → Nat → Option Nat} {G : Nat → Nat × Nat} (x1 : Int32) (x2 : Int32) (d3 : Option Value)
    (h : aw tX5_eRead E 14 [some (.ref 48), some (.int x1), some (.int x2), d3] [] (A, R, G)) :
    aw tX5_eRead E 226 [some (.ref 48), some (.int x1), some (.int x2), d3] [] (A, R, G) := by
  obtain ⟨n, h⟩ := h
  exact ⟨n + 1, h⟩

set_option maxRecDepth 100000 in
set_option maxHeartbeats 4000000 in
theorem sX5_eRead_244 {E : aR} {A : Nat → Nat → Int32} {R : Nat → Nat → Option Nat} {G : Nat → Nat × Nat} (d1 : Option Value) (d2 : Option Value) (x3 : Int32) (y0 : Int32)
    (h : ((y0 = 0) → (E (some (.int 0)) (A, R, G))) ∧ ((¬ (y0 = 0)) → (((12 < x3) → (aw tX5_eRead E 14 [some (.ref 48), some (.int 1), some (.int 0), some (.int x3)] [] (A, R, G))) ∧ ((¬ (12 < x3)) → (aw tX5_eRead E 14 [some (.ref 48), some (.int 1), some (.int 1), some (.int x3)] [] (A, R, G)))))) :
    aw tX5_eRead E 244 [some (.ref 48), d1, d2, some (.int x3)] [.int y0] (A, R, G) := by
  by_cases c1 : y0 = 0
  · replace h := h.1 c1
    exact ⟨3, Or.inr (And.intro (fun z => z c1) (And.intro (Or.inl rfl) (h)))⟩
  · replace h := h.2 c1
    by_cases c2 : 12 < x3
    · replace h := h.1 c2
      obtain ⟨n, h⟩ := h
      exact ⟨n + 9, Or.inl (And.intro c1 (Or.inl (And.intro c2 (h))))⟩
    · replace h := h.2 c2
      obtain ⟨n, h⟩ := h
      exact ⟨n + 10, Or.inl (And.intro c1 (Or.inr (And.intro c2 (h))))⟩

set_option maxRecDepth 100000 in
set_option maxHeartbeats 4000000 in
theorem sX5_text_0 {E : aR} {A : Nat → Nat → Int32} {R : Nat → Nat → Option Nat} {G : Nat → Nat × Nat} (hG : aGS G)
    (h : (((A 48 11) = 6) → (E (some (.int (-4))) (A, R, G))) ∧ ((¬ ((A 48 11) = 6)) → (aw tX5_text E 26 [some (.ref 48), some (.int 1), some (.int 0)] [] ((au (au A 48 20 0) 48 28 0), R, G)))) :
    aw tX5_text E 0 [some (.ref 48), none, none] [] (A, R, G) := by
  by_cases c1 : (A 48 11) = 6
  · replace h := h.1 c1
    exact ⟨6, And.intro (gt48 hG) (Or.inr (And.intro (fun z => z c1) (h)))⟩
  · replace h := h.2 c1
    obtain ⟨n, h⟩ := h
    exact ⟨n + 14, And.intro (gt48 hG) (Or.inl (And.intro c1 (And.intro (gt48 hG) (And.intro (gt48 hG) (h)))))⟩

set_option maxRecDepth 100000 in
set_option maxHeartbeats 4000000 in
theorem sX5_text_26 {E : aR} {A : Nat → Nat → Int32} {R : Nat → Nat → Option Nat} {G : Nat → Nat × Nat} (hG : aGS G) (x1 : Int32) (x2 : Int32)
    (h : ((3 ≤ x2) → (((x1 = 0) → ((vp_in ((4 * (A 48 11)) + 3) 24) ∧ (E (some (.int ((-100) - (((au (au A 55 ((4 * (A 48 11)) + 3).toNatClampNeg (A 48 28)) 48 8 0)) 48 21)))) ((au (au A 55 ((4 * (A 48 11)) + 3).toNatClampNeg (A 48 28)) 48 8 0), R, G)))) ∧ ((¬ (x1 = 0)) → (∃ (μ1 : aM), CX5_next [.ref 48] (A, R, G) none μ1 ∧ aw tX5_text E 109 [some (.ref 48), some (.int x1), some (.int x2)] [] μ1)))) ∧ ((¬ (3 ≤ x2)) → (((x1 = 0) → ((vp_in ((4 * (A 48 11)) + 3) 24) ∧ (E (some (.int ((-100) - (((au (au A 55 ((4 * (A 48 11)) + 3).toNatClampNeg (A 48 28)) 48 8 0)) 48 21)))) ((au (au A 55 ((4 * (A 48 11)) + 3).toNatClampNeg (A 48 28)) 48 8 0), R, G)))) ∧ ((¬ (x1 = 0)) → (∃ (μ1 : aM), CX5_next [.ref 48] (A, R, G) none μ1 ∧ aw tX5_text E 39 [some (.ref 48), some (.int x1), some (.int x2)] [] μ1))))) :
    aw tX5_text E 26 [some (.ref 48), some (.int x1), some (.int x2)] [] (A, R, G) := by
  by_cases c1 : 3 ≤ x2
  · replace h := h.1 c1
    by_cases c2 : x1 = 0
    · replace h := h.1 c2
      obtain ⟨q3, h⟩ := h
      exact ⟨26, Or.inl (And.intro c1 (Or.inl (And.intro c2 (And.intro (gt48 hG) (And.intro (gt48 hG) (And.intro (gt48 hG) (And.intro (gt55 hG) (And.intro (vin_len (gl55 hG) q3) (And.intro (gt48 hG) (Or.inr (And.intro (fun z => z c2) (And.intro (gt48 hG) (h)))))))))))))⟩
    · replace h := h.2 c2
      obtain ⟨μ1, h1, n, h⟩ := h
      exact ⟨n + 7, Or.inl (And.intro c1 (Or.inr (And.intro c2 (Exists.intro _ (Exists.intro _ (Exists.intro _ (Exists.intro _ (And.intro rfl (And.intro (gt48 hG) (And.intro (Nat.le_of_ble_eq_true rfl) (And.intro h1 (h))))))))))))⟩
  · replace h := h.2 c1
    by_cases c4 : x1 = 0
    · replace h := h.1 c4
      obtain ⟨q5, h⟩ := h
      exact ⟨28, Or.inr (And.intro c1 (Or.inl (And.intro c4 (Or.inl (And.intro c4 (And.intro (gt48 hG) (And.intro (gt48 hG) (And.intro (gt48 hG) (And.intro (gt55 hG) (And.intro (vin_len (gl55 hG) q5) (And.intro (gt48 hG) (Or.inr (And.intro (fun z => z c4) (And.intro (gt48 hG) (h)))))))))))))))⟩
    · replace h := h.2 c4
      obtain ⟨μ1, h1, n, h⟩ := h
      exact ⟨n + 7, Or.inr (And.intro c1 (Or.inr (And.intro c4 (Exists.intro _ (Exists.intro _ (Exists.intro _ (Exists.intro _ (And.intro rfl (And.intro (gt48 hG) (And.intro (Nat.le_of_ble_eq_true rfl) (And.intro h1 (h))))))))))))⟩

set_option maxRecDepth 100000 in
set_option maxHeartbeats 4000000 in
theorem sX5_text_39 {E : aR} {A : Nat → Nat → Int32} {R : Nat → Nat → Option Nat} {G : Nat → Nat × Nat} (hG : aGS G) (d1 : Option Value) (x2 : Int32)
    (h : (((A 48 22) = 3) → ((((A 48 23) = x2) → ((vp_in ((4 * (A 48 11)) + x2) 24) ∧ (∃ (v1 : Int32) (μ1 : aM), CX5_eRead [.ref 48] ((au A 55 ((4 * (A 48 11)) + x2).toNatClampNeg (A 48 28)), R, G) (some (.int v1)) μ1 ∧ aw tX5_text E 86 [some (.ref 48), some (.int 1), some (.int x2)] [.int v1] μ1))) ∧ ((¬ ((A 48 23) = x2)) → ((vp_in ((4 * (A 48 11)) + x2) 24) ∧ (aw tX5_text E 26 [some (.ref 48), some (.int 0), some (.int (x2 + 1))] [] ((au A 55 ((4 * (A 48 11)) + x2).toNatClampNeg (A 48 28)), R, G)))))) ∧ ((¬ ((A 48 22) = 3)) → ((vp_in ((4 * (A 48 11)) + x2) 24) ∧ (aw tX5_text E 26 [some (.ref 48), some (.int 0), some (.int (x2 + 1))] [] ((au A 55 ((4 * (A 48 11)) + x2).toNatClampNeg (A 48 28)), R, G))))) :
    aw tX5_text E 39 [some (.ref 48), d1, some (.int x2)] [] (A, R, G) := by
  by_cases c1 : (A 48 22) = 3
  · replace h := h.1 c1
    by_cases c2 : (A 48 23) = x2
    · replace h := h.1 c2
      obtain ⟨q3, h⟩ := h
      obtain ⟨v1, μ1, h1, n, h⟩ := h
      exact ⟨n + 26, And.intro (gt48 hG) (Or.inr (And.intro (fun z => z c1) (And.intro (gt48 hG) (Or.inr (And.intro (fun z => z c2) (And.intro (gt48 hG) (And.intro (gt48 hG) (And.intro (gt48 hG) (And.intro (gt55 hG) (And.intro (vin_len (gl55 hG) q3) (Or.inr (And.intro (by decide) (Exists.intro _ (Exists.intro _ (Exists.intro _ (Exists.intro _ (And.intro rfl (And.intro (gt48 hG) (And.intro (Nat.le_of_ble_eq_true rfl) (And.intro h1 (h)))))))))))))))))))))⟩
    · replace h := h.2 c2
      obtain ⟨q4, h⟩ := h
      obtain ⟨n, h⟩ := h
      exact ⟨n + 27, And.intro (gt48 hG) (Or.inr (And.intro (fun z => z c1) (And.intro (gt48 hG) (Or.inl (And.intro c2 (And.intro (gt48 hG) (And.intro (gt48 hG) (And.intro (gt48 hG) (And.intro (gt55 hG) (And.intro (vin_len (gl55 hG) q4) (Or.inl (And.intro (by decide) (h)))))))))))))⟩
  · replace h := h.2 c1
    obtain ⟨q5, h⟩ := h
    obtain ⟨n, h⟩ := h
    exact ⟨n + 23, And.intro (gt48 hG) (Or.inl (And.intro c1 (And.intro (gt48 hG) (And.intro (gt48 hG) (And.intro (gt48 hG) (And.intro (gt55 hG) (And.intro (vin_len (gl55 hG) q5) (Or.inl (And.intro (by decide) (h))))))))))⟩

set_option maxRecDepth 100000 in
set_option maxHeartbeats 4000000 in
theorem sX5_text_86 {E : aR} {A : Nat → Nat → Int32} {R : Nat → Nat → Option Nat} {G : Nat → Nat × Nat} (d1 : Option Value) (x2 : Int32) (y0 : Int32)
    (h : ((y0 = 0) → (aw tX5_text E 26 [some (.ref 48), some (.int 0), some (.int (x2 + 1))] [] (A, R, G))) ∧ ((¬ (y0 = 0)) → (aw tX5_text E 26 [some (.ref 48), some (.int 1), some (.int (x2 + 1))] [] (A, R, G)))) :
    aw tX5_text E 86 [some (.ref 48), d1, some (.int x2)] [.int y0] (A, R, G) := by
  by_cases c1 : y0 = 0
  · replace h := h.1 c1
    obtain ⟨n, h⟩ := h
    exact ⟨n + 5, Or.inl (And.intro c1 (h))⟩
  · replace h := h.2 c1
    obtain ⟨n, h⟩ := h
    exact ⟨n + 6, Or.inr (And.intro c1 (h))⟩

set_option maxRecDepth 100000 in
set_option maxHeartbeats 4000000 in
theorem sX5_text_109 {E : aR} {A : Nat → Nat → Int32} {R : Nat → Nat → Option Nat} {G : Nat → Nat × Nat} (hG : aGS G) (d1 : Option Value) (d2 : Option Value)
    (h : (((A 48 22) = 0) → ((vp_in ((4 * (A 48 11)) + 3) 24) ∧ (aw tX5_text E 166 [some (.ref 48), some (.int 1), d2] [] ((au (au (au A 55 ((4 * (A 48 11)) + 3).toNatClampNeg (A 48 28)) 48 8 0) 48 11 ((((au (au A 55 ((4 * (A 48 11)) + 3).toNatClampNeg (A 48 28)) 48 8 0)) 48 11) + 1)), R, G)))) ∧ ((¬ ((A 48 22) = 0)) → ((vp_in ((4 * (A 48 11)) + 3) 24) ∧ (E (some (.int ((-100) - (((au (au A 55 ((4 * (A 48 11)) + 3).toNatClampNeg (A 48 28)) 48 8 0)) 48 21)))) ((au (au A 55 ((4 * (A 48 11)) + 3).toNatClampNeg (A 48 28)) 48 8 0), R, G))))) :
    aw tX5_text E 109 [some (.ref 48), d1, d2] [] (A, R, G) := by
  by_cases c1 : (A 48 22) = 0
  · replace h := h.1 c1
    obtain ⟨q2, h⟩ := h
    obtain ⟨n, h⟩ := h
    exact ⟨n + 28, And.intro (gt48 hG) (Or.inr (And.intro (fun z => z c1) (And.intro (gt48 hG) (And.intro (gt48 hG) (And.intro (gt48 hG) (And.intro (gt55 hG) (And.intro (vin_len (gl55 hG) q2) (And.intro (gt48 hG) (Or.inl (And.intro (by decide) (And.intro rfl (And.intro (gt48 hG) (And.intro (gt48 hG) (h))))))))))))))⟩
  · replace h := h.2 c1
    obtain ⟨q3, h⟩ := h
    exact ⟨26, And.intro (gt48 hG) (Or.inl (And.intro c1 (And.intro (gt48 hG) (And.intro (gt48 hG) (And.intro (gt48 hG) (And.intro (gt55 hG) (And.intro (vin_len (gl55 hG) q3) (And.intro (gt48 hG) (Or.inr (And.intro (by decide) (And.intro (gt48 hG) (h))))))))))))⟩

set_option maxRecDepth 100000 in
set_option maxHeartbeats 4000000 in
theorem sX5_text_166 {E : aR} {A : Nat → Nat → Int32} {R : Nat → Nat → Option Nat} {G : Nat → Nat × Nat} (hG : aGS G) (d1 : Option Value) (d2 : Option Value)
    (h : E (some (.int ((A 48 11) - 1))) (A, R, G)) :
    aw tX5_text E 166 [some (.ref 48), d1, d2] [] (A, R, G) := by
  exact ⟨5, And.intro (gt48 hG) (h)⟩

set_option maxRecDepth 100000 in
set_option maxHeartbeats 4000000 in
theorem sX1_readLevel_0 {E : aR} {cL cO cP : aC} {A : Nat → Nat → Int32} {R : Nat → Nat → Option Nat} {G : Nat → Nat × Nat} (hG : aGS G) (x1 : Int32) (x2 : Int32)
    (h : ((x1 < 5) → (((x1 = 2) → ((0 ≤ A 31 6) ∧ (((G 31).1 = 1 + 4) ∧ ((((tkX A) = (-9)) → (∃ (v1 : Int32) (μ1 : aM), cP [.ref 31, .int (-9), .int 2, .int x2] (A, R, G) (some (.int v1)) μ1 ∧ aw (tX1_readLevel cL cO cP) E 33 [some (.ref 31), some (.int x1), some (.int x2), none, none, none] [.int v1] μ1)) ∧ ((¬ ((tkX A) = (-9))) → (∃ (v1 : Int32) (μ1 : aM), cL [.ref 31, .int (x1 + 1), .int x2] (A, R, G) (some (.int v1)) μ1 ∧ aw (tX1_readLevel cL cO cP) E 42 [some (.ref 31), some (.int x1), some (.int x2), none, none, none] [.int v1] μ1)))))) ∧ ((¬ (x1 = 2)) → (∃ (v1 : Int32) (μ1 : aM), cL [.ref 31, .int (x1 + 1), .int x2] (A, R, G) (some (.int v1)) μ1 ∧ aw (tX1_readLevel cL cO cP) E 42 [some (.ref 31), some (.int x1), some (.int x2), none, none, none] [.int v1] μ1)))) ∧ ((¬ (x1 < 5)) → (∃ (v1 : Int32) (μ1 : aM), cO [.ref 31, .int x2] (A, R, G) (some (.int v1)) μ1 ∧ aw (tX1_readLevel cL cO cP) E 10 [some (.ref 31), some (.int x1), some (.int x2), none, none, none] [.int v1] μ1))) :
    aw (tX1_readLevel cL cO cP) E 0 [some (.ref 31), some (.int x1), some (.int x2), none, none, none] [] (A, R, G) := by
  by_cases c1 : x1 < 5
  · replace h := h.1 c1
    by_cases c2 : x1 = 2
    · replace h := h.1 c2
      obtain ⟨q3, h⟩ := h
      obtain ⟨q4, h⟩ := h
      by_cases c5 : (tkX A) = (-9)
      · replace h := h.1 c5
        obtain ⟨v1, μ1, h1, n, h⟩ := h
        exact ⟨n + 15, Or.inl (And.intro c1 (Or.inr (And.intro (fun z => z c2) (Exists.intro _ (Exists.intro _ (Exists.intro _ (Exists.intro _ (And.intro rfl (And.intro q4 (And.intro (Nat.le_of_ble_eq_true rfl) (And.intro (pX1_token hG  q3) (Or.inr (And.intro (fun z => z c5) (Exists.intro _ (Exists.intro _ (And.intro (Nat.le_of_ble_eq_true rfl) (And.intro (Nat.le_of_ble_eq_true rfl) (And.intro h1 (h)))))))))))))))))))⟩
      · replace h := h.2 c5
        obtain ⟨v1, μ1, h1, n, h⟩ := h
        exact ⟨n + 16, Or.inl (And.intro c1 (Or.inr (And.intro (fun z => z c2) (Exists.intro _ (Exists.intro _ (Exists.intro _ (Exists.intro _ (And.intro rfl (And.intro q4 (And.intro (Nat.le_of_ble_eq_true rfl) (And.intro (pX1_token hG  q3) (Or.inl (And.intro c5 (Exists.intro _ (Exists.intro _ (And.intro (Nat.le_of_ble_eq_true rfl) (And.intro (Nat.le_of_ble_eq_true rfl) (And.intro h1 (h)))))))))))))))))))⟩
    · replace h := h.2 c2
      obtain ⟨v1, μ1, h1, n, h⟩ := h
      exact ⟨n + 12, Or.inl (And.intro c1 (Or.inl (And.intro c2 (Exists.intro _ (Exists.intro _ (And.intro (Nat.le_of_ble_eq_true rfl) (And.intro (Nat.le_of_ble_eq_true rfl) (And.intro h1 (h)))))))))⟩
  · replace h := h.2 c1
    obtain ⟨v1, μ1, h1, n, h⟩ := h
    exact ⟨n + 6, Or.inr (And.intro c1 (Exists.intro _ (Exists.intro _ (And.intro (Nat.le_of_ble_eq_true rfl) (And.intro (Nat.le_of_ble_eq_true rfl) (And.intro h1 (h)))))))⟩

set_option maxRecDepth 100000 in
set_option maxHeartbeats 4000000 in
theorem sX1_readLevel_10 {E : aR} {cL cO cP : aC} {A : Nat → Nat → Int32} {R : Nat → Nat → Option Nat} {G : Nat → Nat × Nat} (d0 : Option Value) (d1 : Option Value) (d2 : Option Value) (d3 : Option Value) (d4 : Option Value) (d5 : Option Value) (y0 : Int32)
    (h : (y0 = 0 ∨ y0 = 1) ∧ (E (some (.int y0)) (A, R, G))) :
    aw (tX1_readLevel cL cO cP) E 10 [d0, d1, d2, d3, d4, d5] [.int y0] (A, R, G) := by
  obtain ⟨q1, h⟩ := h
  exact ⟨1, And.intro q1 (h)⟩

set_option maxRecDepth 100000 in
set_option maxHeartbeats 4000000 in
theorem sX1_readLevel_33 {E : aR} {cL cO cP : aC} {A : Nat → Nat → Int32} {R : Nat → Nat → Option Nat} {G : Nat → Nat × Nat} (d0 : Option Value) (d1 : Option Value) (d2 : Option Value) (d3 : Option Value) (d4 : Option Value) (d5 : Option Value) (y0 : Int32)
    (h : (y0 = 0 ∨ y0 = 1) ∧ (E (some (.int y0)) (A, R, G))) :
    aw (tX1_readLevel cL cO cP) E 33 [d0, d1, d2, d3, d4, d5] [.int y0] (A, R, G) := by
  obtain ⟨q1, h⟩ := h
  exact ⟨1, And.intro q1 (h)⟩

set_option maxRecDepth 100000 in
set_option maxHeartbeats 4000000 in
theorem sX1_readLevel_42 {E : aR} {cL cO cP : aC} {A : Nat → Nat → Int32} {R : Nat → Nat → Option Nat} {G : Nat → Nat × Nat} (x1 : Int32) (x2 : Int32) (d3 : Option Value) (d4 : Option Value) (d5 : Option Value) (y0 : Int32)
    (h : ((y0 = 0) → (E (some (.int 0)) (A, R, G))) ∧ ((¬ (y0 = 0)) → (((x1 = 2) → (aw (tX1_readLevel cL cO cP) E 63 [some (.ref 31), some (.int x1), some (.int x2), some (.int 1), some (.int 0), d5] [] (A, R, G))) ∧ ((¬ (x1 = 2)) → (aw (tX1_readLevel cL cO cP) E 63 [some (.ref 31), some (.int x1), some (.int x2), some (.int 160), some (.int 0), d5] [] (A, R, G)))))) :
    aw (tX1_readLevel cL cO cP) E 42 [some (.ref 31), some (.int x1), some (.int x2), d3, d4, d5] [.int y0] (A, R, G) := by
  by_cases c1 : y0 = 0
  · replace h := h.1 c1
    exact ⟨3, Or.inr (And.intro (fun z => z c1) (And.intro (Or.inl rfl) (h)))⟩
  · replace h := h.2 c1
    by_cases c2 : x1 = 2
    · replace h := h.1 c2
      obtain ⟨n, h⟩ := h
      exact ⟨n + 9, Or.inl (And.intro c1 (Or.inr (And.intro (fun z => z c2) (h))))⟩
    · replace h := h.2 c2
      obtain ⟨n, h⟩ := h
      exact ⟨n + 8, Or.inl (And.intro c1 (Or.inl (And.intro c2 (h))))⟩

set_option maxRecDepth 100000 in
set_option maxHeartbeats 4000000 in
theorem sX1_readLevel_63 {E : aR} {cL cO cP : aC} {A : Nat → Nat → Int32} {R : Nat → Nat → Option Nat} {G : Nat → Nat × Nat} (hG : aGS G) (x1 : Int32) (x2 : Int32) (x3 : Int32) (x4 : Int32) (d5 : Option Value)
    (h : ((x3 ≤ x4) → (E (some (.int 1)) (A, R, G))) ∧ ((¬ (x3 ≤ x4)) → ((0 ≤ A 31 6) ∧ (((G 31).1 = 1 + 4) ∧ (((jnX x1 (tkX A)) → (∃ (v1 : Int32) (μ1 : aM), cL [.ref 31, .int (x1 + 1), .int x2] ((au A 31 6 ((A 31 6) + 1)), R, G) (some (.int v1)) μ1 ∧ aw (tX1_readLevel cL cO cP) E 104 [some (.ref 31), some (.int x1), some (.int x2), some (.int x3), some (.int x4), some (.int (tkX A))] [.int v1] μ1)) ∧ ((¬ (jnX x1 (tkX A))) → (E (some (.int 1)) (A, R, G)))))))) :
    aw (tX1_readLevel cL cO cP) E 63 [some (.ref 31), some (.int x1), some (.int x2), some (.int x3), some (.int x4), d5] [] (A, R, G) := by
  by_cases c1 : x3 ≤ x4
  · replace h := h.1 c1
    exact ⟨5, Or.inl (And.intro c1 (And.intro (Or.inr rfl) (h)))⟩
  · replace h := h.2 c1
    obtain ⟨q2, h⟩ := h
    obtain ⟨q3, h⟩ := h
    by_cases c4 : jnX x1 (tkX A)
    · replace h := h.1 c4
      obtain ⟨v1, μ1, h1, n, h⟩ := h
      exact ⟨n + 23, Or.inr (And.intro c1 (Exists.intro _ (Exists.intro _ (Exists.intro _ (Exists.intro _ (And.intro rfl (And.intro q3 (And.intro (Nat.le_of_ble_eq_true rfl) (And.intro (pX1_token hG  q2) (Exists.intro _ (Exists.intro _ (And.intro (Nat.le_of_ble_eq_true rfl) (And.intro (Nat.le_of_ble_eq_true rfl) (And.intro (pX1_joins _ _) (Or.inr (And.intro (bI_neq c4) (Exists.intro _ (Exists.intro _ (Exists.intro _ (Exists.intro _ (And.intro rfl (And.intro q3 (And.intro (Nat.le_of_ble_eq_true rfl) (And.intro (pX1_token hG  q2) (And.intro rfl (And.intro q3 (And.intro q3 (Exists.intro _ (Exists.intro _ (And.intro (Nat.le_of_ble_eq_true rfl) (And.intro (Nat.le_of_ble_eq_true rfl) (And.intro h1 (h)))))))))))))))))))))))))))))))))⟩
    · replace h := h.2 c4
      exact ⟨10, Or.inr (And.intro c1 (Exists.intro _ (Exists.intro _ (Exists.intro _ (Exists.intro _ (And.intro rfl (And.intro q3 (And.intro (Nat.le_of_ble_eq_true rfl) (And.intro (pX1_token hG  q2) (Exists.intro _ (Exists.intro _ (And.intro (Nat.le_of_ble_eq_true rfl) (And.intro (Nat.le_of_ble_eq_true rfl) (And.intro (pX1_joins _ _) (Or.inl (And.intro (bI_eq c4) (And.intro (Or.inr rfl) (h))))))))))))))))))⟩

set_option maxRecDepth 100000 in
set_option maxHeartbeats 4000000 in
theorem sX1_readLevel_104 {E : aR} {cL cO cP : aC} {A : Nat → Nat → Int32} {R : Nat → Nat → Option Nat} {G : Nat → Nat × Nat} (x1 : Int32) (x2 : Int32) (x3 : Int32) (x4 : Int32) (x5 : Int32) (y0 : Int32)
    (h : ((y0 = 0) → (E (some (.int 0)) (A, R, G))) ∧ ((¬ (y0 = 0)) → (((G 31).1 = 1 + 4) ∧ (∃ (μ1 : aM), CX1_add [.ref 31, .int x5] (A, R, G) none μ1 ∧ aw (tX1_readLevel cL cO cP) E 115 [some (.ref 31), some (.int x1), some (.int x2), some (.int x3), some (.int x4), some (.int x5)] [] μ1)))) :
    aw (tX1_readLevel cL cO cP) E 104 [some (.ref 31), some (.int x1), some (.int x2), some (.int x3), some (.int x4), some (.int x5)] [.int y0] (A, R, G) := by
  by_cases c1 : y0 = 0
  · replace h := h.1 c1
    exact ⟨3, Or.inr (And.intro (fun z => z c1) (And.intro (Or.inl rfl) (h)))⟩
  · replace h := h.2 c1
    obtain ⟨q2, h⟩ := h
    obtain ⟨μ1, h1, n, h⟩ := h
    exact ⟨n + 4, Or.inl (And.intro c1 (Exists.intro _ (Exists.intro _ (Exists.intro _ (Exists.intro _ (And.intro rfl (And.intro q2 (And.intro (Nat.le_of_ble_eq_true rfl) (And.intro h1 (h))))))))))⟩

set_option maxRecDepth 100000 in
set_option maxHeartbeats 4000000 in
theorem sX1_readLevel_115 {E : aR} {cL cO cP : aC} {A : Nat → Nat → Int32} {R : Nat → Nat → Option Nat} {G : Nat → Nat × Nat} (x1 : Int32) (x2 : Int32) (x3 : Int32) (x4 : Int32) (d5 : Option Value)
    (h : aw (tX1_readLevel cL cO cP) E 63 [some (.ref 31), some (.int x1), some (.int x2), some (.int x3), some (.int (x4 + 1)), d5] [] (A, R, G)) :
    aw (tX1_readLevel cL cO cP) E 115 [some (.ref 31), some (.int x1), some (.int x2), some (.int x3), some (.int x4), d5] [] (A, R, G) := by
  obtain ⟨n, h⟩ := h
  exact ⟨n + 2, h⟩

set_option maxRecDepth 100000 in
set_option maxHeartbeats 4000000 in
theorem sX1_readOne_0 {E : aR} {cL cO cP : aC} {A : Nat → Nat → Int32} {R : Nat → Nat → Option Nat} {G : Nat → Nat × Nat} (hG : aGS G) (x1 : Int32)
    (h : (0 ≤ A 31 6) ∧ (((G 31).1 = 1 + 4) ∧ ((((tkX A) = (-13)) → (∃ (v1 : Int32) (μ1 : aM), cP [.ref 31, .int (-15), .int 5, .int x1] (A, R, G) (some (.int v1)) μ1 ∧ aw (tX1_readOne cL cO cP) E 19 [some (.ref 31), some (.int x1), some (.int (tkX A))] [.int v1] μ1)) ∧ ((¬ ((tkX A) = (-13))) → ((((tkX A) = (-20)) → (((x1 < 5) → (∃ (v1 : Int32) (μ1 : aM), cL [.ref 31, .int 0, .int (x1 + 1)] ((au A 31 6 ((A 31 6) + 1)), R, G) (some (.int v1)) μ1 ∧ aw (tX1_readOne cL cO cP) E 51 [some (.ref 31), some (.int x1), some (.int (tkX A))] [.int v1] μ1)) ∧ ((¬ (x1 < 5)) → (E (some (.int 0)) (A, R, G))))) ∧ ((¬ ((tkX A) = (-20))) → ((((-6) ≤ (tkX A)) → (∃ (μ1 : aM), CX1_add [.ref 31, .int (tkX A)] (A, R, G) none μ1 ∧ aw (tX1_readOne cL cO cP) E 82 [some (.ref 31), some (.int x1), some (.int (tkX A))] [] μ1)) ∧ ((¬ ((-6) ≤ (tkX A))) → (E (some (.int 0)) (A, R, G)))))))))) :
    aw (tX1_readOne cL cO cP) E 0 [some (.ref 31), some (.int x1), none] [] (A, R, G) := by
  obtain ⟨q1, h⟩ := h
  obtain ⟨q2, h⟩ := h
  by_cases c3 : (tkX A) = (-13)
  · replace h := h.1 c3
    obtain ⟨v1, μ1, h1, n, h⟩ := h
    exact ⟨n + 11, Exists.intro _ (Exists.intro _ (Exists.intro _ (Exists.intro _ (And.intro rfl (And.intro q2 (And.intro (Nat.le_of_ble_eq_true rfl) (And.intro (pX1_token hG  q1) (Or.inr (And.intro (fun z => z c3) (Exists.intro _ (Exists.intro _ (And.intro (Nat.le_of_ble_eq_true rfl) (And.intro (Nat.le_of_ble_eq_true rfl) (And.intro h1 (h)))))))))))))))⟩
  · replace h := h.2 c3
    by_cases c4 : (tkX A) = (-20)
    · replace h := h.1 c4
      by_cases c5 : x1 < 5
      · replace h := h.1 c5
        obtain ⟨v1, μ1, h1, n, h⟩ := h
        exact ⟨n + 24, Exists.intro _ (Exists.intro _ (Exists.intro _ (Exists.intro _ (And.intro rfl (And.intro q2 (And.intro (Nat.le_of_ble_eq_true rfl) (And.intro (pX1_token hG  q1) (Or.inl (And.intro c3 (Or.inr (And.intro (fun z => z c4) (Or.inl (And.intro c5 (And.intro rfl (And.intro q2 (And.intro q2 (Exists.intro _ (Exists.intro _ (And.intro (Nat.le_of_ble_eq_true rfl) (And.intro (Nat.le_of_ble_eq_true rfl) (And.intro h1 (h))))))))))))))))))))))⟩
      · replace h := h.2 c5
        exact ⟨14, Exists.intro _ (Exists.intro _ (Exists.intro _ (Exists.intro _ (And.intro rfl (And.intro q2 (And.intro (Nat.le_of_ble_eq_true rfl) (And.intro (pX1_token hG  q1) (Or.inl (And.intro c3 (Or.inr (And.intro (fun z => z c4) (Or.inr (And.intro c5 (And.intro (Or.inl rfl) (h)))))))))))))))⟩
    · replace h := h.2 c4
      by_cases c6 : (-6) ≤ (tkX A)
      · replace h := h.1 c6
        obtain ⟨μ1, h1, n, h⟩ := h
        exact ⟨n + 15, Exists.intro _ (Exists.intro _ (Exists.intro _ (Exists.intro _ (And.intro rfl (And.intro q2 (And.intro (Nat.le_of_ble_eq_true rfl) (And.intro (pX1_token hG  q1) (Or.inl (And.intro c3 (Or.inl (And.intro c4 (Or.inl (And.intro c6 (Exists.intro _ (Exists.intro _ (Exists.intro _ (Exists.intro _ (And.intro rfl (And.intro q2 (And.intro (Nat.le_of_ble_eq_true rfl) (And.intro h1 (h))))))))))))))))))))))⟩
      · replace h := h.2 c6
        exact ⟨14, Exists.intro _ (Exists.intro _ (Exists.intro _ (Exists.intro _ (And.intro rfl (And.intro q2 (And.intro (Nat.le_of_ble_eq_true rfl) (And.intro (pX1_token hG  q1) (Or.inl (And.intro c3 (Or.inl (And.intro c4 (Or.inr (And.intro c6 (And.intro (Or.inl rfl) (h)))))))))))))))⟩

set_option maxRecDepth 100000 in
set_option maxHeartbeats 4000000 in
theorem sX1_readOne_19 {E : aR} {cL cO cP : aC} {A : Nat → Nat → Int32} {R : Nat → Nat → Option Nat} {G : Nat → Nat × Nat} (d0 : Option Value) (d1 : Option Value) (d2 : Option Value) (y0 : Int32)
    (h : (y0 = 0 ∨ y0 = 1) ∧ (E (some (.int y0)) (A, R, G))) :
    aw (tX1_readOne cL cO cP) E 19 [d0, d1, d2] [.int y0] (A, R, G) := by
  obtain ⟨q1, h⟩ := h
  exact ⟨1, And.intro q1 (h)⟩

set_option maxRecDepth 100000 in
set_option maxHeartbeats 4000000 in
theorem sX1_readOne_51 {E : aR} {cL cO cP : aC} {A : Nat → Nat → Int32} {R : Nat → Nat → Option Nat} {G : Nat → Nat × Nat} (d1 : Option Value) (d2 : Option Value) (y0 : Int32)
    (h : ((y0 = 0) → (E (some (.int 0)) (A, R, G))) ∧ ((¬ (y0 = 0)) → (((G 31).1 = 1 + 4) ∧ (∃ (v1 : Int32) (μ1 : aM), CX1_skip [.ref 31, .int (-21)] (A, R, G) (some (.int v1)) μ1 ∧ aw (tX1_readOne cL cO cP) E 60 [some (.ref 31), d1, d2] [.int v1] μ1)))) :
    aw (tX1_readOne cL cO cP) E 51 [some (.ref 31), d1, d2] [.int y0] (A, R, G) := by
  by_cases c1 : y0 = 0
  · replace h := h.1 c1
    exact ⟨3, Or.inl (And.intro c1 (And.intro (Or.inl rfl) (h)))⟩
  · replace h := h.2 c1
    obtain ⟨q2, h⟩ := h
    obtain ⟨v1, μ1, h1, n, h⟩ := h
    exact ⟨n + 4, Or.inr (And.intro c1 (Exists.intro _ (Exists.intro _ (Exists.intro _ (Exists.intro _ (And.intro rfl (And.intro q2 (And.intro (Nat.le_of_ble_eq_true rfl) (And.intro h1 (h))))))))))⟩

set_option maxRecDepth 100000 in
set_option maxHeartbeats 4000000 in
theorem sX1_readOne_60 {E : aR} {cL cO cP : aC} {A : Nat → Nat → Int32} {R : Nat → Nat → Option Nat} {G : Nat → Nat × Nat} (d0 : Option Value) (d1 : Option Value) (d2 : Option Value) (y0 : Int32)
    (h : ((y0 = 0) → (E (some (.int 0)) (A, R, G))) ∧ ((¬ (y0 = 0)) → (E (some (.int 1)) (A, R, G)))) :
    aw (tX1_readOne cL cO cP) E 60 [d0, d1, d2] [.int y0] (A, R, G) := by
  by_cases c1 : y0 = 0
  · replace h := h.1 c1
    exact ⟨3, Or.inl (And.intro c1 (And.intro (Or.inl rfl) (h)))⟩
  · replace h := h.2 c1
    exact ⟨4, Or.inr (And.intro c1 (And.intro (Or.inr rfl) (h)))⟩

set_option maxRecDepth 100000 in
set_option maxHeartbeats 4000000 in
theorem sX1_readOne_82 {E : aR} {cL cO cP : aC} {A : Nat → Nat → Int32} {R : Nat → Nat → Option Nat} {G : Nat → Nat × Nat} (d1 : Option Value) (d2 : Option Value)
    (h : ((G 31).1 = 1 + 4) ∧ (E (some (.int 1)) ((au A 31 6 ((A 31 6) + 1)), R, G))) :
    aw (tX1_readOne cL cO cP) E 82 [some (.ref 31), d1, d2] [] (A, R, G) := by
  obtain ⟨q1, h⟩ := h
  exact ⟨8, And.intro rfl (And.intro q1 (And.intro q1 (And.intro (Or.inr rfl) (h))))⟩

set_option maxRecDepth 100000 in
set_option maxHeartbeats 4000000 in
theorem sX1_readPrefixed_0 {E : aR} {cL cO cP : aC} {A : Nat → Nat → Int32} {R : Nat → Nat → Option Nat} {G : Nat → Nat × Nat} (x1 : Int32) (x2 : Int32) (x3 : Int32)
    (h : ((x3 < 5) → (((G 31).1 = 1 + 4) ∧ (∃ (v1 : Int32) (μ1 : aM), cL [.ref 31, .int x2, .int (x3 + 1)] ((au A 31 6 ((A 31 6) + 1)), R, G) (some (.int v1)) μ1 ∧ aw (tX1_readPrefixed cL cO cP) E 25 [some (.ref 31), some (.int x1), some (.int x2), some (.int x3)] [.int v1] μ1))) ∧ ((¬ (x3 < 5)) → (E (some (.int 0)) (A, R, G)))) :
    aw (tX1_readPrefixed cL cO cP) E 0 [some (.ref 31), some (.int x1), some (.int x2), some (.int x3)] [] (A, R, G) := by
  by_cases c1 : x3 < 5
  · replace h := h.1 c1
    obtain ⟨q2, h⟩ := h
    obtain ⟨v1, μ1, h1, n, h⟩ := h
    exact ⟨n + 15, Or.inl (And.intro c1 (And.intro rfl (And.intro q2 (And.intro q2 (Exists.intro _ (Exists.intro _ (And.intro (Nat.le_of_ble_eq_true rfl) (And.intro (Nat.le_of_ble_eq_true rfl) (And.intro h1 (h))))))))))⟩
  · replace h := h.2 c1
    exact ⟨5, Or.inr (And.intro c1 (And.intro (Or.inl rfl) (h)))⟩

set_option maxRecDepth 100000 in
set_option maxHeartbeats 4000000 in
theorem sX1_readPrefixed_25 {E : aR} {cL cO cP : aC} {A : Nat → Nat → Int32} {R : Nat → Nat → Option Nat} {G : Nat → Nat × Nat} (x1 : Int32) (d2 : Option Value) (d3 : Option Value) (y0 : Int32)
    (h : ((y0 = 0) → (E (some (.int 0)) (A, R, G))) ∧ ((¬ (y0 = 0)) → (((G 31).1 = 1 + 4) ∧ (∃ (μ1 : aM), CX1_add [.ref 31, .int x1] (A, R, G) none μ1 ∧ aw (tX1_readPrefixed cL cO cP) E 35 [some (.ref 31), some (.int x1), d2, d3] [] μ1)))) :
    aw (tX1_readPrefixed cL cO cP) E 25 [some (.ref 31), some (.int x1), d2, d3] [.int y0] (A, R, G) := by
  by_cases c1 : y0 = 0
  · replace h := h.1 c1
    exact ⟨3, Or.inr (And.intro (fun z => z c1) (And.intro (Or.inl rfl) (h)))⟩
  · replace h := h.2 c1
    obtain ⟨q2, h⟩ := h
    obtain ⟨μ1, h1, n, h⟩ := h
    exact ⟨n + 4, Or.inl (And.intro c1 (Exists.intro _ (Exists.intro _ (Exists.intro _ (Exists.intro _ (And.intro rfl (And.intro q2 (And.intro (Nat.le_of_ble_eq_true rfl) (And.intro h1 (h))))))))))⟩

set_option maxRecDepth 100000 in
set_option maxHeartbeats 4000000 in
theorem sX1_readPrefixed_35 {E : aR} {cL cO cP : aC} {A : Nat → Nat → Int32} {R : Nat → Nat → Option Nat} {G : Nat → Nat × Nat} (d0 : Option Value) (d1 : Option Value) (d2 : Option Value) (d3 : Option Value)
    (h : E (some (.int 1)) (A, R, G)) :
    aw (tX1_readPrefixed cL cO cP) E 35 [d0, d1, d2, d3] [] (A, R, G) := by
  exact ⟨2, And.intro (Or.inr rfl) (h)⟩
