set_option maxRecDepth 100000 in
set_option maxHeartbeats 4000000 in
theorem sX4_within_0 {E : aR} {A : Nat → Nat → Int32} {R : Nat → Nat → Option Nat} {G : Nat → Nat × Nat} (x0 : Int32) (x1 : Int32) (x2 : Int32)
    (h : ((x0 < x1) → (E (some (.int 0)) (A, R, G))) ∧ ((¬ (x0 < x1)) → (((x2 < x0) → (E (some (.int 0)) (A, R, G))) ∧ ((¬ (x2 < x0)) → (E (some (.int 1)) (A, R, G)))))) :
    aw tX4_within E 0 [some (.int x0), some (.int x1), some (.int x2)] [] (A, R, G) := by
  by_cases c1 : x0 < x1
  · replace h := h.1 c1
    exact ⟨5, Or.inl (And.intro c1 (And.intro (Or.inl rfl) (h)))⟩
  · replace h := h.2 c1
    by_cases c2 : x2 < x0
    · replace h := h.1 c2
      exact ⟨8, Or.inr (And.intro c1 (Or.inl (And.intro c2 (And.intro (Or.inl rfl) (h)))))⟩
    · replace h := h.2 c2
      exact ⟨9, Or.inr (And.intro c1 (Or.inr (And.intro c2 (And.intro (Or.inr rfl) (h)))))⟩

set_option maxRecDepth 100000 in
set_option maxHeartbeats 4000000 in
theorem sX5_in_0 {E : aR} {A : Nat → Nat → Int32} {R : Nat → Nat → Option Nat} {G : Nat → Nat × Nat} (x0 : Int32) (x1 : Int32) (x2 : Int32)
    (h : ((x0 < x1) → (E (some (.int 0)) (A, R, G))) ∧ ((¬ (x0 < x1)) → (((x2 < x0) → (E (some (.int 0)) (A, R, G))) ∧ ((¬ (x2 < x0)) → (E (some (.int 1)) (A, R, G)))))) :
    aw tX5_in E 0 [some (.int x0), some (.int x1), some (.int x2)] [] (A, R, G) := by
  by_cases c1 : x0 < x1
  · replace h := h.1 c1
    exact ⟨5, Or.inl (And.intro c1 (And.intro (Or.inl rfl) (h)))⟩
  · replace h := h.2 c1
    by_cases c2 : x2 < x0
    · replace h := h.1 c2
      exact ⟨8, Or.inr (And.intro c1 (Or.inl (And.intro c2 (And.intro (Or.inl rfl) (h)))))⟩
    · replace h := h.2 c2
      exact ⟨9, Or.inr (And.intro c1 (Or.inr (And.intro c2 (And.intro (Or.inr rfl) (h)))))⟩

set_option maxRecDepth 100000 in
set_option maxHeartbeats 4000000 in
theorem sX5_within_0 {E : aR} {A : Nat → Nat → Int32} {R : Nat → Nat → Option Nat} {G : Nat → Nat × Nat} (x0 : Int32) (x1 : Int32) (x2 : Int32)
    (h : ((x1 ≤ x0) → (((x0 ≤ x2) → (E (some (.int x0)) (A, R, G))) ∧ ((¬ (x0 ≤ x2)) → (E (some (.int x2)) (A, R, G))))) ∧ ((¬ (x1 ≤ x0)) → (E (some (.int x1)) (A, R, G)))) :
    aw tX5_within E 0 [some (.int x0), some (.int x1), some (.int x2)] [] (A, R, G) := by
  by_cases c1 : x1 ≤ x0
  · replace h := h.1 c1
    by_cases c2 : x0 ≤ x2
    · replace h := h.1 c2
      exact ⟨8, Or.inl (And.intro c1 (Or.inl (And.intro c2 (h))))⟩
    · replace h := h.2 c2
      exact ⟨9, Or.inl (And.intro c1 (Or.inr (And.intro c2 (h))))⟩
  · replace h := h.2 c1
    exact ⟨6, Or.inr (And.intro c1 (h))⟩

set_option maxRecDepth 100000 in
set_option maxHeartbeats 4000000 in
theorem sX5_onesOf_0 {E : aR} {A : Nat → Nat → Int32} {R : Nat → Nat → Option Nat} {G : Nat → Nat × Nat} (x0 : Int32)
    (h : aw tX5_onesOf E 4 [some (.int x0), some (.int 0), some (.int 0)] [] (A, R, G)) :
    aw tX5_onesOf E 0 [some (.int x0), none, none] [] (A, R, G) := by
  obtain ⟨n, h⟩ := h
  exact ⟨n + 4, h⟩

set_option maxRecDepth 100000 in
set_option maxHeartbeats 4000000 in
theorem sX5_onesOf_4 {E : aR} {A : Nat → Nat → Int32} {R : Nat → Nat → Option Nat} {G : Nat → Nat × Nat} (x0 : Int32) (x1 : Int32) (x2 : Int32)
    (h : ((10 ≤ x2) → (E (some (.int x1)) (A, R, G))) ∧ ((¬ (10 ≤ x2)) → (aw tX5_onesOf E 4 [some (.int x0), some (.int (x1 + ((x0 >>> (x2 &&& 31)) &&& 1))), some (.int (x2 + 1))] [] (A, R, G)))) :
    aw tX5_onesOf E 4 [some (.int x0), some (.int x1), some (.int x2)] [] (A, R, G) := by
  by_cases c1 : 10 ≤ x2
  · replace h := h.1 c1
    exact ⟨5, Or.inl (And.intro c1 (h))⟩
  · replace h := h.2 c1
    obtain ⟨n, h⟩ := h
    exact ⟨n + 13, Or.inr (And.intro c1 (h))⟩

set_option maxRecDepth 100000 in
set_option maxHeartbeats 4000000 in
theorem sJ6_bitCount_0f7a4_0 {E : aR} {A : Nat → Nat → Int32} {R : Nat → Nat → Option Nat} {G : Nat → Nat × Nat} (x0 : Int32)
    (h : ∀ v1 : Int32, v1 = (((x0 - ((((x0 : Int32).toUInt32 >>> ((1 : Int32).toUInt32 &&& Int32.toUInt32 31)).toInt32) &&& 1431655765)) : Int32).toUInt32 >>> ((2 : Int32).toUInt32 &&& Int32.toUInt32 31)).toInt32 → (∀ v2 : Int32, v2 = (((((x0 - ((((x0 : Int32).toUInt32 >>> ((1 : Int32).toUInt32 &&& Int32.toUInt32 31)).toInt32) &&& 1431655765)) &&& 858993459) + (v1 &&& 858993459)) : Int32).toUInt32 >>> ((4 : Int32).toUInt32 &&& Int32.toUInt32 31)).toInt32 → (∀ v3 : Int32, v3 = (((((x0 - ((((x0 : Int32).toUInt32 >>> ((1 : Int32).toUInt32 &&& Int32.toUInt32 31)).toInt32) &&& 1431655765)) &&& 858993459) + (v1 &&& 858993459)) + v2) &&& 252645135) → (∀ v4 : Int32, v4 = (((v3 + (((v3 : Int32).toUInt32 >>> ((8 : Int32).toUInt32 &&& Int32.toUInt32 31)).toInt32)) : Int32).toUInt32 >>> ((16 : Int32).toUInt32 &&& Int32.toUInt32 31)).toInt32 → (E (some (.int (((v3 + (((v3 : Int32).toUInt32 >>> ((8 : Int32).toUInt32 &&& Int32.toUInt32 31)).toInt32)) + v4) &&& 63))) (A, R, G)))))) :
    aw tJ6_bitCount_0f7a4 E 0 [some (.int x0)] [] (A, R, G) := by
  obtain ⟨v1, hv1⟩ : ∃ z : Int32, z = (((x0 - ((((x0 : Int32).toUInt32 >>> ((1 : Int32).toUInt32 &&& Int32.toUInt32 31)).toInt32) &&& 1431655765)) : Int32).toUInt32 >>> ((2 : Int32).toUInt32 &&& Int32.toUInt32 31)).toInt32 := ⟨_, rfl⟩
  replace h := h v1 hv1
  obtain ⟨v2, hv2⟩ : ∃ z : Int32, z = (((((x0 - ((((x0 : Int32).toUInt32 >>> ((1 : Int32).toUInt32 &&& Int32.toUInt32 31)).toInt32) &&& 1431655765)) &&& 858993459) + (v1 &&& 858993459)) : Int32).toUInt32 >>> ((4 : Int32).toUInt32 &&& Int32.toUInt32 31)).toInt32 := ⟨_, rfl⟩
  replace h := h v2 hv2
  obtain ⟨v3, hv3⟩ : ∃ z : Int32, z = (((((x0 - ((((x0 : Int32).toUInt32 >>> ((1 : Int32).toUInt32 &&& Int32.toUInt32 31)).toInt32) &&& 1431655765)) &&& 858993459) + (v1 &&& 858993459)) + v2) &&& 252645135) := ⟨_, rfl⟩
  replace h := h v3 hv3
  obtain ⟨v4, hv4⟩ : ∃ z : Int32, z = (((v3 + (((v3 : Int32).toUInt32 >>> ((8 : Int32).toUInt32 &&& Int32.toUInt32 31)).toInt32)) : Int32).toUInt32 >>> ((16 : Int32).toUInt32 &&& Int32.toUInt32 31)).toInt32 := ⟨_, rfl⟩
  replace h := h v4 hv4
  subst hv4
  subst hv3
  subst hv2
  subst hv1
  exact ⟨42, h⟩

set_option maxRecDepth 100000 in
set_option maxHeartbeats 4000000 in
theorem sX5_rank_0 {E : aR} {A : Nat → Nat → Int32} {R : Nat → Nat → Option Nat} {G : Nat → Nat × Nat} (x0 : Int32)
    (h : ((x0 = 0) → (E (some (.int 0)) (A, R, G))) ∧ ((¬ (x0 = 0)) → (((x0 = 11) → (E (some (.int 1)) (A, R, G))) ∧ ((¬ (x0 = 11)) → (((x0 = 12) → (E (some (.int 2)) (A, R, G))) ∧ ((¬ (x0 = 12)) → (((x0 = 13) → (E (some (.int 3)) (A, R, G))) ∧ ((¬ (x0 = 13)) → (((15 < x0) → (((17 < x0) → (((x0 = 18) → (E (some (.int 6)) (A, R, G))) ∧ ((¬ (x0 = 18)) → (E (some (.int 7)) (A, R, G))))) ∧ ((¬ (17 < x0)) → (E (some (.int 5)) (A, R, G))))) ∧ ((¬ (15 < x0)) → (E (some (.int 4)) (A, R, G)))))))))))) :
    aw tX5_rank E 0 [some (.int x0)] [] (A, R, G) := by
  by_cases c1 : x0 = 0
  · replace h := h.1 c1
    exact ⟨5, Or.inr (And.intro (fun z => z c1) (h))⟩
  · replace h := h.2 c1
    by_cases c2 : x0 = 11
    · replace h := h.1 c2
      exact ⟨8, Or.inl (And.intro c1 (Or.inr (And.intro (fun z => z c2) (h))))⟩
    · replace h := h.2 c2
      by_cases c3 : x0 = 12
      · replace h := h.1 c3
        exact ⟨11, Or.inl (And.intro c1 (Or.inl (And.intro c2 (Or.inr (And.intro (fun z => z c3) (h))))))⟩
      · replace h := h.2 c3
        by_cases c4 : x0 = 13
        · replace h := h.1 c4
          exact ⟨14, Or.inl (And.intro c1 (Or.inl (And.intro c2 (Or.inl (And.intro c3 (Or.inr (And.intro (fun z => z c4) (h))))))))⟩
        · replace h := h.2 c4
          by_cases c5 : 15 < x0
          · replace h := h.1 c5
            by_cases c6 : 17 < x0
            · replace h := h.1 c6
              by_cases c7 : x0 = 18
              · replace h := h.1 c7
                exact ⟨23, Or.inl (And.intro c1 (Or.inl (And.intro c2 (Or.inl (And.intro c3 (Or.inl (And.intro c4 (Or.inl (And.intro c5 (Or.inl (And.intro c6 (Or.inr (And.intro (fun z => z c7) (h))))))))))))))⟩
              · replace h := h.2 c7
                exact ⟨22, Or.inl (And.intro c1 (Or.inl (And.intro c2 (Or.inl (And.intro c3 (Or.inl (And.intro c4 (Or.inl (And.intro c5 (Or.inl (And.intro c6 (Or.inl (And.intro c7 (h))))))))))))))⟩
            · replace h := h.2 c6
              exact ⟨20, Or.inl (And.intro c1 (Or.inl (And.intro c2 (Or.inl (And.intro c3 (Or.inl (And.intro c4 (Or.inl (And.intro c5 (Or.inr (And.intro c6 (h))))))))))))⟩
          · replace h := h.2 c5
            exact ⟨17, Or.inl (And.intro c1 (Or.inl (And.intro c2 (Or.inl (And.intro c3 (Or.inl (And.intro c4 (Or.inr (And.intro c5 (h))))))))))⟩

set_option maxRecDepth 100000 in
set_option maxHeartbeats 4000000 in
theorem sX5_two_0 {E : aR} {A : Nat → Nat → Int32} {R : Nat → Nat → Option Nat} {G : Nat → Nat × Nat} (x0 : Int32) (x1 : Int32) (x2 : Int32)
    (h : ((x0 = 11) → (((x1 = 0) → (((x2 = 0) → (E (some (.int 0)) (A, R, G))) ∧ ((¬ (x2 = 0)) → (E (some (.int 1)) (A, R, G))))) ∧ ((¬ (x1 = 0)) → (E (some (.int 1)) (A, R, G))))) ∧ ((¬ (x0 = 11)) → (((x0 = 12) → (((x1 = 0) → (E (some (.int 0)) (A, R, G))) ∧ ((¬ (x1 = 0)) → (((x2 = 0) → (E (some (.int 0)) (A, R, G))) ∧ ((¬ (x2 = 0)) → (E (some (.int 1)) (A, R, G))))))) ∧ ((¬ (x0 = 12)) → (((x0 = 13) → (E (some (.int (x1 * x2))) (A, R, G))) ∧ ((¬ (x0 = 13)) → (((x0 = 14) → (((x2 ≤ x1) → (E (some (.int 0)) (A, R, G))) ∧ ((¬ (x2 ≤ x1)) → (E (some (.int 1)) (A, R, G))))) ∧ ((¬ (x0 = 14)) → (((x0 = 15) → (((x1 = x2) → (E (some (.int 1)) (A, R, G))) ∧ ((¬ (x1 = x2)) → (E (some (.int 0)) (A, R, G))))) ∧ ((¬ (x0 = 15)) → (((x0 = 16) → (E (some (.int (x1 + x2))) (A, R, G))) ∧ ((¬ (x0 = 16)) → (((x0 = 17) → (E (some (.int (x1 - x2))) (A, R, G))) ∧ ((¬ (x0 = 17)) → (E (some (.int (x1 * x2))) (A, R, G)))))))))))))))) :
    aw tX5_two E 0 [some (.int x0), some (.int x1), some (.int x2)] [] (A, R, G) := by
  by_cases c1 : x0 = 11
  · replace h := h.1 c1
    by_cases c2 : x1 = 0
    · replace h := h.1 c2
      by_cases c3 : x2 = 0
      · replace h := h.1 c3
        exact ⟨8, Or.inl (And.intro c1 (Or.inr (And.intro (fun z => z c2) (Or.inl (And.intro c3 (h))))))⟩
      · replace h := h.2 c3
        exact ⟨9, Or.inl (And.intro c1 (Or.inr (And.intro (fun z => z c2) (Or.inr (And.intro c3 (h))))))⟩
    · replace h := h.2 c2
      exact ⟨7, Or.inl (And.intro c1 (Or.inl (And.intro c2 (h))))⟩
  · replace h := h.2 c1
    by_cases c4 : x0 = 12
    · replace h := h.1 c4
      by_cases c5 : x1 = 0
      · replace h := h.1 c5
        exact ⟨6, Or.inr (And.intro c1 (Or.inl (And.intro c4 (Or.inl (And.intro c5 (h))))))⟩
      · replace h := h.2 c5
        by_cases c6 : x2 = 0
        · replace h := h.1 c6
          exact ⟨8, Or.inr (And.intro c1 (Or.inl (And.intro c4 (Or.inr (And.intro c5 (Or.inl (And.intro c6 (h))))))))⟩
        · replace h := h.2 c6
          exact ⟨9, Or.inr (And.intro c1 (Or.inl (And.intro c4 (Or.inr (And.intro c5 (Or.inr (And.intro c6 (h))))))))⟩
    · replace h := h.2 c4
      by_cases c7 : x0 = 13
      · replace h := h.1 c7
        exact ⟨6, Or.inr (And.intro c1 (Or.inr (And.intro c4 (Or.inl (And.intro c7 (h))))))⟩
      · replace h := h.2 c7
        by_cases c8 : x0 = 14
        · replace h := h.1 c8
          by_cases c9 : x2 ≤ x1
          · replace h := h.1 c9
            exact ⟨7, Or.inr (And.intro c1 (Or.inr (And.intro c4 (Or.inr (And.intro c7 (Or.inl (And.intro c8 (Or.inl (And.intro c9 (h))))))))))⟩
          · replace h := h.2 c9
            exact ⟨8, Or.inr (And.intro c1 (Or.inr (And.intro c4 (Or.inr (And.intro c7 (Or.inl (And.intro c8 (Or.inr (And.intro c9 (h))))))))))⟩
        · replace h := h.2 c8
          by_cases c10 : x0 = 15
          · replace h := h.1 c10
            by_cases c11 : x1 = x2
            · replace h := h.1 c11
              exact ⟨8, Or.inr (And.intro c1 (Or.inr (And.intro c4 (Or.inr (And.intro c7 (Or.inr (And.intro c8 (Or.inl (And.intro c10 (Or.inr (And.intro (fun z => z c11) (h))))))))))))⟩
            · replace h := h.2 c11
              exact ⟨7, Or.inr (And.intro c1 (Or.inr (And.intro c4 (Or.inr (And.intro c7 (Or.inr (And.intro c8 (Or.inl (And.intro c10 (Or.inl (And.intro c11 (h))))))))))))⟩
          · replace h := h.2 c10
            by_cases c12 : x0 = 16
            · replace h := h.1 c12
              exact ⟨6, Or.inr (And.intro c1 (Or.inr (And.intro c4 (Or.inr (And.intro c7 (Or.inr (And.intro c8 (Or.inr (And.intro c10 (Or.inl (And.intro c12 (h))))))))))))⟩
            · replace h := h.2 c12
              by_cases c13 : x0 = 17
              · replace h := h.1 c13
                exact ⟨6, Or.inr (And.intro c1 (Or.inr (And.intro c4 (Or.inr (And.intro c7 (Or.inr (And.intro c8 (Or.inr (And.intro c10 (Or.inr (And.intro c12 (Or.inl (And.intro c13 (h))))))))))))))⟩
              · replace h := h.2 c13
                exact ⟨6, Or.inr (And.intro c1 (Or.inr (And.intro c4 (Or.inr (And.intro c7 (Or.inr (And.intro c8 (Or.inr (And.intro c10 (Or.inr (And.intro c12 (Or.inr (And.intro c13 (h))))))))))))))⟩

set_option maxRecDepth 100000 in
set_option maxHeartbeats 4000000 in
theorem sX5_isUnder_0 {E : aR} {A : Nat → Nat → Int32} {R : Nat → Nat → Option Nat} {G : Nat → Nat × Nat} (x0 : Int32) (x1 : Int32)
    (h : ((x1 = 0) → (E (some (.int 1)) (A, R, G))) ∧ ((¬ (x1 = 0)) → (((x0 = x1) → (E (some (.int 1)) (A, R, G))) ∧ ((¬ (x0 = x1)) → (((x1 = 1) → (((x0 = 3) → (E (some (.int 1)) (A, R, G))) ∧ ((¬ (x0 = 3)) → (((x1 = 2) → (((x0 = 4) → (E (some (.int 1)) (A, R, G))) ∧ ((¬ (x0 = 4)) → (E (some (.int 0)) (A, R, G))))) ∧ ((¬ (x1 = 2)) → (E (some (.int 0)) (A, R, G))))))) ∧ ((¬ (x1 = 1)) → (((x1 = 2) → (((x0 = 4) → (E (some (.int 1)) (A, R, G))) ∧ ((¬ (x0 = 4)) → (E (some (.int 0)) (A, R, G))))) ∧ ((¬ (x1 = 2)) → (E (some (.int 0)) (A, R, G)))))))))) :
    aw tX5_isUnder E 0 [some (.int x0), some (.int x1)] [] (A, R, G) := by
  by_cases c1 : x1 = 0
  · replace h := h.1 c1
    exact ⟨5, Or.inl (And.intro c1 (And.intro (Or.inr rfl) (h)))⟩
  · replace h := h.2 c1
    by_cases c2 : x0 = x1
    · replace h := h.1 c2
      exact ⟨8, Or.inr (And.intro c1 (Or.inl (And.intro c2 (And.intro (Or.inr rfl) (h)))))⟩
    · replace h := h.2 c2
      by_cases c3 : x1 = 1
      · replace h := h.1 c3
        by_cases c4 : x0 = 3
        · replace h := h.1 c4
          exact ⟨14, Or.inr (And.intro c1 (Or.inr (And.intro c2 (Or.inr (And.intro (fun z => z c3) (Or.inl (And.intro c4 (And.intro (Or.inr rfl) (h)))))))))⟩
        · replace h := h.2 c4
          by_cases c5 : x1 = 2
          · replace h := h.1 c5
            by_cases c6 : x0 = 4
            · replace h := h.1 c6
              exact ⟨20, Or.inr (And.intro c1 (Or.inr (And.intro c2 (Or.inr (And.intro (fun z => z c3) (Or.inr (And.intro c4 (Or.inr (And.intro (fun z => z c5) (Or.inr (And.intro (fun z => z c6) (And.intro (Or.inr rfl) (h)))))))))))))⟩
            · replace h := h.2 c6
              exact ⟨19, Or.inr (And.intro c1 (Or.inr (And.intro c2 (Or.inr (And.intro (fun z => z c3) (Or.inr (And.intro c4 (Or.inr (And.intro (fun z => z c5) (Or.inl (And.intro c6 (And.intro (Or.inl rfl) (h)))))))))))))⟩
          · replace h := h.2 c5
            exact ⟨16, Or.inr (And.intro c1 (Or.inr (And.intro c2 (Or.inr (And.intro (fun z => z c3) (Or.inr (And.intro c4 (Or.inl (And.intro c5 (And.intro (Or.inl rfl) (h)))))))))))⟩
      · replace h := h.2 c3
        by_cases c7 : x1 = 2
        · replace h := h.1 c7
          by_cases c8 : x0 = 4
          · replace h := h.1 c8
            exact ⟨17, Or.inr (And.intro c1 (Or.inr (And.intro c2 (Or.inl (And.intro c3 (Or.inr (And.intro (fun z => z c7) (Or.inr (And.intro (fun z => z c8) (And.intro (Or.inr rfl) (h)))))))))))⟩
          · replace h := h.2 c8
            exact ⟨16, Or.inr (And.intro c1 (Or.inr (And.intro c2 (Or.inl (And.intro c3 (Or.inr (And.intro (fun z => z c7) (Or.inl (And.intro c8 (And.intro (Or.inl rfl) (h)))))))))))⟩
        · replace h := h.2 c7
          exact ⟨13, Or.inr (And.intro c1 (Or.inr (And.intro c2 (Or.inl (And.intro c3 (Or.inl (And.intro c7 (And.intro (Or.inl rfl) (h)))))))))⟩

set_option maxRecDepth 100000 in
set_option maxHeartbeats 4000000 in
theorem sX1_joins_0 {E : aR} {A : Nat → Nat → Int32} {R : Nat → Nat → Option Nat} {G : Nat → Nat × Nat} (x0 : Int32) (x1 : Int32)
    (h : ((x0 = 0) → (((x1 = (-7)) → (E (some (.int 1)) (A, R, G))) ∧ ((¬ (x1 = (-7))) → (E (some (.int 0)) (A, R, G))))) ∧ ((¬ (x0 = 0)) → (((x0 = 1) → (((x1 = (-8)) → (E (some (.int 1)) (A, R, G))) ∧ ((¬ (x1 = (-8))) → (E (some (.int 0)) (A, R, G))))) ∧ ((¬ (x0 = 1)) → (((x0 = 2) → (((x1 = (-10)) → (E (some (.int 1)) (A, R, G))) ∧ ((¬ (x1 = (-10))) → (((x1 = (-11)) → (E (some (.int 1)) (A, R, G))) ∧ ((¬ (x1 = (-11))) → (E (some (.int 0)) (A, R, G))))))) ∧ ((¬ (x0 = 2)) → (((x0 = 3) → (((x1 = (-12)) → (E (some (.int 1)) (A, R, G))) ∧ ((¬ (x1 = (-12))) → (((x1 = (-13)) → (E (some (.int 1)) (A, R, G))) ∧ ((¬ (x1 = (-13))) → (E (some (.int 0)) (A, R, G))))))) ∧ ((¬ (x0 = 3)) → (((x0 = 4) → (((x1 = (-14)) → (E (some (.int 1)) (A, R, G))) ∧ ((¬ (x1 = (-14))) → (E (some (.int 0)) (A, R, G))))) ∧ ((¬ (x0 = 4)) → (E (some (.int 0)) (A, R, G)))))))))))) :
    aw tX1_joins E 0 [some (.int x0), some (.int x1)] [] (A, R, G) := by
  by_cases c1 : x0 = 0
  · replace h := h.1 c1
    by_cases c2 : x1 = (-7)
    · replace h := h.1 c2
      exact ⟨8, Or.inl (And.intro c1 (Or.inr (And.intro (fun z => z c2) (And.intro (Or.inr rfl) (h)))))⟩
    · replace h := h.2 c2
      exact ⟨7, Or.inl (And.intro c1 (Or.inl (And.intro c2 (And.intro (Or.inl rfl) (h)))))⟩
  · replace h := h.2 c1
    by_cases c3 : x0 = 1
    · replace h := h.1 c3
      by_cases c4 : x1 = (-8)
      · replace h := h.1 c4
        exact ⟨8, Or.inr (And.intro c1 (Or.inl (And.intro c3 (Or.inr (And.intro (fun z => z c4) (And.intro (Or.inr rfl) (h)))))))⟩
      · replace h := h.2 c4
        exact ⟨7, Or.inr (And.intro c1 (Or.inl (And.intro c3 (Or.inl (And.intro c4 (And.intro (Or.inl rfl) (h)))))))⟩
    · replace h := h.2 c3
      by_cases c5 : x0 = 2
      · replace h := h.1 c5
        by_cases c6 : x1 = (-10)
        · replace h := h.1 c6
          exact ⟨8, Or.inr (And.intro c1 (Or.inr (And.intro c3 (Or.inl (And.intro c5 (Or.inl (And.intro c6 (And.intro (Or.inr rfl) (h)))))))))⟩
        · replace h := h.2 c6
          by_cases c7 : x1 = (-11)
          · replace h := h.1 c7
            exact ⟨11, Or.inr (And.intro c1 (Or.inr (And.intro c3 (Or.inl (And.intro c5 (Or.inr (And.intro c6 (Or.inr (And.intro (fun z => z c7) (And.intro (Or.inr rfl) (h)))))))))))⟩
          · replace h := h.2 c7
            exact ⟨10, Or.inr (And.intro c1 (Or.inr (And.intro c3 (Or.inl (And.intro c5 (Or.inr (And.intro c6 (Or.inl (And.intro c7 (And.intro (Or.inl rfl) (h)))))))))))⟩
      · replace h := h.2 c5
        by_cases c8 : x0 = 3
        · replace h := h.1 c8
          by_cases c9 : x1 = (-12)
          · replace h := h.1 c9
            exact ⟨8, Or.inr (And.intro c1 (Or.inr (And.intro c3 (Or.inr (And.intro c5 (Or.inl (And.intro c8 (Or.inl (And.intro c9 (And.intro (Or.inr rfl) (h)))))))))))⟩
          · replace h := h.2 c9
            by_cases c10 : x1 = (-13)
            · replace h := h.1 c10
              exact ⟨11, Or.inr (And.intro c1 (Or.inr (And.intro c3 (Or.inr (And.intro c5 (Or.inl (And.intro c8 (Or.inr (And.intro c9 (Or.inr (And.intro (fun z => z c10) (And.intro (Or.inr rfl) (h)))))))))))))⟩
            · replace h := h.2 c10
              exact ⟨10, Or.inr (And.intro c1 (Or.inr (And.intro c3 (Or.inr (And.intro c5 (Or.inl (And.intro c8 (Or.inr (And.intro c9 (Or.inl (And.intro c10 (And.intro (Or.inl rfl) (h)))))))))))))⟩
        · replace h := h.2 c8
          by_cases c11 : x0 = 4
          · replace h := h.1 c11
            by_cases c12 : x1 = (-14)
            · replace h := h.1 c12
              exact ⟨8, Or.inr (And.intro c1 (Or.inr (And.intro c3 (Or.inr (And.intro c5 (Or.inr (And.intro c8 (Or.inl (And.intro c11 (Or.inr (And.intro (fun z => z c12) (And.intro (Or.inr rfl) (h)))))))))))))⟩
            · replace h := h.2 c12
              exact ⟨7, Or.inr (And.intro c1 (Or.inr (And.intro c3 (Or.inr (And.intro c5 (Or.inr (And.intro c8 (Or.inl (And.intro c11 (Or.inl (And.intro c12 (And.intro (Or.inl rfl) (h)))))))))))))⟩
          · replace h := h.2 c11
            exact ⟨4, Or.inr (And.intro c1 (Or.inr (And.intro c3 (Or.inr (And.intro c5 (Or.inr (And.intro c8 (Or.inr (And.intro c11 (And.intro (Or.inl rfl) (h)))))))))))⟩

set_option maxRecDepth 100000 in
set_option maxHeartbeats 4000000 in
theorem sX1_signOf_0 {E : aR} {A : Nat → Nat → Int32} {R : Nat → Nat → Option Nat} {G : Nat → Nat × Nat} (x0 : Int32)
    (h : ((x0 = 40) → (E (some (.int (-20))) (A, R, G))) ∧ ((¬ (x0 = 40)) → (((x0 = 41) → (E (some (.int (-21))) (A, R, G))) ∧ ((¬ (x0 = 41)) → (((x0 = 42) → (E (some (.int (-14))) (A, R, G))) ∧ ((¬ (x0 = 42)) → (((x0 = 43) → (E (some (.int (-12))) (A, R, G))) ∧ ((¬ (x0 = 43)) → (((x0 = 44) → (E (some (.int (-27))) (A, R, G))) ∧ ((¬ (x0 = 44)) → (((x0 = 45) → (E (some (.int (-13))) (A, R, G))) ∧ ((¬ (x0 = 45)) → (((x0 = 46) → (E (some (.int (-27))) (A, R, G))) ∧ ((¬ (x0 = 46)) → (((x0 = 47) → (E (some (.int (-27))) (A, R, G))) ∧ ((¬ (x0 = 47)) → (((x0 = 48) → (E (some (.int (-27))) (A, R, G))) ∧ ((¬ (x0 = 48)) → (((x0 = 49) → (E (some (.int (-27))) (A, R, G))) ∧ ((¬ (x0 = 49)) → (((x0 = 50) → (E (some (.int (-27))) (A, R, G))) ∧ ((¬ (x0 = 50)) → (((x0 = 51) → (E (some (.int (-27))) (A, R, G))) ∧ ((¬ (x0 = 51)) → (((x0 = 52) → (E (some (.int (-27))) (A, R, G))) ∧ ((¬ (x0 = 52)) → (((x0 = 53) → (E (some (.int (-27))) (A, R, G))) ∧ ((¬ (x0 = 53)) → (((x0 = 54) → (E (some (.int (-27))) (A, R, G))) ∧ ((¬ (x0 = 54)) → (((x0 = 55) → (E (some (.int (-27))) (A, R, G))) ∧ ((¬ (x0 = 55)) → (((x0 = 56) → (E (some (.int (-27))) (A, R, G))) ∧ ((¬ (x0 = 56)) → (((x0 = 57) → (E (some (.int (-27))) (A, R, G))) ∧ ((¬ (x0 = 57)) → (((x0 = 58) → (E (some (.int (-27))) (A, R, G))) ∧ ((¬ (x0 = 58)) → (((x0 = 59) → (E (some (.int (-22))) (A, R, G))) ∧ ((¬ (x0 = 59)) → (((x0 = 60) → (E (some (.int (-10))) (A, R, G))) ∧ ((¬ (x0 = 60)) → (((x0 = 61) → (E (some (.int (-11))) (A, R, G))) ∧ ((¬ (x0 = 61)) → (E (some (.int (-27))) (A, R, G)))))))))))))))))))))))))))))))))))))))))))))) :
    aw tX1_signOf E 0 [some (.int x0)] [] (A, R, G) := by
  by_cases c1 : x0 = 40
  · replace h := h.1 c1
    exact ⟨4, Or.inl (And.intro c1 (h))⟩
  · replace h := h.2 c1
    by_cases c2 : x0 = 41
    · replace h := h.1 c2
      exact ⟨4, Or.inr (And.intro c1 (Or.inl (And.intro c2 (h))))⟩
    · replace h := h.2 c2
      by_cases c3 : x0 = 42
      · replace h := h.1 c3
        exact ⟨4, Or.inr (And.intro c1 (Or.inr (And.intro c2 (Or.inl (And.intro c3 (h))))))⟩
      · replace h := h.2 c3
        by_cases c4 : x0 = 43
        · replace h := h.1 c4
          exact ⟨4, Or.inr (And.intro c1 (Or.inr (And.intro c2 (Or.inr (And.intro c3 (Or.inl (And.intro c4 (h))))))))⟩
        · replace h := h.2 c4
          by_cases c5 : x0 = 44
          · replace h := h.1 c5
            exact ⟨4, Or.inr (And.intro c1 (Or.inr (And.intro c2 (Or.inr (And.intro c3 (Or.inr (And.intro c4 (Or.inl (And.intro c5 (h))))))))))⟩
          · replace h := h.2 c5
            by_cases c6 : x0 = 45
            · replace h := h.1 c6
              exact ⟨4, Or.inr (And.intro c1 (Or.inr (And.intro c2 (Or.inr (And.intro c3 (Or.inr (And.intro c4 (Or.inr (And.intro c5 (Or.inl (And.intro c6 (h))))))))))))⟩
            · replace h := h.2 c6
              by_cases c7 : x0 = 46
              · replace h := h.1 c7
                exact ⟨4, Or.inr (And.intro c1 (Or.inr (And.intro c2 (Or.inr (And.intro c3 (Or.inr (And.intro c4 (Or.inr (And.intro c5 (Or.inr (And.intro c6 (Or.inl (And.intro c7 (h))))))))))))))⟩
              · replace h := h.2 c7
                by_cases c8 : x0 = 47
                · replace h := h.1 c8
                  exact ⟨4, Or.inr (And.intro c1 (Or.inr (And.intro c2 (Or.inr (And.intro c3 (Or.inr (And.intro c4 (Or.inr (And.intro c5 (Or.inr (And.intro c6 (Or.inr (And.intro c7 (Or.inl (And.intro c8 (h))))))))))))))))⟩
                · replace h := h.2 c8
                  by_cases c9 : x0 = 48
                  · replace h := h.1 c9
                    exact ⟨4, Or.inr (And.intro c1 (Or.inr (And.intro c2 (Or.inr (And.intro c3 (Or.inr (And.intro c4 (Or.inr (And.intro c5 (Or.inr (And.intro c6 (Or.inr (And.intro c7 (Or.inr (And.intro c8 (Or.inl (And.intro c9 (h))))))))))))))))))⟩
                  · replace h := h.2 c9
                    by_cases c10 : x0 = 49
                    · replace h := h.1 c10
                      exact ⟨4, Or.inr (And.intro c1 (Or.inr (And.intro c2 (Or.inr (And.intro c3 (Or.inr (And.intro c4 (Or.inr (And.intro c5 (Or.inr (And.intro c6 (Or.inr (And.intro c7 (Or.inr (And.intro c8 (Or.inr (And.intro c9 (Or.inl (And.intro c10 (h))))))))))))))))))))⟩
                    · replace h := h.2 c10
                      by_cases c11 : x0 = 50
                      · replace h := h.1 c11
                        exact ⟨4, Or.inr (And.intro c1 (Or.inr (And.intro c2 (Or.inr (And.intro c3 (Or.inr (And.intro c4 (Or.inr (And.intro c5 (Or.inr (And.intro c6 (Or.inr (And.intro c7 (Or.inr (And.intro c8 (Or.inr (And.intro c9 (Or.inr (And.intro c10 (Or.inl (And.intro c11 (h))))))))))))))))))))))⟩
                      · replace h := h.2 c11
                        by_cases c12 : x0 = 51
                        · replace h := h.1 c12
                          exact ⟨4, Or.inr (And.intro c1 (Or.inr (And.intro c2 (Or.inr (And.intro c3 (Or.inr (And.intro c4 (Or.inr (And.intro c5 (Or.inr (And.intro c6 (Or.inr (And.intro c7 (Or.inr (And.intro c8 (Or.inr (And.intro c9 (Or.inr (And.intro c10 (Or.inr (And.intro c11 (Or.inl (And.intro c12 (h))))))))))))))))))))))))⟩
                        · replace h := h.2 c12
                          by_cases c13 : x0 = 52
                          · replace h := h.1 c13
                            exact ⟨4, Or.inr (And.intro c1 (Or.inr (And.intro c2 (Or.inr (And.intro c3 (Or.inr (And.intro c4 (Or.inr (And.intro c5 (Or.inr (And.intro c6 (Or.inr (And.intro c7 (Or.inr (And.intro c8 (Or.inr (And.intro c9 (Or.inr (And.intro c10 (Or.inr (And.intro c11 (Or.inr (And.intro c12 (Or.inl (And.intro c13 (h))))))))))))))))))))))))))⟩
                          · replace h := h.2 c13
                            by_cases c14 : x0 = 53
                            · replace h := h.1 c14
                              exact ⟨4, Or.inr (And.intro c1 (Or.inr (And.intro c2 (Or.inr (And.intro c3 (Or.inr (And.intro c4 (Or.inr (And.intro c5 (Or.inr (And.intro c6 (Or.inr (And.intro c7 (Or.inr (And.intro c8 (Or.inr (And.intro c9 (Or.inr (And.intro c10 (Or.inr (And.intro c11 (Or.inr (And.intro c12 (Or.inr (And.intro c13 (Or.inl (And.intro c14 (h))))))))))))))))))))))))))))⟩
                            · replace h := h.2 c14
                              by_cases c15 : x0 = 54
                              · replace h := h.1 c15
                                exact ⟨4, Or.inr (And.intro c1 (Or.inr (And.intro c2 (Or.inr (And.intro c3 (Or.inr (And.intro c4 (Or.inr (And.intro c5 (Or.inr (And.intro c6 (Or.inr (And.intro c7 (Or.inr (And.intro c8 (Or.inr (And.intro c9 (Or.inr (And.intro c10 (Or.inr (And.intro c11 (Or.inr (And.intro c12 (Or.inr (And.intro c13 (Or.inr (And.intro c14 (Or.inl (And.intro c15 (h))))))))))))))))))))))))))))))⟩
                              · replace h := h.2 c15
                                by_cases c16 : x0 = 55
                                · replace h := h.1 c16
                                  exact ⟨4, Or.inr (And.intro c1 (Or.inr (And.intro c2 (Or.inr (And.intro c3 (Or.inr (And.intro c4 (Or.inr (And.intro c5 (Or.inr (And.intro c6 (Or.inr (And.intro c7 (Or.inr (And.intro c8 (Or.inr (And.intro c9 (Or.inr (And.intro c10 (Or.inr (And.intro c11 (Or.inr (And.intro c12 (Or.inr (And.intro c13 (Or.inr (And.intro c14 (Or.inr (And.intro c15 (Or.inl (And.intro c16 (h))))))))))))))))))))))))))))))))⟩
                                · replace h := h.2 c16
                                  by_cases c17 : x0 = 56
                                  · replace h := h.1 c17
                                    exact ⟨4, Or.inr (And.intro c1 (Or.inr (And.intro c2 (Or.inr (And.intro c3 (Or.inr (And.intro c4 (Or.inr (And.intro c5 (Or.inr (And.intro c6 (Or.inr (And.intro c7 (Or.inr (And.intro c8 (Or.inr (And.intro c9 (Or.inr (And.intro c10 (Or.inr (And.intro c11 (Or.inr (And.intro c12 (Or.inr (And.intro c13 (Or.inr (And.intro c14 (Or.inr (And.intro c15 (Or.inr (And.intro c16 (Or.inl (And.intro c17 (h))))))))))))))))))))))))))))))))))⟩
                                  · replace h := h.2 c17
                                    by_cases c18 : x0 = 57
                                    · replace h := h.1 c18
                                      exact ⟨4, Or.inr (And.intro c1 (Or.inr (And.intro c2 (Or.inr (And.intro c3 (Or.inr (And.intro c4 (Or.inr (And.intro c5 (Or.inr (And.intro c6 (Or.inr (And.intro c7 (Or.inr (And.intro c8 (Or.inr (And.intro c9 (Or.inr (And.intro c10 (Or.inr (And.intro c11 (Or.inr (And.intro c12 (Or.inr (And.intro c13 (Or.inr (And.intro c14 (Or.inr (And.intro c15 (Or.inr (And.intro c16 (Or.inr (And.intro c17 (Or.inl (And.intro c18 (h))))))))))))))))))))))))))))))))))))⟩
                                    · replace h := h.2 c18
                                      by_cases c19 : x0 = 58
                                      · replace h := h.1 c19
                                        exact ⟨4, Or.inr (And.intro c1 (Or.inr (And.intro c2 (Or.inr (And.intro c3 (Or.inr (And.intro c4 (Or.inr (And.intro c5 (Or.inr (And.intro c6 (Or.inr (And.intro c7 (Or.inr (And.intro c8 (Or.inr (And.intro c9 (Or.inr (And.intro c10 (Or.inr (And.intro c11 (Or.inr (And.intro c12 (Or.inr (And.intro c13 (Or.inr (And.intro c14 (Or.inr (And.intro c15 (Or.inr (And.intro c16 (Or.inr (And.intro c17 (Or.inr (And.intro c18 (Or.inl (And.intro c19 (h))))))))))))))))))))))))))))))))))))))⟩
                                      · replace h := h.2 c19
                                        by_cases c20 : x0 = 59
                                        · replace h := h.1 c20
                                          exact ⟨4, Or.inr (And.intro c1 (Or.inr (And.intro c2 (Or.inr (And.intro c3 (Or.inr (And.intro c4 (Or.inr (And.intro c5 (Or.inr (And.intro c6 (Or.inr (And.intro c7 (Or.inr (And.intro c8 (Or.inr (And.intro c9 (Or.inr (And.intro c10 (Or.inr (And.intro c11 (Or.inr (And.intro c12 (Or.inr (And.intro c13 (Or.inr (And.intro c14 (Or.inr (And.intro c15 (Or.inr (And.intro c16 (Or.inr (And.intro c17 (Or.inr (And.intro c18 (Or.inr (And.intro c19 (Or.inl (And.intro c20 (h))))))))))))))))))))))))))))))))))))))))⟩
                                        · replace h := h.2 c20
                                          by_cases c21 : x0 = 60
                                          · replace h := h.1 c21
                                            exact ⟨4, Or.inr (And.intro c1 (Or.inr (And.intro c2 (Or.inr (And.intro c3 (Or.inr (And.intro c4 (Or.inr (And.intro c5 (Or.inr (And.intro c6 (Or.inr (And.intro c7 (Or.inr (And.intro c8 (Or.inr (And.intro c9 (Or.inr (And.intro c10 (Or.inr (And.intro c11 (Or.inr (And.intro c12 (Or.inr (And.intro c13 (Or.inr (And.intro c14 (Or.inr (And.intro c15 (Or.inr (And.intro c16 (Or.inr (And.intro c17 (Or.inr (And.intro c18 (Or.inr (And.intro c19 (Or.inr (And.intro c20 (Or.inl (And.intro c21 (h))))))))))))))))))))))))))))))))))))))))))⟩
                                          · replace h := h.2 c21
                                            by_cases c22 : x0 = 61
                                            · replace h := h.1 c22
                                              exact ⟨4, Or.inr (And.intro c1 (Or.inr (And.intro c2 (Or.inr (And.intro c3 (Or.inr (And.intro c4 (Or.inr (And.intro c5 (Or.inr (And.intro c6 (Or.inr (And.intro c7 (Or.inr (And.intro c8 (Or.inr (And.intro c9 (Or.inr (And.intro c10 (Or.inr (And.intro c11 (Or.inr (And.intro c12 (Or.inr (And.intro c13 (Or.inr (And.intro c14 (Or.inr (And.intro c15 (Or.inr (And.intro c16 (Or.inr (And.intro c17 (Or.inr (And.intro c18 (Or.inr (And.intro c19 (Or.inr (And.intro c20 (Or.inr (And.intro c21 (Or.inl (And.intro c22 (h))))))))))))))))))))))))))))))))))))))))))))⟩
                                            · replace h := h.2 c22
                                              exact ⟨4, Or.inr (And.intro c1 (Or.inr (And.intro c2 (Or.inr (And.intro c3 (Or.inr (And.intro c4 (Or.inr (And.intro c5 (Or.inr (And.intro c6 (Or.inr (And.intro c7 (Or.inr (And.intro c8 (Or.inr (And.intro c9 (Or.inr (And.intro c10 (Or.inr (And.intro c11 (Or.inr (And.intro c12 (Or.inr (And.intro c13 (Or.inr (And.intro c14 (Or.inr (And.intro c15 (Or.inr (And.intro c16 (Or.inr (And.intro c17 (Or.inr (And.intro c18 (Or.inr (And.intro c19 (Or.inr (And.intro c20 (Or.inr (And.intro c21 (Or.inr (And.intro c22 (h))))))))))))))))))))))))))))))))))))))))))))⟩

set_option maxRecDepth 100000 in
set_option maxHeartbeats 4000000 in
theorem sX4_nextLot_0 {E : aR} {A : Nat → Nat → Int32} {R : Nat → Nat → Option Nat} {G : Nat → Nat × Nat} (x0 : Int64)
    (h : E (some (.long ((x0 * 48271) - (x0 * 48271) / 2147483647 * 2147483647))) (A, R, G)) :
    aw tX4_nextLot E 0 [some (.long x0), none] [] (A, R, G) := by
  exact ⟨6, And.intro (by decide) (h)⟩

set_option maxRecDepth 100000 in
set_option maxHeartbeats 4000000 in
theorem sX5_signOf_0 {E : aR} {A : Nat → Nat → Int32} {R : Nat → Nat → Option Nat} {G : Nat → Nat × Nat} (hG : aGS G)
    (h : (((A 48 22) = 4) → (E (some (.int 11)) (A, R, G))) ∧ ((¬ ((A 48 22) = 4)) → ((((A 48 22) = 5) → (E (some (.int 12)) (A, R, G))) ∧ ((¬ ((A 48 22) = 5)) → ((((A 48 22) = 60) → (E (some (.int 14)) (A, R, G))) ∧ ((¬ ((A 48 22) = 60)) → ((((A 48 22) = 61) → (E (some (.int 15)) (A, R, G))) ∧ ((¬ ((A 48 22) = 61)) → ((((A 48 22) = 43) → (E (some (.int 16)) (A, R, G))) ∧ ((¬ ((A 48 22) = 43)) → ((((A 48 22) = 45) → (E (some (.int 17)) (A, R, G))) ∧ ((¬ ((A 48 22) = 45)) → ((((A 48 22) = 42) → (E (some (.int 18)) (A, R, G))) ∧ ((¬ ((A 48 22) = 42)) → (E (some (.int (-1))) (A, R, G)))))))))))))))) :
    aw tX5_signOf E 0 [some (.ref 48)] [] (A, R, G) := by
  by_cases c1 : (A 48 22) = 4
  · replace h := h.1 c1
    exact ⟨7, And.intro (gt48 hG) (Or.inr (And.intro (fun z => z c1) (h)))⟩
  · replace h := h.2 c1
    by_cases c2 : (A 48 22) = 5
    · replace h := h.1 c2
      exact ⟨11, And.intro (gt48 hG) (Or.inl (And.intro c1 (And.intro (gt48 hG) (Or.inr (And.intro (fun z => z c2) (h))))))⟩
    · replace h := h.2 c2
      by_cases c3 : (A 48 22) = 60
      · replace h := h.1 c3
        exact ⟨15, And.intro (gt48 hG) (Or.inl (And.intro c1 (And.intro (gt48 hG) (Or.inl (And.intro c2 (And.intro (gt48 hG) (Or.inr (And.intro (fun z => z c3) (h)))))))))⟩
      · replace h := h.2 c3
        by_cases c4 : (A 48 22) = 61
        · replace h := h.1 c4
          exact ⟨19, And.intro (gt48 hG) (Or.inl (And.intro c1 (And.intro (gt48 hG) (Or.inl (And.intro c2 (And.intro (gt48 hG) (Or.inl (And.intro c3 (And.intro (gt48 hG) (Or.inr (And.intro (fun z => z c4) (h))))))))))))⟩
        · replace h := h.2 c4
          by_cases c5 : (A 48 22) = 43
          · replace h := h.1 c5
            exact ⟨23, And.intro (gt48 hG) (Or.inl (And.intro c1 (And.intro (gt48 hG) (Or.inl (And.intro c2 (And.intro (gt48 hG) (Or.inl (And.intro c3 (And.intro (gt48 hG) (Or.inl (And.intro c4 (And.intro (gt48 hG) (Or.inr (And.intro (fun z => z c5) (h)))))))))))))))⟩
          · replace h := h.2 c5
            by_cases c6 : (A 48 22) = 45
            · replace h := h.1 c6
              exact ⟨27, And.intro (gt48 hG) (Or.inl (And.intro c1 (And.intro (gt48 hG) (Or.inl (And.intro c2 (And.intro (gt48 hG) (Or.inl (And.intro c3 (And.intro (gt48 hG) (Or.inl (And.intro c4 (And.intro (gt48 hG) (Or.inl (And.intro c5 (And.intro (gt48 hG) (Or.inr (And.intro (fun z => z c6) (h))))))))))))))))))⟩
            · replace h := h.2 c6
              by_cases c7 : (A 48 22) = 42
              · replace h := h.1 c7
                exact ⟨31, And.intro (gt48 hG) (Or.inl (And.intro c1 (And.intro (gt48 hG) (Or.inl (And.intro c2 (And.intro (gt48 hG) (Or.inl (And.intro c3 (And.intro (gt48 hG) (Or.inl (And.intro c4 (And.intro (gt48 hG) (Or.inl (And.intro c5 (And.intro (gt48 hG) (Or.inl (And.intro c6 (And.intro (gt48 hG) (Or.inr (And.intro (fun z => z c7) (h)))))))))))))))))))))⟩
              · replace h := h.2 c7
                exact ⟨30, And.intro (gt48 hG) (Or.inl (And.intro c1 (And.intro (gt48 hG) (Or.inl (And.intro c2 (And.intro (gt48 hG) (Or.inl (And.intro c3 (And.intro (gt48 hG) (Or.inl (And.intro c4 (And.intro (gt48 hG) (Or.inl (And.intro c5 (And.intro (gt48 hG) (Or.inl (And.intro c6 (And.intro (gt48 hG) (Or.inl (And.intro c7 (h)))))))))))))))))))))⟩

set_option maxRecDepth 100000 in
set_option maxHeartbeats 4000000 in
theorem sX0_hasJudge_0 {E : aR} {A : Nat → Nat → Int32} {R : Nat → Nat → Option Nat} {G : Nat → Nat × Nat} {b : Nat} (hb : aGb G b) (x1 : Int32)
    (h : ((x1 < 0) → (E (some (.int 0)) (A, R, G))) ∧ ((¬ (x1 < 0)) → ((((A b 9) ≤ x1) → (E (some (.int 0)) (A, R, G))) ∧ ((¬ ((A b 9) ≤ x1)) → (E (some (.int 1)) (A, R, G)))))) :
    aw tX0_hasJudge E 0 [some (.ref b), some (.int x1)] [] (A, R, G) := by
  by_cases c1 : x1 < 0
  · replace h := h.1 c1
    exact ⟨4, Or.inl (And.intro c1 (And.intro (Or.inl rfl) (h)))⟩
  · replace h := h.2 c1
    by_cases c2 : (A b 9) ≤ x1
    · replace h := h.1 c2
      exact ⟨8, Or.inr (And.intro c1 (And.intro (gb0 hb) (Or.inl (And.intro c2 (And.intro (Or.inl rfl) (h))))))⟩
    · replace h := h.2 c2
      exact ⟨9, Or.inr (And.intro c1 (And.intro (gb0 hb) (Or.inr (And.intro c2 (And.intro (Or.inr rfl) (h))))))⟩

set_option maxRecDepth 100000 in
set_option maxHeartbeats 4000000 in
theorem sX0_hasCase_0 {E : aR} {A : Nat → Nat → Int32} {R : Nat → Nat → Option Nat} {G : Nat → Nat × Nat} {b : Nat} (hb : aGb G b) (x1 : Int32)
    (h : ((x1 < 0) → (E (some (.int 0)) (A, R, G))) ∧ ((¬ (x1 < 0)) → (((8 ≤ x1) → (E (some (.int 0)) (A, R, G))) ∧ ((¬ (8 ≤ x1)) → ((((((A b 10) >>> (x1 &&& 31)) &&& 1) = 1) → (E (some (.int 1)) (A, R, G))) ∧ ((¬ ((((A b 10) >>> (x1 &&& 31)) &&& 1) = 1)) → (E (some (.int 0)) (A, R, G)))))))) :
    aw tX0_hasCase E 0 [some (.ref b), some (.int x1)] [] (A, R, G) := by
  by_cases c1 : x1 < 0
  · replace h := h.1 c1
    exact ⟨4, Or.inl (And.intro c1 (And.intro (Or.inl rfl) (h)))⟩
  · replace h := h.2 c1
    by_cases c2 : 8 ≤ x1
    · replace h := h.1 c2
      exact ⟨7, Or.inr (And.intro c1 (Or.inl (And.intro c2 (And.intro (Or.inl rfl) (h)))))⟩
    · replace h := h.2 c2
      by_cases c3 : (((A b 10) >>> (x1 &&& 31)) &&& 1) = 1
      · replace h := h.1 c3
        exact ⟨16, Or.inr (And.intro c1 (Or.inr (And.intro c2 (And.intro (gb0 hb) (Or.inr (And.intro (fun z => z c3) (And.intro (Or.inr rfl) (h))))))))⟩
      · replace h := h.2 c3
        exact ⟨15, Or.inr (And.intro c1 (Or.inr (And.intro c2 (And.intro (gb0 hb) (Or.inl (And.intro c3 (And.intro (Or.inl rfl) (h))))))))⟩

set_option maxRecDepth 100000 in
set_option maxHeartbeats 4000000 in
theorem sX2_isMissing_0 {E : aR} {A : Nat → Nat → Int32} {R : Nat → Nat → Option Nat} {G : Nat → Nat × Nat} {o : Nat} (ho : aGs G o)
    (h : (((A o 1) = (-1)) → (E (some (.int 1)) (A, R, G))) ∧ ((¬ ((A o 1) = (-1))) → (E (some (.int 0)) (A, R, G)))) :
    aw tX2_isMissing E 0 [some (.ref o)] [] (A, R, G) := by
  by_cases c1 : (A o 1) = (-1)
  · replace h := h.1 c1
    exact ⟨7, And.intro (gs0 ho) (Or.inr (And.intro (fun z => z c1) (And.intro (Or.inr rfl) (h))))⟩
  · replace h := h.2 c1
    exact ⟨6, And.intro (gs0 ho) (Or.inl (And.intro c1 (And.intro (Or.inl rfl) (h))))⟩

set_option maxRecDepth 100000 in
set_option maxHeartbeats 4000000 in
theorem sX2_holds_0 {E : aR} {A : Nat → Nat → Int32} {R : Nat → Nat → Option Nat} {G : Nat → Nat × Nat} {o : Nat} (ho : aGs G o) (x1 : Int32) (x2 : Int32)
    (h : ((x1 < 0) → (E (some (.int 0)) (A, R, G))) ∧ ((¬ (x1 < 0)) → (((x2 < 0) → (E (some (.int 0)) (A, R, G))) ∧ ((¬ (x2 < 0)) → ((((A o 2) < x2) → (E (some (.int 0)) (A, R, G))) ∧ ((¬ ((A o 2) < x2)) → (((((A o 2) - x2) < x1) → (E (some (.int 0)) (A, R, G))) ∧ ((¬ (((A o 2) - x2) < x1)) → (E (some (.int 1)) (A, R, G)))))))))) :
    aw tX2_holds E 0 [some (.ref o), some (.int x1), some (.int x2)] [] (A, R, G) := by
  by_cases c1 : x1 < 0
  · replace h := h.1 c1
    exact ⟨4, Or.inl (And.intro c1 (And.intro (Or.inl rfl) (h)))⟩
  · replace h := h.2 c1
    by_cases c2 : x2 < 0
    · replace h := h.1 c2
      exact ⟨6, Or.inr (And.intro c1 (Or.inl (And.intro c2 (And.intro (Or.inl rfl) (h)))))⟩
    · replace h := h.2 c2
      by_cases c3 : (A o 2) < x2
      · replace h := h.1 c3
        exact ⟨10, Or.inr (And.intro c1 (Or.inr (And.intro c2 (And.intro (gs0 ho) (Or.inl (And.intro c3 (And.intro (Or.inl rfl) (h))))))))⟩
      · replace h := h.2 c3
        by_cases c4 : ((A o 2) - x2) < x1
        · replace h := h.1 c4
          exact ⟨16, Or.inr (And.intro c1 (Or.inr (And.intro c2 (And.intro (gs0 ho) (Or.inr (And.intro c3 (And.intro (gs0 ho) (Or.inl (And.intro c4 (And.intro (Or.inl rfl) (h)))))))))))⟩
        · replace h := h.2 c4
          exact ⟨17, Or.inr (And.intro c1 (Or.inr (And.intro c2 (And.intro (gs0 ho) (Or.inr (And.intro c3 (And.intro (gs0 ho) (Or.inr (And.intro c4 (And.intro (Or.inr rfl) (h)))))))))))⟩

set_option maxRecDepth 100000 in
set_option maxHeartbeats 4000000 in
theorem sX2_cut_0 {E : aR} {A : Nat → Nat → Int32} {R : Nat → Nat → Option Nat} {G : Nat → Nat × Nat} {o : Nat} (ho : aGs G o) (x1 : Int32)
    (h : (((A o 1) = 0) → (E (some (.int x1.toInt8.toInt32)) (A, R, G))) ∧ ((¬ ((A o 1) = 0)) → ((((A o 1) = 1) → (E (some (.int x1.toInt16.toInt32)) (A, R, G))) ∧ ((¬ ((A o 1) = 1)) → (E (some (.int x1)) (A, R, G)))))) :
    aw tX2_cut E 0 [some (.ref o), some (.int x1)] [] (A, R, G) := by
  by_cases c1 : (A o 1) = 0
  · replace h := h.1 c1
    exact ⟨7, And.intro (gs0 ho) (Or.inr (And.intro (fun z => z c1) (h)))⟩
  · replace h := h.2 c1
    by_cases c2 : (A o 1) = 1
    · replace h := h.1 c2
      exact ⟨11, And.intro (gs0 ho) (Or.inl (And.intro c1 (And.intro (gs0 ho) (Or.inr (And.intro (fun z => z c2) (h))))))⟩
    · replace h := h.2 c2
      exact ⟨9, And.intro (gs0 ho) (Or.inl (And.intro c1 (And.intro (gs0 ho) (Or.inl (And.intro c2 (h))))))⟩

set_option maxRecDepth 100000 in
set_option maxHeartbeats 4000000 in
theorem sX1_isLetter_0 {E : aR} {A : Nat → Nat → Int32} {R : Nat → Nat → Option Nat} {G : Nat → Nat × Nat} (hG : aGS G) (x1 : Int32)
    (h : (((A 31 5) ≤ x1) → (E (some (.int 0)) (A, R, G))) ∧ ((¬ ((A 31 5) ≤ x1)) → ((vp_in x1 160) ∧ ((((A 32 x1.toNatClampNeg) < 97) → (E (some (.int 0)) (A, R, G))) ∧ ((¬ ((A 32 x1.toNatClampNeg) < 97)) → (((122 < (A 32 x1.toNatClampNeg)) → (E (some (.int 0)) (A, R, G))) ∧ ((¬ (122 < (A 32 x1.toNatClampNeg))) → (E (some (.int 1)) (A, R, G))))))))) :
    aw tX1_isLetter E 0 [some (.ref 31), some (.int x1)] [] (A, R, G) := by
  by_cases c1 : (A 31 5) ≤ x1
  · replace h := h.1 c1
    exact ⟨6, And.intro (gt31 hG) (Or.inl (And.intro c1 (And.intro (Or.inl rfl) (h))))⟩
  · replace h := h.2 c1
    obtain ⟨q2, h⟩ := h
    by_cases c3 : (A 32 x1.toNatClampNeg) < 97
    · replace h := h.1 c3
      exact ⟨12, And.intro (gt31 hG) (Or.inr (And.intro c1 (And.intro (gt31 hG) (And.intro (gt32 hG) (And.intro (vin_len (gl32 hG) q2) (Or.inl (And.intro c3 (And.intro (Or.inl rfl) (h)))))))))⟩
    · replace h := h.2 c3
      by_cases c4 : 122 < (A 32 x1.toNatClampNeg)
      · replace h := h.1 c4
        exact ⟨18, And.intro (gt31 hG) (Or.inr (And.intro c1 (And.intro (gt31 hG) (And.intro (gt32 hG) (And.intro (vin_len (gl32 hG) q2) (Or.inr (And.intro c3 (And.intro (gt31 hG) (And.intro (gt32 hG) (And.intro (vin_len (gl32 hG) q2) (Or.inl (And.intro c4 (And.intro (Or.inl rfl) (h))))))))))))))⟩
      · replace h := h.2 c4
        exact ⟨19, And.intro (gt31 hG) (Or.inr (And.intro c1 (And.intro (gt31 hG) (And.intro (gt32 hG) (And.intro (vin_len (gl32 hG) q2) (Or.inr (And.intro c3 (And.intro (gt31 hG) (And.intro (gt32 hG) (And.intro (vin_len (gl32 hG) q2) (Or.inr (And.intro c4 (And.intro (Or.inr rfl) (h))))))))))))))⟩

set_option maxRecDepth 100000 in
set_option maxHeartbeats 4000000 in
theorem sX1_isDigit_0 {E : aR} {A : Nat → Nat → Int32} {R : Nat → Nat → Option Nat} {G : Nat → Nat × Nat} (hG : aGS G) (x1 : Int32)
    (h : (((A 31 5) ≤ x1) → (E (some (.int 0)) (A, R, G))) ∧ ((¬ ((A 31 5) ≤ x1)) → ((vp_in x1 160) ∧ ((((A 32 x1.toNatClampNeg) < 48) → (E (some (.int 0)) (A, R, G))) ∧ ((¬ ((A 32 x1.toNatClampNeg) < 48)) → (((57 < (A 32 x1.toNatClampNeg)) → (E (some (.int 0)) (A, R, G))) ∧ ((¬ (57 < (A 32 x1.toNatClampNeg))) → (E (some (.int 1)) (A, R, G))))))))) :
    aw tX1_isDigit E 0 [some (.ref 31), some (.int x1)] [] (A, R, G) := by
  by_cases c1 : (A 31 5) ≤ x1
  · replace h := h.1 c1
    exact ⟨6, And.intro (gt31 hG) (Or.inl (And.intro c1 (And.intro (Or.inl rfl) (h))))⟩
  · replace h := h.2 c1
    obtain ⟨q2, h⟩ := h
    by_cases c3 : (A 32 x1.toNatClampNeg) < 48
    · replace h := h.1 c3
      exact ⟨12, And.intro (gt31 hG) (Or.inr (And.intro c1 (And.intro (gt31 hG) (And.intro (gt32 hG) (And.intro (vin_len (gl32 hG) q2) (Or.inl (And.intro c3 (And.intro (Or.inl rfl) (h)))))))))⟩
    · replace h := h.2 c3
      by_cases c4 : 57 < (A 32 x1.toNatClampNeg)
      · replace h := h.1 c4
        exact ⟨18, And.intro (gt31 hG) (Or.inr (And.intro c1 (And.intro (gt31 hG) (And.intro (gt32 hG) (And.intro (vin_len (gl32 hG) q2) (Or.inr (And.intro c3 (And.intro (gt31 hG) (And.intro (gt32 hG) (And.intro (vin_len (gl32 hG) q2) (Or.inl (And.intro c4 (And.intro (Or.inl rfl) (h))))))))))))))⟩
      · replace h := h.2 c4
        exact ⟨19, And.intro (gt31 hG) (Or.inr (And.intro c1 (And.intro (gt31 hG) (And.intro (gt32 hG) (And.intro (vin_len (gl32 hG) q2) (Or.inr (And.intro c3 (And.intro (gt31 hG) (And.intro (gt32 hG) (And.intro (vin_len (gl32 hG) q2) (Or.inr (And.intro c4 (And.intro (Or.inr rfl) (h))))))))))))))⟩

set_option maxRecDepth 100000 in
set_option maxHeartbeats 4000000 in
theorem sX1_token_0 {E : aR} {A : Nat → Nat → Int32} {R : Nat → Nat → Option Nat} {G : Nat → Nat × Nat} (hG : aGS G)
    (h : ((160 < (A 31 6)) → (E (some (.int (-26))) (A, R, G))) ∧ ((¬ (160 < (A 31 6))) → ((vp_in (A 31 6) 161) ∧ (E (some (.int (A 33 (A 31 6).toNatClampNeg))) (A, R, G))))) :
    aw tX1_token E 0 [some (.ref 31)] [] (A, R, G) := by
  by_cases c1 : 160 < (A 31 6)
  · replace h := h.1 c1
    exact ⟨6, And.intro (gt31 hG) (Or.inl (And.intro c1 (h)))⟩
  · replace h := h.2 c1
    obtain ⟨q2, h⟩ := h
    exact ⟨11, And.intro (gt31 hG) (Or.inr (And.intro c1 (And.intro (gt31 hG) (And.intro (gt31 hG) (And.intro (gt33 hG) (And.intro (vin_len (gl33 hG) q2) (h)))))))⟩

set_option maxRecDepth 100000 in
set_option maxHeartbeats 4000000 in
theorem sX1_place_0 {E : aR} {A : Nat → Nat → Int32} {R : Nat → Nat → Option Nat} {G : Nat → Nat × Nat} (hG : aGS G)
    (h : ((160 < (A 31 6)) → (E (some (.int (A 31 5))) (A, R, G))) ∧ ((¬ (160 < (A 31 6))) → ((vp_in (A 31 6) 161) ∧ (E (some (.int (A 34 (A 31 6).toNatClampNeg))) (A, R, G))))) :
    aw tX1_place E 0 [some (.ref 31)] [] (A, R, G) := by
  by_cases c1 : 160 < (A 31 6)
  · replace h := h.1 c1
    exact ⟨7, And.intro (gt31 hG) (Or.inl (And.intro c1 (And.intro (gt31 hG) (h))))⟩
  · replace h := h.2 c1
    obtain ⟨q2, h⟩ := h
    exact ⟨11, And.intro (gt31 hG) (Or.inr (And.intro c1 (And.intro (gt31 hG) (And.intro (gt31 hG) (And.intro (gt34 hG) (And.intro (vin_len (gl34 hG) q2) (h)))))))⟩

set_option maxRecDepth 100000 in
set_option maxHeartbeats 4000000 in
theorem sX4_mostBehind_0 {E : aR} {A : Nat → Nat → Int32} {R : Nat → Nat → Option Nat} {G : Nat → Nat × Nat} (hG : aGS G) (x1 : Int32) (x2 : Int32)
    (h : (vp_in (((x1 + 1) <<< (6 &&& 31)) + x2) 576) ∧ (E (some (.int (A 39 (((x1 + 1) <<< (6 &&& 31)) + x2).toNatClampNeg))) (A, R, G))) :
    aw tX4_mostBehind E 0 [some (.ref 0), some (.int x1), some (.int x2)] [] (A, R, G) := by
  obtain ⟨q1, h⟩ := h
  exact ⟨11, And.intro (gt0 hG) (And.intro (gt39 hG) (And.intro (vin_len (gl39 hG) q1) (h)))⟩
