
set_option maxRecDepth 100000 in
set_option maxHeartbeats 4000000 in
theorem sX5_says_0 {E : aR} {A : Nat → Nat → Int32} {R : Nat → Nat → Option Nat} {G : Nat → Nat × Nat} (hG : aGS G) (x1 : Int32)
    (h : (vp_in ((4 * (A 48 12)) + x1) 24) ∧ (aw tX5_says E 16 [some (.ref 48), some (.int x1), some (.int 0), some (.int (A 55 ((4 * (A 48 12)) + x1).toNatClampNeg)), none] [] (A, R, G))) :
    aw tX5_says E 0 [some (.ref 48), some (.int x1), none, none, none] [] (A, R, G) := by
  obtain ⟨q1, h⟩ := h
  obtain ⟨n, h⟩ := h
  exact ⟨n + 12, And.intro (gt48 hG) (And.intro (gt48 hG) (And.intro (gt55 hG) (And.intro (vin_len (gl55 hG) q1) (h))))⟩

set_option maxRecDepth 100000 in
set_option maxHeartbeats 4000000 in
theorem sX5_says_16 {E : aR} {A : Nat → Nat → Int32} {R : Nat → Nat → Option Nat} {G : Nat → Nat × Nat} (hG : aGS G) (x1 : Int32) (x2 : Int32) (x3 : Int32) (d4 : Option Value)
    (h : (vp_in (((4 * (A 48 12)) + x1) + 1) 24) ∧ ((((A 55 (((4 * (A 48 12)) + x1) + 1).toNatClampNeg) ≤ x3) → (E (some (.int (A 64 0))) (A, R, G))) ∧ ((¬ ((A 55 (((4 * (A 48 12)) + x1) + 1).toNatClampNeg) ≤ x3)) → ((vp_in ((200 * (A 48 12)) + x3) 1200) ∧ (((100000 ≤ (A 54 ((200 * (A 48 12)) + x3).toNatClampNeg)) → (((11 ≤ (A 54 ((200 * (A 48 12)) + x3).toNatClampNeg)) → ((vp_in x2 200) ∧ (aw tX5_says E 16 [some (.ref 48), some (.int x1), some (.int (x2 + 1)), some (.int (x3 + 1)), some (.int (A 54 ((200 * (A 48 12)) + x3).toNatClampNeg))] [] ((au A 64 x2.toNatClampNeg ((A 54 ((200 * (A 48 12)) + x3).toNatClampNeg) - 100000)), R, G)))) ∧ ((¬ (11 ≤ (A 54 ((200 * (A 48 12)) + x3).toNatClampNeg))) → ((vp_in (A 54 ((200 * (A 48 12)) + x3).toNatClampNeg) 6) ∧ ((vp_in x2 200) ∧ (aw tX5_says E 16 [some (.ref 48), some (.int x1), some (.int (x2 + 1)), some (.int (x3 + 1)), some (.int (A 54 ((200 * (A 48 12)) + x3).toNatClampNeg))] [] ((au A 64 x2.toNatClampNeg (A 65 (A 54 ((200 * (A 48 12)) + x3).toNatClampNeg).toNatClampNeg)), R, G))))))) ∧ ((¬ (100000 ≤ (A 54 ((200 * (A 48 12)) + x3).toNatClampNeg))) → (((11 ≤ (A 54 ((200 * (A 48 12)) + x3).toNatClampNeg)) → ((((A 54 ((200 * (A 48 12)) + x3).toNatClampNeg) = 13) → ((vp_in (x2 - 1) 200) ∧ ((((A 64 (x2 - 1).toNatClampNeg) = 0) → (aw tX5_says E 16 [some (.ref 48), some (.int x1), some (.int x2), some (.int (x3 + 1)), some (.int (A 54 ((200 * (A 48 12)) + x3).toNatClampNeg))] [] ((au A 64 (x2 - 1).toNatClampNeg 1), R, G))) ∧ ((¬ ((A 64 (x2 - 1).toNatClampNeg) = 0)) → (aw tX5_says E 16 [some (.ref 48), some (.int x1), some (.int x2), some (.int (x3 + 1)), some (.int (A 54 ((200 * (A 48 12)) + x3).toNatClampNeg))] [] ((au A 64 (x2 - 1).toNatClampNeg 0), R, G)))))) ∧ ((¬ ((A 54 ((200 * (A 48 12)) + x3).toNatClampNeg) = 13)) → ((((A 54 ((200 * (A 48 12)) + x3).toNatClampNeg) = 19) → ((vp_in (x2 - 1) 200) ∧ (aw tX5_says E 16 [some (.ref 48), some (.int x1), some (.int x2), some (.int (x3 + 1)), some (.int (A 54 ((200 * (A 48 12)) + x3).toNatClampNeg))] [] ((au A 64 (x2 - 1).toNatClampNeg (-(A 64 (x2 - 1).toNatClampNeg))), R, G)))) ∧ ((¬ ((A 54 ((200 * (A 48 12)) + x3).toNatClampNeg) = 19)) → (aw tX5_says E 161 [some (.ref 48), some (.int x1), some (.int x2), some (.int x3), some (.int (A 54 ((200 * (A 48 12)) + x3).toNatClampNeg))] [] (A, R, G))))))) ∧ ((¬ (11 ≤ (A 54 ((200 * (A 48 12)) + x3).toNatClampNeg))) → ((vp_in (A 54 ((200 * (A 48 12)) + x3).toNatClampNeg) 6) ∧ ((vp_in x2 200) ∧ (aw tX5_says E 16 [some (.ref 48), some (.int x1), some (.int (x2 + 1)), some (.int (x3 + 1)), some (.int (A 54 ((200 * (A 48 12)) + x3).toNatClampNeg))] [] ((au A 64 x2.toNatClampNeg (A 65 (A 54 ((200 * (A 48 12)) + x3).toNatClampNeg).toNatClampNeg)), R, G)))))))))))) :
    aw tX5_says E 16 [some (.ref 48), some (.int x1), some (.int x2), some (.int x3), d4] [] (A, R, G) := by
  obtain ⟨q1, h⟩ := h
  by_cases c2 : (A 55 (((4 * (A 48 12)) + x1) + 1).toNatClampNeg) ≤ x3
  · replace h := h.1 c2
    exact ⟨18, And.intro (gt48 hG) (And.intro (gt48 hG) (And.intro (gt55 hG) (And.intro (vin_len (gl55 hG) q1) (Or.inl (And.intro c2 (And.intro (gt48 hG) (And.intro (gt64 hG) (And.intro (vin_len (gl64 hG) (by unfold vp_in; decide)) (h)))))))))⟩
  · replace h := h.2 c2
    obtain ⟨q3, h⟩ := h
    by_cases c4 : 100000 ≤ (A 54 ((200 * (A 48 12)) + x3).toNatClampNeg)
    · replace h := h.1 c4
      by_cases c5 : 11 ≤ (A 54 ((200 * (A 48 12)) + x3).toNatClampNeg)
      · replace h := h.1 c5
        obtain ⟨q6, h⟩ := h
        obtain ⟨n, h⟩ := h
        exact ⟨n + 40, And.intro (gt48 hG) (And.intro (gt48 hG) (And.intro (gt55 hG) (And.intro (vin_len (gl55 hG) q1) (Or.inr (And.intro c2 (And.intro (gt48 hG) (And.intro (gt48 hG) (And.intro (gt54 hG) (And.intro (vin_len (gl54 hG) q3) (Or.inl (And.intro c4 (And.intro (gt48 hG) (Or.inl (And.intro c5 (And.intro (gt64 hG) (And.intro (vin_len (gl64 hG) q6) (h)))))))))))))))))⟩
      · replace h := h.2 c5
        obtain ⟨q7, h⟩ := h
        obtain ⟨q8, h⟩ := h
        obtain ⟨n, h⟩ := h
        exact ⟨n + 42, And.intro (gt48 hG) (And.intro (gt48 hG) (And.intro (gt55 hG) (And.intro (vin_len (gl55 hG) q1) (Or.inr (And.intro c2 (And.intro (gt48 hG) (And.intro (gt48 hG) (And.intro (gt54 hG) (And.intro (vin_len (gl54 hG) q3) (Or.inl (And.intro c4 (And.intro (gt48 hG) (Or.inr (And.intro c5 (And.intro (gt48 hG) (And.intro (gt65 hG) (And.intro (vin_len (gl65 hG) q7) (And.intro (gt64 hG) (And.intro (vin_len (gl64 hG) q8) (h))))))))))))))))))))⟩
    · replace h := h.2 c4
      by_cases c9 : 11 ≤ (A 54 ((200 * (A 48 12)) + x3).toNatClampNeg)
      · replace h := h.1 c9
        by_cases c10 : (A 54 ((200 * (A 48 12)) + x3).toNatClampNeg) = 13
        · replace h := h.1 c10
          obtain ⟨q11, h⟩ := h
          by_cases c12 : (A 64 (x2 - 1).toNatClampNeg) = 0
          · replace h := h.1 c12
            obtain ⟨n, h⟩ := h
            exact ⟨n + 50, And.intro (gt48 hG) (And.intro (gt48 hG) (And.intro (gt55 hG) (And.intro (vin_len (gl55 hG) q1) (Or.inr (And.intro c2 (And.intro (gt48 hG) (And.intro (gt48 hG) (And.intro (gt54 hG) (And.intro (vin_len (gl54 hG) q3) (Or.inr (And.intro c4 (Or.inl (And.intro c9 (Or.inr (And.intro (fun z => z c10) (And.intro (gt48 hG) (And.intro (gt48 hG) (And.intro (gt64 hG) (And.intro (vin_len (gl64 hG) q11) (Or.inr (And.intro (fun z => z c12) (And.intro (gt64 hG) (And.intro (vin_len (gl64 hG) q11) (h))))))))))))))))))))))))⟩
          · replace h := h.2 c12
            obtain ⟨n, h⟩ := h
            exact ⟨n + 49, And.intro (gt48 hG) (And.intro (gt48 hG) (And.intro (gt55 hG) (And.intro (vin_len (gl55 hG) q1) (Or.inr (And.intro c2 (And.intro (gt48 hG) (And.intro (gt48 hG) (And.intro (gt54 hG) (And.intro (vin_len (gl54 hG) q3) (Or.inr (And.intro c4 (Or.inl (And.intro c9 (Or.inr (And.intro (fun z => z c10) (And.intro (gt48 hG) (And.intro (gt48 hG) (And.intro (gt64 hG) (And.intro (vin_len (gl64 hG) q11) (Or.inl (And.intro c12 (And.intro (gt64 hG) (And.intro (vin_len (gl64 hG) q11) (h))))))))))))))))))))))))⟩
        · replace h := h.2 c10
          by_cases c13 : (A 54 ((200 * (A 48 12)) + x3).toNatClampNeg) = 19
          · replace h := h.1 c13
            obtain ⟨q14, h⟩ := h
            obtain ⟨n, h⟩ := h
            exact ⟨n + 51, And.intro (gt48 hG) (And.intro (gt48 hG) (And.intro (gt55 hG) (And.intro (vin_len (gl55 hG) q1) (Or.inr (And.intro c2 (And.intro (gt48 hG) (And.intro (gt48 hG) (And.intro (gt54 hG) (And.intro (vin_len (gl54 hG) q3) (Or.inr (And.intro c4 (Or.inl (And.intro c9 (Or.inl (And.intro c10 (Or.inr (And.intro (fun z => z c13) (And.intro (gt48 hG) (And.intro (gt48 hG) (And.intro (gt64 hG) (And.intro (vin_len (gl64 hG) q14) (And.intro (gt64 hG) (And.intro (vin_len (gl64 hG) q14) (h))))))))))))))))))))))))⟩
          · replace h := h.2 c13
            obtain ⟨n, h⟩ := h
            exact ⟨n + 35, And.intro (gt48 hG) (And.intro (gt48 hG) (And.intro (gt55 hG) (And.intro (vin_len (gl55 hG) q1) (Or.inr (And.intro c2 (And.intro (gt48 hG) (And.intro (gt48 hG) (And.intro (gt54 hG) (And.intro (vin_len (gl54 hG) q3) (Or.inr (And.intro c4 (Or.inl (And.intro c9 (Or.inl (And.intro c10 (Or.inl (And.intro c13 (h))))))))))))))))))⟩
      · replace h := h.2 c9
        obtain ⟨q15, h⟩ := h
        obtain ⟨q16, h⟩ := h
        obtain ⟨n, h⟩ := h
        exact ⟨n + 45, And.intro (gt48 hG) (And.intro (gt48 hG) (And.intro (gt55 hG) (And.intro (vin_len (gl55 hG) q1) (Or.inr (And.intro c2 (And.intro (gt48 hG) (And.intro (gt48 hG) (And.intro (gt54 hG) (And.intro (vin_len (gl54 hG) q3) (Or.inr (And.intro c4 (Or.inr (And.intro c9 (And.intro (gt48 hG) (Or.inr (And.intro c9 (And.intro (gt48 hG) (And.intro (gt65 hG) (And.intro (vin_len (gl65 hG) q15) (And.intro (gt64 hG) (And.intro (vin_len (gl64 hG) q16) (h))))))))))))))))))))))⟩

set_option maxRecDepth 100000 in
set_option maxHeartbeats 4000000 in
theorem sX5_says_161 {E : aR} {A : Nat → Nat → Int32} {R : Nat → Nat → Option Nat} {G : Nat → Nat × Nat} (x1 : Int32) (x2 : Int32) (x3 : Int32) (x4 : Int32)
    (h : aw tX5_says E 164 [some (.ref 48), some (.int x1), some (.int (x2 + (-1))), some (.int x3), some (.int x4)] [] (A, R, G)) :
    aw tX5_says E 161 [some (.ref 48), some (.int x1), some (.int x2), some (.int x3), some (.int x4)] [] (A, R, G) := by
  exact aw_inc (show alk tX5_says 161 = o_inc 2 (-1) 164 from rfl) rfl h

set_option maxRecDepth 100000 in
set_option maxHeartbeats 4000000 in
theorem sX5_says_164 {E : aR} {A : Nat → Nat → Int32} {R : Nat → Nat → Option Nat} {G : Nat → Nat × Nat} (hG : aGS G) (x1 : Int32) (x2 : Int32) (x3 : Int32) (x4 : Int32)
    (h : (vp_in (x2 - 1) 200) ∧ ((vp_in x2 200) ∧ (aw tX5_says E 16 [some (.ref 48), some (.int x1), some (.int x2), some (.int (x3 + 1)), some (.int x4)] [] ((au A 64 (x2 - 1).toNatClampNeg (twM x4 (A 64 (x2 - 1).toNatClampNeg) (A 64 x2.toNatClampNeg))), R, G)))) :
    aw tX5_says E 164 [some (.ref 48), some (.int x1), some (.int x2), some (.int x3), some (.int x4)] [] (A, R, G) := by
  obtain ⟨q1, h⟩ := h
  obtain ⟨q2, h⟩ := h
  obtain ⟨n, h⟩ := h
  exact ⟨n + 20, And.intro (gt48 hG) (And.intro (gt48 hG) (And.intro (gt64 hG) (And.intro (vin_len (gl64 hG) q1) (And.intro (gt48 hG) (And.intro (gt64 hG) (And.intro (vin_len (gl64 hG) q2) (Exists.intro _ (Exists.intro _ (And.intro (Nat.le_of_ble_eq_true rfl) (And.intro (Nat.le_of_ble_eq_true rfl) (And.intro (pX5_two _ _ _) (And.intro (gt64 hG) (And.intro (vin_len (gl64 hG) q1) (h))))))))))))))⟩

set_option maxRecDepth 100000 in
set_option maxHeartbeats 4000000 in
theorem sX3_valueOf_0 {E : aR} {A : Nat → Nat → Int32} {R : Nat → Nat → Option Nat} {G : Nat → Nat × Nat} {o n1 : Nat} (ho : aGx G o n1) (x1 : Int32) (x2 : Nat)
    (h : (vp_in x1 3) ∧ (((x1 = 0) → (aw tX3_valueOf E 36 [some (.ref o), some (.int x1), some (.ref x2), some (.int (if (Int32.ofNat (G (o + 1)).2) < (A (o + 2) x1.toNatClampNeg) then (Int32.ofNat (G (o + 1)).2) else (A (o + 2) x1.toNatClampNeg))), some (.int (-1)), some (.int 0), none, none, none] [] (A, R, G))) ∧ ((¬ (x1 = 0)) → ((vp_in (x1 - 1) 3) ∧ (aw tX3_valueOf E 36 [some (.ref o), some (.int x1), some (.ref x2), some (.int (if (Int32.ofNat (G (o + 1)).2) < (A (o + 2) x1.toNatClampNeg) then (Int32.ofNat (G (o + 1)).2) else (A (o + 2) x1.toNatClampNeg))), some (.int (-1)), some (.int (A (o + 2) (x1 - 1).toNatClampNeg)), none, none, none] [] (A, R, G)))))) :
    aw tX3_valueOf E 0 [some (.ref o), some (.int x1), some (.ref x2), none, none, none, none, none, none] [] (A, R, G) := by
  obtain ⟨q1, h⟩ := h
  by_cases c2 : x1 = 0
  · replace h := h.1 c2
    obtain ⟨n, h⟩ := h
    exact ⟨n + 16, And.intro (gx0 ho) (And.intro (gx2 ho) (And.intro (vin_len (gxl2 ho) q1) (And.intro (gx0 ho) (And.intro (gx1 ho) (And.intro (Nat.le_of_ble_eq_true rfl) (Or.inr (And.intro (fun z => z c2) (h))))))))⟩
  · replace h := h.2 c2
    obtain ⟨q3, h⟩ := h
    obtain ⟨n, h⟩ := h
    exact ⟨n + 20, And.intro (gx0 ho) (And.intro (gx2 ho) (And.intro (vin_len (gxl2 ho) q1) (And.intro (gx0 ho) (And.intro (gx1 ho) (And.intro (Nat.le_of_ble_eq_true rfl) (Or.inl (And.intro c2 (And.intro (gx0 ho) (And.intro (gx2 ho) (And.intro (vin_len (gxl2 ho) q3) (h)))))))))))⟩

set_option maxRecDepth 100000 in
set_option maxHeartbeats 4000000 in
theorem sX3_valueOf_36 {E : aR} {A : Nat → Nat → Int32} {R : Nat → Nat → Option Nat} {G : Nat → Nat × Nat} {o n1 : Nat} (ho : aGx G o n1) (d1 : Option Value) (x2 : Nat) (x3 : Int32) (x4 : Int32) (x5 : Int32) (d6 : Option Value) (d7 : Option Value) (d8 : Option Value)
    (h : ((x3 ≤ x5) → (((x4 < 0) → (E (some (.int 0)) (A, R, G))) ∧ ((¬ (x4 < 0)) → ((vp_in x4 40) ∧ (E (some (.int (A (o + 3) x4.toNatClampNeg))) (A, R, G)))))) ∧ ((¬ (x3 ≤ x5)) → ((vp_in x5 n1) ∧ ((((A (o + 1) x5.toNatClampNeg) < (-6)) → (((x4 < 0) → (((x4 < 1) → (aw tX3_valueOf E 36 [some (.ref o), none, some (.ref x2), some (.int x3), some (.int x4), some (.int (x5 + 1)), some (.int (A (o + 1) x5.toNatClampNeg)), none, none] [] (A, R, G))) ∧ ((¬ (x4 < 1)) → (aw tX3_valueOf E 162 [some (.ref o), none, some (.ref x2), some (.int x3), some (.int x4), some (.int x5), some (.int (A (o + 1) x5.toNatClampNeg)), none, none] [] (A, R, G))))) ∧ ((¬ (x4 < 0)) → ((((A (o + 1) x5.toNatClampNeg) = (-9)) → ((((A (o + 1) x5.toNatClampNeg) = (-15)) → ((vp_in x4 40) ∧ (aw tX3_valueOf E 36 [some (.ref o), none, some (.ref x2), some (.int x3), some (.int x4), some (.int (x5 + 1)), some (.int (A (o + 1) x5.toNatClampNeg)), none, none] [] ((au A (o + 3) x4.toNatClampNeg (-(A (o + 3) x4.toNatClampNeg))), R, G)))) ∧ ((¬ ((A (o + 1) x5.toNatClampNeg) = (-15))) → ((vp_in x4 40) ∧ ((((A (o + 3) x4.toNatClampNeg) = 0) → (aw tX3_valueOf E 36 [some (.ref o), none, some (.ref x2), some (.int x3), some (.int x4), some (.int (x5 + 1)), some (.int (A (o + 1) x5.toNatClampNeg)), none, none] [] ((au A (o + 3) x4.toNatClampNeg 1), R, G))) ∧ ((¬ ((A (o + 3) x4.toNatClampNeg) = 0)) → (aw tX3_valueOf E 36 [some (.ref o), none, some (.ref x2), some (.int x3), some (.int x4), some (.int (x5 + 1)), some (.int (A (o + 1) x5.toNatClampNeg)), none, none] [] ((au A (o + 3) x4.toNatClampNeg 0), R, G)))))))) ∧ ((¬ ((A (o + 1) x5.toNatClampNeg) = (-9))) → ((((A (o + 1) x5.toNatClampNeg) = (-15)) → ((vp_in x4 40) ∧ (aw tX3_valueOf E 36 [some (.ref o), none, some (.ref x2), some (.int x3), some (.int x4), some (.int (x5 + 1)), some (.int (A (o + 1) x5.toNatClampNeg)), none, none] [] ((au A (o + 3) x4.toNatClampNeg (-(A (o + 3) x4.toNatClampNeg))), R, G)))) ∧ ((¬ ((A (o + 1) x5.toNatClampNeg) = (-15))) → (((x4 < 1) → (aw tX3_valueOf E 36 [some (.ref o), none, some (.ref x2), some (.int x3), some (.int x4), some (.int (x5 + 1)), some (.int (A (o + 1) x5.toNatClampNeg)), none, none] [] (A, R, G))) ∧ ((¬ (x4 < 1)) → (aw tX3_valueOf E 162 [some (.ref o), none, some (.ref x2), some (.int x3), some (.int x4), some (.int x5), some (.int (A (o + 1) x5.toNatClampNeg)), none, none] [] (A, R, G))))))))))) ∧ ((¬ ((A (o + 1) x5.toNatClampNeg) < (-6))) → (((39 ≤ x4) → (((x4 < 0) → (((x4 < 1) → (aw tX3_valueOf E 36 [some (.ref o), none, some (.ref x2), some (.int x3), some (.int x4), some (.int (x5 + 1)), some (.int (A (o + 1) x5.toNatClampNeg)), none, none] [] (A, R, G))) ∧ ((¬ (x4 < 1)) → (aw tX3_valueOf E 162 [some (.ref o), none, some (.ref x2), some (.int x3), some (.int x4), some (.int x5), some (.int (A (o + 1) x5.toNatClampNeg)), none, none] [] (A, R, G))))) ∧ ((¬ (x4 < 0)) → ((((A (o + 1) x5.toNatClampNeg) = (-9)) → ((((A (o + 1) x5.toNatClampNeg) = (-15)) → ((vp_in x4 40) ∧ (aw tX3_valueOf E 36 [some (.ref o), none, some (.ref x2), some (.int x3), some (.int x4), some (.int (x5 + 1)), some (.int (A (o + 1) x5.toNatClampNeg)), none, none] [] ((au A (o + 3) x4.toNatClampNeg (-(A (o + 3) x4.toNatClampNeg))), R, G)))) ∧ ((¬ ((A (o + 1) x5.toNatClampNeg) = (-15))) → ((vp_in x4 40) ∧ ((((A (o + 3) x4.toNatClampNeg) = 0) → (aw tX3_valueOf E 36 [some (.ref o), none, some (.ref x2), some (.int x3), some (.int x4), some (.int (x5 + 1)), some (.int (A (o + 1) x5.toNatClampNeg)), none, none] [] ((au A (o + 3) x4.toNatClampNeg 1), R, G))) ∧ ((¬ ((A (o + 3) x4.toNatClampNeg) = 0)) → (aw tX3_valueOf E 36 [some (.ref o), none, some (.ref x2), some (.int x3), some (.int x4), some (.int (x5 + 1)), some (.int (A (o + 1) x5.toNatClampNeg)), none, none] [] ((au A (o + 3) x4.toNatClampNeg 0), R, G)))))))) ∧ ((¬ ((A (o + 1) x5.toNatClampNeg) = (-9))) → ((((A (o + 1) x5.toNatClampNeg) = (-15)) → ((vp_in x4 40) ∧ (aw tX3_valueOf E 36 [some (.ref o), none, some (.ref x2), some (.int x3), some (.int x4), some (.int (x5 + 1)), some (.int (A (o + 1) x5.toNatClampNeg)), none, none] [] ((au A (o + 3) x4.toNatClampNeg (-(A (o + 3) x4.toNatClampNeg))), R, G)))) ∧ ((¬ ((A (o + 1) x5.toNatClampNeg) = (-15))) → (((x4 < 1) → (aw tX3_valueOf E 36 [some (.ref o), none, some (.ref x2), some (.int x3), some (.int x4), some (.int (x5 + 1)), some (.int (A (o + 1) x5.toNatClampNeg)), none, none] [] (A, R, G))) ∧ ((¬ (x4 < 1)) → (aw tX3_valueOf E 162 [some (.ref o), none, some (.ref x2), some (.int x3), some (.int x4), some (.int x5), some (.int (A (o + 1) x5.toNatClampNeg)), none, none] [] (A, R, G))))))))))) ∧ ((¬ (39 ≤ x4)) → ((((A (o + 1) x5.toNatClampNeg) < 0) → (((G x2).1 = 1) ∧ ((vp_in ((-1) - (A (o + 1) x5.toNatClampNeg)) (G x2).2) ∧ ((vp_in (x4 + 1) 40) ∧ (aw tX3_valueOf E 36 [some (.ref o), none, some (.ref x2), some (.int x3), some (.int (x4 + 1)), some (.int (x5 + 1)), some (.int (A (o + 1) x5.toNatClampNeg)), none, none] [] ((au A (o + 3) (x4 + 1).toNatClampNeg (A x2 ((-1) - (A (o + 1) x5.toNatClampNeg)).toNatClampNeg)), R, G)))))) ∧ ((¬ ((A (o + 1) x5.toNatClampNeg) < 0)) → ((vp_in (x4 + 1) 40) ∧ (aw tX3_valueOf E 36 [some (.ref o), none, some (.ref x2), some (.int x3), some (.int (x4 + 1)), some (.int (x5 + 1)), some (.int (A (o + 1) x5.toNatClampNeg)), none, none] [] ((au A (o + 3) (x4 + 1).toNatClampNeg (A (o + 1) x5.toNatClampNeg)), R, G)))))))))))) :
    aw tX3_valueOf E 36 [some (.ref o), d1, some (.ref x2), some (.int x3), some (.int x4), some (.int x5), d6, d7, d8] [] (A, R, G) := by
  by_cases c1 : x3 ≤ x5
  · replace h := h.1 c1
    by_cases c2 : x4 < 0
    · replace h := h.1 c2
      exact ⟨7, Or.inl (And.intro c1 (Or.inl (And.intro c2 (h))))⟩
    · replace h := h.2 c2
      obtain ⟨q3, h⟩ := h
      exact ⟨11, Or.inl (And.intro c1 (Or.inr (And.intro c2 (And.intro (gx0 ho) (And.intro (gx3 ho) (And.intro (vin_len (gxl3 ho) q3) (h)))))))⟩
  · replace h := h.2 c1
    obtain ⟨q4, h⟩ := h
    by_cases c5 : (A (o + 1) x5.toNatClampNeg) < (-6)
    · replace h := h.1 c5
      by_cases c6 : x4 < 0
      · replace h := h.1 c6
        by_cases c7 : x4 < 1
        · replace h := h.1 c7
          obtain ⟨n, h⟩ := h
          exact ⟨n + 18, Or.inr (And.intro c1 (And.intro (gx0 ho) (And.intro (gx1 ho) (And.intro (vin_len (gxl1 ho) q4) (Or.inl (And.intro c5 (Or.inl (And.intro c6 (Or.inl (And.intro c7 (h)))))))))))⟩
        · replace h := h.2 c7
          obtain ⟨n, h⟩ := h
          exact ⟨n + 16, Or.inr (And.intro c1 (And.intro (gx0 ho) (And.intro (gx1 ho) (And.intro (vin_len (gxl1 ho) q4) (Or.inl (And.intro c5 (Or.inl (And.intro c6 (Or.inr (And.intro c7 (h)))))))))))⟩
      · replace h := h.2 c6
        by_cases c8 : (A (o + 1) x5.toNatClampNeg) = (-9)
        · replace h := h.1 c8
          by_cases c9 : (A (o + 1) x5.toNatClampNeg) = (-15)
          · replace h := h.1 c9
            obtain ⟨q10, h⟩ := h
            obtain ⟨n, h⟩ := h
            exact ⟨n + 32, Or.inr (And.intro c1 (And.intro (gx0 ho) (And.intro (gx1 ho) (And.intro (vin_len (gxl1 ho) q4) (Or.inl (And.intro c5 (Or.inr (And.intro c6 (Or.inl (And.intro c8 (And.intro (gx0 ho) (Or.inr (And.intro (fun z => z c9) (And.intro (gx0 ho) (And.intro (gx3 ho) (And.intro (vin_len (gxl3 ho) q10) (And.intro (gx3 ho) (And.intro (vin_len (gxl3 ho) q10) (h)))))))))))))))))))⟩
          · replace h := h.2 c9
            obtain ⟨q11, h⟩ := h
            by_cases c12 : (A (o + 3) x4.toNatClampNeg) = 0
            · replace h := h.1 c12
              obtain ⟨n, h⟩ := h
              exact ⟨n + 33, Or.inr (And.intro c1 (And.intro (gx0 ho) (And.intro (gx1 ho) (And.intro (vin_len (gxl1 ho) q4) (Or.inl (And.intro c5 (Or.inr (And.intro c6 (Or.inl (And.intro c8 (And.intro (gx0 ho) (Or.inl (And.intro c9 (And.intro (gx0 ho) (And.intro (gx3 ho) (And.intro (vin_len (gxl3 ho) q11) (Or.inr (And.intro (fun z => z c12) (And.intro (gx3 ho) (And.intro (vin_len (gxl3 ho) q11) (h)))))))))))))))))))))⟩
            · replace h := h.2 c12
              obtain ⟨n, h⟩ := h
              exact ⟨n + 32, Or.inr (And.intro c1 (And.intro (gx0 ho) (And.intro (gx1 ho) (And.intro (vin_len (gxl1 ho) q4) (Or.inl (And.intro c5 (Or.inr (And.intro c6 (Or.inl (And.intro c8 (And.intro (gx0 ho) (Or.inl (And.intro c9 (And.intro (gx0 ho) (And.intro (gx3 ho) (And.intro (vin_len (gxl3 ho) q11) (Or.inl (And.intro c12 (And.intro (gx3 ho) (And.intro (vin_len (gxl3 ho) q11) (h)))))))))))))))))))))⟩
        · replace h := h.2 c8
          by_cases c13 : (A (o + 1) x5.toNatClampNeg) = (-15)
          · replace h := h.1 c13
            obtain ⟨q14, h⟩ := h
            obtain ⟨n, h⟩ := h
            exact ⟨n + 35, Or.inr (And.intro c1 (And.intro (gx0 ho) (And.intro (gx1 ho) (And.intro (vin_len (gxl1 ho) q4) (Or.inl (And.intro c5 (Or.inr (And.intro c6 (Or.inr (And.intro c8 (Or.inr (And.intro (fun z => z c13) (And.intro (gx0 ho) (Or.inr (And.intro (fun z => z c13) (And.intro (gx0 ho) (And.intro (gx3 ho) (And.intro (vin_len (gxl3 ho) q14) (And.intro (gx3 ho) (And.intro (vin_len (gxl3 ho) q14) (h)))))))))))))))))))))⟩
          · replace h := h.2 c13
            by_cases c15 : x4 < 1
            · replace h := h.1 c15
              obtain ⟨n, h⟩ := h
              exact ⟨n + 24, Or.inr (And.intro c1 (And.intro (gx0 ho) (And.intro (gx1 ho) (And.intro (vin_len (gxl1 ho) q4) (Or.inl (And.intro c5 (Or.inr (And.intro c6 (Or.inr (And.intro c8 (Or.inl (And.intro c13 (Or.inl (And.intro c15 (h)))))))))))))))⟩
            · replace h := h.2 c15
              obtain ⟨n, h⟩ := h
              exact ⟨n + 22, Or.inr (And.intro c1 (And.intro (gx0 ho) (And.intro (gx1 ho) (And.intro (vin_len (gxl1 ho) q4) (Or.inl (And.intro c5 (Or.inr (And.intro c6 (Or.inr (And.intro c8 (Or.inl (And.intro c13 (Or.inr (And.intro c15 (h)))))))))))))))⟩
    · replace h := h.2 c5
      by_cases c16 : 39 ≤ x4
      · replace h := h.1 c16
        by_cases c17 : x4 < 0
        · replace h := h.1 c17
          by_cases c18 : x4 < 1
          · replace h := h.1 c18
            obtain ⟨n, h⟩ := h
            exact ⟨n + 21, Or.inr (And.intro c1 (And.intro (gx0 ho) (And.intro (gx1 ho) (And.intro (vin_len (gxl1 ho) q4) (Or.inr (And.intro c5 (Or.inl (And.intro c16 (Or.inl (And.intro c17 (Or.inl (And.intro c18 (h)))))))))))))⟩
          · replace h := h.2 c18
            obtain ⟨n, h⟩ := h
            exact ⟨n + 19, Or.inr (And.intro c1 (And.intro (gx0 ho) (And.intro (gx1 ho) (And.intro (vin_len (gxl1 ho) q4) (Or.inr (And.intro c5 (Or.inl (And.intro c16 (Or.inl (And.intro c17 (Or.inr (And.intro c18 (h)))))))))))))⟩
        · replace h := h.2 c17
          by_cases c19 : (A (o + 1) x5.toNatClampNeg) = (-9)
          · replace h := h.1 c19
            by_cases c20 : (A (o + 1) x5.toNatClampNeg) = (-15)
            · replace h := h.1 c20
              obtain ⟨q21, h⟩ := h
              obtain ⟨n, h⟩ := h
              exact ⟨n + 35, Or.inr (And.intro c1 (And.intro (gx0 ho) (And.intro (gx1 ho) (And.intro (vin_len (gxl1 ho) q4) (Or.inr (And.intro c5 (Or.inl (And.intro c16 (Or.inr (And.intro c17 (Or.inl (And.intro c19 (And.intro (gx0 ho) (Or.inr (And.intro (fun z => z c20) (And.intro (gx0 ho) (And.intro (gx3 ho) (And.intro (vin_len (gxl3 ho) q21) (And.intro (gx3 ho) (And.intro (vin_len (gxl3 ho) q21) (h)))))))))))))))))))))⟩
            · replace h := h.2 c20
              obtain ⟨q22, h⟩ := h
              by_cases c23 : (A (o + 3) x4.toNatClampNeg) = 0
              · replace h := h.1 c23
                obtain ⟨n, h⟩ := h
                exact ⟨n + 36, Or.inr (And.intro c1 (And.intro (gx0 ho) (And.intro (gx1 ho) (And.intro (vin_len (gxl1 ho) q4) (Or.inr (And.intro c5 (Or.inl (And.intro c16 (Or.inr (And.intro c17 (Or.inl (And.intro c19 (And.intro (gx0 ho) (Or.inl (And.intro c20 (And.intro (gx0 ho) (And.intro (gx3 ho) (And.intro (vin_len (gxl3 ho) q22) (Or.inr (And.intro (fun z => z c23) (And.intro (gx3 ho) (And.intro (vin_len (gxl3 ho) q22) (h)))))))))))))))))))))))⟩
              · replace h := h.2 c23
                obtain ⟨n, h⟩ := h
                exact ⟨n + 35, Or.inr (And.intro c1 (And.intro (gx0 ho) (And.intro (gx1 ho) (And.intro (vin_len (gxl1 ho) q4) (Or.inr (And.intro c5 (Or.inl (And.intro c16 (Or.inr (And.intro c17 (Or.inl (And.intro c19 (And.intro (gx0 ho) (Or.inl (And.intro c20 (And.intro (gx0 ho) (And.intro (gx3 ho) (And.intro (vin_len (gxl3 ho) q22) (Or.inl (And.intro c23 (And.intro (gx3 ho) (And.intro (vin_len (gxl3 ho) q22) (h)))))))))))))))))))))))⟩
          · replace h := h.2 c19
            by_cases c24 : (A (o + 1) x5.toNatClampNeg) = (-15)
            · replace h := h.1 c24
              obtain ⟨q25, h⟩ := h
              obtain ⟨n, h⟩ := h
              exact ⟨n + 38, Or.inr (And.intro c1 (And.intro (gx0 ho) (And.intro (gx1 ho) (And.intro (vin_len (gxl1 ho) q4) (Or.inr (And.intro c5 (Or.inl (And.intro c16 (Or.inr (And.intro c17 (Or.inr (And.intro c19 (Or.inr (And.intro (fun z => z c24) (And.intro (gx0 ho) (Or.inr (And.intro (fun z => z c24) (And.intro (gx0 ho) (And.intro (gx3 ho) (And.intro (vin_len (gxl3 ho) q25) (And.intro (gx3 ho) (And.intro (vin_len (gxl3 ho) q25) (h)))))))))))))))))))))))⟩
            · replace h := h.2 c24
              by_cases c26 : x4 < 1
              · replace h := h.1 c26
                obtain ⟨n, h⟩ := h
                exact ⟨n + 27, Or.inr (And.intro c1 (And.intro (gx0 ho) (And.intro (gx1 ho) (And.intro (vin_len (gxl1 ho) q4) (Or.inr (And.intro c5 (Or.inl (And.intro c16 (Or.inr (And.intro c17 (Or.inr (And.intro c19 (Or.inl (And.intro c24 (Or.inl (And.intro c26 (h)))))))))))))))))⟩
              · replace h := h.2 c26
                obtain ⟨n, h⟩ := h
                exact ⟨n + 25, Or.inr (And.intro c1 (And.intro (gx0 ho) (And.intro (gx1 ho) (And.intro (vin_len (gxl1 ho) q4) (Or.inr (And.intro c5 (Or.inl (And.intro c16 (Or.inr (And.intro c17 (Or.inr (And.intro c19 (Or.inl (And.intro c24 (Or.inr (And.intro c26 (h)))))))))))))))))⟩
      · replace h := h.2 c16
        by_cases c27 : (A (o + 1) x5.toNatClampNeg) < 0
        · replace h := h.1 c27
          obtain ⟨q28, h⟩ := h
          obtain ⟨q29, h⟩ := h
          obtain ⟨q30, h⟩ := h
          obtain ⟨n, h⟩ := h
          exact ⟨n + 29, Or.inr (And.intro c1 (And.intro (gx0 ho) (And.intro (gx1 ho) (And.intro (vin_len (gxl1 ho) q4) (Or.inr (And.intro c5 (Or.inr (And.intro c16 (And.intro (gx0 ho) (Or.inl (And.intro c27 (And.intro q28 (And.intro q29 (And.intro (gx3 ho) (And.intro (vin_len (gxl3 ho) q30) (h))))))))))))))))⟩
        · replace h := h.2 c27
          obtain ⟨q31, h⟩ := h
          obtain ⟨n, h⟩ := h
          exact ⟨n + 26, Or.inr (And.intro c1 (And.intro (gx0 ho) (And.intro (gx1 ho) (And.intro (vin_len (gxl1 ho) q4) (Or.inr (And.intro c5 (Or.inr (And.intro c16 (And.intro (gx0 ho) (Or.inr (And.intro c27 (And.intro (gx3 ho) (And.intro (vin_len (gxl3 ho) q31) (h))))))))))))))⟩

set_option maxRecDepth 100000 in
set_option maxHeartbeats 4000000 in
theorem sX3_valueOf_162 {E : aR} {A : Nat → Nat → Int32} {R : Nat → Nat → Option Nat} {G : Nat → Nat × Nat} {o n1 : Nat} (ho : aGx G o n1) (d1 : Option Value) (x2 : Nat) (x3 : Int32) (x4 : Int32) (x5 : Int32) (x6 : Int32) (d7 : Option Value) (d8 : Option Value)
    (h : aw tX3_valueOf E 165 [some (.ref o), d1, some (.ref x2), some (.int x3), some (.int (x4 + (-1))), some (.int x5), some (.int x6), d7, d8] [] (A, R, G)) :
    aw tX3_valueOf E 162 [some (.ref o), d1, some (.ref x2), some (.int x3), some (.int x4), some (.int x5), some (.int x6), d7, d8] [] (A, R, G) := by
  exact aw_inc (show alk tX3_valueOf 162 = o_inc 4 (-1) 165 from rfl) rfl h

set_option maxRecDepth 100000 in
set_option maxHeartbeats 4000000 in
theorem sX3_valueOf_165 {E : aR} {A : Nat → Nat → Int32} {R : Nat → Nat → Option Nat} {G : Nat → Nat × Nat} {o n1 : Nat} (ho : aGx G o n1) (d1 : Option Value) (x2 : Nat) (x3 : Int32) (x4 : Int32) (x5 : Int32) (x6 : Int32) (d7 : Option Value) (d8 : Option Value)
    (h : (vp_in x4 40) ∧ ((vp_in (x4 + 1) 40) ∧ (((x6 = (-13)) → (aw tX3_valueOf E 337 [some (.ref o), d1, some (.ref x2), some (.int x3), some (.int x4), some (.int x5), some (.int x6), some (.int (A (o + 3) x4.toNatClampNeg)), some (.int (A (o + 3) (x4 + 1).toNatClampNeg))] [] (A, R, G))) ∧ ((¬ (x6 = (-13))) → (((x6 = (-12)) → (aw tX3_valueOf E 322 [some (.ref o), d1, some (.ref x2), some (.int x3), some (.int x4), some (.int x5), some (.int x6), some (.int (A (o + 3) x4.toNatClampNeg)), some (.int (A (o + 3) (x4 + 1).toNatClampNeg))] [] (A, R, G))) ∧ ((¬ (x6 = (-12))) → (((x6 = (-11)) → (aw tX3_valueOf E 300 [some (.ref o), d1, some (.ref x2), some (.int x3), some (.int x4), some (.int x5), some (.int x6), some (.int (A (o + 3) x4.toNatClampNeg)), some (.int (A (o + 3) (x4 + 1).toNatClampNeg))] [] (A, R, G))) ∧ ((¬ (x6 = (-11))) → (((x6 = (-10)) → (aw tX3_valueOf E 278 [some (.ref o), d1, some (.ref x2), some (.int x3), some (.int x4), some (.int x5), some (.int x6), some (.int (A (o + 3) x4.toNatClampNeg)), some (.int (A (o + 3) (x4 + 1).toNatClampNeg))] [] (A, R, G))) ∧ ((¬ (x6 = (-10))) → (((x6 = (-9)) → (aw tX3_valueOf E 352 [some (.ref o), d1, some (.ref x2), some (.int x3), some (.int x4), some (.int x5), some (.int x6), some (.int (A (o + 3) x4.toNatClampNeg)), some (.int (A (o + 3) (x4 + 1).toNatClampNeg))] [] (A, R, G))) ∧ ((¬ (x6 = (-9))) → (((x6 = (-8)) → (aw tX3_valueOf E 253 [some (.ref o), d1, some (.ref x2), some (.int x3), some (.int x4), some (.int x5), some (.int x6), some (.int (A (o + 3) x4.toNatClampNeg)), some (.int (A (o + 3) (x4 + 1).toNatClampNeg))] [] (A, R, G))) ∧ ((¬ (x6 = (-8))) → (((x6 = (-7)) → (aw tX3_valueOf E 228 [some (.ref o), d1, some (.ref x2), some (.int x3), some (.int x4), some (.int x5), some (.int x6), some (.int (A (o + 3) x4.toNatClampNeg)), some (.int (A (o + 3) (x4 + 1).toNatClampNeg))] [] (A, R, G))) ∧ ((¬ (x6 = (-7))) → (aw tX3_valueOf E 352 [some (.ref o), d1, some (.ref x2), some (.int x3), some (.int x4), some (.int x5), some (.int x6), some (.int (A (o + 3) x4.toNatClampNeg)), some (.int (A (o + 3) (x4 + 1).toNatClampNeg))] [] (A, R, G)))))))))))))))))) :
    aw tX3_valueOf E 165 [some (.ref o), d1, some (.ref x2), some (.int x3), some (.int x4), some (.int x5), some (.int x6), d7, d8] [] (A, R, G) := by
  obtain ⟨q1, h⟩ := h
  obtain ⟨q2, h⟩ := h
  by_cases c3 : x6 = (-13)
  · replace h := h.1 c3
    obtain ⟨n, h⟩ := h
    exact ⟨n + 14, And.intro (gx0 ho) (And.intro (gx3 ho) (And.intro (vin_len (gxl3 ho) q1) (And.intro (gx0 ho) (And.intro (gx3 ho) (And.intro (vin_len (gxl3 ho) q2) (Or.inl (And.intro c3 (h))))))))⟩
  · replace h := h.2 c3
    by_cases c4 : x6 = (-12)
    · replace h := h.1 c4
      obtain ⟨n, h⟩ := h
      exact ⟨n + 14, And.intro (gx0 ho) (And.intro (gx3 ho) (And.intro (vin_len (gxl3 ho) q1) (And.intro (gx0 ho) (And.intro (gx3 ho) (And.intro (vin_len (gxl3 ho) q2) (Or.inr (And.intro c3 (Or.inl (And.intro c4 (h))))))))))⟩
    · replace h := h.2 c4
      by_cases c5 : x6 = (-11)
      · replace h := h.1 c5
        obtain ⟨n, h⟩ := h
        exact ⟨n + 14, And.intro (gx0 ho) (And.intro (gx3 ho) (And.intro (vin_len (gxl3 ho) q1) (And.intro (gx0 ho) (And.intro (gx3 ho) (And.intro (vin_len (gxl3 ho) q2) (Or.inr (And.intro c3 (Or.inr (And.intro c4 (Or.inl (And.intro c5 (h))))))))))))⟩
      · replace h := h.2 c5
        by_cases c6 : x6 = (-10)
        · replace h := h.1 c6
          obtain ⟨n, h⟩ := h
          exact ⟨n + 14, And.intro (gx0 ho) (And.intro (gx3 ho) (And.intro (vin_len (gxl3 ho) q1) (And.intro (gx0 ho) (And.intro (gx3 ho) (And.intro (vin_len (gxl3 ho) q2) (Or.inr (And.intro c3 (Or.inr (And.intro c4 (Or.inr (And.intro c5 (Or.inl (And.intro c6 (h))))))))))))))⟩
        · replace h := h.2 c6
          by_cases c7 : x6 = (-9)
          · replace h := h.1 c7
            obtain ⟨n, h⟩ := h
            exact ⟨n + 14, And.intro (gx0 ho) (And.intro (gx3 ho) (And.intro (vin_len (gxl3 ho) q1) (And.intro (gx0 ho) (And.intro (gx3 ho) (And.intro (vin_len (gxl3 ho) q2) (Or.inr (And.intro c3 (Or.inr (And.intro c4 (Or.inr (And.intro c5 (Or.inr (And.intro c6 (Or.inl (And.intro c7 (h))))))))))))))))⟩
          · replace h := h.2 c7
            by_cases c8 : x6 = (-8)
            · replace h := h.1 c8
              obtain ⟨n, h⟩ := h
              exact ⟨n + 14, And.intro (gx0 ho) (And.intro (gx3 ho) (And.intro (vin_len (gxl3 ho) q1) (And.intro (gx0 ho) (And.intro (gx3 ho) (And.intro (vin_len (gxl3 ho) q2) (Or.inr (And.intro c3 (Or.inr (And.intro c4 (Or.inr (And.intro c5 (Or.inr (And.intro c6 (Or.inr (And.intro c7 (Or.inl (And.intro c8 (h))))))))))))))))))⟩
            · replace h := h.2 c8
              by_cases c9 : x6 = (-7)
              · replace h := h.1 c9
                obtain ⟨n, h⟩ := h
                exact ⟨n + 14, And.intro (gx0 ho) (And.intro (gx3 ho) (And.intro (vin_len (gxl3 ho) q1) (And.intro (gx0 ho) (And.intro (gx3 ho) (And.intro (vin_len (gxl3 ho) q2) (Or.inr (And.intro c3 (Or.inr (And.intro c4 (Or.inr (And.intro c5 (Or.inr (And.intro c6 (Or.inr (And.intro c7 (Or.inr (And.intro c8 (Or.inl (And.intro c9 (h))))))))))))))))))))⟩
              · replace h := h.2 c9
                obtain ⟨n, h⟩ := h
                exact ⟨n + 14, And.intro (gx0 ho) (And.intro (gx3 ho) (And.intro (vin_len (gxl3 ho) q1) (And.intro (gx0 ho) (And.intro (gx3 ho) (And.intro (vin_len (gxl3 ho) q2) (Or.inr (And.intro c3 (Or.inr (And.intro c4 (Or.inr (And.intro c5 (Or.inr (And.intro c6 (Or.inr (And.intro c7 (Or.inr (And.intro c8 (Or.inr (And.intro c9 (h))))))))))))))))))))⟩

set_option maxRecDepth 100000 in
set_option maxHeartbeats 4000000 in
theorem sX3_valueOf_228 {E : aR} {A : Nat → Nat → Int32} {R : Nat → Nat → Option Nat} {G : Nat → Nat × Nat} {o n1 : Nat} (ho : aGx G o n1) (d1 : Option Value) (x2 : Nat) (x3 : Int32) (x4 : Int32) (x5 : Int32) (d6 : Option Value) (x7 : Int32) (x8 : Int32)
    (h : ((x7 = 0) → (((x8 = 0) → ((vp_in x4 40) ∧ (aw tX3_valueOf E 36 [some (.ref o), d1, some (.ref x2), some (.int x3), some (.int x4), some (.int (x5 + 1)), d6, some (.int x7), some (.int x8)] [] ((au A (o + 3) x4.toNatClampNeg 0), R, G)))) ∧ ((¬ (x8 = 0)) → ((vp_in x4 40) ∧ (aw tX3_valueOf E 36 [some (.ref o), d1, some (.ref x2), some (.int x3), some (.int x4), some (.int (x5 + 1)), d6, some (.int x7), some (.int x8)] [] ((au A (o + 3) x4.toNatClampNeg 1), R, G)))))) ∧ ((¬ (x7 = 0)) → ((vp_in x4 40) ∧ (aw tX3_valueOf E 36 [some (.ref o), d1, some (.ref x2), some (.int x3), some (.int x4), some (.int (x5 + 1)), d6, some (.int x7), some (.int x8)] [] ((au A (o + 3) x4.toNatClampNeg 1), R, G))))) :
    aw tX3_valueOf E 228 [some (.ref o), d1, some (.ref x2), some (.int x3), some (.int x4), some (.int x5), d6, some (.int x7), some (.int x8)] [] (A, R, G) := by
  by_cases c1 : x7 = 0
  · replace h := h.1 c1
    by_cases c2 : x8 = 0
    · replace h := h.1 c2
      obtain ⟨q3, h⟩ := h
      obtain ⟨n, h⟩ := h
      exact ⟨n + 12, And.intro (gx0 ho) (Or.inr (And.intro (fun z => z c1) (Or.inl (And.intro c2 (And.intro (gx3 ho) (And.intro (vin_len (gxl3 ho) q3) (h)))))))⟩
    · replace h := h.2 c2
      obtain ⟨q4, h⟩ := h
      obtain ⟨n, h⟩ := h
      exact ⟨n + 13, And.intro (gx0 ho) (Or.inr (And.intro (fun z => z c1) (Or.inr (And.intro c2 (And.intro (gx3 ho) (And.intro (vin_len (gxl3 ho) q4) (h)))))))⟩
  · replace h := h.2 c1
    obtain ⟨q5, h⟩ := h
    obtain ⟨n, h⟩ := h
    exact ⟨n + 11, And.intro (gx0 ho) (Or.inl (And.intro c1 (And.intro (gx3 ho) (And.intro (vin_len (gxl3 ho) q5) (h)))))⟩

set_option maxRecDepth 100000 in
set_option maxHeartbeats 4000000 in
theorem sX3_valueOf_253 {E : aR} {A : Nat → Nat → Int32} {R : Nat → Nat → Option Nat} {G : Nat → Nat × Nat} {o n1 : Nat} (ho : aGx G o n1) (d1 : Option Value) (x2 : Nat) (x3 : Int32) (x4 : Int32) (x5 : Int32) (d6 : Option Value) (x7 : Int32) (x8 : Int32)
    (h : ((x7 = 0) → ((vp_in x4 40) ∧ (aw tX3_valueOf E 36 [some (.ref o), d1, some (.ref x2), some (.int x3), some (.int x4), some (.int (x5 + 1)), d6, some (.int x7), some (.int x8)] [] ((au A (o + 3) x4.toNatClampNeg 0), R, G)))) ∧ ((¬ (x7 = 0)) → (((x8 = 0) → ((vp_in x4 40) ∧ (aw tX3_valueOf E 36 [some (.ref o), d1, some (.ref x2), some (.int x3), some (.int x4), some (.int (x5 + 1)), d6, some (.int x7), some (.int x8)] [] ((au A (o + 3) x4.toNatClampNeg 0), R, G)))) ∧ ((¬ (x8 = 0)) → ((vp_in x4 40) ∧ (aw tX3_valueOf E 36 [some (.ref o), d1, some (.ref x2), some (.int x3), some (.int x4), some (.int (x5 + 1)), d6, some (.int x7), some (.int x8)] [] ((au A (o + 3) x4.toNatClampNeg 1), R, G))))))) :
    aw tX3_valueOf E 253 [some (.ref o), d1, some (.ref x2), some (.int x3), some (.int x4), some (.int x5), d6, some (.int x7), some (.int x8)] [] (A, R, G) := by
  by_cases c1 : x7 = 0
  · replace h := h.1 c1
    obtain ⟨q2, h⟩ := h
    obtain ⟨n, h⟩ := h
    exact ⟨n + 10, And.intro (gx0 ho) (Or.inl (And.intro c1 (And.intro (gx3 ho) (And.intro (vin_len (gxl3 ho) q2) (h)))))⟩
  · replace h := h.2 c1
    by_cases c3 : x8 = 0
    · replace h := h.1 c3
      obtain ⟨q4, h⟩ := h
      obtain ⟨n, h⟩ := h
      exact ⟨n + 12, And.intro (gx0 ho) (Or.inr (And.intro c1 (Or.inl (And.intro c3 (And.intro (gx3 ho) (And.intro (vin_len (gxl3 ho) q4) (h)))))))⟩
    · replace h := h.2 c3
      obtain ⟨q5, h⟩ := h
      obtain ⟨n, h⟩ := h
      exact ⟨n + 13, And.intro (gx0 ho) (Or.inr (And.intro c1 (Or.inr (And.intro c3 (And.intro (gx3 ho) (And.intro (vin_len (gxl3 ho) q5) (h)))))))⟩

set_option maxRecDepth 100000 in
set_option maxHeartbeats 4000000 in
theorem sX3_valueOf_278 {E : aR} {A : Nat → Nat → Int32} {R : Nat → Nat → Option Nat} {G : Nat → Nat × Nat} {o n1 : Nat} (ho : aGx G o n1) (d1 : Option Value) (x2 : Nat) (x3 : Int32) (x4 : Int32) (x5 : Int32) (d6 : Option Value) (x7 : Int32) (x8 : Int32)
    (h : ((x8 ≤ x7) → ((vp_in x4 40) ∧ (aw tX3_valueOf E 36 [some (.ref o), d1, some (.ref x2), some (.int x3), some (.int x4), some (.int (x5 + 1)), d6, some (.int x7), some (.int x8)] [] ((au A (o + 3) x4.toNatClampNeg 0), R, G)))) ∧ ((¬ (x8 ≤ x7)) → ((vp_in x4 40) ∧ (aw tX3_valueOf E 36 [some (.ref o), d1, some (.ref x2), some (.int x3), some (.int x4), some (.int (x5 + 1)), d6, some (.int x7), some (.int x8)] [] ((au A (o + 3) x4.toNatClampNeg 1), R, G))))) :
    aw tX3_valueOf E 278 [some (.ref o), d1, some (.ref x2), some (.int x3), some (.int x4), some (.int x5), d6, some (.int x7), some (.int x8)] [] (A, R, G) := by
  by_cases c1 : x8 ≤ x7
  · replace h := h.1 c1
    obtain ⟨q2, h⟩ := h
    obtain ⟨n, h⟩ := h
    exact ⟨n + 11, And.intro (gx0 ho) (Or.inl (And.intro c1 (And.intro (gx3 ho) (And.intro (vin_len (gxl3 ho) q2) (h)))))⟩
  · replace h := h.2 c1
    obtain ⟨q3, h⟩ := h
    obtain ⟨n, h⟩ := h
    exact ⟨n + 12, And.intro (gx0 ho) (Or.inr (And.intro c1 (And.intro (gx3 ho) (And.intro (vin_len (gxl3 ho) q3) (h)))))⟩

set_option maxRecDepth 100000 in
set_option maxHeartbeats 4000000 in
theorem sX3_valueOf_300 {E : aR} {A : Nat → Nat → Int32} {R : Nat → Nat → Option Nat} {G : Nat → Nat × Nat} {o n1 : Nat} (ho : aGx G o n1) (d1 : Option Value) (x2 : Nat) (x3 : Int32) (x4 : Int32) (x5 : Int32) (d6 : Option Value) (x7 : Int32) (x8 : Int32)
    (h : ((x7 = x8) → ((vp_in x4 40) ∧ (aw tX3_valueOf E 36 [some (.ref o), d1, some (.ref x2), some (.int x3), some (.int x4), some (.int (x5 + 1)), d6, some (.int x7), some (.int x8)] [] ((au A (o + 3) x4.toNatClampNeg 1), R, G)))) ∧ ((¬ (x7 = x8)) → ((vp_in x4 40) ∧ (aw tX3_valueOf E 36 [some (.ref o), d1, some (.ref x2), some (.int x3), some (.int x4), some (.int (x5 + 1)), d6, some (.int x7), some (.int x8)] [] ((au A (o + 3) x4.toNatClampNeg 0), R, G))))) :
    aw tX3_valueOf E 300 [some (.ref o), d1, some (.ref x2), some (.int x3), some (.int x4), some (.int x5), d6, some (.int x7), some (.int x8)] [] (A, R, G) := by
  by_cases c1 : x7 = x8
  · replace h := h.1 c1
    obtain ⟨q2, h⟩ := h
    obtain ⟨n, h⟩ := h
    exact ⟨n + 12, And.intro (gx0 ho) (Or.inr (And.intro (fun z => z c1) (And.intro (gx3 ho) (And.intro (vin_len (gxl3 ho) q2) (h)))))⟩
  · replace h := h.2 c1
    obtain ⟨q3, h⟩ := h
    obtain ⟨n, h⟩ := h
    exact ⟨n + 11, And.intro (gx0 ho) (Or.inl (And.intro c1 (And.intro (gx3 ho) (And.intro (vin_len (gxl3 ho) q3) (h)))))⟩

set_option maxRecDepth 100000 in
set_option maxHeartbeats 4000000 in
theorem sX3_valueOf_322 {E : aR} {A : Nat → Nat → Int32} {R : Nat → Nat → Option Nat} {G : Nat → Nat × Nat} {o n1 : Nat} (ho : aGx G o n1) (d1 : Option Value) (x2 : Nat) (x3 : Int32) (x4 : Int32) (x5 : Int32) (d6 : Option Value) (x7 : Int32) (x8 : Int32)
    (h : (vp_in x4 40) ∧ (aw tX3_valueOf E 36 [some (.ref o), d1, some (.ref x2), some (.int x3), some (.int x4), some (.int (x5 + 1)), d6, some (.int x7), some (.int x8)] [] ((au A (o + 3) x4.toNatClampNeg (x7 + x8)), R, G))) :
    aw tX3_valueOf E 322 [some (.ref o), d1, some (.ref x2), some (.int x3), some (.int x4), some (.int x5), d6, some (.int x7), some (.int x8)] [] (A, R, G) := by
  obtain ⟨q1, h⟩ := h
  obtain ⟨n, h⟩ := h
  exact ⟨n + 10, And.intro (gx0 ho) (And.intro (gx3 ho) (And.intro (vin_len (gxl3 ho) q1) (h)))⟩

set_option maxRecDepth 100000 in
set_option maxHeartbeats 4000000 in
theorem sX3_valueOf_337 {E : aR} {A : Nat → Nat → Int32} {R : Nat → Nat → Option Nat} {G : Nat → Nat × Nat} {o n1 : Nat} (ho : aGx G o n1) (d1 : Option Value) (x2 : Nat) (x3 : Int32) (x4 : Int32) (x5 : Int32) (d6 : Option Value) (x7 : Int32) (x8 : Int32)
    (h : (vp_in x4 40) ∧ (aw tX3_valueOf E 36 [some (.ref o), d1, some (.ref x2), some (.int x3), some (.int x4), some (.int (x5 + 1)), d6, some (.int x7), some (.int x8)] [] ((au A (o + 3) x4.toNatClampNeg (x7 - x8)), R, G))) :
    aw tX3_valueOf E 337 [some (.ref o), d1, some (.ref x2), some (.int x3), some (.int x4), some (.int x5), d6, some (.int x7), some (.int x8)] [] (A, R, G) := by
  obtain ⟨q1, h⟩ := h
  obtain ⟨n, h⟩ := h
  exact ⟨n + 10, And.intro (gx0 ho) (And.intro (gx3 ho) (And.intro (vin_len (gxl3 ho) q1) (h)))⟩

set_option maxRecDepth 100000 in
set_option maxHeartbeats 4000000 in
theorem sX3_valueOf_352 {E : aR} {A : Nat → Nat → Int32} {R : Nat → Nat → Option Nat} {G : Nat → Nat × Nat} {o n1 : Nat} (ho : aGx G o n1) (d1 : Option Value) (x2 : Nat) (x3 : Int32) (x4 : Int32) (x5 : Int32) (d6 : Option Value) (x7 : Int32) (x8 : Int32)
    (h : (vp_in x4 40) ∧ (aw tX3_valueOf E 36 [some (.ref o), d1, some (.ref x2), some (.int x3), some (.int x4), some (.int (x5 + 1)), d6, some (.int x7), some (.int x8)] [] ((au A (o + 3) x4.toNatClampNeg (x7 * x8)), R, G))) :
    aw tX3_valueOf E 352 [some (.ref o), d1, some (.ref x2), some (.int x3), some (.int x4), some (.int x5), d6, some (.int x7), some (.int x8)] [] (A, R, G) := by
  obtain ⟨q1, h⟩ := h
  obtain ⟨n, h⟩ := h
  exact ⟨n + 9, And.intro (gx0 ho) (And.intro (gx3 ho) (And.intro (vin_len (gxl3 ho) q1) (h)))⟩
