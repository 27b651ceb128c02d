/-! what the class's constructor leaves -/
def gx (k : Nat) : Nat × Nat := if k < 80 then gtb k else if k = 80 then (7, 0) else if k = 81 then (1, 3) else if k = 82 then (1, 3) else if k = 83 then (1, 40) else (0, 0)
def ax (k : Nat) : Nat → Int32 := if k = 0 then upd (fun _ => 0) 5 1 else if k = 81 then upd (upd (upd (fun _ => 0) 0 (-1)) 1 (-2)) 2 (-3) else if k = 82 then upd (upd (upd (fun _ => 0) 0 1) 1 2) 2 3 else if k = 40 ∨ k = 42 ∨ k = 44 ∨ k = 46 then upd (fun _ => 0) 1 (-1) else fun _ => 0
/-- the places of D are made, the others are free -/
def iX (D : Nat → Prop) (A : Nat → Nat → Int32) (G : Nat → Nat × Nat) : Prop := G 0 = (0, 5) ∧ (∀ k, D k → ¬ k = 0 → G k = gx k ∧ (¬ k = 83 → A k = ax k)) ∧ (∀ k, ¬ D k → ¬ k = 0 → k < 1000 → G k = (0, 0)) ∧ A 0 = ax 0
section S2
variable {A : Nat → Nat → Int32} {R : Nat → Nat → Option Nat} {G : Nat → Nat × Nat} {w b t n z : Nat} {E : bR} {c : Nat × Nat} {D : Nat → Prop}
def dA (k : Nat) : Prop := (31 ≤ k ∧ k ≤ 39) ∨ (80 ≤ k ∧ k ≤ 83)
def rA (R : Nat → Nat → Option Nat) : Prop := R 0 4 = some 37 ∧ R 0 6 = some 31 ∧ R 0 7 = some 38 ∧ R 0 8 = some 39 ∧ R 37 0 = some 80
set_option maxRecDepth 100000 in
set_option maxHeartbeats 4000000 in
theorem lX4_a (h0 : G 0 = (0, 5)) (hf : ∀ k, ¬ k = 0 → k < 1000 → G k = (0, 0)) (hA : A 0 = fun _ => 0) (h : ∀ A R G, iX dA A G → rA R → bw tX4_init E (13, 1288) 97 [some (.ref 0), some (.ref 81), some (.ref 82), some (.ref 80), none] [] (A, R, G)) : bw tX4_init E (0, 0) 0 [some (.ref 0), none, none, none, none] [] (A, R, G) := by
  have hk := kX4_init
  refine r_al hk rfl rfl ?_
  refine r_obj hk rfl (Nat.le_of_ble_eq_true rfl) ?_
  refine r_al hk rfl rfl ?_
  refine r_ii hk rfl ?_
  refine r_nwq hk rfl (37) (by omega) (hf 37 (by decide) (by decide)) (by decide) rfl (by decide) (by decide) (by decide) rfl ?_
  refine r_pwR hk rfl h0 ?_
  refine r_al hk rfl rfl ?_
  refine r_ii hk rfl ?_
  refine r_pwI hk rfl h0 ?_
  refine r_al hk rfl rfl ?_
  refine r_new hk rfl (31) (by omega) (hf 31 (by decide) (by decide)) (by decide) (by decide) rfl ?_
  refine r_dup hk rfl rfl ?_
  obtain ⟨A1, hA1⟩ : ∃ A1, A1 = ap (au (ap A 37 (fun _ => 0)) 0 5 1) 31 (fun _ => 0) := ⟨_, rfl⟩
  obtain ⟨R1, hR1⟩ : ∃ R1, R1 = rp (ar (rp R 37 (fun _ => none)) 0 4 (some 37)) 31 (fun _ => none) := ⟨_, rfl⟩
  obtain ⟨G1, hG1⟩ : ∃ G1, G1 = gu (gu G 37 (2, 6)) 31 (0, 2) := ⟨_, rfl⟩
  show bw _ _ (2, 14) 23 _ [.ref 31, .ref 31, .ref 0] (ap (au (ap A 37 (fun _ => 0)) 0 5 1) 31 (fun _ => 0), rp (ar (rp R 37 (fun _ => none)) 0 4 (some 37)) 31 (fun _ => none), gu (gu G 37 (2, 6)) 31 (0, 2))
  rw [← hA1, ← hR1, ← hG1]
  have g0 : G1 0 = (0, 5) := by rw [hG1]; exact h0
  have gf : ∀ k, ¬ k = 0 → ¬ k = 37 → ¬ k = 31 → k < 1000 → G1 k = (0, 0) := fun k a b c d => by rw [hG1, gu_o c, gu_o b]; exact hf k a d
  obtain ⟨A2, R2, G2, q1, q2, q3, q4, q5⟩ := qX1_init (A := A1) (R := R1) (G := G1) (by rw [hG1]; rfl) (fun k a b => gf k (by omega) (by omega) (by omega) (by omega))
  refine r_bcI (t := [.ref 31, .ref 0]) hk rfl rfl (by rw [hG1]; rfl) (Nat.le_of_ble_eq_true rfl) q1 (by decide) (by decide) rfl ?_
  have p0 := q2 0 (by omega)
  have p37 := q2 37 (by omega)
  have k0 : G2 0 = (0, 5) := p0.2.2.trans g0
  have kf : ∀ k, ¬ k = 0 → ¬ k = 37 → ¬ (31 ≤ k ∧ k ≤ 36) → k < 1000 → G2 k = (0, 0) := fun k a b c d => (q2 k c).2.2.trans (gf k a b (by omega) d)
  refine r_pwR hk rfl k0 ?_
  refine r_al hk rfl rfl ?_
  refine r_ii hk rfl ?_
  refine r_nwq hk rfl (38) (by omega) (kf 38 (by decide) (by decide) (by decide) (by decide)) (by decide) rfl (by decide) (by decide) (by decide) rfl ?_
  refine r_pwR hk rfl k0 ?_
  refine r_al hk rfl rfl ?_
  refine r_ii hk rfl ?_
  refine r_nwa hk rfl (39) (by omega) (kf 39 (by decide) (by decide) (by decide) (by decide)) (by decide) rfl (by decide) (by decide) (by decide) rfl ?_
  refine r_pwR hk rfl k0 ?_
  refine r_ii hk rfl ?_
  refine r_nwa hk rfl (81) (by omega) (kf 81 (by decide) (by decide) (by decide) (by decide)) (by decide) rfl (by decide) (by decide) (by decide) rfl ?_
  refine r_dup hk rfl rfl ?_
  refine r_ii hk rfl ?_
  refine r_ii hk rfl ?_
  refine r_iast hk rfl rfl (by unfold vp_in; decide) rfl ?_
  refine r_dup hk rfl rfl ?_
  refine r_ii hk rfl ?_
  refine r_ii hk rfl ?_
  refine r_iast hk rfl rfl (by unfold vp_in; decide) rfl ?_
  refine r_dup hk rfl rfl ?_
  refine r_ii hk rfl ?_
  refine r_ii hk rfl ?_
  refine r_iast hk rfl rfl (by unfold vp_in; decide) rfl ?_
  refine r_as hk rfl ?_
  refine r_ii hk rfl ?_
  refine r_nwa hk rfl (82) (by omega) (kf 82 (by decide) (by decide) (by decide) (by decide)) (by decide) rfl (by decide) (by decide) (by decide) rfl ?_
  refine r_dup hk rfl rfl ?_
  refine r_ii hk rfl ?_
  refine r_ii hk rfl ?_
  refine r_iast hk rfl rfl (by unfold vp_in; decide) rfl ?_
  refine r_dup hk rfl rfl ?_
  refine r_ii hk rfl ?_
  refine r_ii hk rfl ?_
  refine r_iast hk rfl rfl (by unfold vp_in; decide) rfl ?_
  refine r_dup hk rfl rfl ?_
  refine r_ii hk rfl ?_
  refine r_ii hk rfl ?_
  refine r_iast hk rfl rfl (by unfold vp_in; decide) rfl ?_
  refine r_as hk rfl ?_
  refine r_new hk rfl (80) (by omega) (kf 80 (by decide) (by decide) (by decide) (by decide)) (by decide) (by decide) rfl ?_
  refine r_dup hk rfl rfl ?_
  refine r_al hk rfl rfl ?_
  refine r_al hk rfl rfl ?_
  obtain ⟨A3, hA3⟩ : ∃ A3, A3 = ap (au (au (au (ap (au (au (au (ap (ap (ap A2 38 (fun _ => 0)) 39 (fun _ => 0)) 81 (fun _ => 0)) 81 0 (-1)) 81 1 (-2)) 81 2 (-3)) 82 (fun _ => 0)) 82 0 1) 82 1 2) 82 2 3) 80 (fun _ => 0) := ⟨_, rfl⟩
  obtain ⟨R3, hR3⟩ : ∃ R3, R3 = rp (rp (rp (ar (rp (ar (rp (ar R2 0 6 (some 31)) 38 (fun _ => none)) 0 7 (some 38)) 39 (fun _ => none)) 0 8 (some 39)) 81 (fun _ => none)) 82 (fun _ => none)) 80 (fun _ => none) := ⟨_, rfl⟩
  obtain ⟨G3, hG3⟩ : ∃ G3, G3 = gu (gu (gu (gu (gu G2 38 (3, 4)) 39 (1, 576)) 81 (1, 3)) 82 (1, 3)) 80 (0, 4) := ⟨_, rfl⟩
  show bw _ _ (12, 1248) 86 [some (.ref 0), some (.ref 81), some (.ref 82), none, none] [.ref 82, .ref 81, .ref 80, .ref 80] (ap (au (au (au (ap (au (au (au (ap (ap (ap A2 38 (fun _ => 0)) 39 (fun _ => 0)) 81 (fun _ => 0)) 81 0 (-1)) 81 1 (-2)) 81 2 (-3)) 82 (fun _ => 0)) 82 0 1) 82 1 2) 82 2 3) 80 (fun _ => 0), rp (rp (rp (ar (rp (ar (rp (ar R2 0 6 (some 31)) 38 (fun _ => none)) 0 7 (some 38)) 39 (fun _ => none)) 0 8 (some 39)) 81 (fun _ => none)) 82 (fun _ => none)) 80 (fun _ => none), gu (gu (gu (gu (gu G2 38 (3, 4)) 39 (1, 576)) 81 (1, 3)) 82 (1, 3)) 80 (0, 4))
  rw [← hA3, ← hR3, ← hG3]
  obtain ⟨A4, R4, G4, s1, s2, s3, s4, s5⟩ := qX3_init (w := 80) (A := A3) (R := R3) (G := G3) (by decide) (by rw [hG3]; rfl) (by rw [hG3]; exact kf 83 (by decide) (by decide) (by decide) (by decide))
  refine r_bcI (t := [.ref 80]) hk rfl rfl (by rw [hG3]; rfl) (Nat.le_of_ble_eq_true rfl) s1 (by decide) (by decide) rfl ?_
  have m0 := s2 0 (by omega)
  have m37 := s2 37 (by omega)
  have u0 : G4 0 = (0, 5) := by rw [m0.2.2, hG3]; exact k0
  have u37 : G4 37 = (2, 6) := by
    rw [m37.2.2, hG3]
    show G2 37 = _
    rw [p37.2.2, hG1]; rfl
  refine r_as hk rfl ?_
  refine r_al hk rfl rfl ?_
  refine r_gwR (a := 37) hk rfl u0 ?_ ?_
  · rw [m0.2.1, hR3]
    show R2 0 4 = _
    rw [p0.2.1, hR1]; rfl
  refine r_ii hk rfl ?_
  refine r_al hk rfl rfl ?_
  refine r_ast (j := 0) hk rfl u37 (by rw [s4]) (by unfold vp_in; decide) rfl ?_
  have uA : ∀ k, ¬ k = 80 → ¬ k = 83 → A4 k = A3 k := fun k a b => (s2 k (by omega)).1
  have uG : ∀ k, ¬ k = 80 → ¬ k = 83 → G4 k = G3 k := fun k a b => (s2 k (by omega)).2.2
  refine h _ _ _ ⟨u0, fun k hD h0' => ?_, fun k hD a b => ?_, ?_⟩ ⟨?_, ?_, ?_, ?_, ?_⟩
  · have hc : (31 ≤ k ∧ k ≤ 36) ∨ k = 37 ∨ k = 38 ∨ k = 39 ∨ k = 80 ∨ k = 81 ∨ k = 82 ∨ k = 83 := by unfold dA at hD; omega
    rcases hc with hc | rfl | rfl | rfl | rfl | rfl | rfl | rfl
    · have e1 : G4 k = G2 k := by
        rw [uG k (by omega) (by omega), hG3, gu_o (by omega), gu_o (by omega), gu_o (by omega), gu_o (by omega), gu_o (by omega)]
      have e2 : A4 k = A2 k := by
        rw [uA k (by omega) (by omega), hA3, ap_ne (by omega), au_o (by omega), au_o (by omega), au_o (by omega), ap_ne (by omega), au_o (by omega), au_o (by omega), au_o (by omega), ap_ne (by omega), ap_ne (by omega), ap_ne (by omega)]
      have e3 : gx k = gtb k := if_pos (by omega)
      have e4 : ax k = fun _ => 0 := by unfold ax; rw [if_neg (by omega), if_neg (by omega), if_neg (by omega), if_neg (by omega)]
      rw [e1, e2, e3, e4]
      refine ⟨q5 k hc.1 hc.2, fun _ => ?_⟩
      by_cases h31 : k = 31
      · subst h31; rw [q3, hA1]; rfl
      · exact q4 k (by omega) hc.2
    · exact ⟨u37, fun _ => by rw [uA _ (by decide) (by decide), hA3]; show A2 37 = _; rw [p37.1, hA1]; rfl⟩
    · exact ⟨by rw [uG _ (by decide) (by decide), hG3]; rfl, fun _ => by rw [uA _ (by decide) (by decide), hA3]; rfl⟩
    · exact ⟨by rw [uG _ (by decide) (by decide), hG3]; rfl, fun _ => by rw [uA _ (by decide) (by decide), hA3]; rfl⟩
    · exact ⟨s4, fun _ => by rw [s3, hA3]; rfl⟩
    · exact ⟨by rw [uG _ (by decide) (by decide), hG3]; rfl, fun _ => by rw [uA _ (by decide) (by decide), hA3]; rfl⟩
    · exact ⟨by rw [uG _ (by decide) (by decide), hG3]; rfl, fun _ => by rw [uA _ (by decide) (by decide), hA3]; rfl⟩
    · exact ⟨s5, fun q => absurd rfl q⟩
  · unfold dA at hD
    rw [uG k (by omega) (by omega), hG3, gu_o (by omega), gu_o (by omega), gu_o (by omega), gu_o (by omega), gu_o (by omega)]
    exact kf k a (by omega) (by omega) b
  · rw [m0.1, hA3]
    show A2 0 = _
    rw [p0.1, hA1]
    show upd (A 0) 5 1 = _
    rw [hA]; rfl
  · show ar R4 37 0 (some 80) 0 4 = _
    rw [ar_ne (by decide), m0.2.1, hR3]
    show R2 0 4 = _
    rw [p0.2.1, hR1]; rfl
  · show ar R4 37 0 (some 80) 0 6 = _
    rw [ar_ne (by decide), m0.2.1, hR3]; rfl
  · show ar R4 37 0 (some 80) 0 7 = _
    rw [ar_ne (by decide), m0.2.1, hR3]; rfl
  · show ar R4 37 0 (some 80) 0 8 = _
    rw [ar_ne (by decide), m0.2.1, hR3]; rfl
  · exact ar_at
set_option maxRecDepth 100000 in
theorem lX4_b1 (hD : iX D A G) (hn : ∀ k, 1 ≤ k → k ≤ 10 → ¬ D k) (h : ∀ A' R' G', iX (fun k => D k ∨ (1 ≤ k ∧ k ≤ 10)) A' G' → (∀ o k, ¬ (1 ≤ o ∧ o ≤ 10) → ¬ (o = 0 ∧ k = 0) → R' o k = R o k) → R' 0 0 = some 1 → R' 1 14 = some 80 → bw tX4_init E (23, 1363) 109 [some (.ref 0), some (.ref 81), some (.ref 82), some (.ref 80), none] [] (A', R', G')) : bw tX4_init E (13, 1288) 97 [some (.ref 0), some (.ref 81), some (.ref 82), some (.ref 80), none] [] (A, R, G) := by
  have hk := kX4_init
  obtain ⟨h0, hd, hf, hA⟩ := hD
  have g : ∀ k, 1 ≤ k → k ≤ 10 → G k = (0, 0) := fun k a b => hf k (hn k a b) (by omega) (by omega)
  refine r_al hk rfl rfl ?_
  refine r_new hk rfl 1 (by decide) (g 1 (by decide) (by decide)) (by decide) (by decide) rfl ?_
  refine r_dup hk rfl rfl ?_
  refine r_al hk rfl rfl ?_
  obtain ⟨A', R', G', q1, q2, q3, q4, q5, q6, q7⟩ := qX0_init (b := 1) (t := 80) (A := ap A 1 (fun _ => 0)) (R := rp R 1 (fun _ => none)) (G := gu G 1 (0, 1)) (by decide) gu_at (fun j hj => by rw [gu_o (by omega)]; exact g _ (by omega) (by omega))
  refine r_bcI (t := [.ref 1, .ref 0]) hk rfl rfl (show gu G 1 (0, 1) 1 = _ from gu_at) (Nat.le_of_ble_eq_true rfl) q1 (by decide) (by decide) rfl ?_
  have e0 := q2 0 (by omega)
  refine r_pwR hk rfl (by rw [e0.2.2, gu_o (by decide)]; exact h0) ?_
  have fr1 : ∀ o, ¬ (1 ≤ o ∧ o ≤ 10) → A' o = A o ∧ R' o = R o ∧ G' o = G o := fun o ho => by
    obtain ⟨x1, x2, x3⟩ := q2 o ho
    exact ⟨x1.trans (ap_ne (by omega)), x2.trans (rp_o (by omega)), x3.trans (gu_o (by omega))⟩
  refine h _ _ _ ⟨(fr1 0 (by omega)).2.2.trans h0, fun k hk' k0 => ?_, fun k hk' k0 k1 => ?_, (fr1 0 (by omega)).1.trans hA⟩ (fun o k ho hk' => ?_) ar_at ?_
  · by_cases w : 1 ≤ k ∧ k ≤ 10
    · have e1 : gx k = gtb k := if_pos (by omega)
      have e2 : ax k = fun _ => 0 := by unfold ax; rw [if_neg (by omega), if_neg (by omega), if_neg (by omega), if_neg (by omega)]
      rw [e1, e2]
      by_cases wb : k = 1
      · subst wb
        exact ⟨q6.trans rfl, fun _ => by rw [q3, ap_eq]⟩
      · obtain ⟨j, rfl⟩ : ∃ j, k = 1 + 1 + j := ⟨k - 2, by omega⟩
        have hj : j < 9 := by omega
        refine ⟨(q7 j hj).trans ?_, fun _ => q4 j hj⟩
        have k9 : j = 0 ∨ j = 1 ∨ j = 2 ∨ j = 3 ∨ j = 4 ∨ j = 5 ∨ j = 6 ∨ j = 7 ∨ j = 8 := by omega
        rcases k9 with rfl | rfl | rfl | rfl | rfl | rfl | rfl | rfl | rfl <;> rfl
    · obtain ⟨x1, x2, x3⟩ := fr1 k w
      have := hd k (hk'.resolve_right w) k0
      exact ⟨x3.trans this.1, fun q => x1.trans (this.2 q)⟩
  · have w : ¬ (1 ≤ k ∧ k ≤ 10) := fun q => hk' (Or.inr q)
    exact (fr1 k w).2.2.trans (hf k (fun q => hk' (Or.inl q)) k0 k1)
  · rw [← (fr1 o ho).2.1]
    exact if_neg hk'
  · show ar R' 0 0 (some 1) 1 14 = _
    rw [ar_ne (by decide)]; exact q5
set_option maxRecDepth 100000 in
theorem lX4_b11 (hD : iX D A G) (hn : ∀ k, 11 ≤ k → k ≤ 20 → ¬ D k) (h : ∀ A' R' G', iX (fun k => D k ∨ (11 ≤ k ∧ k ≤ 20)) A' G' → (∀ o k, ¬ (11 ≤ o ∧ o ≤ 20) → ¬ (o = 0 ∧ k = 1) → R' o k = R o k) → R' 0 1 = some 11 → R' 11 14 = some 80 → bw tX4_init E (33, 1438) 121 [some (.ref 0), some (.ref 81), some (.ref 82), some (.ref 80), none] [] (A', R', G')) : bw tX4_init E (23, 1363) 109 [some (.ref 0), some (.ref 81), some (.ref 82), some (.ref 80), none] [] (A, R, G) := by
  have hk := kX4_init
  obtain ⟨h0, hd, hf, hA⟩ := hD
  have g : ∀ k, 11 ≤ k → k ≤ 20 → G k = (0, 0) := fun k a b => hf k (hn k a b) (by omega) (by omega)
  refine r_al hk rfl rfl ?_
  refine r_new hk rfl 11 (by decide) (g 11 (by decide) (by decide)) (by decide) (by decide) rfl ?_
  refine r_dup hk rfl rfl ?_
  refine r_al hk rfl rfl ?_
  obtain ⟨A', R', G', q1, q2, q3, q4, q5, q6, q7⟩ := qX0_init (b := 11) (t := 80) (A := ap A 11 (fun _ => 0)) (R := rp R 11 (fun _ => none)) (G := gu G 11 (0, 1)) (by decide) gu_at (fun j hj => by rw [gu_o (by omega)]; exact g _ (by omega) (by omega))
  refine r_bcI (t := [.ref 11, .ref 0]) hk rfl rfl (show gu G 11 (0, 1) 11 = _ from gu_at) (Nat.le_of_ble_eq_true rfl) q1 (by decide) (by decide) rfl ?_
  have e0 := q2 0 (by omega)
  refine r_pwR hk rfl (by rw [e0.2.2, gu_o (by decide)]; exact h0) ?_
  have fr1 : ∀ o, ¬ (11 ≤ o ∧ o ≤ 20) → A' o = A o ∧ R' o = R o ∧ G' o = G o := fun o ho => by
    obtain ⟨x1, x2, x3⟩ := q2 o ho
    exact ⟨x1.trans (ap_ne (by omega)), x2.trans (rp_o (by omega)), x3.trans (gu_o (by omega))⟩
  refine h _ _ _ ⟨(fr1 0 (by omega)).2.2.trans h0, fun k hk' k0 => ?_, fun k hk' k0 k1 => ?_, (fr1 0 (by omega)).1.trans hA⟩ (fun o k ho hk' => ?_) ar_at ?_
  · by_cases w : 11 ≤ k ∧ k ≤ 20
    · have e1 : gx k = gtb k := if_pos (by omega)
      have e2 : ax k = fun _ => 0 := by unfold ax; rw [if_neg (by omega), if_neg (by omega), if_neg (by omega), if_neg (by omega)]
      rw [e1, e2]
      by_cases wb : k = 11
      · subst wb
        exact ⟨q6.trans rfl, fun _ => by rw [q3, ap_eq]⟩
      · obtain ⟨j, rfl⟩ : ∃ j, k = 11 + 1 + j := ⟨k - 12, by omega⟩
        have hj : j < 9 := by omega
        refine ⟨(q7 j hj).trans ?_, fun _ => q4 j hj⟩
        have k9 : j = 0 ∨ j = 1 ∨ j = 2 ∨ j = 3 ∨ j = 4 ∨ j = 5 ∨ j = 6 ∨ j = 7 ∨ j = 8 := by omega
        rcases k9 with rfl | rfl | rfl | rfl | rfl | rfl | rfl | rfl | rfl <;> rfl
    · obtain ⟨x1, x2, x3⟩ := fr1 k w
      have := hd k (hk'.resolve_right w) k0
      exact ⟨x3.trans this.1, fun q => x1.trans (this.2 q)⟩
  · have w : ¬ (11 ≤ k ∧ k ≤ 20) := fun q => hk' (Or.inr q)
    exact (fr1 k w).2.2.trans (hf k (fun q => hk' (Or.inl q)) k0 k1)
  · rw [← (fr1 o ho).2.1]
    exact if_neg hk'
  · show ar R' 0 1 (some 11) 11 14 = _
    rw [ar_ne (by decide)]; exact q5
set_option maxRecDepth 100000 in
theorem lX4_b21 (hD : iX D A G) (hn : ∀ k, 21 ≤ k → k ≤ 30 → ¬ D k) (h : ∀ A' R' G', iX (fun k => D k ∨ (21 ≤ k ∧ k ≤ 30)) A' G' → (∀ o k, ¬ (21 ≤ o ∧ o ≤ 30) → ¬ (o = 0 ∧ k = 2) → R' o k = R o k) → R' 0 2 = some 21 → R' 21 14 = some 80 → bw tX4_init E (43, 1513) 133 [some (.ref 0), some (.ref 81), some (.ref 82), some (.ref 80), none] [] (A', R', G')) : bw tX4_init E (33, 1438) 121 [some (.ref 0), some (.ref 81), some (.ref 82), some (.ref 80), none] [] (A, R, G) := by
  have hk := kX4_init
  obtain ⟨h0, hd, hf, hA⟩ := hD
  have g : ∀ k, 21 ≤ k → k ≤ 30 → G k = (0, 0) := fun k a b => hf k (hn k a b) (by omega) (by omega)
  refine r_al hk rfl rfl ?_
  refine r_new hk rfl 21 (by decide) (g 21 (by decide) (by decide)) (by decide) (by decide) rfl ?_
  refine r_dup hk rfl rfl ?_
  refine r_al hk rfl rfl ?_
  obtain ⟨A', R', G', q1, q2, q3, q4, q5, q6, q7⟩ := qX0_init (b := 21) (t := 80) (A := ap A 21 (fun _ => 0)) (R := rp R 21 (fun _ => none)) (G := gu G 21 (0, 1)) (by decide) gu_at (fun j hj => by rw [gu_o (by omega)]; exact g _ (by omega) (by omega))
  refine r_bcI (t := [.ref 21, .ref 0]) hk rfl rfl (show gu G 21 (0, 1) 21 = _ from gu_at) (Nat.le_of_ble_eq_true rfl) q1 (by decide) (by decide) rfl ?_
  have e0 := q2 0 (by omega)
  refine r_pwR hk rfl (by rw [e0.2.2, gu_o (by decide)]; exact h0) ?_
  have fr1 : ∀ o, ¬ (21 ≤ o ∧ o ≤ 30) → A' o = A o ∧ R' o = R o ∧ G' o = G o := fun o ho => by
    obtain ⟨x1, x2, x3⟩ := q2 o ho
    exact ⟨x1.trans (ap_ne (by omega)), x2.trans (rp_o (by omega)), x3.trans (gu_o (by omega))⟩
  refine h _ _ _ ⟨(fr1 0 (by omega)).2.2.trans h0, fun k hk' k0 => ?_, fun k hk' k0 k1 => ?_, (fr1 0 (by omega)).1.trans hA⟩ (fun o k ho hk' => ?_) ar_at ?_
  · by_cases w : 21 ≤ k ∧ k ≤ 30
    · have e1 : gx k = gtb k := if_pos (by omega)
      have e2 : ax k = fun _ => 0 := by unfold ax; rw [if_neg (by omega), if_neg (by omega), if_neg (by omega), if_neg (by omega)]
      rw [e1, e2]
      by_cases wb : k = 21
      · subst wb
        exact ⟨q6.trans rfl, fun _ => by rw [q3, ap_eq]⟩
      · obtain ⟨j, rfl⟩ : ∃ j, k = 21 + 1 + j := ⟨k - 22, by omega⟩
        have hj : j < 9 := by omega
        refine ⟨(q7 j hj).trans ?_, fun _ => q4 j hj⟩
        have k9 : j = 0 ∨ j = 1 ∨ j = 2 ∨ j = 3 ∨ j = 4 ∨ j = 5 ∨ j = 6 ∨ j = 7 ∨ j = 8 := by omega
        rcases k9 with rfl | rfl | rfl | rfl | rfl | rfl | rfl | rfl | rfl <;> rfl
    · obtain ⟨x1, x2, x3⟩ := fr1 k w
      have := hd k (hk'.resolve_right w) k0
      exact ⟨x3.trans this.1, fun q => x1.trans (this.2 q)⟩
  · have w : ¬ (21 ≤ k ∧ k ≤ 30) := fun q => hk' (Or.inr q)
    exact (fr1 k w).2.2.trans (hf k (fun q => hk' (Or.inl q)) k0 k1)
  · rw [← (fr1 o ho).2.1]
    exact if_neg hk'
  · show ar R' 0 2 (some 21) 21 14 = _
    rw [ar_ne (by decide)]; exact q5
set_option maxRecDepth 100000 in
theorem lX4_s {s : Nat} (hs : s < 4) (hD : iX D A G) (hn : ¬ D (40 + 2 * s)) (hn1 : ¬ D (41 + 2 * s)) (h38 : D 38) (h7 : R 0 7 = some 38) (hc1 : c.1 + 2 ≤ 51) (hc2 : c.2 + 43 ≤ 1685) (h : ∀ A' R' G', iX (fun k => D k ∨ k = 40 + 2 * s ∨ k = 41 + 2 * s) A' G' → (∀ o k, ¬ o = 40 + 2 * s → ¬ o = 41 + 2 * s → ¬ (o = 38 ∧ k = s) → R' o k = R o k) → R' 38 s = some (40 + 2 * s) → bw tX4_init E (c.1 + 2, c.2 + 43) 136 [some (.ref 0), some (.ref 81), some (.ref 82), some (.ref 80), some (.int (nI (s + 1)))] [] (A', R', G')) : bw tX4_init E c 136 [some (.ref 0), some (.ref 81), some (.ref 82), some (.ref 80), some (.int (nI s))] [] (A, R, G) := by
  have hk := kX4_init
  obtain ⟨h0, hd, hf, hA⟩ := hD
  have g0 : G (40 + 2 * s) = (0, 0) := hf _ hn (by omega) (by omega)
  have g1 : G (41 + 2 * s) = (0, 0) := hf _ hn1 (by omega) (by omega)
  have g38 : G 38 = (3, 4) := (hd 38 h38 (by decide)).1
  refine r_il hk rfl rfl ?_
  refine r_ii hk rfl ?_
  refine r_icF hk rfl (nI_ge (a := s) (b := 4) hs (by omega)) ?_
  refine r_al hk rfl rfl ?_
  refine r_gwR hk rfl h0 h7 ?_
  refine r_il hk rfl rfl ?_
  refine r_new hk rfl (40 + 2 * s) (by omega) g0 (by omega) (by omega) rfl ?_
  refine r_dup hk rfl rfl ?_
  obtain ⟨A', R', G', q1, q2, q3, q4, q5, q6⟩ := qX2_init (b := 40 + 2 * s) (A := ap A (40 + 2 * s) (fun _ => 0)) (R := rp R (40 + 2 * s) (fun _ => none)) (G := gu G (40 + 2 * s) (0, 3)) (by omega) gu_at (by rw [gu_o (by omega), show 40 + 2 * s + 1 = 41 + 2 * s by omega]; exact g1)
  refine r_bcI (t := [.ref (40 + 2 * s), .int (nI s), .ref 38]) hk rfl rfl (show gu G (40 + 2 * s) (0, 3) (40 + 2 * s) = _ from gu_at) (Nat.le_of_ble_eq_true rfl) q1 (by show c.1 + 1 + 1 ≤ 51; omega) (by show c.2 + 3 + 40 ≤ 1685; omega) rfl ?_
  have fr1 : ∀ o, ¬ o = 40 + 2 * s → ¬ o = 41 + 2 * s → A' o = A o ∧ R' o = R o ∧ G' o = G o := fun o a b => by
    obtain ⟨x1, x2, x3⟩ := q2 o (by omega)
    exact ⟨x1.trans (ap_ne a), x2.trans (rp_o a), x3.trans (gu_o a)⟩
  have f38 := fr1 38 (by omega) (by omega)
  refine r_ast (j := s) hk rfl (by rw [f38.2.2]; exact g38) (by rw [q5]) (vp_in_nI (by omega) (by omega)) (nI_clamp (by omega)) ?_
  refine r_inc hk rfl rfl ?_
  rw [nI_1]
  refine r_go hk rfl ?_
  refine h _ _ _ ⟨(fr1 0 (by omega) (by omega)).2.2.trans h0, fun k hk' k0 => ?_, fun k hk' k0 k1 => ?_, (fr1 0 (by omega) (by omega)).1.trans hA⟩ (fun o k ho ho1 hk' => ?_) ar_at
  · by_cases w : k = 40 + 2 * s
    · subst w
      have s4 : s = 0 ∨ s = 1 ∨ s = 2 ∨ s = 3 := by omega
      refine ⟨q5.trans ?_, fun _ => q3.trans ?_⟩
      · rcases s4 with rfl | rfl | rfl | rfl <;> rfl
      · rw [ap_eq]; rcases s4 with rfl | rfl | rfl | rfl <;> rfl
    · by_cases w1 : k = 41 + 2 * s
      · subst w1
        have s4 : s = 0 ∨ s = 1 ∨ s = 2 ∨ s = 3 := by omega
        rw [show 40 + 2 * s + 1 = 41 + 2 * s by omega] at q4 q6
        refine ⟨q6.trans ?_, fun _ => q4.trans ?_⟩
        · rcases s4 with rfl | rfl | rfl | rfl <;> rfl
        · rcases s4 with rfl | rfl | rfl | rfl <;> rfl
      · obtain ⟨x1, x2, x3⟩ := fr1 k w w1
        have := hd k (hk'.resolve_right (fun q => q.elim w w1)) k0
        exact ⟨x3.trans this.1, fun q => x1.trans (this.2 q)⟩
  · have w : ¬ k = 40 + 2 * s := fun q => hk' (Or.inr (Or.inl q))
    have w1 : ¬ k = 41 + 2 * s := fun q => hk' (Or.inr (Or.inr q))
    exact (fr1 k w w1).2.2.trans (hf k (fun q => hk' (Or.inl q)) k0 k1)
  · rw [← (fr1 o ho ho1).2.1]
    exact if_neg hk'
/-- the class's constructor -/
theorem qX4_init (h0 : G 0 = (0, 5)) (hf : ∀ k, ¬ k = 0 → k < 1000 → G k = (0, 0)) (hA : A 0 = fun _ => 0) : ∃ A' R' G', CX4_init [.ref 0] (A, R, G) none (A', R', G') ∧ (∀ k, (k < 48 ∨ (80 ≤ k ∧ k ≤ 83)) → G' k = gx k) ∧ (∀ k, k < 1000 → ¬ k < 48 → ¬ (80 ≤ k ∧ k ≤ 83) → G' k = (0, 0)) ∧ (∀ k, (k < 48 ∨ (80 ≤ k ∧ k ≤ 82)) → A' k = ax k) ∧ R' 37 0 = some 80 ∧ (∀ s, s < 4 → R' 38 s = some (40 + 2 * s)) ∧ R' 1 14 = some 80 := by
  have hk := kX4_init
  obtain ⟨r, ⟨A', R', G'⟩, q1, q2, q4⟩ : ∃ (r1 : Option Value) (μ1 : aM), bCl tX4_init 5 51 1685 [.ref 0] (A, R, G) r1 μ1 ∧ (r1 = none ∧ (∀ k, (k < 48 ∨ (80 ≤ k ∧ k ≤ 83)) → μ1.2.2 k = gx k) ∧ (∀ k, k < 1000 → ¬ k < 48 → ¬ (80 ≤ k ∧ k ≤ 83) → μ1.2.2 k = (0, 0)) ∧ (∀ k, (k < 48 ∨ (80 ≤ k ∧ k ≤ 82)) → μ1.1 k = ax k) ∧ μ1.2.1 37 0 = some 80 ∧ (∀ s, s < 4 → μ1.2.1 38 s = some (40 + 2 * s)) ∧ μ1.2.1 1 14 = some 80) := by
    refine bC_ex kX4_init (Nat.le_of_ble_eq_true rfl) ?_
    show bw tX4_init _ (0, 0) 0 [some (.ref 0), none, none, none, none] [] (A, R, G)
    refine lX4_a h0 hf hA fun A1 R1 G1 i1 r1 => ?_
    refine lX4_b1 i1 (fun k a b => by unfold dA; omega) fun A2 R2 G2 i2 r2 x2 y2 => ?_
    refine lX4_b11 i2 (fun k a b => by unfold dA; omega) fun A3 R3 G3 i3 r3 x3 y3 => ?_
    refine lX4_b21 i3 (fun k a b => by unfold dA; omega) fun A4 R4 G4 i4 r4 x4 y4 => ?_
    refine r_ii hk rfl ?_
    refine r_is hk rfl ?_
    have e7 : R4 0 7 = some 38 := by rw [r4 0 7 (by omega) (by omega), r3 0 7 (by omega) (by omega), r2 0 7 (by omega) (by omega)]; exact r1.2.2.1
    refine lX4_s (s := 0) (c := (43, 1513)) (by decide) i4 (by unfold dA; omega) (by unfold dA; omega) (by unfold dA; omega) e7 (by decide) (by decide) fun A5 R5 G5 i5 r5 x5 => ?_
    have f7 : R5 0 7 = some 38 := by rw [r5 0 7 (by omega) (by omega) (by omega)]; exact e7
    refine lX4_s (s := 1) (c := (45, 1556)) (by decide) i5 (by unfold dA; omega) (by unfold dA; omega) (by unfold dA; omega) f7 (by decide) (by decide) fun A6 R6 G6 i6 r6 x6 => ?_
    have g7 : R6 0 7 = some 38 := by rw [r6 0 7 (by omega) (by omega) (by omega)]; exact f7
    refine lX4_s (s := 2) (c := (47, 1599)) (by decide) i6 (by unfold dA; omega) (by unfold dA; omega) (by unfold dA; omega) g7 (by decide) (by decide) fun A7 R7 G7 i7 r7 x7 => ?_
    have h7 : R7 0 7 = some 38 := by rw [r7 0 7 (by omega) (by omega) (by omega)]; exact g7
    refine lX4_s (s := 3) (c := (49, 1642)) (by decide) i7 (by unfold dA; omega) (by unfold dA; omega) (by unfold dA; omega) h7 (by decide) (by decide) fun A8 R8 G8 i8 r8 x8 => ?_
    refine r_il hk rfl rfl ?_
    refine r_ii hk rfl ?_
    refine r_icT hk rfl (nI_le (a := 4) (b := 4) (by omega) (by omega)) ?_
    have p8 : ∀ k, R8 0 k = R4 0 k := fun k => by rw [r8 0 k (by omega) (by omega) (by omega), r7 0 k (by omega) (by omega) (by omega), r6 0 k (by omega) (by omega) (by omega), r5 0 k (by omega) (by omega) (by omega)]
    have p4 : ∀ k, 3 ≤ k → R8 0 k = R1 0 k := fun k hk => by rw [p8, r4 0 k (by omega) (by omega), r3 0 k (by omega) (by omega), r2 0 k (by omega) (by omega)]
    have p2 : R8 0 2 = some 21 := (p8 2).trans x4
    have p1 : R8 0 1 = some 11 := (p8 1).trans ((r4 0 1 (by omega) (by omega)).trans x3)
    have p0 : R8 0 0 = some 1 := (p8 0).trans ((r4 0 0 (by omega) (by omega)).trans ((r3 0 0 (by omega) (by omega)).trans x2))
    obtain ⟨d0, dd, df, dA0⟩ := i8
    refine r_mk hk rfl 0 d0 (fun k j hk hj => ?_) ?_
    · have hk : k < 9 := hk
      show R8 0 k = some (0 + j)
      have k9 : k = 0 ∨ k = 1 ∨ k = 2 ∨ k = 3 ∨ k = 4 ∨ k = 5 ∨ k = 6 ∨ k = 7 ∨ k = 8 := by omega
      rcases k9 with rfl | rfl | rfl | rfl | rfl | rfl | rfl | rfl | rfl
      · have hj : 3 = j + 2 := hj
        rw [show j = 1 by omega]; exact p0
      · have hj : 13 = j + 2 := hj
        rw [show j = 11 by omega]; exact p1
      · have hj : 23 = j + 2 := hj
        rw [show j = 21 by omega]; exact p2
      · have hj : 0 = j + 2 := hj
        omega
      · have hj : 39 = j + 2 := hj
        rw [show j = 37 by omega]; exact (p4 4 (by decide)).trans r1.1
      · have hj : 0 = j + 2 := hj
        omega
      · have hj : 33 = j + 2 := hj
        rw [show j = 31 by omega]; exact (p4 6 (by decide)).trans r1.2.1
      · have hj : 40 = j + 2 := hj
        rw [show j = 38 by omega]; exact (p4 7 (by decide)).trans r1.2.2.1
      · have hj : 41 = j + 2 := hj
        rw [show j = 39 by omega]; exact (p4 8 (by decide)).trans r1.2.2.2.1
    · unfold b_rv
      refine ⟨⟨rfl, fun k w => ?_, fun k a b w => ?_, fun k w => ?_, ?_, fun s hs => ?_, ?_⟩, by decide, by decide⟩
      · by_cases k0 : k = 0
        · subst k0; exact (show gu G8 0 (8, 0) 0 = (8, 0) from gu_at)
        · refine (gu_o k0).trans (dd k ?_ k0).1
          unfold dA
          omega
      · refine (gu_o (by omega)).trans (df k ?_ (by omega) a)
        unfold dA
        omega
      · by_cases k0 : k = 0
        · subst k0; exact dA0
        · refine (dd k ?_ k0).2 (by omega)
          unfold dA
          omega
      · show R8 37 0 = _
        rw [r8 37 0 (by omega) (by omega) (by omega), r7 37 0 (by omega) (by omega) (by omega), r6 37 0 (by omega) (by omega) (by omega), r5 37 0 (by omega) (by omega) (by omega), r4 37 0 (by omega) (by omega), r3 37 0 (by omega) (by omega), r2 37 0 (by omega) (by omega)]
        exact r1.2.2.2.2
      · show R8 38 s = _
        have s4 : s = 0 ∨ s = 1 ∨ s = 2 ∨ s = 3 := by omega
        rcases s4 with rfl | rfl | rfl | rfl
        · rw [r8 38 0 (by omega) (by omega) (by omega), r7 38 0 (by omega) (by omega) (by omega), r6 38 0 (by omega) (by omega) (by omega)]; exact x5
        · rw [r8 38 1 (by omega) (by omega) (by omega), r7 38 1 (by omega) (by omega) (by omega)]; exact x6
        · rw [r8 38 2 (by omega) (by omega) (by omega)]; exact x7
        · exact x8
      · show R8 1 14 = _
        rw [r8 1 14 (by omega) (by omega) (by omega), r7 1 14 (by omega) (by omega) (by omega), r6 1 14 (by omega) (by omega) (by omega), r5 1 14 (by omega) (by omega) (by omega), r4 1 14 (by omega) (by omega), r3 1 14 (by omega) (by omega)]
        exact y2
  subst q2
  exact ⟨A', R', G', ⟨trivial, q1⟩, q4⟩
end S2
