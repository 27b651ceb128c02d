section MB
variable {A : Nat → Nat → Int32} {R : Nat → Nat → Option Nat} {G : Nat → Nat × Nat} {Λ : aLm}
theorem if1_le (u : Int32) : (if (1 : Int32) ≤ u then u else 1) = if (1 : Int32) ≤ u then u else 1 := rfl
theorem qX5_takesOf (hG : aGS G) (hL : LMA A Λ) {p c : Nat} (hp : p < 6) (hc : c < 8) : ∃ A', jM A A' ∧ CX5_takesOf [.ref 48, .int (nI p), .int (nI c)] (A, R, G) (some (.int (takV Λ (vM A) p c))) (A', R, G) := by
  obtain ⟨A', hj, hC⟩ := qX5_asksOf (R := R) hG hL (part := 1) (by omega) hp hc
  refine ⟨A', hj, aC_of (Nat.le_of_ble_eq_true rfl) fun E hE => ?_⟩
  refine sX5_takesOf_0 hG (nI p) (nI c) ⟨_, _, hC, ?_⟩
  refine sX5_takesOf_7 hG (nI p) _ _ _ _ ?_
  simp (disch := omega) only [nI_clamp]
  refine ⟨vp_in_nI hp (by omega), ?_⟩
  have h1 : A' 49 p = vM A 0 p := by rw [← hj.v]; rfl
  have h2 : A' 50 p = vM A 1 p := by rw [← hj.v]; rfl
  rw [h1, h2]
  unfold takV at hE
  repeat' (first | refine And.intro ?_ ?_ | intro _)
  all_goals (refine aE_e hE ?_; simp_all)
  all_goals (intro h; rename_i q; exact absurd h (Int32.not_le.mpr q))
theorem qX5_judgesOf (hG : aGS G) (hL : LMA A Λ) {p c : Nat} (hp : p < 6) (hc : c < 8) : ∃ A', jM A A' ∧ CX5_judgesOf [.ref 48, .int (nI p), .int (nI c)] (A, R, G) (some (.int (judV Λ (vM A) p c))) (A', R, G) := by
  obtain ⟨A', hj, hC⟩ := qX5_asksOf (R := R) hG hL (part := 2) (by omega) hp hc
  refine ⟨A', hj, aC_of (Nat.le_of_ble_eq_true rfl) fun E hE => ?_⟩
  refine sX5_judgesOf_0 hG (nI p) (nI c) ⟨_, _, hC, ?_⟩
  refine sX5_judgesOf_7 hG (nI p) _ _ _ ?_
  simp (disch := omega) only [nI_clamp]
  refine ⟨vp_in_nI hp (by omega), ?_⟩
  have h1 : A' 49 p = vM A 0 p := by rw [← hj.v]; rfl
  have h2 : A' 50 p = vM A 1 p := by rw [← hj.v]; rfl
  rw [h1, h2]
  unfold judV at hE
  repeat' (first | refine And.intro ?_ ?_ | intro _)
  all_goals (refine aE_e hE ?_; simp_all)
theorem qX5_can (hG : aGS G) (hL : LMA A Λ) {p c : Nat} (hp : p < 6) (hc : c < 8) : ∃ A', jM A A' ∧ CX5_can [.ref 48, .int (nI p), .int (nI c)] (A, R, G) (some (.int (bI (canV Λ (vM A) p c)))) (A', R, G) := by
  by_cases hb : A 51 (3 * p + 2) = 0
  · obtain ⟨A', hj, hC⟩ := qX5_may (R := R) hG hL hp hc
    refine ⟨A', hj, aC_of (Nat.le_of_ble_eq_true rfl) fun E hE => ?_⟩
    refine sX5_can_0 hG (nI p) (nI c) ?_
    simp (disch := omega) only [nI_mul3, nI_clamp, show (2 : Int32) = nI 2 from rfl, nI_add]
    refine ⟨vp_in_nI (by omega) (by omega), fun _ => ⟨_, _, hC, sX5_can_19 _ _ _ ⟨fun h => ?_, fun h => ?_⟩⟩, fun h => absurd hb h⟩
    · exact aE_n hE fun q => bI_ne q.2 h
    · exact aE_b hE ⟨hb, Classical.byContradiction fun q => h (bI_f q)⟩
  · refine ⟨A, jM.rf, aC_of (Nat.le_of_ble_eq_true rfl) fun E hE => ?_⟩
    refine sX5_can_0 hG (nI p) (nI c) ?_
    simp (disch := omega) only [nI_mul3, nI_clamp, show (2 : Int32) = nI 2 from rfl, nI_add]
    exact ⟨vp_in_nI (by omega) (by omega), fun h => absurd h hb, fun _ => aE_n hE fun q => hb q.1⟩
/-- what a day may change -/
def jD (A A' : Nat → Nat → Int32) : Prop := (∀ o, ¬ o = 48 → ¬ o = 51 → ¬ o = 52 → ¬ o = 64 → ¬ o = 65 → A' o = A o) ∧ ∀ k, ¬ k = 5 → ¬ k = 6 → A' 48 k = A 48 k
theorem jD.rf {A : Nat → Nat → Int32} : jD A A := ⟨fun _ _ _ _ _ _ => rfl, fun _ _ _ => rfl⟩
theorem jD.tr {A B C : Nat → Nat → Int32} (h : jD A B) (k : jD B C) : jD A C := ⟨fun o h1 h2 h3 h4 h5 => (k.1 o h1 h2 h3 h4 h5).trans (h.1 o h1 h2 h3 h4 h5), fun j h1 h2 => (k.2 j h1 h2).trans (h.2 j h1 h2)⟩
theorem jM.d {A B : Nat → Nat → Int32} (h : jM A B) : jD A B := ⟨fun o _ _ _ h4 h5 => h o h4 h5, fun k _ _ => by rw [h 48 (by decide) (by decide)]⟩
theorem jD.L {A A' : Nat → Nat → Int32} (h : jD A A') (hL : LMA A Λ) : LMA A' Λ := hL.go (h.1 54 (by decide) (by decide) (by decide) (by decide) (by decide)) (h.1 55 (by decide) (by decide) (by decide) (by decide) (by decide)) (h.2 12 (by decide) (by decide))
theorem jD.a51 {k : Nat} {x : Int32} : jD A (au A 51 k x) := ⟨fun _ _ h _ _ _ => au_o h, fun _ _ _ => by rw [au_o (by decide)]⟩
theorem jD.a52 {k : Nat} {x : Int32} : jD A (au A 52 k x) := ⟨fun _ _ _ h _ _ => au_o h, fun _ _ _ => by rw [au_o (by decide)]⟩
theorem jD.a48 {k : Nat} {x : Int32} (hk : k = 5 ∨ k = 6) : jD A (au A 48 k x) := ⟨fun _ h _ _ _ _ => au_o h, fun j h5 h6 => au_j (by omega)⟩
theorem qX5_hears (hG : aGS G) (hL : LMA A Λ) {p c : Nat} (hp : p < 6) (hc : c < 8) : ∃ A', (jD A A' ∧ vM A' = holV Λ (vM A) p c) ∧ CX5_hears [.ref 48, .int (nI p), .int (nI c)] (A, R, G) (some (.int (judV Λ (vM A) p c))) (A', R, G) := by
  obtain ⟨A1, hj1, hC1⟩ := qX5_judgesOf (R := R) hG hL hp hc
  obtain ⟨A2, hj2, hC2⟩ := qX5_takesOf (R := R) hG (hj1.L hL) hp hc
  rw [hj1.v] at hC2
  have hj := hj1.tr hj2
  refine aC_exA vX5_hears (Nat.le_of_ble_eq_true rfl) fun E hE => ?_
  refine sX5_hears_0 hG (nI p) (nI c) ⟨_, _, hC1, ?_⟩
  refine sX5_hears_6 hG (nI p) (nI c) _ _ _ _ ⟨_, _, hC2, ?_⟩
  refine sX5_hears_13 hG (nI p) (nI c) _ _ _ _ ?_
  simp (disch := omega) only [nI_mul3, nI_clamp, show (2 : Int32) = nI 2 from rfl, nI_add, nI_1]
  refine ⟨vp_in_nI (by omega) (by omega), vp_in_nI (by omega) (by omega), vp_in_nI (by omega) (by omega), fun v4 hv4 => ⟨vp_in_nI (by omega) (by omega), ?_⟩⟩
  refine sX5_hears_93 hG _ (nI c) _ _ _ ?_
  simp (disch := omega) only [nI_mul3, nI_clamp]
  refine ⟨vp_in_nI (by omega) (by omega), ?_⟩
  refine hE _ ⟨?_, ?_⟩
  · exact ((((hj.d.tr jD.a51).tr jD.a51).tr jD.a51).tr jD.a52).tr (jD.a48 (Or.inr rfl))
  · rw [vM_8 (Or.inr (Or.inr ⟨rfl, rfl⟩)), vM_5, vM_3, vM_2, vM_4, hj.v]
    have e2 : A2 51 (3 * p) = vM A 2 p := by rw [← hj.v]; rfl
    have e5 : A2 52 (3 * c) = vM A 5 c := by rw [← hj.v]; rfl
    have e3 : A2 51 (3 * p + 1) = vM A 3 p := by rw [← hj.v]; rfl
    have e8 : A2 48 6 = vM A 8 2 := by rw [← hj.v]; rfl
    have e4 : v4 = losV (vM A) p c := by
      rw [hv4, au_j (by omega), e2, e5]
      rfl
    rw [au_j (A := au A2 51 (3 * p + 2) (takV Λ (vM A) p c)) (k' := 3 * p + 1) (by omega), au_j (A := A2) (k' := 3 * p + 1) (by omega), e3, e4]
    have e9 : au (au (au (au A2 51 (3 * p + 2) (takV Λ (vM A) p c)) 51 (3 * p) (losV (vM A) p c)) 51 (3 * p + 1) (clI (vM A 3 p + judV Λ (vM A) p c) 0 99)) 52 (3 * c) 0 48 6 = vM A 8 2 := by rw [← e8]; rfl
    rw [e9]
    rfl
end MB
