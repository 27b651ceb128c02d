section XA
variable {A : Nat → Nat → Int32} {R : Nat → Nat → Option Nat} {G : Nat → Nat × Nat} {b w : Nat} {Λ : aLm}
theorem mm_l {y0 y1 y2 : Int32} (h : y2 ≤ y1) : (if y2 < (if y0 < y1 then y0 else y1) then (if y0 < y1 then y0 else y1) else y2) = clI y0 y2 y1 := by
  unfold clI
  by_cases h1 : y0 < y1 <;> by_cases h2 : y0 < y2 <;> by_cases h3 : y1 < y0 <;> by_cases h4 : y2 < y0 <;> by_cases h5 : y2 < y1 <;> simp only [h1, h2, h3, h4, h5, if_true, if_false] <;> (simp only [Int32.lt_iff_toInt_lt, Int32.le_iff_toInt_le] at * ; first | rfl | (exfalso; omega) | (refine Int32.toInt_inj.mp ?_; omega))
theorem m1_l {u : Int32} : (if 1 < u then u else 1) = if (1 : Int32) ≤ u then u else 1 := by
  by_cases h1 : 1 < u <;> by_cases h2 : (1 : Int32) ≤ u <;> simp only [h1, h2, if_true, if_false] <;> (simp only [Int32.lt_iff_toInt_lt, Int32.le_iff_toInt_le] at * ; first | rfl | (exfalso; omega) | (refine Int32.toInt_inj.mp ?_; omega))
theorem vX5_t {c : Nat} (hc : c < 8) (ht : bt (A b 10) c = true) : vX A b 5 c = A (b + 6) c := if_pos ⟨hc, ht⟩
theorem qX0_says (hb : aGb G b) (hL : LXA A R G b w Λ) {n part p c : Nat} (hi : invV n (vX A b)) (hpn : p < n) (hn6 : n ≤ 6) (hp3 : part < 3) (hc : c < 8) (ht : bt (A b 10) c = true) : ∃ A', jX b w A A' ∧ CX0_says [.ref b, .int (nI part), .int (nI p), .int (nI c)] (A, R, G) (some (.int (askV Λ (vX A b) part p c))) (A', R, G) := by
  obtain ⟨hw, hR, n1, hx, hLx⟩ := hL
  have hS2 : isS (A (b + 3) p) := (hi.1 p hpn).2.1
  have hS5 : isS (A (b + 6) c) := by rw [← vX5_t hc ht]; exact hi.2 c hc
  have e5 := vX5_t (A := A) (b := b) hc ht
  refine aC_exA vX0_says (Nat.le_of_ble_eq_true rfl) fun E hE => ?_
  refine sX0_says_0 hb (nI part) (nI p) (nI c) ?_
  simp (disch := omega) only [nI_clamp]
  refine ⟨vp_in_nI hc (by omega), vp_in_nI (by omega) (by omega), ?_⟩
  refine sX0_says_39 hb (nI part) (nI p) _ _ ?_
  simp (disch := omega) only [nI_clamp]
  refine ⟨vp_in_nI (by omega) (by omega), ?_⟩
  generalize hB : au (au (au (au (au (au A (b + 9) 0 _) (b + 9) 1 _) (b + 9) 2 _) (b + 9) 3 _) (b + 9) 4 _) (b + 9) 5 _ = B
  have hBo : ∀ o, ¬ o = b + 9 → B o = A o := fun o ho => by rw [← hB]; simp only [au_o ho]
  have hF : ∀ i, i < 6 → B (b + 9) i = fct (vX A b) p c i := by
    intro i hi6
    rw [← hB]
    match i, hi6 with
    | 0, _ => simp only [au_eq]; simp; rfl
    | 1, _ => simp only [au_eq]; simp; rw [popc_S hS5, ← e5]; rfl
    | 2, _ => simp only [au_eq]; simp; rfl
    | 3, _ => simp only [au_eq]; simp; rw [popc_S hS2]; rfl
    | 4, _ => simp only [au_eq]; simp; rfl
    | 5, _ => simp only [au_eq]; simp; rfl
    | i + 6, h => exact absurd h (by omega)
  obtain ⟨st, hs⟩ := hLx B R G part (b + 9) (fct (vX A b) p c) hx (gb9 hb) (gbl9 hb) (by omega) (hBo _ (by omega)) (hBo _ (by omega)) hp3 hF
  have hj : jX b w A (ap B (w + 3) st) := fun o h1 h2 => (ap_ne h2).trans (hBo o h1)
  have h9 := hE _ hj
  refine sX0_says_76 hb (nI part) _ _ _ ⟨fun h => ⟨w, hR, gx0 hx, _, _, hs, sX0_says_105 hb _ _ _ _ _ _ _ (aE_e h9 ?_)⟩, fun h => ⟨w, hR, gx0 hx, _, _, hs, sX0_says_105 hb _ _ _ _ _ _ _ (aE_e h9 ?_)⟩⟩
  · have h2 : part = 2 := (nI_eq (a := part) (b := 2) (by omega) (by omega)).mp h
    unfold askV
    rw [if_pos h2, mm_l (by decide)]
  · have h2 : ¬ part = 2 := fun q => h (by rw [q]; rfl)
    unfold askV
    rw [if_neg h2, mm_l (by decide)]
/-- how many times what is needed one has to mind -/
noncomputable def burV (v : aV) (p c : Nat) : Int32 :=
  if v 0 p = 0 then @ite _ (lackV v p c = 0) (Classical.propDecidable _) 1 (-1)
  else if v 0 p = 1 then @ite _ (1 < lackV v p c) (Classical.propDecidable _) (-1) 1
  else if v 0 p = 2 then @ite _ (lackV v p c = 0 ∧ ¬ nwdV v p) (Classical.propDecidable _) 1 (-1)
  else if v 0 p = 3 then @ite _ (v 5 c = 1 <<< (v 1 p &&& 31)) (Classical.propDecidable _) 0 (@ite _ (¬ 1 < lackV v p c ∧ ¬ ones (v 5 c) < 3) (Classical.propDecidable _) 1 (-1))
  else if v 0 p = 4 then @ite _ (lackV v p c = 0 ∧ ¬ nwdV v p) (Classical.propDecidable _) 2 (-1)
  else if v 0 p = 5 then @ite _ (v 8 1 - v 8 1 / 7 * 7 = v 1 p) (Classical.propDecidable _) 0 (-1)
  else -1
theorem qX0_burden (hb : aGb G b) {n p c : Nat} (hi : invV n (vX A b)) (hpn : p < n) (hn6 : n ≤ 6) (hc : c < 8) (ht : bt (A b 10) c = true) : CX0_burden [.ref b, .int (nI p), .int (nI c)] (A, R, G) (some (.int (burV (vX A b) p c))) (A, R, G) := by
  have hS2 : isS (A (b + 3) p) := (hi.1 p hpn).2.1
  have hS5 : isS (A (b + 6) c) := by rw [← vX5_t hc ht]; exact hi.2 c hc
  have e5 := vX5_t (A := A) (b := b) hc ht
  refine aC_of (Nat.le_of_ble_eq_true rfl) fun E hE => ?_
  refine sX0_burden_0 hb (nI p) (nI c) ?_
  simp (disch := omega) only [nI_clamp]
  have el : popc (A (b + 6) c &&& (A (b + 3) p ^^^ (-1))) = lackV (vX A b) p c := by
    rw [popc_S (isS_and hS5), ← e5]; rfl
  have ed : (A b 11 - A b 11 / 10 * 10 < A (b + 2) p) = nwdV (vX A b) p := rfl
  have e0 : A (b + 1) p = vX A b 0 p := rfl
  have e1 : A (b + 2) p = vX A b 1 p := rfl
  have e8 : A b 11 = vX A b 8 1 := rfl
  rw [el, e0]
  unfold burV at hE
  refine ⟨vp_in_nI hc (by omega), vp_in_nI (by omega) (by omega), fun k0 => ?_, fun k0 => ⟨fun k1 => ?_, fun k1 => ⟨fun k2 => ?_, fun k2 => ⟨fun k3 => ?_, fun k3 => ⟨fun k4 => ?_, fun k4 => ⟨fun k5 => ?_, fun k5 => ?_⟩⟩⟩⟩⟩⟩
  · refine sX0_burden_64 hb _ _ _ ⟨fun h => aE_e hE ?_, fun h => aE_e hE ?_⟩
    · rw [if_pos k0, if_pos h]
    · rw [if_pos k0, if_neg h]
  · refine sX0_burden_74 hb _ _ _ ⟨fun h => aE_e hE ?_, fun h => aE_e hE ?_⟩
    · rw [if_neg k0, if_pos k1, if_pos h]
    · rw [if_neg k0, if_pos k1, if_neg h]
  · refine sX0_burden_85 hb _ _ _ ?_
    simp (disch := omega) only [nI_clamp]
    rw [ed]
    refine ⟨fun h => ⟨vp_in_nI (by omega) (by omega), fun h2 => aE_e hE ?_, fun h2 => aE_e hE ?_⟩, fun h => aE_e hE ?_⟩
    · rw [if_neg k0, if_neg k1, if_pos k2, if_neg (fun q => q.2 h2)]
    · rw [if_neg k0, if_neg k1, if_pos k2, if_pos ⟨h, h2⟩]
    · rw [if_neg k0, if_neg k1, if_pos k2, if_neg (fun q => h q.1)]
  · refine sX0_burden_111 hb _ _ _ ?_
    simp (disch := omega) only [nI_clamp]
    rw [popc_S hS5, ← e5, e1]
    refine ⟨vp_in_nI hc (by omega), vp_in_nI (by omega) (by omega), fun h => aE_e hE ?_, fun h => ⟨fun h2 => aE_e hE ?_, fun h2 => ⟨fun h3 => aE_e hE ?_, fun h3 => aE_e hE ?_⟩⟩⟩
    · rw [if_neg k0, if_neg k1, if_neg k2, if_pos k3, if_pos h]
    · rw [if_neg k0, if_neg k1, if_neg k2, if_pos k3, if_neg h, if_neg (fun q => q.1 h2)]
    · rw [if_neg k0, if_neg k1, if_neg k2, if_pos k3, if_neg h, if_neg (fun q => q.2 h3)]
    · rw [if_neg k0, if_neg k1, if_neg k2, if_pos k3, if_neg h, if_pos ⟨h2, h3⟩]
  · refine sX0_burden_154 hb _ _ _ ?_
    simp (disch := omega) only [nI_clamp]
    rw [ed]
    refine ⟨fun h => ⟨vp_in_nI (by omega) (by omega), fun h2 => aE_e hE ?_, fun h2 => aE_e hE ?_⟩, fun h => aE_e hE ?_⟩
    · rw [if_neg k0, if_neg k1, if_neg k2, if_neg k3, if_pos k4, if_neg (fun q => q.2 h2)]
    · rw [if_neg k0, if_neg k1, if_neg k2, if_neg k3, if_pos k4, if_pos ⟨h, h2⟩]
    · rw [if_neg k0, if_neg k1, if_neg k2, if_neg k3, if_pos k4, if_neg (fun q => h q.1)]
  · refine sX0_burden_180 hb _ _ _ ?_
    simp (disch := omega) only [nI_clamp]
    rw [e1, e8]
    refine ⟨vp_in_nI (by omega) (by omega), fun h => aE_e hE ?_, fun h => aE_e hE ?_⟩
    · rw [if_neg k0, if_neg k1, if_neg k2, if_neg k3, if_neg k4, if_pos k5, if_pos h]
    · rw [if_neg k0, if_neg k1, if_neg k2, if_neg k3, if_neg k4, if_pos k5, if_neg h]
  · refine sX0_burden_202 hb _ _ _ (aE_e hE ?_)
    rw [if_neg k0, if_neg k1, if_neg k2, if_neg k3, if_neg k4, if_neg k5]
theorem k05 {k : Int32} (h : 0 ≤ k ∧ k ≤ 5) : k = 0 ∨ k = 1 ∨ k = 2 ∨ k = 3 ∨ k = 4 ∨ k = 5 := by
  simp only [Int32.le_iff_toInt_le] at h
  have h1 : (0 : Int32).toInt = 0 := rfl
  have h2 : (5 : Int32).toInt = 5 := rfl
  rw [h1, h2] at h
  have e : ∀ z : Int32, k.toInt = z.toInt → k = z := fun z q => Int32.toInt_inj.mp q
  have h3 : k.toInt = 0 ∨ k.toInt = 1 ∨ k.toInt = 2 ∨ k.toInt = 3 ∨ k.toInt = 4 ∨ k.toInt = 5 := by omega
  rcases h3 with q | q | q | q | q | q
  · exact Or.inl (e 0 q)
  · exact Or.inr (Or.inl (e 1 q))
  · exact Or.inr (Or.inr (Or.inl (e 2 q)))
  · exact Or.inr (Or.inr (Or.inr (Or.inl (e 3 q))))
  · exact Or.inr (Or.inr (Or.inr (Or.inr (Or.inl (e 4 q)))))
  · exact Or.inr (Or.inr (Or.inr (Or.inr (Or.inr (e 5 q)))))
/-- the burden tells who may -/
theorem bur_may {v : aV} {p c : Nat} (hk : 0 ≤ v 0 p ∧ v 0 p ≤ 5) : mayV Λ v p c ↔ ¬ burV v p c = -1 ∧ (burV v p c = 0 ∨ ¬ v 3 p < burV v p c * askV Λ v 0 p c) := by
  have n1 : ¬ (1 : Int32) = -1 := by decide
  have n0 : ¬ (0 : Int32) = -1 := by decide
  have n2 : ¬ (2 : Int32) = -1 := by decide
  have m1 : ¬ (1 : Int32) = 0 := by decide
  have m2 : ¬ (2 : Int32) = 0 := by decide
  have m3 : ¬ (-1 : Int32) = 0 := by decide
  have o1 : ∀ x : Int32, 1 * x = x := fun x => Int32.one_mul x
  unfold mayV burV
  rcases k05 hk with k | k | k | k | k | k <;> rw [k]
  · by_cases h : lackV v p c = 0 <;> simp [h]
  · by_cases h : 1 < lackV v p c <;> simp [h]
  · by_cases h : lackV v p c = 0 <;> by_cases h2 : nwdV v p <;> simp [h, h2]
  · by_cases h0 : v 5 c = 1 <<< (v 1 p &&& 31)
    · simp [h0]
    · by_cases h : 1 < lackV v p c <;> by_cases h2 : ones (v 5 c) < 3 <;> simp [h0, h, h2]
  · by_cases h : lackV v p c = 0 <;> by_cases h2 : nwdV v p <;> simp [h, h2]
  · by_cases h : v 8 1 - v 8 1 / 7 * 7 = v 1 p <;> simp [h]
theorem qX0_may (hb : aGb G b) (hL : LXA A R G b w Λ) {n p c : Nat} (hi : invV n (vX A b)) (hpn : p < n) (hn6 : n ≤ 6) (hc : c < 8) (ht : bt (A b 10) c = true) : ∃ A', jX b w A A' ∧ CX0_may [.ref b, .int (nI p), .int (nI c)] (A, R, G) (some (.int (bI (mayV Λ (vX A b) p c)))) (A', R, G) := by
  have hC := qX0_burden (R := R) hb hi hpn hn6 hc ht
  have hm := bur_may (Λ := Λ) (v := vX A b) (p := p) (c := c) (hi.1 p hpn).1
  by_cases h1 : burV (vX A b) p c = -1
  · refine ⟨A, jX.rf, aC_of (Nat.le_of_ble_eq_true rfl) fun E hE => ?_⟩
    refine sX0_may_0 hb _ _ ⟨_, _, hC, sX0_may_6 hb _ _ _ _ ⟨fun _ => aE_n hE fun q => (hm.mp q).1 h1, fun h => absurd h1 h⟩⟩
  · by_cases h2 : burV (vX A b) p c = 0
    · refine ⟨A, jX.rf, aC_of (Nat.le_of_ble_eq_true rfl) fun E hE => ?_⟩
      refine sX0_may_0 hb _ _ ⟨_, _, hC, sX0_may_6 hb _ _ _ _ ⟨fun h => absurd h h1, fun _ => ⟨fun _ => aE_b hE (hm.mpr ⟨h1, Or.inl h2⟩), fun h => absurd h2 h⟩⟩⟩
    · obtain ⟨A', hj, hC2⟩ := qX0_says (part := 0) hb hL hi hpn hn6 (by omega) hc ht
      refine ⟨A', hj, aC_of (Nat.le_of_ble_eq_true rfl) fun E hE => ?_⟩
      refine sX0_may_0 hb _ _ ⟨_, _, hC, sX0_may_6 hb _ _ _ _ ⟨fun h => absurd h h1, fun _ => ⟨fun h => absurd h h2, fun _ => ?_⟩⟩⟩
      simp (disch := omega) only [nI_clamp]
      refine ⟨vp_in_nI (by omega) (by omega), _, _, hC2, sX0_may_30 hb _ _ _ _ _ _ ⟨fun h => aE_n hE fun q => ?_, fun h => aE_b hE (hm.mpr ⟨h1, Or.inr h⟩)⟩⟩
      rcases (hm.mp q).2 with k | k
      · exact h2 k
      · exact k h
theorem qX0_can (hb : aGb G b) (hL : LXA A R G b w Λ) {n p c : Nat} (hi : invV n (vX A b)) (hpn : p < n) (hn6 : n ≤ 6) (hc : c < 8) (ht : bt (A b 10) c = true) : ∃ A', jX b w A A' ∧ CX0_can [.ref b, .int (nI p), .int (nI c)] (A, R, G) (some (.int (bI (canV Λ (vX A b) p c)))) (A', R, G) := by
  by_cases h4 : A (b + 5) p = 0
  · obtain ⟨A', hj, hC⟩ := qX0_may hb hL hi hpn hn6 hc ht
    refine ⟨A', hj, aC_of (Nat.le_of_ble_eq_true rfl) fun E hE => ?_⟩
    refine sX0_can_0 hb _ _ ?_
    simp (disch := omega) only [nI_clamp]
    refine ⟨vp_in_nI (by omega) (by omega), fun _ => ⟨_, _, hC, sX0_can_15 hb _ _ _ ⟨fun h => ?_, fun h => ?_⟩⟩, fun h => absurd h4 h⟩
    · exact aE_n hE fun q => bI_ne q.2 h
    · exact aE_b hE ⟨h4, Classical.byContradiction fun q => h (bI_f q)⟩
  · refine ⟨A, jX.rf, aC_of (Nat.le_of_ble_eq_true rfl) fun E hE => ?_⟩
    refine sX0_can_0 hb _ _ ?_
    simp (disch := omega) only [nI_clamp]
    exact ⟨vp_in_nI (by omega) (by omega), fun h => absurd h h4, fun _ => aE_n hE fun q => h4 q.1⟩
theorem qX0_daysFor (hb : aGb G b) (hL : LXA A R G b w Λ) {n p c : Nat} (hi : invV n (vX A b)) (hpn : p < n) (hn6 : n ≤ 6) (hc : c < 8) (ht : bt (A b 10) c = true) : ∃ A', jX b w A A' ∧ CX0_daysFor [.ref b, .int (nI p), .int (nI c)] (A, R, G) (some (.int (takV Λ (vX A b) p c))) (A', R, G) := by
  obtain ⟨A', hj, hC⟩ := qX0_says (part := 1) hb hL hi hpn hn6 (by omega) hc ht
  refine ⟨A', hj, aC_of (Nat.le_of_ble_eq_true rfl) fun E hE => ?_⟩
  refine sX0_daysFor_0 hb _ _ ⟨_, _, hC, sX0_daysFor_7 hb _ _ _ _ ?_⟩
  simp (disch := omega) only [nI_clamp]
  have h1 : A' (b + 1) p = vX A b 0 p := by rw [hj.e hL.1 (by omega)]; rfl
  have h2 : A' (b + 2) p = vX A b 1 p := by rw [hj.e hL.1 (by omega)]; rfl
  rw [h1, h2, m1_l, m1_l, m1_l]
  unfold takV at hE
  refine ⟨vp_in_nI (by omega) (by omega), ?_⟩
  generalize askV Λ (vX A b) 1 p c = t at *
  rcases k05 (hi.1 p hpn).1 with k | k | k | k | k | k <;> rw [k] at hE ⊢
  · exact ⟨fun h => absurd h (by decide), fun _ => ⟨fun h => absurd h (by decide), fun _ => ⟨fun h => absurd h (by decide), fun _ => ⟨fun h => absurd h (by decide), fun _ => aE_e hE rfl⟩⟩⟩⟩
  · exact ⟨fun _ => aE_e hE rfl, fun h => absurd rfl h⟩
  · exact ⟨fun h => absurd h (by decide), fun _ => ⟨fun _ => aE_e hE rfl, fun h => absurd rfl h⟩⟩
  · exact ⟨fun h => absurd h (by decide), fun _ => ⟨fun h => absurd h (by decide), fun _ => ⟨fun _ => aE_e hE rfl, fun h => absurd rfl h⟩⟩⟩
  · exact ⟨fun h => absurd h (by decide), fun _ => ⟨fun h => absurd h (by decide), fun _ => ⟨fun h => absurd h (by decide), fun _ => ⟨fun _ => aE_e hE rfl, fun h => absurd rfl h⟩⟩⟩⟩
  · exact ⟨fun h => absurd h (by decide), fun _ => ⟨fun h => absurd h (by decide), fun _ => ⟨fun h => absurd h (by decide), fun _ => ⟨fun h => absurd h (by decide), fun _ => aE_e hE rfl⟩⟩⟩⟩
theorem qX0_hardnessOf (hb : aGb G b) (hL : LXA A R G b w Λ) {n p c : Nat} (hi : invV n (vX A b)) (hpn : p < n) (hn6 : n ≤ 6) (hc : c < 8) (ht : bt (A b 10) c = true) : ∃ A', jX b w A A' ∧ CX0_hardnessOf [.ref b, .int (nI p), .int (nI c)] (A, R, G) (some (.int (judV Λ (vX A b) p c))) (A', R, G) := by
  obtain ⟨A', hj, hC⟩ := qX0_says (part := 2) hb hL hi hpn hn6 (by omega) hc ht
  refine ⟨A', hj, aC_of (Nat.le_of_ble_eq_true rfl) fun E hE => ?_⟩
  refine sX0_hardnessOf_0 hb _ _ ⟨_, _, hC, sX0_hardnessOf_7 hb _ _ _ _ ?_⟩
  simp (disch := omega) only [nI_clamp]
  have h1 : A' (b + 1) p = vX A b 0 p := by rw [hj.e hL.1 (by omega)]; rfl
  have h2 : A' (b + 2) p = vX A b 1 p := by rw [hj.e hL.1 (by omega)]; rfl
  rw [h1, h2]
  unfold judV at hE
  refine ⟨vp_in_nI (by omega) (by omega), ?_⟩
  generalize askV Λ (vX A b) 2 p c = t at *
  rcases k05 (hi.1 p hpn).1 with k | k | k | k | k | k <;> rw [k] at hE ⊢
  · exact ⟨fun h => absurd h (by decide), fun _ => ⟨fun h => absurd h (by decide), fun _ => ⟨fun h => absurd h (by decide), fun _ => ⟨fun h => absurd h (by decide), fun _ => aE_e hE rfl⟩⟩⟩⟩
  · exact ⟨fun h => absurd h (by decide), fun _ => ⟨fun h => absurd h (by decide), fun _ => ⟨fun h => absurd h (by decide), fun _ => ⟨fun h => absurd h (by decide), fun _ => aE_e hE rfl⟩⟩⟩⟩
  · exact ⟨fun _ => aE_e hE rfl, fun h => absurd rfl h⟩
  · exact ⟨fun h => absurd h (by decide), fun _ => ⟨fun _ => aE_e hE rfl, fun h => absurd rfl h⟩⟩
  · exact ⟨fun h => absurd h (by decide), fun _ => ⟨fun h => absurd h (by decide), fun _ => ⟨fun _ => aE_e hE rfl, fun h => absurd rfl h⟩⟩⟩
  · exact ⟨fun h => absurd h (by decide), fun _ => ⟨fun h => absurd h (by decide), fun _ => ⟨fun h => absurd h (by decide), fun _ => ⟨fun _ => aE_e hE rfl, fun h => absurd rfl h⟩⟩⟩⟩
end XA
