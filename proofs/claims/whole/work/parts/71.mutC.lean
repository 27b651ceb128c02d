/-! judge, file, judgesBy -/
def jdgOk (n : Nat) (x1 x2 x3 : Int32) : Prop := (0 ≤ x1 ∧ x1 ≤ 59) ∧ (0 ≤ x2 ∧ x2 ≤ 1023) ∧ (0 ≤ x3 ∧ x3 ≤ 99) ∧ n < 6
def jdgV (v : aV) (n : Nat) (x1 x2 x3 : Int32) : aV := au (au (au (au (au (au v 0 n (x1 / 10)) 1 n (x1 - x1 / 10 * 10)) 2 n x2) 3 n x3) 4 n 0) 8 0 (nI (n + 1))
noncomputable def jdgR (x1 x2 x3 : Int32) : Int32 := @ite _ ((0 ≤ x1 ∧ x1 ≤ 59) ∧ (0 ≤ x2 ∧ x2 ≤ 1023) ∧ (0 ≤ x3 ∧ x3 ≤ 99)) (Classical.propDecidable _) (-4) (-2)
def jJX (A A' : Nat → Nat → Int32) : Prop := (∀ o, (o < 1 ∨ 7 ≤ o) → A' o = A o) ∧ ∀ k, ¬ k = 9 → A' 1 k = A 1 k
def jJM (A A' : Nat → Nat → Int32) : Prop := (∀ o, (o < 48 ∨ 52 ≤ o) → A' o = A o) ∧ ∀ k, ¬ k = 0 → A' 48 k = A 48 k
section MC
variable {A A' A1 A2 B C D : Nat → Nat → Int32} {R R' R1 : Nat → Nat → Option Nat} {G : Nat → Nat × Nat} {n n' t T w t' : Nat} {W : Nat → Nat → List Nat} {Λ : aLm} {v u vx vm : aV}
theorem jJX.rf : jJX A A := ⟨fun _ _ => rfl, fun _ _ => rfl⟩
theorem jJX.tr (h : jJX A B) (k : jJX B C) : jJX A C := ⟨fun o h1 => (k.1 o h1).trans (h.1 o h1), fun j h1 => (k.2 j h1).trans (h.2 j h1)⟩
theorem jJM.rf : jJM A A := ⟨fun _ _ => rfl, fun _ _ => rfl⟩
theorem jJM.tr (h : jJM A B) (k : jJM B C) : jJM A C := ⟨fun o h1 => (k.1 o h1).trans (h.1 o h1), fun j h1 => (k.2 j h1).trans (h.2 j h1)⟩
theorem dv10 : ∀ k, k ≤ 59 → 0 ≤ nI k / 10 ∧ nI k / 10 ≤ 5 := by decide +kernel
theorem inv_jdg (h : invD n v) {x1 x2 x3 : Int32} (ho : jdgOk n x1 x2 x3) : invD (n + 1) (jdgV v n x1 x2 x3) := by
  obtain ⟨h1, h2, h3, h4⟩ := ho
  unfold jdgV
  refine ⟨⟨fun q hq => ⟨?_, ?_, ?_⟩, fun d hd => ?_⟩, fun d hd => ?_, ?_⟩
  · rw [au_v (by omega), au_v (by omega), au_v (by omega), au_v (by omega), au_v (by omega)]
    by_cases e : q = n
    · subst e
      rw [au_k]
      obtain ⟨k, hk, rfl⟩ := rngI 59 (by omega) h1
      exact dv10 k hk
    · rw [au_j e]; exact (h.1.1 q (by omega)).1
  · rw [au_v (by omega), au_v (by omega), au_v (by omega)]
    by_cases e : q = n
    · subst e
      rw [au_k]
      obtain ⟨k, hk, rfl⟩ := rngI 1023 (by omega) h2
      exact isS_dec k (by omega)
    · rw [au_j e, au_v (by omega), au_v (by omega)]; exact (h.1.1 q (by omega)).2.1
  · rw [au_v (by omega)]
    by_cases e : q = n
    · subst e; rw [au_k]; decide
    · rw [au_j e, au_v (by omega), au_v (by omega), au_v (by omega), au_v (by omega)]; exact (h.1.1 q (by omega)).2.2
  · rw [au_v (by omega), au_v (by omega), au_v (by omega), au_v (by omega), au_v (by omega), au_v (by omega)]; exact h.1.2 d hd
  · rw [au_v (by omega), au_v (by omega), au_v (by omega), au_v (by omega), au_v (by omega), au_v (by omega)]; exact h.2.1 d hd
  · rw [au_v (by omega), au_v (by omega), au_v (by omega), au_v (by omega), au_v (by omega), au_v (by omega)]; exact h.2.2
theorem jdg_at {x1 x2 x3 : Int32} {f p : Nat} (hf : f < 5) (hp : ¬ p = n) : jdgV v n x1 x2 x3 f p = v f p := by
  unfold jdgV
  rw [au_v (by omega), au_v (by omega), au_v (by omega), au_v (by omega), au_v (by omega), au_v (by omega)]
theorem eq_jdg (h : eqV n v u) {x1 x2 x3 : Int32} : eqV (n + 1) (jdgV v n x1 x2 x3) (jdgV u n x1 x2 x3) := by
  have h2 : eqV n (jdgV v n x1 x2 x3) (jdgV u n x1 x2 x3) := (((((h.au rfl).au rfl).au rfl).au rfl).au rfl).au rfl
  refine ⟨fun f hf p hp => ?_, h2.2⟩
  by_cases e : p = n
  · subst e
    unfold jdgV
    have hc : f = 0 ∨ f = 1 ∨ f = 2 ∨ f = 3 ∨ f = 4 := by omega
    rcases hc with rfl | rfl | rfl | rfl | rfl
    · simp (disch := omega) only [au_v, au_k]
    · simp (disch := omega) only [au_v, au_k]
    · simp (disch := omega) only [au_v, au_k]
    · simp (disch := omega) only [au_v, au_k]
    · simp (disch := omega) only [au_v, au_k]
  · exact h2.1 f hf p (by omega)
theorem qX4_judge (hG : aGS G) (hn : A 1 9 = nI n) (hn6 : n ≤ 6) {x1 x2 x3 : Int32} (ho : jdgOk n x1 x2 x3) : ∃ A', (jJX A A' ∧ vX A' 1 = jdgV (vX A 1) n x1 x2 x3 ∧ A' 1 9 = nI (n + 1)) ∧ CX4_judge [.ref 0, .int x1, .int x2, .int x3] (A, R, G) (some (.int (nI n))) (A', R, G) := by
  obtain ⟨h1, h2, h3, h4⟩ := ho
  refine ⟨au (au (au (au (au (au A 2 n (x1 / 10)) 3 n (x1 - x1 / 10 * 10)) 4 n x2) 5 n x3) 6 n 0) 1 9 (nI (n + 1)), ⟨⟨fun o h => ?_, fun k hk => ?_⟩, ?_, au_k⟩, aC_of (Nat.le_of_ble_eq_true rfl) fun E hE => sX4_judge_0 hG _ _ _ (br_t h1 (br_t h2 (br_t h3 ?_)))⟩
  · rw [au_o (by omega), au_o (by omega), au_o (by omega), au_o (by omega), au_o (by omega), au_o (by omega)]
  · rw [au_j hk, au_o (by omega), au_o (by omega), au_o (by omega), au_o (by omega), au_o (by omega)]
  · rw [vX_8 (k := 9) (j := 0) (by omega)]
    have e0 : ∀ X y, vX (au X 2 n y) 1 = au (vX X 1) 0 n y := fun X y => vX_u (b := 1) (f := 0) (by omega)
    have e1 : ∀ X y, vX (au X 3 n y) 1 = au (vX X 1) 1 n y := fun X y => vX_u (b := 1) (f := 1) (by omega)
    have e2 : ∀ X y, vX (au X 4 n y) 1 = au (vX X 1) 2 n y := fun X y => vX_u (b := 1) (f := 2) (by omega)
    have e3 : ∀ X y, vX (au X 5 n y) 1 = au (vX X 1) 3 n y := fun X y => vX_u (b := 1) (f := 3) (by omega)
    have e4 : ∀ X y, vX (au X 6 n y) 1 = au (vX X 1) 4 n y := fun X y => vX_u (b := 1) (f := 4) (by omega)
    rw [e4, e3, e2, e1, e0]
    rfl
  · have hx : vp_in (nI n) 6 := vp_in_nI (by omega) (by omega)
    rw [hn, nI_clamp (by omega)]
    refine br_t (nI_lt (a := n) (b := 6) h4 (by omega)) ⟨hx, sX4_judge_104 hG _ _ _ _ ⟨hx, ?_⟩⟩
    simp (disch := omega) only [aua, hn, nI_clamp, nI_1]
    exact hE
theorem qX4_judgeN (hG : aGS G) (hn : A 1 9 = nI n) (hn6 : n ≤ 6) {x1 x2 x3 : Int32} (ho : ¬ jdgOk n x1 x2 x3) : CX4_judge [.ref 0, .int x1, .int x2, .int x3] (A, R, G) (some (.int (jdgR x1 x2 x3))) (A, R, G) := by
  refine aC_of (Nat.le_of_ble_eq_true rfl) fun E hE => sX4_judge_0 hG _ _ _ ?_
  unfold jdgR at hE
  by_cases h1 : 0 ≤ x1 ∧ x1 ≤ 59
  case neg => rw [if_neg (fun q => h1 q.1)] at hE; exact br_f h1 hE
  by_cases h2 : 0 ≤ x2 ∧ x2 ≤ 1023
  case neg => rw [if_neg (fun q => h2 q.2.1)] at hE; exact br_t h1 (br_f h2 hE)
  by_cases h3 : 0 ≤ x3 ∧ x3 ≤ 99
  case neg => rw [if_neg (fun q => h3 q.2.2)] at hE; exact br_t h1 (br_t h2 (br_f h3 hE))
  rw [if_pos ⟨h1, h2, h3⟩] at hE
  have h4 : ¬ n < 6 := fun q => ho ⟨h1, h2, h3, q⟩
  exact br_t h1 (br_t h2 (br_t h3 (br_f (by rw [hn]; exact nI_nlt (a := n) (b := 6) (by omega) (by omega)) hE)))
theorem qX5_judge (hG : aGS G) (hn : A 48 0 = nI n) (hn6 : n ≤ 6) {x1 x2 x3 : Int32} (ho : jdgOk n x1 x2 x3) : ∃ A', (jJM A A' ∧ vM A' = jdgV (vM A) n x1 x2 x3 ∧ A' 48 0 = nI (n + 1)) ∧ CX5_judge [.ref 48, .int x1, .int x2, .int x3] (A, R, G) (some (.int (nI n))) (A', R, G) := by
  obtain ⟨h1, h2, h3, h4⟩ := ho
  refine ⟨au (au (au (au (au (au A 49 n (x1 / 10)) 50 n (x1 - x1 / 10 * 10)) 51 (3 * n) x2) 51 (3 * n + 1) x3) 51 (3 * n + 2) 0) 48 0 (nI (n + 1)), ⟨⟨fun o h => ?_, fun k hk => ?_⟩, ?_, au_k⟩, aC_of (Nat.le_of_ble_eq_true rfl) fun E hE => sX5_judge_0 hG _ _ _ (br_t h1 (br_t h2 (br_t h3 ?_)))⟩
  · rw [au_o (by omega), au_o (by omega), au_o (by omega), au_o (by omega), au_o (by omega), au_o (by omega)]
  · rw [au_j hk, au_o (by omega), au_o (by omega), au_o (by omega), au_o (by omega), au_o (by omega)]
  · rw [vM_8 (k := 0) (j := 0) (by omega), vM_4, vM_3, vM_2, vM_1, vM_0]
    rfl
  · have hx : vp_in (nI n) 6 := vp_in_nI (by omega) (by omega)
    simp (disch := omega) only [aua, hn, nI_mul3, nI_clamp]
    refine br_f (fun q => absurd ((nI_eq (a := n) (b := 6) (by omega) (by omega)).mp q) (by omega)) ⟨hx, hx, vp_in_nI (by omega) (by omega), sX5_judge_84 hG _ _ _ ?_⟩
    simp (disch := omega) only [aua, hn, nI_mul3, nI_clamp, nI_1, nI_2]
    refine ⟨vp_in_nI (by omega) (by omega), vp_in_nI (by omega) (by omega), sX5_judge_122 hG _ _ _ ?_⟩
    rw [au_k, nI_pre2 n (by omega)]
    exact hE
theorem qX5_judgeN (hG : aGS G) (hn : A 48 0 = nI n) (hn6 : n ≤ 6) {x1 x2 x3 : Int32} (ho : ¬ jdgOk n x1 x2 x3) : CX5_judge [.ref 48, .int x1, .int x2, .int x3] (A, R, G) (some (.int (jdgR x1 x2 x3))) (A, R, G) := by
  refine aC_of (Nat.le_of_ble_eq_true rfl) fun E hE => sX5_judge_0 hG _ _ _ ?_
  unfold jdgR at hE
  by_cases h1 : 0 ≤ x1 ∧ x1 ≤ 59
  case neg => rw [if_neg (fun q => h1 q.1)] at hE; exact br_f h1 hE
  by_cases h2 : 0 ≤ x2 ∧ x2 ≤ 1023
  case neg => rw [if_neg (fun q => h2 q.2.1)] at hE; exact br_t h1 (br_f h2 hE)
  by_cases h3 : 0 ≤ x3 ∧ x3 ≤ 99
  case neg => rw [if_neg (fun q => h3 q.2.2)] at hE; exact br_t h1 (br_t h2 (br_f h3 hE))
  rw [if_pos ⟨h1, h2, h3⟩] at hE
  have h4 : n = 6 := by
    have : ¬ n < 6 := fun q => ho ⟨h1, h2, h3, q⟩
    omega
  exact br_t h1 (br_t h2 (br_t h3 (br_t (by rw [hn, h4]; rfl) hE)))
theorem sJ.jdg (hJ : sJ n t T W A R G) (h1 : jJX A A1) (h2 : jJM A1 A2) (hx : vX A1 1 = vx) (hm : vM A2 = vm) (hn : n ≤ n') (hn6 : n' ≤ 6) (h9 : A1 1 9 = nI n') (h0 : A2 48 0 = nI n') (hi : invD n' vx) (he : eqV n' vx vm) (hk : ∀ f, f < 2 → ∀ p, p < n → vm f p = vM A f p) : sJ n' t T W A2 R G := by
  have hx2 : vX A2 1 = vx := by rw [vX_go (A := A1) (fun k hk => h2.1 _ (by omega))]; exact hx
  have h1k : ∀ k, ¬ k = 9 → A2 1 k = A 1 k := fun k hk => by rw [h2.1 1 (by omega)]; exact h1.2 k hk
  have h48 : ∀ k, ¬ k = 0 → A2 48 k = A 48 k := fun k hk => by rw [h2.2 k hk, h1.1 48 (by omega)]
  have hall : ∀ o, (o < 1 ∨ 7 ≤ o) → (o < 48 ∨ 52 ≤ o) → A2 o = A o := fun o ha hb => (h2.1 o hb).trans (h1.1 o ha)
  refine hJ.bench (fun o ha hb hc hd => hall o (by omega) (by omega)) (fun k ha hb hc hd => h48 k ha) ?_ hn ?_
  · refine ⟨hn6, by rw [h2.1 1 (by omega)]; exact h9, h0, by rw [hx2]; exact hi, hJ.ti.go (h1k 10 (by omega)) (hall _ (by omega) (by omega)), hJ.hi.go (h1k 10 (by omega)), by rw [hx2, hm]; exact he, by rw [h1k 11 (by omega)]; exact hJ.d9, (h1k 13 (by omega)).trans hJ.x13, (h48 12 (by omega)).trans hJ.m12, hJ.r1⟩
  · refine ⟨fun f hf p hp => ?_, fun f h5 h8 c hc => ?_, fun k => ?_⟩
    · rcases f with _ | _ | _ | _ | _ | f
      · have := hk 0 (by omega) p hp
        rw [← hm] at this
        exact this.symm
      · have := hk 1 (by omega) p hp
        rw [← hm] at this
        exact this.symm
      · show A 56 _ = A2 56 _; rw [hall 56 (by omega) (by omega)]
      · show A 56 _ = A2 56 _; rw [hall 56 (by omega) (by omega)]
      · show A 56 _ = A2 56 _; rw [hall 56 (by omega) (by omega)]
      · omega
    · have hf : f = 5 ∨ f = 6 ∨ f = 7 := by omega
      rcases hf with rfl | rfl | rfl
      · show A 56 _ = A2 56 _; rw [hall 56 (by omega) (by omega)]
      · show A 56 _ = A2 56 _; rw [hall 56 (by omega) (by omega)]
      · show A 56 _ = A2 56 _; rw [hall 56 (by omega) (by omega)]
    · rcases k with _ | _ | _ | k
      · show A 57 _ = A2 57 _; rw [hall 57 (by omega) (by omega)]
      · show A 57 _ = A2 57 _; rw [hall 57 (by omega) (by omega)]
      · show A 57 _ = A2 57 _; rw [hall 57 (by omega) (by omega)]
      · rfl
theorem jJX.m (h : jJX A A1) : vM A1 = vM A := vM_go (h.1 _ (by omega)) (h.1 _ (by omega)) (h.1 _ (by omega)) (h.1 _ (by omega)) (h.1 _ (by omega))
theorem c_judge (hJ : sJ n t T W A R G) (x1 x2 x3 : Int32) : bthI T W CX4_judge CX5_judge [.int x1, .int x2, .int x3] A R G := by
  have hG := hJ.gs
  have hn6 := hJ.n6
  by_cases ho : jdgOk n x1 x2 x3
  case neg => exact qry0 hJ _ (qX4_judgeN hG hJ.x9 hn6 ho) (qX5_judgeN hG hJ.m0 hn6 ho)
  obtain ⟨A1, ⟨h1, hv1, h9⟩, hC1⟩ := qX4_judge (R := R) hG hJ.x9 hn6 ho
  obtain ⟨A2, ⟨h2, hv2, h0⟩, hC2⟩ := qX5_judge (A := A1) (R := R) hG (n := n) (by rw [h1.1 48 (by omega)]; exact hJ.m0) hn6 ho
  rw [h1.m] at hv2
  exact fin hC1 hC2 (hJ.jdg h1 h2 hv1 hv2 (by omega) (by have := ho.2.2.2; omega) h9 h0 (inv_jdg hJ.inv ho) (eq_jdg hJ.vv) (fun f hf p hp => jdg_at (by omega) (by omega)))
end MC
