section S4
variable {A A0 B : Nat → Nat → Int32} {R R0 : Nat → Nat → Option Nat} {G G0 : Nat → Nat × Nat} {w b n z p N : Nat} {E : bR} {c c' : Nat × Nat}
set_option maxRecDepth 100000 in
theorem lX5_cp (g48 : G 48 = (9, 0)) (g53 : G 53 = (1, 160)) (g61 : G 61 = (1, 41)) : ∀ (r j : Nat), j + r = 41 → ∀ A, A 61 = lawT → (∀ q, q < j → A 53 q = lawT q) → (∀ B, (∀ o, ¬ o = 53 → B o = A o) → (∀ q, q < 41 → B 53 q = lawT q) → bw tX5_init E c 1019 [some (.ref 48), some (.int (nI 41))] [] (B, R, G)) → bw tX5_init E c 995 [some (.ref 48), some (.int (nI j))] [] (A, R, G)
  | 0, j, hj, A, h61, h53, K => by
    have hk := kX5_init
    obtain rfl : j = 41 := by omega
    refine r_il hk rfl rfl ?_
    refine r_ii hk rfl ?_
    refine r_icT hk rfl (nI_le (a := 41) (b := 41) (by omega) (by omega)) ?_
    exact K A (fun _ _ => rfl) h53
  | r + 1, j, hj, A, h61, h53, K => by
    have hk := kX5_init
    refine r_il hk rfl rfl ?_
    refine r_ii hk rfl ?_
    refine r_icF hk rfl (nI_ge (a := j) (b := 41) (by omega) (by omega)) ?_
    refine r_al hk rfl rfl ?_
    refine r_gF hk rfl (by rw [g48]) ?_
    refine r_il hk rfl rfl ?_
    refine r_al hk rfl rfl ?_
    refine r_gF hk rfl (by rw [g48]) ?_
    refine r_il hk rfl rfl ?_
    refine r_iald (v := lawT j) hk rfl g61 (vp_in_nI (by omega) (by omega)) (by rw [nI_clamp (by omega)]; exact congrFun h61 j) ?_
    refine r_iast (j := j) hk rfl g53 (vp_in_nI (by omega) (by omega)) (nI_clamp (by omega)) ?_
    refine r_inc hk rfl rfl ?_
    rw [nI_1]
    refine r_go hk rfl ?_
    refine lX5_cp g48 g53 g61 r (j + 1) (by omega) _ ((au_o (by decide)).trans h61) (fun q hq => ?_) fun B h1 h2 => K B (fun o ho => (h1 o ho).trans (au_o ho)) h2
    by_cases e : q = j
    · subst e; exact au_k
    · exact (au_j e).trans (h53 q (by omega))
set_option maxRecDepth 100000 in
/-- the model's constructor -/
theorem qX5_init (h0 : G 48 = (0, 6)) (hf : ∀ k, 49 ≤ k → k < 80 → G k = (0, 0)) (hA : A 48 = fun _ => 0) (hx : ∀ k, k < 48 → G k = gtb k) : ∃ A' R' G', CX5_init [.ref 48] (A, R, G) none (A', R', G') ∧ aGS G' ∧ (∀ o, (o < 48 ∨ 80 ≤ o) → A' o = A o ∧ R' o = R o) ∧ (∀ o, 80 ≤ o → G' o = G o) ∧ TMt (A' 54) (A' 55) 0 W0 ∧ (A' 48 0 = 0 ∧ A' 48 5 = 0 ∧ A' 48 6 = 0 ∧ A' 48 8 = 0 ∧ A' 48 11 = 1 ∧ A' 48 12 = 0 ∧ A' 48 13 = 0) ∧ (∀ k, 49 ≤ k → k ≤ 68 → ¬ k = 53 → ¬ k = 54 → ¬ k = 55 → ¬ k = 63 → A' k = am k) := by
  have hk := kX5_init
  obtain ⟨r, ⟨A', R', G'⟩, q1, q2, q4⟩ : ∃ (r1 : Option Value) (μ1 : aM), bCl tX5_init 2 20 2823 [.ref 48] (A, R, G) r1 μ1 ∧ (r1 = none ∧ aGS μ1.2.2 ∧ (∀ o, (o < 48 ∨ 80 ≤ o) → μ1.1 o = A o ∧ μ1.2.1 o = R o) ∧ (∀ o, 80 ≤ o → μ1.2.2 o = G o) ∧ TMt (μ1.1 54) (μ1.1 55) 0 W0 ∧ (μ1.1 48 0 = 0 ∧ μ1.1 48 5 = 0 ∧ μ1.1 48 6 = 0 ∧ μ1.1 48 8 = 0 ∧ μ1.1 48 11 = 1 ∧ μ1.1 48 12 = 0 ∧ μ1.1 48 13 = 0) ∧ (∀ k, 49 ≤ k → k ≤ 68 → ¬ k = 53 → ¬ k = 54 → ¬ k = 55 → ¬ k = 63 → μ1.1 k = am k)) := by
    refine bC_ex kX5_init (Nat.le_of_ble_eq_true rfl) ?_
    show bw tX5_init _ (0, 0) 0 [some (.ref 48), none] [] (A, R, G)
    refine lX5_all h0 hf hA fun A1 R1 G1 ⟨i1, i2, i3, i4, i5, i6⟩ => ?_
    refine r_mk hk rfl 48 i1 (fun k j hk hj => ?_) ?_
    · obtain ⟨q, hq, rfl⟩ := fi_on k hk (by omega)
      have := (fi_lt q hq).2
      show R1 48 (fi q) = some (48 + j)
      rw [i5 q hq, show j = q + 1 by omega, show 49 + q = 48 + (q + 1) by omega]
    show bw tX5_init _ _ 994 [some (.ref 48), none] [.int 0] (A1, R1, gu G1 48 (9, 0))
    obtain ⟨G2, hG2⟩ : ∃ G2, G2 = gu G1 48 (9, 0) := ⟨_, rfl⟩
    rw [← hG2]
    have gS : aGS G2 := fun k hk => by
      rw [hG2]
      by_cases e : k = 48
      · subst e; exact gu_at
      · rw [gu_o e]
        by_cases e2 : k < 48
        · rw [(i6 k (Or.inl e2)).2.2]; exact hx k e2
        · by_cases e3 : k < 69
          · obtain ⟨j, rfl⟩ : ∃ j, k = 49 + j := ⟨k - 49, by omega⟩
            exact (i3 j (by omega)).1
          · rw [i4 k (by omega) hk]
            have : k = 69 ∨ k = 70 ∨ k = 71 ∨ k = 72 ∨ k = 73 ∨ k = 74 ∨ k = 75 ∨ k = 76 ∨ k = 77 ∨ k = 78 ∨ k = 79 := by omega
            rcases this with rfl | rfl | rfl | rfl | rfl | rfl | rfl | rfl | rfl | rfl | rfl <;> rfl
    refine r_is hk rfl ?_
    refine lX5_cp (gS 48 (by decide)) (gS 53 (by decide)) (gS 61 (by decide)) 41 0 rfl A1 (i3 12 (by decide)).2 (fun q hq => absurd hq (by omega)) fun B b1 b2 => ?_
    refine r_al hk rfl rfl ?_
    refine r_ii hk rfl ?_
    refine r_pI hk rfl (by rw [gS 48 (by decide)]; rfl) ?_
    refine r_al hk rfl rfl ?_
    have c0 : (au B 48 8 41) 48 = upd (fun _ => 0) 8 41 := by
      show ap B 48 (upd (B 48) 8 41) 48 = _
      rw [ap_eq, b1 48 (by decide), i2]
    have cA : ∀ o, ¬ o = 48 → ¬ o = 53 → (au B 48 8 41) o = A1 o := fun o ho h2 => (au_o ho).trans (b1 o h2)
    obtain ⟨F, ⟨D, hD, hF⟩, hc⟩ := qX5_text0 (A := au B 48 8 41) (R := R1) gS (by rw [c0]; rfl) (by rw [c0]; rfl) (fun i hi => by rw [cA 62 (by decide) (by decide)]; exact congrFun (i3 13 (by decide)).2 i) (fun q hq => by rw [au_o (by decide)]; exact b2 q hq)
    refine r_cV (t := []) hk rfl rfl (by show (G2 48).1 = 5 + 4; rw [gS 48 (by decide)]; rfl) (Nat.zero_le _) hc ?_
    refine r_pop hk rfl rfl ?_
    have hM := hD.1
    have f48 : ∀ k, (k < 20 ∨ 23 < k) → ¬ k = 26 → ¬ k = 27 → ¬ k = 28 → D 48 k = upd (fun _ => 0) 8 41 k := fun k a b c d => by rw [hM.2.1 k a b c d, c0]
    have fo : ∀ o, ¬ o = 48 → ¬ o = 55 → F o = D o := fun o a b => by rw [hF, au_o a, au_o a, au_o b]
    have fA : ∀ o, ¬ o = 48 → ¬ o = 53 → ¬ o = 54 → ¬ o = 55 → ¬ o = 63 → F o = A1 o := fun o a b c d e => by rw [fo o a d, hM.1 o a c d e, cA o a b]
    have f0 : ∀ k, (k < 20 ∨ 23 < k) → ¬ k = 26 → ¬ k = 27 → ¬ k = 28 → ¬ k = 8 → ¬ k = 11 → F 48 k = 0 := fun k a b c d e f => by
      rw [hF, au_j f, au_j e, aua (by decide), f48 k a b c d]
      exact if_neg e
    refine r_rv hk rfl ⟨⟨rfl, gS, fun o ho => ?_, fun o ho => ?_, ?_, ⟨f0 0 (by omega) (by decide) (by decide) (by decide) (by decide) (by decide), f0 5 (by omega) (by decide) (by decide) (by decide) (by decide) (by decide), f0 6 (by omega) (by decide) (by decide) (by decide) (by decide) (by decide), ?_, ?_, f0 12 (by omega) (by decide) (by decide) (by decide) (by decide) (by decide), f0 13 (by omega) (by decide) (by decide) (by decide) (by decide) (by decide)⟩, fun k a b c d e f => ?_⟩, by decide, by decide⟩
    · refine ⟨(fA o (by omega) (by omega) (by omega) (by omega) (by omega)).trans (i6 o ho).1, (i6 o ho).2.1⟩
    · show G2 o = G o
      rw [hG2, gu_o (by omega)]
      exact (i6 o (Or.inr ho)).2.2
    · show TMt (F 54) (F 55) 0 W0
      have := TMt.of hD (by decide) W0_ok
      have e1 : F 54 = D 54 := fo 54 (by decide) (by decide)
      have e2 : F 55 = (au D 55 (4 * 0 + 3) (nI (jo W0 3).length)) 55 := by rw [hF, au_o (by decide), au_o (by decide)]
      rw [e1, e2]; exact this
    · show F 48 8 = 0
      rw [hF, au_j (by decide), au_k]
    · show F 48 11 = 1
      rw [hF, au_k]; rfl
    · show F k = am k
      rw [fA k (by omega) c d e f]
      obtain ⟨j, rfl⟩ : ∃ j, k = 49 + j := ⟨k - 49, by omega⟩
      exact (i3 j (by omega)).2
  subst q2
  exact ⟨A', R', G', ⟨trivial, q1⟩, q4⟩
end S4
