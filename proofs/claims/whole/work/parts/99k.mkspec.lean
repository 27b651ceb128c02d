/-! what the small makers leave -/
section S1
variable {A : Nat → Nat → Int32} {R : Nat → Nat → Option Nat} {G : Nat → Nat × Nat} {w b t n z : Nat} {E : bR}
theorem gu_o {G : Nat → Nat × Nat} {o k : Nat} {x : Nat × Nat} (h : ¬ k = o) : gu G o x k = G k := if_neg h
theorem rp_o {o k : Nat} {f : Nat → Option Nat} (h : ¬ k = o) : rp R o f k = R k := if_neg h
theorem ar_j {o k k' : Nat} {v : Option Nat} (h : ¬ k' = k) : ar R o k v o k' = R o k' := if_neg (fun w => h w.2)
/-- outside of some places nothing changes -/
def fr (P : Nat → Prop) (A A' : Nat → Nat → Int32) (R R' : Nat → Nat → Option Nat) (G G' : Nat → Nat × Nat) : Prop := ∀ o, ¬ P o → A' o = A o ∧ R' o = R o ∧ G' o = G o
theorem qX3_init (hw : w + 3 < 1000) (h0 : G w = (0, 4)) (h3 : G (w + 3) = (0, 0)) : ∃ A' R' G', CX3_init [.ref w, .ref (w + 1), .ref (w + 2)] (A, R, G) none (A', R', G') ∧ fr (fun o => o = w ∨ o = w + 3) A A' R R' G G' ∧ A' w = A w ∧ G' w = (7, 0) ∧ G' (w + 3) = (1, 40) := by
  obtain ⟨r, ⟨A', R', G'⟩, h1, h2, h4⟩ : ∃ (r1 : Option Value) (μ1 : aM), bCl tX3_init 3 1 40 [.ref w, .ref (w + 1), .ref (w + 2)] (A, R, G) r1 μ1 ∧ (r1 = none ∧ fr (fun o => o = w ∨ o = w + 3) A μ1.1 R μ1.2.1 G μ1.2.2 ∧ μ1.1 w = A w ∧ μ1.2.2 w = (7, 0) ∧ μ1.2.2 (w + 3) = (1, 40)) := by
    refine bC_ex kX3_init (Nat.le_of_ble_eq_true rfl) ?_
    show bw tX3_init _ (0, 0) 0 [some (.ref w), some (.ref (w + 1)), some (.ref (w + 2))] [] (A, R, G)
    refine r_al kX3_init rfl rfl ?_
    refine r_obj kX3_init rfl (Nat.le_of_ble_eq_true rfl) ?_
    refine r_al kX3_init rfl rfl ?_
    refine r_ii kX3_init rfl ?_
    refine r_nwa kX3_init rfl (w + 3) (by omega) h3 (by decide) rfl (by decide) (by decide) (by decide) rfl ?_
    refine r_pwR kX3_init rfl (by simp [gu, h0]) ?_
    refine r_al kX3_init rfl rfl ?_
    refine r_al kX3_init rfl rfl ?_
    refine r_pwR kX3_init rfl (by simp [gu, h0]) ?_
    refine r_al kX3_init rfl rfl ?_
    refine r_al kX3_init rfl rfl ?_
    refine r_pwR kX3_init rfl (by simp [gu, h0]) ?_
    refine r_mk kX3_init rfl w (by simp [gu, h0]) (fun k j hk hj => ?_) ?_
    · have hk : k < 3 := hk
      have k3 : k = 0 ∨ k = 1 ∨ k = 2 := by omega
      rcases k3 with rfl | rfl | rfl
      · have hj : 3 = j + 2 := hj
        obtain rfl : j = 1 := by omega
        simp [ar]
      · have hj : 4 = j + 2 := hj
        obtain rfl : j = 2 := by omega
        simp [ar]
      · have hj : 5 = j + 2 := hj
        obtain rfl : j = 3 := by omega
        simp [ar]
    · unfold b_rv
      refine ⟨⟨rfl, fun o ho => ?_, ?_, ?_, ?_⟩, by decide, by decide⟩
      · have h1 : ¬ o = w := fun e => ho (Or.inl e)
        have h2 : ¬ o = w + 3 := fun e => ho (Or.inr e)
        exact ⟨ap_ne h2, by simp only [ar_ne h1, rp_o h2], by simp only [gu_o h1, gu_o h2]⟩
      · exact ap_ne (by omega)
      · exact gu_at
      · show gu (gu G (w + 3) (1, 40)) w (3 + 4, 0) (w + 3) = (1, 40)
        rw [gu_o (by omega), gu_at]
  subst h2
  exact ⟨A', R', G', ⟨trivial, h1⟩, h4⟩
theorem vp_in_z : ¬ (0 : Int32) < 0 := by decide
theorem nI_nlt0 {n : Nat} (h : n < 2 ^ 31) : ¬ nI n < 0 := fun q => by
  have := nI_nn (j := n) (by omega)
  exact absurd q (Int32.not_lt.mpr this)
theorem r_cpy {tb : bT} {c : Nat × Nat} {pc nx a d sp dp n N M : Nat} {L : aL} {t : List Value} {x y v : Int32} (hk : bKl tb) (hb : blk tb pc = bL (o_cpy nx)) (ha : G a = (1, N)) (hd : G d = (1, M)) (h0 : ¬ x < 0) (h1 : ¬ y < 0) (h2 : ¬ v < 0) (e0 : x.toNatClampNeg = sp) (e1 : y.toNatClampNeg = dp) (e2 : v.toNatClampNeg = n) (l1 : sp + n ≤ N) (l2 : dp + n ≤ M) (hr : aRest t) (k : bw tb E c nx L t (ap A d (va_cpy (A a) (A d) sp dp n), R, G)) : bw tb E c pc L (.int v :: .int y :: .ref d :: .int x :: .ref a :: t) (A, R, G) := r_L hk hb (by
  subst e0
  subst e1
  subst e2
  show aRest t ∧ (G a).1 = 1 ∧ (G d).1 = 1 ∧ ¬ x < 0 ∧ ¬ y < 0 ∧ ¬ v < 0 ∧ x.toNatClampNeg + v.toNatClampNeg ≤ (G a).2 ∧ y.toNatClampNeg + v.toNatClampNeg ≤ (G d).2 ∧ bw tb E c nx L t (ap A d (va_cpy (A a) (A d) x.toNatClampNeg y.toNatClampNeg v.toNatClampNeg), R, G)
  rw [ha, hd]
  exact ⟨hr, rfl, rfl, h0, h1, h2, l1, l2, k⟩)
theorem qX1_whatWasRead (hG : aGS G) (hw : w + 3 < 1000) (hf : ∀ j, j < 4 → G (w + j) = (0, 0)) (h7 : A 31 7 = nI n) (hn : n ≤ 160) : ∃ A' R' G', CX1_whatWasRead [.ref 31] (A, R, G) (some (.ref w)) (A', R', G') ∧ fr (fun o => w ≤ o ∧ o ≤ w + 3) A A' R R' G G' ∧ aGx G' w n ∧ (∀ i, i < n → A' (w + 1) i = A 35 i) ∧ A' (w + 2) = A 36 := by
  have f0 := hf 0 (by decide)
  have f1 := hf 1 (by decide)
  have f2 := hf 2 (by decide)
  have f3 := hf 3 (by decide)
  rw [Nat.add_zero] at f0
  have ne : ∀ k, k < 80 → ¬ gtb k = (0, 0) → ∀ j, j < 4 → ¬ k = w + j := fun k hk h j hj e => h (by rw [← hG k hk, e]; exact hf j hj)
  have n31 := ne 31 (by decide) (by decide)
  have n35 := ne 35 (by decide) (by decide)
  have n36 := ne 36 (by decide) (by decide)
  have m31 : ¬ 31 = w := n31 0 (by decide)
  have m36 : ¬ 36 = w := n36 0 (by decide)
  obtain ⟨r, ⟨A', R', G'⟩, h1, h2, h4⟩ : ∃ (r1 : Option Value) (μ1 : aM), bCl tX1_whatWasRead 2 4 206 [.ref 31] (A, R, G) r1 μ1 ∧ (r1 = some (.ref w) ∧ fr (fun o => w ≤ o ∧ o ≤ w + 3) A μ1.1 R μ1.2.1 G μ1.2.2 ∧ aGx μ1.2.2 w n ∧ (∀ i, i < n → μ1.1 (w + 1) i = A 35 i) ∧ μ1.1 (w + 2) = A 36) := by
    refine bC_ex kX1_whatWasRead (Nat.le_of_ble_eq_true rfl) ?_
    show bw tX1_whatWasRead _ (0, 0) 0 [some (.ref 31), none] [] (A, R, G)
    have hk := kX1_whatWasRead
    refine r_al hk rfl rfl ?_
    refine r_gI hk rfl (gt31 hG) h7 ?_
    refine r_nwa hk rfl (w + 1) (by omega) f1 (nI_nlt0 (by omega)) (nI_clamp (by omega)) (by omega) (by simp) (by show 0 + n ≤ 206; omega) rfl ?_
    refine r_as hk rfl ?_
    refine r_al hk rfl rfl ?_
    refine r_gF hk rfl (by rw [gu_o (n31 1 (by decide))]; exact gt31 hG) ?_
    refine r_ii hk rfl ?_
    refine r_al hk rfl rfl ?_
    refine r_ii hk rfl ?_
    refine r_al hk rfl rfl ?_
    refine r_gI hk rfl (by rw [gu_o (n31 1 (by decide))]; exact gt31 hG) (v := nI n) (by rw [ap_ne (n31 1 (by decide))]; exact h7) ?_
    obtain ⟨A1, hA1⟩ : ∃ A1, A1 = ap (ap A (w + 1) (fun _ => 0)) (w + 1) (va_cpy (ap A (w + 1) (fun _ => 0) 35) (ap A (w + 1) (fun _ => 0) (w + 1)) 0 0 n) := ⟨_, rfl⟩
    obtain ⟨G1, hG1⟩ : ∃ G1, G1 = gu G (w + 1) (1, n) := ⟨_, rfl⟩
    have e35 : G1 35 = (1, 160) := by rw [hG1, gu_o (n35 1 (by decide))]; exact hG 35 (by decide)
    have e1 : G1 (w + 1) = (1, n) := by rw [hG1]; exact gu_at
    rw [← hG1]
    refine r_cpy (sp := 0) (dp := 0) (n := n) hk rfl e35 e1 (by decide) (by decide) (nI_nlt0 (by omega)) rfl rfl (nI_clamp (by omega)) (by omega) (by omega) (Nat.zero_le _) ?_
    · rw [← hA1]
      have g0 : G1 w = (0, 0) := by rw [hG1, gu_o (by omega)]; exact f0
      have g2 : G1 (w + 2) = (0, 0) := by rw [hG1, gu_o (by omega)]; exact f2
      have g3 : G1 (w + 3) = (0, 0) := by rw [hG1, gu_o (by omega)]; exact f3
      have g1 : G1 (w + 1) = (1, n) := by rw [hG1]; exact gu_at
      have g31 : (G1 31).1 = 5 := by rw [hG1, gu_o (n31 1 (by decide))]; exact gt31 hG
      have g36 : G1 36 = (1, 3) := by rw [hG1, gu_o (n36 1 (by decide))]; exact hG 36 (by decide)
      refine r_new hk rfl w (by omega) g0 (by simp) (by show 0 + n + 3 ≤ 206; omega) rfl ?_
      refine r_dup hk rfl rfl ?_
      refine r_al hk rfl rfl ?_
      refine r_al hk rfl rfl ?_
      refine r_gF hk rfl (by rw [gu_o m31]; exact g31) ?_
      refine r_cln hk rfl (Nat.le_of_ble_eq_true rfl) (a := 36) (N := 3) (by rw [gu_o m36]; exact g36) (w + 2) (by omega) (by rw [gu_o (by omega)]; exact g2) (by simp) (by show 0 + n + 3 + 3 ≤ 206; omega) rfl ?_
      refine r_cst hk rfl (by rw [gu_at]) ?_
      obtain ⟨A2, hA2⟩ : ∃ A2, A2 = ap (ap A1 w (fun _ => 0)) (w + 2) (ap A1 w (fun _ => 0) 36) := ⟨_, rfl⟩
      obtain ⟨R2, hR2⟩ : ∃ R2, R2 = rp (rp (rp R (w + 1) (fun _ => none)) w (fun _ => none)) (w + 2) (fun _ => none) := ⟨_, rfl⟩
      obtain ⟨G2, hG2⟩ : ∃ G2, G2 = gu (gu G1 w (0, 4)) (w + 2) (1, 3) := ⟨_, rfl⟩
      show bw _ _ _ 36 _ [.ref (w + 2), .ref (w + 1), .ref w, .ref w] (ap (ap A1 w (fun _ => 0)) (w + 2) (ap A1 w (fun _ => 0) 36), rp (rp (rp R (w + 1) (fun _ => none)) w (fun _ => none)) (w + 2) (fun _ => none), gu (gu G1 w (0, 4)) (w + 2) (1, 3))
      rw [← hA2, ← hR2, ← hG2]
      have k0 : G2 w = (0, 4) := by rw [hG2, gu_o (by omega), gu_at]
      have k3 : G2 (w + 3) = (0, 0) := by rw [hG2, gu_o (by omega), gu_o (by omega)]; exact g3
      obtain ⟨A', R', G', q1, q2, q3, q4, q5⟩ := qX3_init (A := A2) (R := R2) hw k0 k3
      refine r_bcI (t := [.ref w]) hk rfl rfl k0 (Nat.le_of_ble_eq_true rfl) q1 (by simp) (by show 0 + n + 3 + 3 + 40 ≤ 206; omega) rfl ?_
      refine r_rr hk rfl ⟨⟨rfl, fun o ho => ?_, ⟨q4, ?_, ?_, q5⟩, fun i hi => ?_, ?_⟩, by simp, by show 0 + n + 3 + 3 + 40 ≤ 206; omega⟩
      · have o0 : ¬ o = w := fun e => ho (by omega)
        have o1 : ¬ o = w + 1 := fun e => ho (by omega)
        have o2 : ¬ o = w + 2 := fun e => ho (by omega)
        have o3 : ¬ o = w + 3 := fun e => ho (by omega)
        obtain ⟨e1, e2, e3⟩ := q2 o (fun e => e.elim o0 o3)
        refine ⟨e1.trans ?_, e2.trans ?_, e3.trans ?_⟩
        · rw [hA2, ap_ne o2, ap_ne o0, hA1, ap_ne o1, ap_ne o1]
        · rw [hR2, rp_o o2, rp_o o0, rp_o o1]
        · rw [hG2, gu_o o2, gu_o o0, hG1, gu_o o1]
      · show G' (w + 1) = (1, n)
        rw [(q2 (w + 1) (by omega)).2.2, hG2, gu_o (by omega), gu_o (by omega)]; exact g1
      · show G' (w + 2) = (1, 3)
        rw [(q2 (w + 2) (by omega)).2.2, hG2, gu_at]
      · show A' (w + 1) i = A 35 i
        rw [(q2 (w + 1) (by omega)).1, hA2, ap_ne (by omega), ap_ne (by omega), hA1, ap_eq, ap_ne (n35 1 (by decide))]
        simp [va_cpy, hi]
      · show A' (w + 2) = A 36
        rw [(q2 (w + 2) (by omega)).1, hA2, ap_eq, ap_ne m36, hA1, ap_ne (n36 1 (by decide)), ap_ne (n36 1 (by decide))]
  subst h2
  exact ⟨A', R', G', ⟨trivial, h1⟩, h4⟩
theorem qX0_init (hb : b + 10 < 1000) (h0 : G b = (0, 1)) (hf : ∀ j, j < 9 → G (b + 1 + j) = (0, 0)) : ∃ A' R' G', CX0_init [.ref b, .ref t] (A, R, G) none (A', R', G') ∧ fr (fun o => b ≤ o ∧ o ≤ b + 9) A A' R R' G G' ∧ A' b = A b ∧ (∀ j, j < 9 → A' (b + 1 + j) = fun _ => 0) ∧ R' b 14 = some t ∧ G' b = (4, 0) ∧ ∀ j, j < 9 → G' (b + 1 + j) = (1, [6, 6, 6, 6, 6, 8, 8, 8, 6].getD j 0) := by
  have f0 := hf 0 (by decide)
  have f1 := hf 1 (by decide)
  have f2 := hf 2 (by decide)
  have f3 := hf 3 (by decide)
  have f4 := hf 4 (by decide)
  have f5 := hf 5 (by decide)
  have f6 := hf 6 (by decide)
  have f7 := hf 7 (by decide)
  have f8 := hf 8 (by decide)
  obtain ⟨r, ⟨A', R', G'⟩, h1, h2, h4⟩ : ∃ (r1 : Option Value) (μ1 : aM), bCl tX0_init 2 9 60 [.ref b, .ref t] (A, R, G) r1 μ1 ∧ (r1 = none ∧ fr (fun o => b ≤ o ∧ o ≤ b + 9) A μ1.1 R μ1.2.1 G μ1.2.2 ∧ μ1.1 b = A b ∧ (∀ j, j < 9 → μ1.1 (b + 1 + j) = fun _ => 0) ∧ μ1.2.1 b 14 = some t ∧ μ1.2.2 b = (4, 0) ∧ ∀ j, j < 9 → μ1.2.2 (b + 1 + j) = (1, [6, 6, 6, 6, 6, 8, 8, 8, 6].getD j 0)) := by
    refine bC_ex kX0_init (Nat.le_of_ble_eq_true rfl) ?_
    show bw tX0_init _ (0, 0) 0 [some (.ref b), some (.ref t)] [] (A, R, G)
    refine r_al kX0_init rfl rfl ?_
    refine r_obj kX0_init rfl (Nat.le_of_ble_eq_true rfl) ?_
    refine r_al kX0_init rfl rfl ?_
    refine r_ii kX0_init rfl ?_
    refine r_nwa kX0_init rfl (b + 1 + 0) (by omega) f0 (by decide) rfl (by decide) (by decide) (by decide) rfl ?_
    refine r_pwR kX0_init rfl (by rw [gu_o (by omega)]; exact h0) ?_
    refine r_al kX0_init rfl rfl ?_
    refine r_ii kX0_init rfl ?_
    refine r_nwa kX0_init rfl (b + 1 + 1) (by omega) (by rw [gu_o (by omega)]; exact f1) (by decide) rfl (by decide) (by decide) (by decide) rfl ?_
    refine r_pwR kX0_init rfl (by rw [gu_o (by omega), gu_o (by omega)]; exact h0) ?_
    refine r_al kX0_init rfl rfl ?_
    refine r_ii kX0_init rfl ?_
    refine r_nwa kX0_init rfl (b + 1 + 2) (by omega) (by rw [gu_o (by omega), gu_o (by omega)]; exact f2) (by decide) rfl (by decide) (by decide) (by decide) rfl ?_
    refine r_pwR kX0_init rfl (by rw [gu_o (by omega), gu_o (by omega), gu_o (by omega)]; exact h0) ?_
    refine r_al kX0_init rfl rfl ?_
    refine r_ii kX0_init rfl ?_
    refine r_nwa kX0_init rfl (b + 1 + 3) (by omega) (by rw [gu_o (by omega), gu_o (by omega), gu_o (by omega)]; exact f3) (by decide) rfl (by decide) (by decide) (by decide) rfl ?_
    refine r_pwR kX0_init rfl (by rw [gu_o (by omega), gu_o (by omega), gu_o (by omega), gu_o (by omega)]; exact h0) ?_
    refine r_al kX0_init rfl rfl ?_
    refine r_ii kX0_init rfl ?_
    refine r_nwa kX0_init rfl (b + 1 + 4) (by omega) (by rw [gu_o (by omega), gu_o (by omega), gu_o (by omega), gu_o (by omega)]; exact f4) (by decide) rfl (by decide) (by decide) (by decide) rfl ?_
    refine r_pwR kX0_init rfl (by rw [gu_o (by omega), gu_o (by omega), gu_o (by omega), gu_o (by omega), gu_o (by omega)]; exact h0) ?_
    refine r_al kX0_init rfl rfl ?_
    refine r_ii kX0_init rfl ?_
    refine r_nwa kX0_init rfl (b + 1 + 5) (by omega) (by rw [gu_o (by omega), gu_o (by omega), gu_o (by omega), gu_o (by omega), gu_o (by omega)]; exact f5) (by decide) rfl (by decide) (by decide) (by decide) rfl ?_
    refine r_pwR kX0_init rfl (by rw [gu_o (by omega), gu_o (by omega), gu_o (by omega), gu_o (by omega), gu_o (by omega), gu_o (by omega)]; exact h0) ?_
    refine r_al kX0_init rfl rfl ?_
    refine r_ii kX0_init rfl ?_
    refine r_nwa kX0_init rfl (b + 1 + 6) (by omega) (by rw [gu_o (by omega), gu_o (by omega), gu_o (by omega), gu_o (by omega), gu_o (by omega), gu_o (by omega)]; exact f6) (by decide) rfl (by decide) (by decide) (by decide) rfl ?_
    refine r_pwR kX0_init rfl (by rw [gu_o (by omega), gu_o (by omega), gu_o (by omega), gu_o (by omega), gu_o (by omega), gu_o (by omega), gu_o (by omega)]; exact h0) ?_
    refine r_al kX0_init rfl rfl ?_
    refine r_ii kX0_init rfl ?_
    refine r_nwa kX0_init rfl (b + 1 + 7) (by omega) (by rw [gu_o (by omega), gu_o (by omega), gu_o (by omega), gu_o (by omega), gu_o (by omega), gu_o (by omega), gu_o (by omega)]; exact f7) (by decide) rfl (by decide) (by decide) (by decide) rfl ?_
    refine r_pwR kX0_init rfl (by rw [gu_o (by omega), gu_o (by omega), gu_o (by omega), gu_o (by omega), gu_o (by omega), gu_o (by omega), gu_o (by omega), gu_o (by omega)]; exact h0) ?_
    refine r_al kX0_init rfl rfl ?_
    refine r_ii kX0_init rfl ?_
    refine r_nwa kX0_init rfl (b + 1 + 8) (by omega) (by rw [gu_o (by omega), gu_o (by omega), gu_o (by omega), gu_o (by omega), gu_o (by omega), gu_o (by omega), gu_o (by omega), gu_o (by omega)]; exact f8) (by decide) rfl (by decide) (by decide) (by decide) rfl ?_
    refine r_pwR kX0_init rfl (by rw [gu_o (by omega), gu_o (by omega), gu_o (by omega), gu_o (by omega), gu_o (by omega), gu_o (by omega), gu_o (by omega), gu_o (by omega), gu_o (by omega)]; exact h0) ?_
    refine r_al kX0_init rfl rfl ?_
    refine r_al kX0_init rfl rfl ?_
    refine r_pwR kX0_init rfl (by rw [gu_o (by omega), gu_o (by omega), gu_o (by omega), gu_o (by omega), gu_o (by omega), gu_o (by omega), gu_o (by omega), gu_o (by omega), gu_o (by omega)]; exact h0) ?_
    refine r_mk kX0_init rfl b (by rw [gu_o (by omega), gu_o (by omega), gu_o (by omega), gu_o (by omega), gu_o (by omega), gu_o (by omega), gu_o (by omega), gu_o (by omega), gu_o (by omega)]; exact h0) (fun k j hk hj => ?_) ?_
    · have hk : k < 15 := hk
      by_cases h9 : k < 9
      · have e : k + 3 = j + 2 := (if_pos h9).symm.trans hj
        obtain rfl : j = k + 1 := by omega
        have k9 : k = 0 ∨ k = 1 ∨ k = 2 ∨ k = 3 ∨ k = 4 ∨ k = 5 ∨ k = 6 ∨ k = 7 ∨ k = 8 := by omega
        have hnb : ∀ j, ¬ b = b + 1 + j := fun j => by omega
        rcases k9 with rfl | rfl | rfl | rfl | rfl | rfl | rfl | rfl | rfl
        · show ar _ b 14 _ b 0 = some (b + (0 + 1))
          rw [ar_j (by decide), ar_j (by decide), rp_o (hnb 8), ar_j (by decide), rp_o (hnb 7), ar_j (by decide), rp_o (hnb 6), ar_j (by decide), rp_o (hnb 5), ar_j (by decide), rp_o (hnb 4), ar_j (by decide), rp_o (hnb 3), ar_j (by decide), rp_o (hnb 2), ar_j (by decide), rp_o (hnb 1), ar_at, show b + 1 + 0 = b + (0 + 1) by omega]
        · show ar _ b 14 _ b 1 = some (b + (1 + 1))
          rw [ar_j (by decide), ar_j (by decide), rp_o (hnb 8), ar_j (by decide), rp_o (hnb 7), ar_j (by decide), rp_o (hnb 6), ar_j (by decide), rp_o (hnb 5), ar_j (by decide), rp_o (hnb 4), ar_j (by decide), rp_o (hnb 3), ar_j (by decide), rp_o (hnb 2), ar_at, show b + 1 + 1 = b + (1 + 1) by omega]
        · show ar _ b 14 _ b 2 = some (b + (2 + 1))
          rw [ar_j (by decide), ar_j (by decide), rp_o (hnb 8), ar_j (by decide), rp_o (hnb 7), ar_j (by decide), rp_o (hnb 6), ar_j (by decide), rp_o (hnb 5), ar_j (by decide), rp_o (hnb 4), ar_j (by decide), rp_o (hnb 3), ar_at, show b + 1 + 2 = b + (2 + 1) by omega]
        · show ar _ b 14 _ b 3 = some (b + (3 + 1))
          rw [ar_j (by decide), ar_j (by decide), rp_o (hnb 8), ar_j (by decide), rp_o (hnb 7), ar_j (by decide), rp_o (hnb 6), ar_j (by decide), rp_o (hnb 5), ar_j (by decide), rp_o (hnb 4), ar_at, show b + 1 + 3 = b + (3 + 1) by omega]
        · show ar _ b 14 _ b 4 = some (b + (4 + 1))
          rw [ar_j (by decide), ar_j (by decide), rp_o (hnb 8), ar_j (by decide), rp_o (hnb 7), ar_j (by decide), rp_o (hnb 6), ar_j (by decide), rp_o (hnb 5), ar_at, show b + 1 + 4 = b + (4 + 1) by omega]
        · show ar _ b 14 _ b 5 = some (b + (5 + 1))
          rw [ar_j (by decide), ar_j (by decide), rp_o (hnb 8), ar_j (by decide), rp_o (hnb 7), ar_j (by decide), rp_o (hnb 6), ar_at, show b + 1 + 5 = b + (5 + 1) by omega]
        · show ar _ b 14 _ b 6 = some (b + (6 + 1))
          rw [ar_j (by decide), ar_j (by decide), rp_o (hnb 8), ar_j (by decide), rp_o (hnb 7), ar_at, show b + 1 + 6 = b + (6 + 1) by omega]
        · show ar _ b 14 _ b 7 = some (b + (7 + 1))
          rw [ar_j (by decide), ar_j (by decide), rp_o (hnb 8), ar_at, show b + 1 + 7 = b + (7 + 1) by omega]
        · show ar _ b 14 _ b 8 = some (b + (8 + 1))
          rw [ar_j (by decide), ar_at, show b + 1 + 8 = b + (8 + 1) by omega]
      · have e : alay 0 k = (if k < 9 then k + 3 else if k < 14 then 0 else 1) := rfl
        rw [e, if_neg h9] at hj
        by_cases h14 : k < 14
        · rw [if_pos h14] at hj; omega
        · rw [if_neg h14] at hj; omega
    · unfold b_rv
      refine ⟨⟨rfl, fun o ho => ?_, ?_, fun j hj => ?_, ?_, gu_at, fun j hj => ?_⟩, by decide, by decide⟩
      · have hne : ∀ j, j < 9 → ¬ o = b + 1 + j := fun j hj e => ho (by omega)
        have hb0 : ¬ o = b := fun e => ho (by omega)
        refine ⟨?_, ?_, ?_⟩
        · simp only [ap_ne (hne 0 (by decide)), ap_ne (hne 1 (by decide)), ap_ne (hne 2 (by decide)), ap_ne (hne 3 (by decide)), ap_ne (hne 4 (by decide)), ap_ne (hne 5 (by decide)), ap_ne (hne 6 (by decide)), ap_ne (hne 7 (by decide)), ap_ne (hne 8 (by decide))]
        · simp only [ar_ne hb0, rp_o (hne 0 (by decide)), rp_o (hne 1 (by decide)), rp_o (hne 2 (by decide)), rp_o (hne 3 (by decide)), rp_o (hne 4 (by decide)), rp_o (hne 5 (by decide)), rp_o (hne 6 (by decide)), rp_o (hne 7 (by decide)), rp_o (hne 8 (by decide))]
        · simp only [gu_o hb0, gu_o (hne 0 (by decide)), gu_o (hne 1 (by decide)), gu_o (hne 2 (by decide)), gu_o (hne 3 (by decide)), gu_o (hne 4 (by decide)), gu_o (hne 5 (by decide)), gu_o (hne 6 (by decide)), gu_o (hne 7 (by decide)), gu_o (hne 8 (by decide))]
      · have hne : ∀ j, ¬ b = b + 1 + j := fun j => by omega
        simp only [ap_ne (hne 0), ap_ne (hne 1), ap_ne (hne 2), ap_ne (hne 3), ap_ne (hne 4), ap_ne (hne 5), ap_ne (hne 6), ap_ne (hne 7), ap_ne (hne 8)]
      · have k9 : j = 0 ∨ j = 1 ∨ j = 2 ∨ j = 3 ∨ j = 4 ∨ j = 5 ∨ j = 6 ∨ j = 7 ∨ j = 8 := by omega
        rcases k9 with rfl | rfl | rfl | rfl | rfl | rfl | rfl | rfl | rfl <;> simp [ap]
      · simp [ar]
      · have k9 : j = 0 ∨ j = 1 ∨ j = 2 ∨ j = 3 ∨ j = 4 ∨ j = 5 ∨ j = 6 ∨ j = 7 ∨ j = 8 := by omega
        rcases k9 with rfl | rfl | rfl | rfl | rfl | rfl | rfl | rfl | rfl <;> simp [gu] <;> first | omega | rfl
  subst h2
  exact ⟨A', R', G', ⟨trivial, h1⟩, h4⟩
theorem qX1_init (h0 : G 31 = (0, 2)) (hf : ∀ k, 32 ≤ k → k ≤ 36 → G k = (0, 0)) : ∃ A' R' G', CX1_init [.ref 31] (A, R, G) none (A', R', G') ∧ fr (fun o => 31 ≤ o ∧ o ≤ 36) A A' R R' G G' ∧ A' 31 = A 31 ∧ (∀ k, 32 ≤ k → k ≤ 36 → A' k = fun _ => 0) ∧ ∀ k, 31 ≤ k → k ≤ 36 → G' k = gtb k := by
  obtain ⟨r, ⟨A', R', G'⟩, h1, h2, h4⟩ : ∃ (r1 : Option Value) (μ1 : aM), bCl tX1_init 1 5 645 [.ref 31] (A, R, G) r1 μ1 ∧ (r1 = none ∧ fr (fun o => 31 ≤ o ∧ o ≤ 36) A μ1.1 R μ1.2.1 G μ1.2.2 ∧ μ1.1 31 = A 31 ∧ (∀ k, 32 ≤ k → k ≤ 36 → μ1.1 k = fun _ => 0) ∧ ∀ k, 31 ≤ k → k ≤ 36 → μ1.2.2 k = gtb k) := by
    refine bC_ex kX1_init (Nat.le_of_ble_eq_true rfl) ?_
    show bw tX1_init _ (0, 0) 0 [some (.ref 31)] [] (A, R, G)
    refine r_al kX1_init rfl rfl ?_
    refine r_obj kX1_init rfl (Nat.le_of_ble_eq_true rfl) ?_
    refine r_al kX1_init rfl rfl ?_
    refine r_ii kX1_init rfl ?_
    refine r_nwa kX1_init rfl (32) (by omega) (hf 32 (by decide) (by decide)) (by decide) rfl (by decide) (by decide) (by decide) rfl ?_
    refine r_pwR kX1_init rfl h0 ?_
    refine r_al kX1_init rfl rfl ?_
    refine r_ii kX1_init rfl ?_
    refine r_nwa kX1_init rfl (33) (by omega) (hf 33 (by decide) (by decide)) (by decide) rfl (by decide) (by decide) (by decide) rfl ?_
    refine r_pwR kX1_init rfl h0 ?_
    refine r_al kX1_init rfl rfl ?_
    refine r_ii kX1_init rfl ?_
    refine r_nwa kX1_init rfl (34) (by omega) (hf 34 (by decide) (by decide)) (by decide) rfl (by decide) (by decide) (by decide) rfl ?_
    refine r_pwR kX1_init rfl h0 ?_
    refine r_al kX1_init rfl rfl ?_
    refine r_ii kX1_init rfl ?_
    refine r_nwa kX1_init rfl (35) (by omega) (hf 35 (by decide) (by decide)) (by decide) rfl (by decide) (by decide) (by decide) rfl ?_
    refine r_pwR kX1_init rfl h0 ?_
    refine r_al kX1_init rfl rfl ?_
    refine r_ii kX1_init rfl ?_
    refine r_nwa kX1_init rfl (36) (by omega) (hf 36 (by decide) (by decide)) (by decide) rfl (by decide) (by decide) (by decide) rfl ?_
    refine r_pwR kX1_init rfl h0 ?_
    refine r_mk kX1_init rfl 31 h0 (fun k j hk hj => ?_) ?_
    · have hk : k < 8 := hk
      by_cases h5 : k < 5
      · have e : k + 3 = j + 2 := (if_pos h5).symm.trans hj
        obtain rfl : j = k + 1 := by omega
        have k5 : k = 0 ∨ k = 1 ∨ k = 2 ∨ k = 3 ∨ k = 4 := by omega
        rcases k5 with rfl | rfl | rfl | rfl | rfl <;> rfl
      · have e : (0 : Nat) = j + 2 := (if_neg h5).symm.trans hj
        omega
    · unfold b_rv
      refine ⟨⟨rfl, fun o ho => ?_, rfl, fun k h1 h2 => ?_, fun k h1 h2 => ?_⟩, by decide, by decide⟩
      · have hne : ∀ k, 31 ≤ k → k ≤ 36 → ¬ o = k := fun k h1 h2 e => ho (by omega)
        refine ⟨?_, ?_, ?_⟩
        · simp only [ap_ne (hne 32 (by decide) (by decide)), ap_ne (hne 33 (by decide) (by decide)), ap_ne (hne 34 (by decide) (by decide)), ap_ne (hne 35 (by decide) (by decide)), ap_ne (hne 36 (by decide) (by decide))]
        · simp only [ar_ne (hne 31 (by decide) (by decide)), rp_o (hne 32 (by decide) (by decide)), rp_o (hne 33 (by decide) (by decide)), rp_o (hne 34 (by decide) (by decide)), rp_o (hne 35 (by decide) (by decide)), rp_o (hne 36 (by decide) (by decide))]
        · simp only [gu_o (hne 31 (by decide) (by decide)), gu_o (hne 32 (by decide) (by decide)), gu_o (hne 33 (by decide) (by decide)), gu_o (hne 34 (by decide) (by decide)), gu_o (hne 35 (by decide) (by decide)), gu_o (hne 36 (by decide) (by decide))]
      · have k5 : k = 32 ∨ k = 33 ∨ k = 34 ∨ k = 35 ∨ k = 36 := by omega
        rcases k5 with rfl | rfl | rfl | rfl | rfl <;> rfl
      · have k5 : k = 31 ∨ k = 32 ∨ k = 33 ∨ k = 34 ∨ k = 35 ∨ k = 36 := by omega
        rcases k5 with rfl | rfl | rfl | rfl | rfl | rfl <;> rfl
  subst h2
  exact ⟨A', R', G', ⟨trivial, h1⟩, h4⟩
theorem qX2_init (hb : b + 1 < 1000) (h0 : G b = (0, 3)) (h1 : G (b + 1) = (0, 0)) : ∃ A' R' G', CX2_init [.ref b] (A, R, G) none (A', R', G') ∧ fr (fun o => o = b ∨ o = b + 1) A A' R R' G G' ∧ A' b = upd (A b) 1 (-1) ∧ (A' (b + 1) = fun _ => 0) ∧ G' b = (6, 0) ∧ G' (b + 1) = (1, 40) := by
  obtain ⟨r, ⟨A', R', G'⟩, h1, h2, h4⟩ : ∃ (r1 : Option Value) (μ1 : aM), bCl tX2_init 1 1 40 [.ref b] (A, R, G) r1 μ1 ∧ (r1 = none ∧ fr (fun o => o = b ∨ o = b + 1) A μ1.1 R μ1.2.1 G μ1.2.2 ∧ μ1.1 b = upd (A b) 1 (-1) ∧ (μ1.1 (b + 1) = fun _ => 0) ∧ μ1.2.2 b = (6, 0) ∧ μ1.2.2 (b + 1) = (1, 40)) := by
    refine bC_ex kX2_init (Nat.le_of_ble_eq_true rfl) ?_
    show bw tX2_init _ (0, 0) 0 [some (.ref b)] [] (A, R, G)
    refine r_al kX2_init rfl rfl ?_
    refine r_obj kX2_init rfl (Nat.le_of_ble_eq_true rfl) ?_
    refine r_al kX2_init rfl rfl ?_
    refine r_ii kX2_init rfl ?_
    refine r_nwa kX2_init rfl (b + 1) (by omega) h1 (by decide) rfl (by decide) (by decide) (by decide) rfl ?_
    refine r_pwR kX2_init rfl (by rw [gu_o (by omega)]; exact h0) ?_
    refine r_al kX2_init rfl rfl ?_
    refine r_ii kX2_init rfl ?_
    refine r_pwI kX2_init rfl (by rw [gu_o (by omega)]; exact h0) ?_
    refine r_mk kX2_init rfl b (by rw [gu_o (by omega)]; exact h0) (fun k j hk hj => ?_) ?_
    · have hk : k < 3 := hk
      by_cases h5 : k = 0
      · subst h5
        have hj : 3 = j + 2 := hj
        obtain rfl : j = 1 := by omega
        simp [ar]
      · have e : (0 : Nat) = j + 2 := (if_neg h5).symm.trans hj
        omega
    · unfold b_rv
      refine ⟨⟨rfl, fun o ho => ?_, ?_, ?_, gu_at, ?_⟩, by decide, by decide⟩
      · have o0 : ¬ o = b := fun e => ho (Or.inl e)
        have o1 : ¬ o = b + 1 := fun e => ho (Or.inr e)
        exact ⟨by simp only [au_o o0, ap_ne o1], by simp only [ar_ne o0, rp_o o1], by simp only [gu_o o0, gu_o o1]⟩
      · show ap _ b (upd (ap A (b + 1) (fun _ => 0) b) 1 (-1)) b = _
        rw [ap_eq, ap_ne (by omega)]
      · show au _ b 1 (-1) (b + 1) = _
        rw [au_o (by omega), ap_eq]
      · show gu _ b _ (b + 1) = _
        rw [gu_o (by omega), gu_at]; rfl
  subst h2
  exact ⟨A', R', G', ⟨trivial, h1⟩, h4⟩
end S1
