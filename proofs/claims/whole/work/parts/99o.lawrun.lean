/-! the law's body -/
def lI (A : Nat → Nat → Int32) (R : Nat → Nat → Option Nat) (G : Nat → Nat × Nat) : Prop := ∃ n t T W, sJ n t T W A R G ∧ ∀ k, tw T ≤ k → k < 1000 → G k = (0, 0)
abbrev lL (i : Nat) : aL := [some (.ref 1300), some (.ref 0), some (.ref 48), some (.int (nI i))]
section LW
variable {A : Nat → Nat → Int32} {R : Nat → Nat → Option Nat} {G : Nat → Nat × Nat} {xs : Nat → Int32} {N i : Nat} {E : bR} {c c' : Nat × Nat} {st : List Value} {μ : aM}
theorem r_arg {p0 p1 p2 p3 p4 p5 j : Nat} {v : Int32} (b0 : blk (tL xs N) p0 = bL (o_al 0 p1)) (b1 : blk (tL xs N) p1 = bL (o_il 3 p2)) (b2 : blk (tL xs N) p2 = bL (o_ii v p3)) (b3 : blk (tL xs N) p3 = bL (o_bi (fun x y => x + y) p4)) (b4 : blk (tL xs N) p4 = b_sld xs N p5) (hv : v = nI j) (hij : i + j < N) (hN : N ≤ 3584) (k : bw (tL xs N) E c p5 (lL i) (.int (xs (i + j)) :: st) μ) : bw (tL xs N) E c p0 (lL i) st μ := by
  have hk := kL xs N
  refine r_al hk b0 rfl ?_
  refine r_il hk b1 rfl ?_
  refine r_ii hk b2 ?_
  refine r_bi (v := nI (i + j)) hk b3 (by rw [hv]; exact nI_add _ _) ?_
  refine r_sld hk b4 (vp_in_nI (by omega) (by omega)) (by rw [nI_clamp (by omega)]) ?_
  exact k
theorem lg_self (v : Int64) : lg_cmp v v = 0 := by
  unfold lg_cmp
  simp
set_option maxRecDepth 100000 in
theorem law_count (hi : i + 7 ≤ N) (hN : N ≤ 3584) (hc : c.1 ≤ 200 + 4 * i ∧ c.2 ≤ 10000 + 206 * i) (hI : lI A R G) (K : ∀ c' A R G, c'.1 ≤ 200 + 4 * (i + 7) ∧ c'.2 ≤ 10000 + 206 * (i + 7) → lI A R G → bw (tL xs N) E c' 1505 (lL i) [] (A, R, G)) : bw (tL xs N) E c 204 (lL i) [] (A, R, G) := by
  have hk := kL xs N
  obtain ⟨n, t, T, W, hJ, hf⟩ := hI
  have gs := hJ.1
  obtain ⟨v, A1, R1, A2, R2, h1, h2, n', t', h3⟩ := c_count hJ (xs (i + 1))
  refine r_al hk rfl rfl ?_
  refine r_arg (j := 1) rfl rfl rfl rfl rfl rfl (by omega) hN ?_
  refine r_cV (t := []) hk rfl rfl (gt0 gs) (Nat.zero_le _) h1 ?_
  refine r_al hk rfl rfl ?_
  refine r_arg (j := 1) rfl rfl rfl rfl rfl rfl (by omega) hN ?_
  refine r_cV (t := [.int v]) hk rfl rfl (gt48 gs) (Nat.le_of_ble_eq_true rfl) h2 ?_
  refine r_icT hk rfl rfl ?_
  exact K _ _ _ _ (by omega) ⟨n', t', T, W, h3, hf⟩
set_option maxRecDepth 100000 in
theorem law_dawn (hi : i + 7 ≤ N) (hN : N ≤ 3584) (hc : c.1 ≤ 200 + 4 * i ∧ c.2 ≤ 10000 + 206 * i) (hI : lI A R G) (K : ∀ c' A R G, c'.1 ≤ 200 + 4 * (i + 7) ∧ c'.2 ≤ 10000 + 206 * (i + 7) → lI A R G → bw (tL xs N) E c' 1505 (lL i) [] (A, R, G)) : bw (tL xs N) E c 227 (lL i) [] (A, R, G) := by
  have hk := kL xs N
  obtain ⟨n, t, T, W, hJ, hf⟩ := hI
  have gs := hJ.1
  obtain ⟨v, A1, R1, A2, R2, h1, h2, n', t', h3⟩ := c_dawn hJ (xs (i + 1))
  refine r_al hk rfl rfl ?_
  refine r_arg (j := 1) rfl rfl rfl rfl rfl rfl (by omega) hN ?_
  refine r_cV (t := []) hk rfl rfl (gt0 gs) (Nat.zero_le _) h1 ?_
  refine r_al hk rfl rfl ?_
  refine r_arg (j := 1) rfl rfl rfl rfl rfl rfl (by omega) hN ?_
  refine r_cV (t := [.int v]) hk rfl rfl (gt48 gs) (Nat.le_of_ble_eq_true rfl) h2 ?_
  refine r_icT hk rfl rfl ?_
  exact K _ _ _ _ (by omega) ⟨n', t', T, W, h3, hf⟩
set_option maxRecDepth 100000 in
theorem law_feed (hi : i + 7 ≤ N) (hN : N ≤ 3584) (hc : c.1 ≤ 200 + 4 * i ∧ c.2 ≤ 10000 + 206 * i) (hI : lI A R G) (K : ∀ c' A R G, c'.1 ≤ 200 + 4 * (i + 7) ∧ c'.2 ≤ 10000 + 206 * (i + 7) → lI A R G → bw (tL xs N) E c' 1505 (lL i) [] (A, R, G)) : bw (tL xs N) E c 250 (lL i) [] (A, R, G) := by
  have hk := kL xs N
  obtain ⟨n, t, T, W, hJ, hf⟩ := hI
  have gs := hJ.1
  obtain ⟨v, A1, R1, A2, R2, h1, h2, n', t', h3⟩ := c_feed hJ (xs (i + 1)) (xs (i + 2)) (xs (i + 3)) (xs (i + 4)) (xs (i + 5)) (xs (i + 6))
  refine r_al hk rfl rfl ?_
  refine r_arg (j := 1) rfl rfl rfl rfl rfl rfl (by omega) hN ?_
  refine r_arg (j := 2) rfl rfl rfl rfl rfl rfl (by omega) hN ?_
  refine r_arg (j := 3) rfl rfl rfl rfl rfl rfl (by omega) hN ?_
  refine r_arg (j := 4) rfl rfl rfl rfl rfl rfl (by omega) hN ?_
  refine r_arg (j := 5) rfl rfl rfl rfl rfl rfl (by omega) hN ?_
  refine r_arg (j := 6) rfl rfl rfl rfl rfl rfl (by omega) hN ?_
  refine r_cV (t := []) hk rfl rfl (gt0 gs) (Nat.zero_le _) h1 ?_
  refine r_al hk rfl rfl ?_
  refine r_arg (j := 1) rfl rfl rfl rfl rfl rfl (by omega) hN ?_
  refine r_arg (j := 2) rfl rfl rfl rfl rfl rfl (by omega) hN ?_
  refine r_arg (j := 3) rfl rfl rfl rfl rfl rfl (by omega) hN ?_
  refine r_arg (j := 4) rfl rfl rfl rfl rfl rfl (by omega) hN ?_
  refine r_arg (j := 5) rfl rfl rfl rfl rfl rfl (by omega) hN ?_
  refine r_arg (j := 6) rfl rfl rfl rfl rfl rfl (by omega) hN ?_
  refine r_cV (t := [.int v]) hk rfl rfl (gt48 gs) (Nat.le_of_ble_eq_true rfl) h2 ?_
  refine r_icT hk rfl rfl ?_
  exact K _ _ _ _ (by omega) ⟨n', t', T, W, h3, hf⟩
set_option maxRecDepth 100000 in
theorem law_text (hi : i + 7 ≤ N) (hN : N ≤ 3584) (hc : c.1 ≤ 200 + 4 * i ∧ c.2 ≤ 10000 + 206 * i) (hI : lI A R G) (K : ∀ c' A R G, c'.1 ≤ 200 + 4 * (i + 7) ∧ c'.2 ≤ 10000 + 206 * (i + 7) → lI A R G → bw (tL xs N) E c' 1505 (lL i) [] (A, R, G)) : bw (tL xs N) E c 325 (lL i) [] (A, R, G) := by
  have hk := kL xs N
  obtain ⟨n, t, T, W, hJ, hf⟩ := hI
  have gs := hJ.1
  obtain ⟨v, A1, R1, G1, A2, R2, T', W', h1, h2, ⟨n', t', h3⟩, h4⟩ := c_text hJ hf
  have gs1 := h3.1
  refine r_al hk rfl rfl ?_
  refine r_bcV (r := some (.int v)) (t := []) hk rfl rfl (gt0 gs) (Nat.zero_le _) trivial h1 (by omega) (by omega) rfl ?_
  refine r_al hk rfl rfl ?_
  refine r_cV (t := [.int v]) hk rfl rfl (gt48 gs1) (Nat.le_of_ble_eq_true rfl) h2 ?_
  refine r_icT hk rfl rfl ?_
  exact K _ _ _ _ (by show c.1 + 4 ≤ _ ∧ c.2 + 206 ≤ _; omega) ⟨n', t', T', W', h3, h4⟩
set_option maxRecDepth 100000 in
theorem law_force (hi : i + 7 ≤ N) (hN : N ≤ 3584) (hc : c.1 ≤ 200 + 4 * i ∧ c.2 ≤ 10000 + 206 * i) (hI : lI A R G) (K : ∀ c' A R G, c'.1 ≤ 200 + 4 * (i + 7) ∧ c'.2 ≤ 10000 + 206 * (i + 7) → lI A R G → bw (tL xs N) E c' 1505 (lL i) [] (A, R, G)) : bw (tL xs N) E c 338 (lL i) [] (A, R, G) := by
  have hk := kL xs N
  obtain ⟨n, t, T, W, hJ, hf⟩ := hI
  have gs := hJ.1
  obtain ⟨v, A1, R1, A2, R2, h1, h2, n', t', h3⟩ := c_force hJ (xs (i + 1))
  refine r_al hk rfl rfl ?_
  refine r_arg (j := 1) rfl rfl rfl rfl rfl rfl (by omega) hN ?_
  refine r_cV (t := []) hk rfl rfl (gt0 gs) (Nat.zero_le _) h1 ?_
  refine r_al hk rfl rfl ?_
  refine r_arg (j := 1) rfl rfl rfl rfl rfl rfl (by omega) hN ?_
  refine r_cV (t := [.int v]) hk rfl rfl (gt48 gs) (Nat.le_of_ble_eq_true rfl) h2 ?_
  refine r_icT hk rfl rfl ?_
  exact K _ _ _ _ (by omega) ⟨n', t', T, W, h3, hf⟩
set_option maxRecDepth 100000 in
theorem law_asks (hi : i + 7 ≤ N) (hN : N ≤ 3584) (hc : c.1 ≤ 200 + 4 * i ∧ c.2 ≤ 10000 + 206 * i) (hI : lI A R G) (K : ∀ c' A R G, c'.1 ≤ 200 + 4 * (i + 7) ∧ c'.2 ≤ 10000 + 206 * (i + 7) → lI A R G → bw (tL xs N) E c' 1505 (lL i) [] (A, R, G)) : bw (tL xs N) E c 361 (lL i) [] (A, R, G) := by
  have hk := kL xs N
  obtain ⟨n, t, T, W, hJ, hf⟩ := hI
  have gs := hJ.1
  obtain ⟨v, A1, R1, A2, R2, h1, h2, n', t', h3⟩ := c_asks hJ (xs (i + 1)) (xs (i + 2)) (xs (i + 3))
  refine r_al hk rfl rfl ?_
  refine r_arg (j := 1) rfl rfl rfl rfl rfl rfl (by omega) hN ?_
  refine r_arg (j := 2) rfl rfl rfl rfl rfl rfl (by omega) hN ?_
  refine r_arg (j := 3) rfl rfl rfl rfl rfl rfl (by omega) hN ?_
  refine r_cV (t := []) hk rfl rfl (gt0 gs) (Nat.zero_le _) h1 ?_
  refine r_al hk rfl rfl ?_
  refine r_arg (j := 1) rfl rfl rfl rfl rfl rfl (by omega) hN ?_
  refine r_arg (j := 2) rfl rfl rfl rfl rfl rfl (by omega) hN ?_
  refine r_arg (j := 3) rfl rfl rfl rfl rfl rfl (by omega) hN ?_
  refine r_cV (t := [.int v]) hk rfl rfl (gt48 gs) (Nat.le_of_ble_eq_true rfl) h2 ?_
  refine r_icT hk rfl rfl ?_
  exact K _ _ _ _ (by omega) ⟨n', t', T, W, h3, hf⟩
set_option maxRecDepth 100000 in
theorem law_judge (hi : i + 7 ≤ N) (hN : N ≤ 3584) (hc : c.1 ≤ 200 + 4 * i ∧ c.2 ≤ 10000 + 206 * i) (hI : lI A R G) (K : ∀ c' A R G, c'.1 ≤ 200 + 4 * (i + 7) ∧ c'.2 ≤ 10000 + 206 * (i + 7) → lI A R G → bw (tL xs N) E c' 1505 (lL i) [] (A, R, G)) : bw (tL xs N) E c 404 (lL i) [] (A, R, G) := by
  have hk := kL xs N
  obtain ⟨n, t, T, W, hJ, hf⟩ := hI
  have gs := hJ.1
  obtain ⟨v, A1, R1, A2, R2, h1, h2, n', t', h3⟩ := c_judge hJ (xs (i + 1)) (xs (i + 2)) (xs (i + 3))
  refine r_al hk rfl rfl ?_
  refine r_arg (j := 1) rfl rfl rfl rfl rfl rfl (by omega) hN ?_
  refine r_arg (j := 2) rfl rfl rfl rfl rfl rfl (by omega) hN ?_
  refine r_arg (j := 3) rfl rfl rfl rfl rfl rfl (by omega) hN ?_
  refine r_cV (t := []) hk rfl rfl (gt0 gs) (Nat.zero_le _) h1 ?_
  refine r_al hk rfl rfl ?_
  refine r_arg (j := 1) rfl rfl rfl rfl rfl rfl (by omega) hN ?_
  refine r_arg (j := 2) rfl rfl rfl rfl rfl rfl (by omega) hN ?_
  refine r_arg (j := 3) rfl rfl rfl rfl rfl rfl (by omega) hN ?_
  refine r_cV (t := [.int v]) hk rfl rfl (gt48 gs) (Nat.le_of_ble_eq_true rfl) h2 ?_
  refine r_icT hk rfl rfl ?_
  exact K _ _ _ _ (by omega) ⟨n', t', T, W, h3, hf⟩
set_option maxRecDepth 100000 in
theorem law_file (hi : i + 7 ≤ N) (hN : N ≤ 3584) (hc : c.1 ≤ 200 + 4 * i ∧ c.2 ≤ 10000 + 206 * i) (hI : lI A R G) (K : ∀ c' A R G, c'.1 ≤ 200 + 4 * (i + 7) ∧ c'.2 ≤ 10000 + 206 * (i + 7) → lI A R G → bw (tL xs N) E c' 1505 (lL i) [] (A, R, G)) : bw (tL xs N) E c 447 (lL i) [] (A, R, G) := by
  have hk := kL xs N
  obtain ⟨n, t, T, W, hJ, hf⟩ := hI
  have gs := hJ.1
  obtain ⟨v, A1, R1, A2, R2, h1, h2, n', t', h3⟩ := c_file hJ (xs (i + 1)) (xs (i + 2))
  refine r_al hk rfl rfl ?_
  refine r_arg (j := 1) rfl rfl rfl rfl rfl rfl (by omega) hN ?_
  refine r_arg (j := 2) rfl rfl rfl rfl rfl rfl (by omega) hN ?_
  refine r_cV (t := []) hk rfl rfl (gt0 gs) (Nat.zero_le _) h1 ?_
  refine r_al hk rfl rfl ?_
  refine r_arg (j := 1) rfl rfl rfl rfl rfl rfl (by omega) hN ?_
  refine r_arg (j := 2) rfl rfl rfl rfl rfl rfl (by omega) hN ?_
  refine r_cV (t := [.int v]) hk rfl rfl (gt48 gs) (Nat.le_of_ble_eq_true rfl) h2 ?_
  refine r_icT hk rfl rfl ?_
  exact K _ _ _ _ (by omega) ⟨n', t', T, W, h3, hf⟩
set_option maxRecDepth 100000 in
theorem law_put (hi : i + 7 ≤ N) (hN : N ≤ 3584) (hc : c.1 ≤ 200 + 4 * i ∧ c.2 ≤ 10000 + 206 * i) (hI : lI A R G) (K : ∀ c' A R G, c'.1 ≤ 200 + 4 * (i + 7) ∧ c'.2 ≤ 10000 + 206 * (i + 7) → lI A R G → bw (tL xs N) E c' 1505 (lL i) [] (A, R, G)) : bw (tL xs N) E c 480 (lL i) [] (A, R, G) := by
  have hk := kL xs N
  obtain ⟨n, t, T, W, hJ, hf⟩ := hI
  have gs := hJ.1
  obtain ⟨v, A1, R1, A2, R2, h1, h2, n', t', h3⟩ := c_put hJ (xs (i + 1)) (xs (i + 2)) (xs (i + 3))
  refine r_al hk rfl rfl ?_
  refine r_arg (j := 1) rfl rfl rfl rfl rfl rfl (by omega) hN ?_
  refine r_arg (j := 2) rfl rfl rfl rfl rfl rfl (by omega) hN ?_
  refine r_arg (j := 3) rfl rfl rfl rfl rfl rfl (by omega) hN ?_
  refine r_cV (t := []) hk rfl rfl (gt0 gs) (Nat.zero_le _) h1 ?_
  refine r_al hk rfl rfl ?_
  refine r_arg (j := 1) rfl rfl rfl rfl rfl rfl (by omega) hN ?_
  refine r_arg (j := 2) rfl rfl rfl rfl rfl rfl (by omega) hN ?_
  refine r_arg (j := 3) rfl rfl rfl rfl rfl rfl (by omega) hN ?_
  refine r_cV (t := [.int v]) hk rfl rfl (gt48 gs) (Nat.le_of_ble_eq_true rfl) h2 ?_
  refine r_icT hk rfl rfl ?_
  exact K _ _ _ _ (by omega) ⟨n', t', T, W, h3, hf⟩
set_option maxRecDepth 100000 in
theorem law_told (hi : i + 7 ≤ N) (hN : N ≤ 3584) (hc : c.1 ≤ 200 + 4 * i ∧ c.2 ≤ 10000 + 206 * i) (hI : lI A R G) (K : ∀ c' A R G, c'.1 ≤ 200 + 4 * (i + 7) ∧ c'.2 ≤ 10000 + 206 * (i + 7) → lI A R G → bw (tL xs N) E c' 1505 (lL i) [] (A, R, G)) : bw (tL xs N) E c 523 (lL i) [] (A, R, G) := by
  have hk := kL xs N
  obtain ⟨n, t, T, W, hJ, hf⟩ := hI
  have gs := hJ.1
  obtain ⟨v, A1, R1, A2, R2, h1, h2, n', t', h3⟩ := c_told hJ (xs (i + 1)) (xs (i + 2))
  refine r_al hk rfl rfl ?_
  refine r_arg (j := 1) rfl rfl rfl rfl rfl rfl (by omega) hN ?_
  refine r_arg (j := 2) rfl rfl rfl rfl rfl rfl (by omega) hN ?_
  refine r_cV (t := []) hk rfl rfl (gt0 gs) (Nat.zero_le _) h1 ?_
  refine r_al hk rfl rfl ?_
  refine r_arg (j := 1) rfl rfl rfl rfl rfl rfl (by omega) hN ?_
  refine r_arg (j := 2) rfl rfl rfl rfl rfl rfl (by omega) hN ?_
  refine r_cV (t := [.int v]) hk rfl rfl (gt48 gs) (Nat.le_of_ble_eq_true rfl) h2 ?_
  refine r_icT hk rfl rfl ?_
  exact K _ _ _ _ (by omega) ⟨n', t', T, W, h3, hf⟩
set_option maxRecDepth 100000 in
theorem law_paper (hi : i + 7 ≤ N) (hN : N ≤ 3584) (hc : c.1 ≤ 200 + 4 * i ∧ c.2 ≤ 10000 + 206 * i) (hI : lI A R G) (K : ∀ c' A R G, c'.1 ≤ 200 + 4 * (i + 7) ∧ c'.2 ≤ 10000 + 206 * (i + 7) → lI A R G → bw (tL xs N) E c' 1505 (lL i) [] (A, R, G)) : bw (tL xs N) E c 556 (lL i) [] (A, R, G) := by
  have hk := kL xs N
  obtain ⟨n, t, T, W, hJ, hf⟩ := hI
  have gs := hJ.1
  obtain ⟨v, A1, R1, A2, R2, h1, h2, n', t', h3⟩ := c_paper hJ (xs (i + 1)) (xs (i + 2))
  refine r_al hk rfl rfl ?_
  refine r_arg (j := 1) rfl rfl rfl rfl rfl rfl (by omega) hN ?_
  refine r_arg (j := 2) rfl rfl rfl rfl rfl rfl (by omega) hN ?_
  refine r_cV (t := []) hk rfl rfl (gt0 gs) (Nat.zero_le _) h1 ?_
  refine r_al hk rfl rfl ?_
  refine r_arg (j := 1) rfl rfl rfl rfl rfl rfl (by omega) hN ?_
  refine r_arg (j := 2) rfl rfl rfl rfl rfl rfl (by omega) hN ?_
  refine r_cV (t := [.int v]) hk rfl rfl (gt48 gs) (Nat.le_of_ble_eq_true rfl) h2 ?_
  refine r_icT hk rfl rfl ?_
  exact K _ _ _ _ (by omega) ⟨n', t', T, W, h3, hf⟩
set_option maxRecDepth 100000 in
theorem law_hearing (hi : i + 7 ≤ N) (hN : N ≤ 3584) (hc : c.1 ≤ 200 + 4 * i ∧ c.2 ≤ 10000 + 206 * i) (hI : lI A R G) (K : ∀ c' A R G, c'.1 ≤ 200 + 4 * (i + 7) ∧ c'.2 ≤ 10000 + 206 * (i + 7) → lI A R G → bw (tL xs N) E c' 1505 (lL i) [] (A, R, G)) : bw (tL xs N) E c 589 (lL i) [] (A, R, G) := by
  have hk := kL xs N
  obtain ⟨n, t, T, W, hJ, hf⟩ := hI
  have gs := hJ.1
  obtain ⟨v, A1, R1, A2, R2, h1, h2, n', t', h3⟩ := c_hearing hJ (xs (i + 1)) (xs (i + 2)) (xs (i + 3))
  refine r_al hk rfl rfl ?_
  refine r_arg (j := 1) rfl rfl rfl rfl rfl rfl (by omega) hN ?_
  refine r_arg (j := 2) rfl rfl rfl rfl rfl rfl (by omega) hN ?_
  refine r_arg (j := 3) rfl rfl rfl rfl rfl rfl (by omega) hN ?_
  refine r_cV (t := []) hk rfl rfl (gt0 gs) (Nat.zero_le _) h1 ?_
  refine r_al hk rfl rfl ?_
  refine r_arg (j := 1) rfl rfl rfl rfl rfl rfl (by omega) hN ?_
  refine r_arg (j := 2) rfl rfl rfl rfl rfl rfl (by omega) hN ?_
  refine r_arg (j := 3) rfl rfl rfl rfl rfl rfl (by omega) hN ?_
  refine r_cV (t := [.int v]) hk rfl rfl (gt48 gs) (Nat.le_of_ble_eq_true rfl) h2 ?_
  refine r_icT hk rfl rfl ?_
  exact K _ _ _ _ (by omega) ⟨n', t', T, W, h3, hf⟩
set_option maxRecDepth 100000 in
theorem law_hear (hi : i + 7 ≤ N) (hN : N ≤ 3584) (hc : c.1 ≤ 200 + 4 * i ∧ c.2 ≤ 10000 + 206 * i) (hI : lI A R G) (K : ∀ c' A R G, c'.1 ≤ 200 + 4 * (i + 7) ∧ c'.2 ≤ 10000 + 206 * (i + 7) → lI A R G → bw (tL xs N) E c' 1505 (lL i) [] (A, R, G)) : bw (tL xs N) E c 632 (lL i) [] (A, R, G) := by
  have hk := kL xs N
  obtain ⟨n, t, T, W, hJ, hf⟩ := hI
  have gs := hJ.1
  obtain ⟨v, A1, R1, A2, R2, h1, h2, n', t', h3⟩ := c_hear hJ (xs (i + 1)) (xs (i + 2))
  refine r_al hk rfl rfl ?_
  refine r_arg (j := 1) rfl rfl rfl rfl rfl rfl (by omega) hN ?_
  refine r_arg (j := 2) rfl rfl rfl rfl rfl rfl (by omega) hN ?_
  refine r_cV (t := []) hk rfl rfl (gt0 gs) (Nat.zero_le _) h1 ?_
  refine r_al hk rfl rfl ?_
  refine r_arg (j := 1) rfl rfl rfl rfl rfl rfl (by omega) hN ?_
  refine r_arg (j := 2) rfl rfl rfl rfl rfl rfl (by omega) hN ?_
  refine r_cV (t := [.int v]) hk rfl rfl (gt48 gs) (Nat.le_of_ble_eq_true rfl) h2 ?_
  refine r_icT hk rfl rfl ?_
  exact K _ _ _ _ (by omega) ⟨n', t', T, W, h3, hf⟩
set_option maxRecDepth 100000 in
theorem law_rob (hi : i + 7 ≤ N) (hN : N ≤ 3584) (hc : c.1 ≤ 200 + 4 * i ∧ c.2 ≤ 10000 + 206 * i) (hI : lI A R G) (K : ∀ c' A R G, c'.1 ≤ 200 + 4 * (i + 7) ∧ c'.2 ≤ 10000 + 206 * (i + 7) → lI A R G → bw (tL xs N) E c' 1505 (lL i) [] (A, R, G)) : bw (tL xs N) E c 665 (lL i) [] (A, R, G) := by
  have hk := kL xs N
  obtain ⟨n, t, T, W, hJ, hf⟩ := hI
  have gs := hJ.1
  obtain ⟨v, A1, R1, A2, R2, h1, h2, n', t', h3⟩ := c_rob hJ (xs (i + 1)) (xs (i + 2))
  refine r_al hk rfl rfl ?_
  refine r_arg (j := 1) rfl rfl rfl rfl rfl rfl (by omega) hN ?_
  refine r_arg (j := 2) rfl rfl rfl rfl rfl rfl (by omega) hN ?_
  refine r_cV (t := []) hk rfl rfl (gt0 gs) (Nat.zero_le _) h1 ?_
  refine r_al hk rfl rfl ?_
  refine r_arg (j := 1) rfl rfl rfl rfl rfl rfl (by omega) hN ?_
  refine r_arg (j := 2) rfl rfl rfl rfl rfl rfl (by omega) hN ?_
  refine r_cV (t := [.int v]) hk rfl rfl (gt48 gs) (Nat.le_of_ble_eq_true rfl) h2 ?_
  refine r_icT hk rfl rfl ?_
  exact K _ _ _ _ (by omega) ⟨n', t', T, W, h3, hf⟩
set_option maxRecDepth 100000 in
theorem law_day (hi : i + 7 ≤ N) (hN : N ≤ 3584) (hc : c.1 ≤ 200 + 4 * i ∧ c.2 ≤ 10000 + 206 * i) (hI : lI A R G) (K : ∀ c' A R G, c'.1 ≤ 200 + 4 * (i + 7) ∧ c'.2 ≤ 10000 + 206 * (i + 7) → lI A R G → bw (tL xs N) E c' 1505 (lL i) [] (A, R, G)) : bw (tL xs N) E c 698 (lL i) [] (A, R, G) := by
  have hk := kL xs N
  obtain ⟨n, t, T, W, hJ, hf⟩ := hI
  have gs := hJ.1
  obtain ⟨v, A1, R1, A2, R2, h1, h2, n', t', h3⟩ := c_day hJ
  refine r_al hk rfl rfl ?_
  refine r_cV (t := []) hk rfl rfl (gt0 gs) (Nat.zero_le _) h1 ?_
  refine r_al hk rfl rfl ?_
  refine r_cV (t := [.int v]) hk rfl rfl (gt48 gs) (Nat.le_of_ble_eq_true rfl) h2 ?_
  refine r_icT hk rfl rfl ?_
  exact K _ _ _ _ (by omega) ⟨n', t', T, W, h3, hf⟩
set_option maxRecDepth 100000 in
theorem law_run (hi : i + 7 ≤ N) (hN : N ≤ 3584) (hc : c.1 ≤ 200 + 4 * i ∧ c.2 ≤ 10000 + 206 * i) (hI : lI A R G) (K : ∀ c' A R G, c'.1 ≤ 200 + 4 * (i + 7) ∧ c'.2 ≤ 10000 + 206 * (i + 7) → lI A R G → bw (tL xs N) E c' 1505 (lL i) [] (A, R, G)) : bw (tL xs N) E c 711 (lL i) [] (A, R, G) := by
  have hk := kL xs N
  obtain ⟨n, t, T, W, hJ, hf⟩ := hI
  have gs := hJ.1
  obtain ⟨v, A1, R1, A2, R2, h1, h2, n', t', h3⟩ := c_run hJ (xs (i + 1)) (xs (i + 2))
  refine r_al hk rfl rfl ?_
  refine r_arg (j := 1) rfl rfl rfl rfl rfl rfl (by omega) hN ?_
  refine r_arg (j := 2) rfl rfl rfl rfl rfl rfl (by omega) hN ?_
  refine r_cV (t := []) hk rfl rfl (gt0 gs) (Nat.zero_le _) h1 ?_
  refine r_al hk rfl rfl ?_
  refine r_arg (j := 1) rfl rfl rfl rfl rfl rfl (by omega) hN ?_
  refine r_arg (j := 2) rfl rfl rfl rfl rfl rfl (by omega) hN ?_
  refine r_cV (t := [.int v]) hk rfl rfl (gt48 gs) (Nat.le_of_ble_eq_true rfl) h2 ?_
  refine r_icT hk rfl rfl ?_
  exact K _ _ _ _ (by omega) ⟨n', t', T, W, h3, hf⟩
set_option maxRecDepth 100000 in
theorem law_when (hi : i + 7 ≤ N) (hN : N ≤ 3584) (hc : c.1 ≤ 200 + 4 * i ∧ c.2 ≤ 10000 + 206 * i) (hI : lI A R G) (K : ∀ c' A R G, c'.1 ≤ 200 + 4 * (i + 7) ∧ c'.2 ≤ 10000 + 206 * (i + 7) → lI A R G → bw (tL xs N) E c' 1505 (lL i) [] (A, R, G)) : bw (tL xs N) E c 744 (lL i) [] (A, R, G) := by
  have hk := kL xs N
  obtain ⟨n, t, T, W, hJ, hf⟩ := hI
  have gs := hJ.1
  obtain ⟨v, A1, R1, A2, R2, h1, h2, n', t', h3⟩ := c_when hJ (xs (i + 1))
  refine r_al hk rfl rfl ?_
  refine r_arg (j := 1) rfl rfl rfl rfl rfl rfl (by omega) hN ?_
  refine r_cV (t := []) hk rfl rfl (gt0 gs) (Nat.zero_le _) h1 ?_
  refine r_al hk rfl rfl ?_
  refine r_arg (j := 1) rfl rfl rfl rfl rfl rfl (by omega) hN ?_
  refine r_cV (t := [.int v]) hk rfl rfl (gt48 gs) (Nat.le_of_ble_eq_true rfl) h2 ?_
  refine r_icT hk rfl rfl ?_
  exact K _ _ _ _ (by omega) ⟨n', t', T, W, h3, hf⟩
set_option maxRecDepth 100000 in
theorem law_sitting (hi : i + 7 ≤ N) (hN : N ≤ 3584) (hc : c.1 ≤ 200 + 4 * i ∧ c.2 ≤ 10000 + 206 * i) (hI : lI A R G) (K : ∀ c' A R G, c'.1 ≤ 200 + 4 * (i + 7) ∧ c'.2 ≤ 10000 + 206 * (i + 7) → lI A R G → bw (tL xs N) E c' 1505 (lL i) [] (A, R, G)) : bw (tL xs N) E c 767 (lL i) [] (A, R, G) := by
  have hk := kL xs N
  obtain ⟨n, t, T, W, hJ, hf⟩ := hI
  have gs := hJ.1
  obtain ⟨v, A1, R1, A2, R2, h1, h2, n', t', h3⟩ := c_sitting hJ (xs (i + 1))
  refine r_al hk rfl rfl ?_
  refine r_arg (j := 1) rfl rfl rfl rfl rfl rfl (by omega) hN ?_
  refine r_cV (t := []) hk rfl rfl (gt0 gs) (Nat.zero_le _) h1 ?_
  refine r_al hk rfl rfl ?_
  refine r_arg (j := 1) rfl rfl rfl rfl rfl rfl (by omega) hN ?_
  refine r_cV (t := [.int v]) hk rfl rfl (gt48 gs) (Nat.le_of_ble_eq_true rfl) h2 ?_
  refine r_icT hk rfl rfl ?_
  exact K _ _ _ _ (by omega) ⟨n', t', T, W, h3, hf⟩
set_option maxRecDepth 100000 in
theorem law_burglary (hi : i + 7 ≤ N) (hN : N ≤ 3584) (hc : c.1 ≤ 200 + 4 * i ∧ c.2 ≤ 10000 + 206 * i) (hI : lI A R G) (K : ∀ c' A R G, c'.1 ≤ 200 + 4 * (i + 7) ∧ c'.2 ≤ 10000 + 206 * (i + 7) → lI A R G → bw (tL xs N) E c' 1505 (lL i) [] (A, R, G)) : bw (tL xs N) E c 790 (lL i) [] (A, R, G) := by
  have hk := kL xs N
  obtain ⟨n, t, T, W, hJ, hf⟩ := hI
  have gs := hJ.1
  obtain ⟨v, A1, R1, A2, R2, h1, h2, n', t', h3⟩ := c_burglary hJ (xs (i + 1)) (xs (i + 2))
  refine r_al hk rfl rfl ?_
  refine r_arg (j := 1) rfl rfl rfl rfl rfl rfl (by omega) hN ?_
  refine r_arg (j := 2) rfl rfl rfl rfl rfl rfl (by omega) hN ?_
  refine r_cV (t := []) hk rfl rfl (gt0 gs) (Nat.zero_le _) h1 ?_
  refine r_al hk rfl rfl ?_
  refine r_arg (j := 1) rfl rfl rfl rfl rfl rfl (by omega) hN ?_
  refine r_arg (j := 2) rfl rfl rfl rfl rfl rfl (by omega) hN ?_
  refine r_cV (t := [.int v]) hk rfl rfl (gt48 gs) (Nat.le_of_ble_eq_true rfl) h2 ?_
  refine r_icT hk rfl rfl ?_
  exact K _ _ _ _ (by omega) ⟨n', t', T, W, h3, hf⟩
set_option maxRecDepth 100000 in
theorem law_wants (hi : i + 7 ≤ N) (hN : N ≤ 3584) (hc : c.1 ≤ 200 + 4 * i ∧ c.2 ≤ 10000 + 206 * i) (hI : lI A R G) (K : ∀ c' A R G, c'.1 ≤ 200 + 4 * (i + 7) ∧ c'.2 ≤ 10000 + 206 * (i + 7) → lI A R G → bw (tL xs N) E c' 1505 (lL i) [] (A, R, G)) : bw (tL xs N) E c 823 (lL i) [] (A, R, G) := by
  have hk := kL xs N
  obtain ⟨n, t, T, W, hJ, hf⟩ := hI
  have gs := hJ.1
  obtain ⟨v, A1, R1, A2, R2, h1, h2, n', t', h3⟩ := c_wants hJ (xs (i + 1)) (xs (i + 2)) (xs (i + 3))
  refine r_al hk rfl rfl ?_
  refine r_arg (j := 1) rfl rfl rfl rfl rfl rfl (by omega) hN ?_
  refine r_arg (j := 2) rfl rfl rfl rfl rfl rfl (by omega) hN ?_
  refine r_arg (j := 3) rfl rfl rfl rfl rfl rfl (by omega) hN ?_
  refine r_cV (t := []) hk rfl rfl (gt0 gs) (Nat.zero_le _) h1 ?_
  refine r_al hk rfl rfl ?_
  refine r_arg (j := 1) rfl rfl rfl rfl rfl rfl (by omega) hN ?_
  refine r_arg (j := 2) rfl rfl rfl rfl rfl rfl (by omega) hN ?_
  refine r_arg (j := 3) rfl rfl rfl rfl rfl rfl (by omega) hN ?_
  refine r_cV (t := [.int v]) hk rfl rfl (gt48 gs) (Nat.le_of_ble_eq_true rfl) h2 ?_
  refine r_icT hk rfl rfl ?_
  exact K _ _ _ _ (by omega) ⟨n', t', T, W, h3, hf⟩
set_option maxRecDepth 100000 in
theorem law_fullest (hi : i + 7 ≤ N) (hN : N ≤ 3584) (hc : c.1 ≤ 200 + 4 * i ∧ c.2 ≤ 10000 + 206 * i) (hI : lI A R G) (K : ∀ c' A R G, c'.1 ≤ 200 + 4 * (i + 7) ∧ c'.2 ≤ 10000 + 206 * (i + 7) → lI A R G → bw (tL xs N) E c' 1505 (lL i) [] (A, R, G)) : bw (tL xs N) E c 866 (lL i) [] (A, R, G) := by
  have hk := kL xs N
  obtain ⟨n, t, T, W, hJ, hf⟩ := hI
  have gs := hJ.1
  obtain ⟨v, A1, R1, A2, R2, h1, h2, n', t', h3⟩ := c_fullest hJ (xs (i + 1))
  refine r_al hk rfl rfl ?_
  refine r_arg (j := 1) rfl rfl rfl rfl rfl rfl (by omega) hN ?_
  refine r_cV (t := []) hk rfl rfl (gt0 gs) (Nat.zero_le _) h1 ?_
  refine r_al hk rfl rfl ?_
  refine r_arg (j := 1) rfl rfl rfl rfl rfl rfl (by omega) hN ?_
  refine r_cV (t := [.int v]) hk rfl rfl (gt48 gs) (Nat.le_of_ble_eq_true rfl) h2 ?_
  refine r_icT hk rfl rfl ?_
  exact K _ _ _ _ (by omega) ⟨n', t', T, W, h3, hf⟩
set_option maxRecDepth 100000 in
theorem law_cruel (hi : i + 7 ≤ N) (hN : N ≤ 3584) (hc : c.1 ≤ 200 + 4 * i ∧ c.2 ≤ 10000 + 206 * i) (hI : lI A R G) (K : ∀ c' A R G, c'.1 ≤ 200 + 4 * (i + 7) ∧ c'.2 ≤ 10000 + 206 * (i + 7) → lI A R G → bw (tL xs N) E c' 1505 (lL i) [] (A, R, G)) : bw (tL xs N) E c 889 (lL i) [] (A, R, G) := by
  have hk := kL xs N
  obtain ⟨n, t, T, W, hJ, hf⟩ := hI
  have gs := hJ.1
  obtain ⟨v, A1, R1, A2, R2, h1, h2, n', t', h3⟩ := c_cruel hJ
  refine r_al hk rfl rfl ?_
  refine r_cV (t := []) hk rfl rfl (gt0 gs) (Nat.zero_le _) h1 ?_
  refine r_al hk rfl rfl ?_
  refine r_cV (t := [.int v]) hk rfl rfl (gt48 gs) (Nat.le_of_ble_eq_true rfl) h2 ?_
  refine r_icT hk rfl rfl ?_
  exact K _ _ _ _ (by omega) ⟨n', t', T, W, h3, hf⟩
set_option maxRecDepth 100000 in
theorem law_ruin (hi : i + 7 ≤ N) (hN : N ≤ 3584) (hc : c.1 ≤ 200 + 4 * i ∧ c.2 ≤ 10000 + 206 * i) (hI : lI A R G) (K : ∀ c' A R G, c'.1 ≤ 200 + 4 * (i + 7) ∧ c'.2 ≤ 10000 + 206 * (i + 7) → lI A R G → bw (tL xs N) E c' 1505 (lL i) [] (A, R, G)) : bw (tL xs N) E c 902 (lL i) [] (A, R, G) := by
  have hk := kL xs N
  obtain ⟨n, t, T, W, hJ, hf⟩ := hI
  have gs := hJ.1
  obtain ⟨v, A1, R1, A2, R2, h1, h2, n', t', h3⟩ := c_ruin hJ (xs (i + 1))
  refine r_al hk rfl rfl ?_
  refine r_arg (j := 1) rfl rfl rfl rfl rfl rfl (by omega) hN ?_
  refine r_cV (t := []) hk rfl rfl (gt0 gs) (Nat.zero_le _) h1 ?_
  refine r_al hk rfl rfl ?_
  refine r_arg (j := 1) rfl rfl rfl rfl rfl rfl (by omega) hN ?_
  refine r_cV (t := [.long v]) hk rfl rfl (gt48 gs) (Nat.le_of_ble_eq_true rfl) h2 ?_
  refine r_lcm hk rfl ?_
  refine r_ifT hk rfl (lg_self v) ?_
  exact K _ _ _ _ (by omega) ⟨n', t', T, W, h3, hf⟩
set_option maxRecDepth 100000 in
theorem law_tells (hi : i + 7 ≤ N) (hN : N ≤ 3584) (hc : c.1 ≤ 200 + 4 * i ∧ c.2 ≤ 10000 + 206 * i) (hI : lI A R G) (K : ∀ c' A R G, c'.1 ≤ 200 + 4 * (i + 7) ∧ c'.2 ≤ 10000 + 206 * (i + 7) → lI A R G → bw (tL xs N) E c' 1505 (lL i) [] (A, R, G)) : bw (tL xs N) E c 926 (lL i) [] (A, R, G) := by
  have hk := kL xs N
  obtain ⟨n, t, T, W, hJ, hf⟩ := hI
  have gs := hJ.1
  obtain ⟨v, A1, R1, A2, R2, h1, h2, n', t', h3⟩ := c_tells hJ (xs (i + 1))
  refine r_al hk rfl rfl ?_
  refine r_arg (j := 1) rfl rfl rfl rfl rfl rfl (by omega) hN ?_
  refine r_cV (t := []) hk rfl rfl (gt0 gs) (Nat.zero_le _) h1 ?_
  refine r_al hk rfl rfl ?_
  refine r_arg (j := 1) rfl rfl rfl rfl rfl rfl (by omega) hN ?_
  refine r_cV (t := [.int v]) hk rfl rfl (gt48 gs) (Nat.le_of_ble_eq_true rfl) h2 ?_
  refine r_icT hk rfl rfl ?_
  exact K _ _ _ _ (by omega) ⟨n', t', T, W, h3, hf⟩
set_option maxRecDepth 100000 in
theorem law_kinds (hi : i + 7 ≤ N) (hN : N ≤ 3584) (hc : c.1 ≤ 200 + 4 * i ∧ c.2 ≤ 10000 + 206 * i) (hI : lI A R G) (K : ∀ c' A R G, c'.1 ≤ 200 + 4 * (i + 7) ∧ c'.2 ≤ 10000 + 206 * (i + 7) → lI A R G → bw (tL xs N) E c' 1505 (lL i) [] (A, R, G)) : bw (tL xs N) E c 949 (lL i) [] (A, R, G) := by
  have hk := kL xs N
  obtain ⟨n, t, T, W, hJ, hf⟩ := hI
  have gs := hJ.1
  obtain ⟨v, A1, R1, A2, R2, h1, h2, n', t', h3⟩ := c_kinds hJ (xs (i + 1)) (xs (i + 2)) (xs (i + 3))
  refine r_al hk rfl rfl ?_
  refine r_arg (j := 1) rfl rfl rfl rfl rfl rfl (by omega) hN ?_
  refine r_arg (j := 2) rfl rfl rfl rfl rfl rfl (by omega) hN ?_
  refine r_arg (j := 3) rfl rfl rfl rfl rfl rfl (by omega) hN ?_
  refine r_cV (t := []) hk rfl rfl (gt0 gs) (Nat.zero_le _) h1 ?_
  refine r_al hk rfl rfl ?_
  refine r_arg (j := 1) rfl rfl rfl rfl rfl rfl (by omega) hN ?_
  refine r_arg (j := 2) rfl rfl rfl rfl rfl rfl (by omega) hN ?_
  refine r_arg (j := 3) rfl rfl rfl rfl rfl rfl (by omega) hN ?_
  refine r_cV (t := [.int v]) hk rfl rfl (gt48 gs) (Nat.le_of_ble_eq_true rfl) h2 ?_
  refine r_icT hk rfl rfl ?_
  exact K _ _ _ _ (by omega) ⟨n', t', T, W, h3, hf⟩
set_option maxRecDepth 100000 in
theorem law_turned (hi : i + 7 ≤ N) (hN : N ≤ 3584) (hc : c.1 ≤ 200 + 4 * i ∧ c.2 ≤ 10000 + 206 * i) (hI : lI A R G) (K : ∀ c' A R G, c'.1 ≤ 200 + 4 * (i + 7) ∧ c'.2 ≤ 10000 + 206 * (i + 7) → lI A R G → bw (tL xs N) E c' 1505 (lL i) [] (A, R, G)) : bw (tL xs N) E c 992 (lL i) [] (A, R, G) := by
  have hk := kL xs N
  obtain ⟨n, t, T, W, hJ, hf⟩ := hI
  have gs := hJ.1
  obtain ⟨v, A1, R1, A2, R2, h1, h2, n', t', h3⟩ := c_turned hJ (xs (i + 1)) (xs (i + 2))
  refine r_al hk rfl rfl ?_
  refine r_arg (j := 1) rfl rfl rfl rfl rfl rfl (by omega) hN ?_
  refine r_arg (j := 2) rfl rfl rfl rfl rfl rfl (by omega) hN ?_
  refine r_cV (t := []) hk rfl rfl (gt0 gs) (Nat.zero_le _) h1 ?_
  refine r_al hk rfl rfl ?_
  refine r_arg (j := 1) rfl rfl rfl rfl rfl rfl (by omega) hN ?_
  refine r_arg (j := 2) rfl rfl rfl rfl rfl rfl (by omega) hN ?_
  refine r_cV (t := [.int v]) hk rfl rfl (gt48 gs) (Nat.le_of_ble_eq_true rfl) h2 ?_
  refine r_icT hk rfl rfl ?_
  exact K _ _ _ _ (by omega) ⟨n', t', T, W, h3, hf⟩
set_option maxRecDepth 100000 in
theorem law_states (hi : i + 7 ≤ N) (hN : N ≤ 3584) (hc : c.1 ≤ 200 + 4 * i ∧ c.2 ≤ 10000 + 206 * i) (hI : lI A R G) (K : ∀ c' A R G, c'.1 ≤ 200 + 4 * (i + 7) ∧ c'.2 ≤ 10000 + 206 * (i + 7) → lI A R G → bw (tL xs N) E c' 1505 (lL i) [] (A, R, G)) : bw (tL xs N) E c 1025 (lL i) [] (A, R, G) := by
  have hk := kL xs N
  obtain ⟨n, t, T, W, hJ, hf⟩ := hI
  have gs := hJ.1
  obtain ⟨v, A1, R1, A2, R2, h1, h2, n', t', h3⟩ := c_states hJ (xs (i + 1)) (xs (i + 2)) (xs (i + 3)) (xs (i + 4))
  refine r_al hk rfl rfl ?_
  refine r_arg (j := 1) rfl rfl rfl rfl rfl rfl (by omega) hN ?_
  refine r_arg (j := 2) rfl rfl rfl rfl rfl rfl (by omega) hN ?_
  refine r_arg (j := 3) rfl rfl rfl rfl rfl rfl (by omega) hN ?_
  refine r_arg (j := 4) rfl rfl rfl rfl rfl rfl (by omega) hN ?_
  refine r_cV (t := []) hk rfl rfl (gt0 gs) (Nat.zero_le _) h1 ?_
  refine r_al hk rfl rfl ?_
  refine r_arg (j := 1) rfl rfl rfl rfl rfl rfl (by omega) hN ?_
  refine r_arg (j := 2) rfl rfl rfl rfl rfl rfl (by omega) hN ?_
  refine r_arg (j := 3) rfl rfl rfl rfl rfl rfl (by omega) hN ?_
  refine r_arg (j := 4) rfl rfl rfl rfl rfl rfl (by omega) hN ?_
  refine r_cV (t := [.int v]) hk rfl rfl (gt48 gs) (Nat.le_of_ble_eq_true rfl) h2 ?_
  refine r_icT hk rfl rfl ?_
  exact K _ _ _ _ (by omega) ⟨n', t', T, W, h3, hf⟩
set_option maxRecDepth 100000 in
theorem law_dropped (hi : i + 7 ≤ N) (hN : N ≤ 3584) (hc : c.1 ≤ 200 + 4 * i ∧ c.2 ≤ 10000 + 206 * i) (hI : lI A R G) (K : ∀ c' A R G, c'.1 ≤ 200 + 4 * (i + 7) ∧ c'.2 ≤ 10000 + 206 * (i + 7) → lI A R G → bw (tL xs N) E c' 1505 (lL i) [] (A, R, G)) : bw (tL xs N) E c 1078 (lL i) [] (A, R, G) := by
  have hk := kL xs N
  obtain ⟨n, t, T, W, hJ, hf⟩ := hI
  have gs := hJ.1
  obtain ⟨v, A1, R1, A2, R2, h1, h2, n', t', h3⟩ := c_dropped hJ (xs (i + 1))
  refine r_al hk rfl rfl ?_
  refine r_arg (j := 1) rfl rfl rfl rfl rfl rfl (by omega) hN ?_
  refine r_cV (t := []) hk rfl rfl (gt0 gs) (Nat.zero_le _) h1 ?_
  refine r_al hk rfl rfl ?_
  refine r_arg (j := 1) rfl rfl rfl rfl rfl rfl (by omega) hN ?_
  refine r_cV (t := [.int v]) hk rfl rfl (gt48 gs) (Nat.le_of_ble_eq_true rfl) h2 ?_
  refine r_icT hk rfl rfl ?_
  exact K _ _ _ _ (by omega) ⟨n', t', T, W, h3, hf⟩
set_option maxRecDepth 100000 in
theorem law_laws (hi : i + 7 ≤ N) (hN : N ≤ 3584) (hc : c.1 ≤ 200 + 4 * i ∧ c.2 ≤ 10000 + 206 * i) (hI : lI A R G) (K : ∀ c' A R G, c'.1 ≤ 200 + 4 * (i + 7) ∧ c'.2 ≤ 10000 + 206 * (i + 7) → lI A R G → bw (tL xs N) E c' 1505 (lL i) [] (A, R, G)) : bw (tL xs N) E c 1101 (lL i) [] (A, R, G) := by
  have hk := kL xs N
  obtain ⟨n, t, T, W, hJ, hf⟩ := hI
  have gs := hJ.1
  obtain ⟨v, A1, R1, A2, R2, h1, h2, n', t', h3⟩ := c_laws hJ (xs (i + 1))
  refine r_al hk rfl rfl ?_
  refine r_arg (j := 1) rfl rfl rfl rfl rfl rfl (by omega) hN ?_
  refine r_cV (t := []) hk rfl rfl (gt0 gs) (Nat.zero_le _) h1 ?_
  refine r_al hk rfl rfl ?_
  refine r_arg (j := 1) rfl rfl rfl rfl rfl rfl (by omega) hN ?_
  refine r_cV (t := [.int v]) hk rfl rfl (gt48 gs) (Nat.le_of_ble_eq_true rfl) h2 ?_
  refine r_icT hk rfl rfl ?_
  exact K _ _ _ _ (by omega) ⟨n', t', T, W, h3, hf⟩
set_option maxRecDepth 100000 in
theorem law_film (hi : i + 7 ≤ N) (hN : N ≤ 3584) (hc : c.1 ≤ 200 + 4 * i ∧ c.2 ≤ 10000 + 206 * i) (hI : lI A R G) (K : ∀ c' A R G, c'.1 ≤ 200 + 4 * (i + 7) ∧ c'.2 ≤ 10000 + 206 * (i + 7) → lI A R G → bw (tL xs N) E c' 1505 (lL i) [] (A, R, G)) : bw (tL xs N) E c 1124 (lL i) [] (A, R, G) := by
  have hk := kL xs N
  obtain ⟨n, t, T, W, hJ, hf⟩ := hI
  have gs := hJ.1
  obtain ⟨v, A1, R1, A2, R2, h1, h2, n', t', h3⟩ := c_film hJ (xs (i + 1)) (xs (i + 2))
  refine r_al hk rfl rfl ?_
  refine r_arg (j := 1) rfl rfl rfl rfl rfl rfl (by omega) hN ?_
  refine r_arg (j := 2) rfl rfl rfl rfl rfl rfl (by omega) hN ?_
  refine r_cV (t := []) hk rfl rfl (gt0 gs) (Nat.zero_le _) h1 ?_
  refine r_al hk rfl rfl ?_
  refine r_arg (j := 1) rfl rfl rfl rfl rfl rfl (by omega) hN ?_
  refine r_arg (j := 2) rfl rfl rfl rfl rfl rfl (by omega) hN ?_
  refine r_cV (t := [.int v]) hk rfl rfl (gt48 gs) (Nat.le_of_ble_eq_true rfl) h2 ?_
  refine r_icT hk rfl rfl ?_
  exact K _ _ _ _ (by omega) ⟨n', t', T, W, h3, hf⟩
set_option maxRecDepth 100000 in
theorem law_drawn (hi : i + 7 ≤ N) (hN : N ≤ 3584) (hc : c.1 ≤ 200 + 4 * i ∧ c.2 ≤ 10000 + 206 * i) (hI : lI A R G) (K : ∀ c' A R G, c'.1 ≤ 200 + 4 * (i + 7) ∧ c'.2 ≤ 10000 + 206 * (i + 7) → lI A R G → bw (tL xs N) E c' 1505 (lL i) [] (A, R, G)) : bw (tL xs N) E c 1157 (lL i) [] (A, R, G) := by
  have hk := kL xs N
  obtain ⟨n, t, T, W, hJ, hf⟩ := hI
  have gs := hJ.1
  obtain ⟨v, A1, R1, A2, R2, h1, h2, n', t', h3⟩ := c_drawn hJ (xs (i + 1)) (xs (i + 2))
  refine r_al hk rfl rfl ?_
  refine r_arg (j := 1) rfl rfl rfl rfl rfl rfl (by omega) hN ?_
  refine r_arg (j := 2) rfl rfl rfl rfl rfl rfl (by omega) hN ?_
  refine r_cV (t := []) hk rfl rfl (gt0 gs) (Nat.zero_le _) h1 ?_
  refine r_al hk rfl rfl ?_
  refine r_arg (j := 1) rfl rfl rfl rfl rfl rfl (by omega) hN ?_
  refine r_arg (j := 2) rfl rfl rfl rfl rfl rfl (by omega) hN ?_
  refine r_cV (t := [.int v]) hk rfl rfl (gt48 gs) (Nat.le_of_ble_eq_true rfl) h2 ?_
  refine r_icT hk rfl rfl ?_
  exact K _ _ _ _ (by omega) ⟨n', t', T, W, h3, hf⟩
set_option maxRecDepth 100000 in
theorem law_odds (hi : i + 7 ≤ N) (hN : N ≤ 3584) (hc : c.1 ≤ 200 + 4 * i ∧ c.2 ≤ 10000 + 206 * i) (hI : lI A R G) (K : ∀ c' A R G, c'.1 ≤ 200 + 4 * (i + 7) ∧ c'.2 ≤ 10000 + 206 * (i + 7) → lI A R G → bw (tL xs N) E c' 1505 (lL i) [] (A, R, G)) : bw (tL xs N) E c 1190 (lL i) [] (A, R, G) := by
  have hk := kL xs N
  obtain ⟨n, t, T, W, hJ, hf⟩ := hI
  have gs := hJ.1
  obtain ⟨v, A1, R1, A2, R2, h1, h2, n', t', h3⟩ := c_odds hJ (xs (i + 1)) (xs (i + 2)) (xs (i + 3)) (xs (i + 4))
  refine r_al hk rfl rfl ?_
  refine r_arg (j := 1) rfl rfl rfl rfl rfl rfl (by omega) hN ?_
  refine r_arg (j := 2) rfl rfl rfl rfl rfl rfl (by omega) hN ?_
  refine r_arg (j := 3) rfl rfl rfl rfl rfl rfl (by omega) hN ?_
  refine r_arg (j := 4) rfl rfl rfl rfl rfl rfl (by omega) hN ?_
  refine r_cV (t := []) hk rfl rfl (gt0 gs) (Nat.zero_le _) h1 ?_
  refine r_al hk rfl rfl ?_
  refine r_arg (j := 1) rfl rfl rfl rfl rfl rfl (by omega) hN ?_
  refine r_arg (j := 2) rfl rfl rfl rfl rfl rfl (by omega) hN ?_
  refine r_arg (j := 3) rfl rfl rfl rfl rfl rfl (by omega) hN ?_
  refine r_arg (j := 4) rfl rfl rfl rfl rfl rfl (by omega) hN ?_
  refine r_cV (t := [.long v]) hk rfl rfl (gt48 gs) (Nat.le_of_ble_eq_true rfl) h2 ?_
  refine r_lcm hk rfl ?_
  refine r_ifT hk rfl (lg_self v) ?_
  exact K _ _ _ _ (by omega) ⟨n', t', T, W, h3, hf⟩
set_option maxRecDepth 100000 in
theorem law_image (hi : i + 7 ≤ N) (hN : N ≤ 3584) (hc : c.1 ≤ 200 + 4 * i ∧ c.2 ≤ 10000 + 206 * i) (hI : lI A R G) (K : ∀ c' A R G, c'.1 ≤ 200 + 4 * (i + 7) ∧ c'.2 ≤ 10000 + 206 * (i + 7) → lI A R G → bw (tL xs N) E c' 1505 (lL i) [] (A, R, G)) : bw (tL xs N) E c 1244 (lL i) [] (A, R, G) := by
  have hk := kL xs N
  obtain ⟨n, t, T, W, hJ, hf⟩ := hI
  have gs := hJ.1
  obtain ⟨v, A1, R1, A2, R2, h1, h2, n', t', h3⟩ := c_image hJ
  refine r_al hk rfl rfl ?_
  refine r_cV (t := []) hk rfl rfl (gt0 gs) (Nat.zero_le _) h1 ?_
  refine r_al hk rfl rfl ?_
  refine r_cV (t := [.int v]) hk rfl rfl (gt48 gs) (Nat.le_of_ble_eq_true rfl) h2 ?_
  refine r_icT hk rfl rfl ?_
  exact K _ _ _ _ (by omega) ⟨n', t', T, W, h3, hf⟩
set_option maxRecDepth 100000 in
theorem law_back (hi : i + 7 ≤ N) (hN : N ≤ 3584) (hc : c.1 ≤ 200 + 4 * i ∧ c.2 ≤ 10000 + 206 * i) (hI : lI A R G) (K : ∀ c' A R G, c'.1 ≤ 200 + 4 * (i + 7) ∧ c'.2 ≤ 10000 + 206 * (i + 7) → lI A R G → bw (tL xs N) E c' 1505 (lL i) [] (A, R, G)) : bw (tL xs N) E c 1257 (lL i) [] (A, R, G) := by
  have hk := kL xs N
  obtain ⟨n, t, T, W, hJ, hf⟩ := hI
  have gs := hJ.1
  obtain ⟨v, A1, R1, A2, R2, h1, h2, n', t', h3⟩ := c_back hJ
  refine r_al hk rfl rfl ?_
  refine r_cV (t := []) hk rfl rfl (gt0 gs) (Nat.zero_le _) h1 ?_
  refine r_al hk rfl rfl ?_
  refine r_cV (t := [.int v]) hk rfl rfl (gt48 gs) (Nat.le_of_ble_eq_true rfl) h2 ?_
  refine r_icT hk rfl rfl ?_
  exact K _ _ _ _ (by omega) ⟨n', t', T, W, h3, hf⟩
set_option maxRecDepth 100000 in
theorem law_sheet (hi : i + 7 ≤ N) (hN : N ≤ 3584) (hc : c.1 ≤ 200 + 4 * i ∧ c.2 ≤ 10000 + 206 * i) (hI : lI A R G) (K : ∀ c' A R G, c'.1 ≤ 200 + 4 * (i + 7) ∧ c'.2 ≤ 10000 + 206 * (i + 7) → lI A R G → bw (tL xs N) E c' 1505 (lL i) [] (A, R, G)) : bw (tL xs N) E c 1270 (lL i) [] (A, R, G) := by
  have hk := kL xs N
  obtain ⟨n, t, T, W, hJ, hf⟩ := hI
  have gs := hJ.1
  obtain ⟨v, A1, R1, A2, R2, h1, h2, n', t', h3⟩ := c_sheet hJ (xs (i + 1)) (xs (i + 2)) (xs (i + 3))
  refine r_al hk rfl rfl ?_
  refine r_arg (j := 1) rfl rfl rfl rfl rfl rfl (by omega) hN ?_
  refine r_arg (j := 2) rfl rfl rfl rfl rfl rfl (by omega) hN ?_
  refine r_arg (j := 3) rfl rfl rfl rfl rfl rfl (by omega) hN ?_
  refine r_cV (t := []) hk rfl rfl (gt0 gs) (Nat.zero_le _) h1 ?_
  refine r_al hk rfl rfl ?_
  refine r_arg (j := 1) rfl rfl rfl rfl rfl rfl (by omega) hN ?_
  refine r_arg (j := 2) rfl rfl rfl rfl rfl rfl (by omega) hN ?_
  refine r_arg (j := 3) rfl rfl rfl rfl rfl rfl (by omega) hN ?_
  refine r_cV (t := [.int v]) hk rfl rfl (gt48 gs) (Nat.le_of_ble_eq_true rfl) h2 ?_
  refine r_icT hk rfl rfl ?_
  exact K _ _ _ _ (by omega) ⟨n', t', T, W, h3, hf⟩
set_option maxRecDepth 100000 in
theorem law_cell (hi : i + 7 ≤ N) (hN : N ≤ 3584) (hc : c.1 ≤ 200 + 4 * i ∧ c.2 ≤ 10000 + 206 * i) (hI : lI A R G) (K : ∀ c' A R G, c'.1 ≤ 200 + 4 * (i + 7) ∧ c'.2 ≤ 10000 + 206 * (i + 7) → lI A R G → bw (tL xs N) E c' 1505 (lL i) [] (A, R, G)) : bw (tL xs N) E c 1313 (lL i) [] (A, R, G) := by
  have hk := kL xs N
  obtain ⟨n, t, T, W, hJ, hf⟩ := hI
  have gs := hJ.1
  obtain ⟨v, A1, R1, A2, R2, h1, h2, n', t', h3⟩ := c_cell hJ (xs (i + 1)) (xs (i + 2)) (xs (i + 3))
  refine r_al hk rfl rfl ?_
  refine r_arg (j := 1) rfl rfl rfl rfl rfl rfl (by omega) hN ?_
  refine r_arg (j := 2) rfl rfl rfl rfl rfl rfl (by omega) hN ?_
  refine r_arg (j := 3) rfl rfl rfl rfl rfl rfl (by omega) hN ?_
  refine r_cV (t := []) hk rfl rfl (gt0 gs) (Nat.zero_le _) h1 ?_
  refine r_al hk rfl rfl ?_
  refine r_arg (j := 1) rfl rfl rfl rfl rfl rfl (by omega) hN ?_
  refine r_arg (j := 2) rfl rfl rfl rfl rfl rfl (by omega) hN ?_
  refine r_arg (j := 3) rfl rfl rfl rfl rfl rfl (by omega) hN ?_
  refine r_cV (t := [.int v]) hk rfl rfl (gt48 gs) (Nat.le_of_ble_eq_true rfl) h2 ?_
  refine r_icT hk rfl rfl ?_
  exact K _ _ _ _ (by omega) ⟨n', t', T, W, h3, hf⟩
set_option maxRecDepth 100000 in
theorem law_copy (hi : i + 7 ≤ N) (hN : N ≤ 3584) (hc : c.1 ≤ 200 + 4 * i ∧ c.2 ≤ 10000 + 206 * i) (hI : lI A R G) (K : ∀ c' A R G, c'.1 ≤ 200 + 4 * (i + 7) ∧ c'.2 ≤ 10000 + 206 * (i + 7) → lI A R G → bw (tL xs N) E c' 1505 (lL i) [] (A, R, G)) : bw (tL xs N) E c 1356 (lL i) [] (A, R, G) := by
  have hk := kL xs N
  obtain ⟨n, t, T, W, hJ, hf⟩ := hI
  have gs := hJ.1
  obtain ⟨v, A1, R1, A2, R2, h1, h2, n', t', h3⟩ := c_copy hJ (xs (i + 1)) (xs (i + 2)) (xs (i + 3)) (xs (i + 4)) (xs (i + 5))
  refine r_al hk rfl rfl ?_
  refine r_arg (j := 1) rfl rfl rfl rfl rfl rfl (by omega) hN ?_
  refine r_arg (j := 2) rfl rfl rfl rfl rfl rfl (by omega) hN ?_
  refine r_arg (j := 3) rfl rfl rfl rfl rfl rfl (by omega) hN ?_
  refine r_arg (j := 4) rfl rfl rfl rfl rfl rfl (by omega) hN ?_
  refine r_arg (j := 5) rfl rfl rfl rfl rfl rfl (by omega) hN ?_
  refine r_cV (t := []) hk rfl rfl (gt0 gs) (Nat.zero_le _) h1 ?_
  refine r_al hk rfl rfl ?_
  refine r_arg (j := 1) rfl rfl rfl rfl rfl rfl (by omega) hN ?_
  refine r_arg (j := 2) rfl rfl rfl rfl rfl rfl (by omega) hN ?_
  refine r_arg (j := 3) rfl rfl rfl rfl rfl rfl (by omega) hN ?_
  refine r_arg (j := 4) rfl rfl rfl rfl rfl rfl (by omega) hN ?_
  refine r_arg (j := 5) rfl rfl rfl rfl rfl rfl (by omega) hN ?_
  refine r_cV (t := [.int v]) hk rfl rfl (gt48 gs) (Nat.le_of_ble_eq_true rfl) h2 ?_
  refine r_icT hk rfl rfl ?_
  exact K _ _ _ _ (by omega) ⟨n', t', T, W, h3, hf⟩
set_option maxRecDepth 100000 in
theorem law_judgesBy (hi : i + 7 ≤ N) (hN : N ≤ 3584) (hc : c.1 ≤ 200 + 4 * i ∧ c.2 ≤ 10000 + 206 * i) (hI : lI A R G) (K : ∀ c' A R G, c'.1 ≤ 200 + 4 * (i + 7) ∧ c'.2 ≤ 10000 + 206 * (i + 7) → lI A R G → bw (tL xs N) E c' 1505 (lL i) [] (A, R, G)) : bw (tL xs N) E c 1419 (lL i) [] (A, R, G) := by
  have hk := kL xs N
  obtain ⟨n, t, T, W, hJ, hf⟩ := hI
  have gs := hJ.1
  obtain ⟨v, A1, R1, A2, R2, h1, h2, n', t', h3⟩ := c_judgesBy hJ (xs (i + 1)) (xs (i + 2)) (xs (i + 3)) (xs (i + 4))
  refine r_al hk rfl rfl ?_
  refine r_arg (j := 1) rfl rfl rfl rfl rfl rfl (by omega) hN ?_
  refine r_arg (j := 2) rfl rfl rfl rfl rfl rfl (by omega) hN ?_
  refine r_arg (j := 3) rfl rfl rfl rfl rfl rfl (by omega) hN ?_
  refine r_arg (j := 4) rfl rfl rfl rfl rfl rfl (by omega) hN ?_
  refine r_cV (t := []) hk rfl rfl (gt0 gs) (Nat.zero_le _) h1 ?_
  refine r_al hk rfl rfl ?_
  refine r_arg (j := 1) rfl rfl rfl rfl rfl rfl (by omega) hN ?_
  refine r_arg (j := 2) rfl rfl rfl rfl rfl rfl (by omega) hN ?_
  refine r_arg (j := 3) rfl rfl rfl rfl rfl rfl (by omega) hN ?_
  refine r_arg (j := 4) rfl rfl rfl rfl rfl rfl (by omega) hN ?_
  refine r_cV (t := [.int v]) hk rfl rfl (gt48 gs) (Nat.le_of_ble_eq_true rfl) h2 ?_
  refine r_icT hk rfl rfl ?_
  exact K _ _ _ _ (by omega) ⟨n', t', T, W, h3, hf⟩
set_option maxRecDepth 100000 in
theorem law_taken (hi : i + 7 ≤ N) (hN : N ≤ 3584) (hc : c.1 ≤ 200 + 4 * i ∧ c.2 ≤ 10000 + 206 * i) (hI : lI A R G) (K : ∀ c' A R G, c'.1 ≤ 200 + 4 * (i + 7) ∧ c'.2 ≤ 10000 + 206 * (i + 7) → lI A R G → bw (tL xs N) E c' 1505 (lL i) [] (A, R, G)) : bw (tL xs N) E c 1472 (lL i) [] (A, R, G) := by
  have hk := kL xs N
  obtain ⟨n, t, T, W, hJ, hf⟩ := hI
  have gs := hJ.1
  obtain ⟨v, A1, R1, A2, R2, h1, h2, n', t', h3⟩ := c_taken hJ (xs (i + 1)) (xs (i + 2))
  refine r_al hk rfl rfl ?_
  refine r_arg (j := 1) rfl rfl rfl rfl rfl rfl (by omega) hN ?_
  refine r_arg (j := 2) rfl rfl rfl rfl rfl rfl (by omega) hN ?_
  refine r_cV (t := []) hk rfl rfl (gt0 gs) (Nat.zero_le _) h1 ?_
  refine r_al hk rfl rfl ?_
  refine r_arg (j := 1) rfl rfl rfl rfl rfl rfl (by omega) hN ?_
  refine r_arg (j := 2) rfl rfl rfl rfl rfl rfl (by omega) hN ?_
  refine r_cV (t := [.int v]) hk rfl rfl (gt48 gs) (Nat.le_of_ble_eq_true rfl) h2 ?_
  refine r_icT hk rfl rfl ?_
  exact K _ _ _ _ (by omega) ⟨n', t', T, W, h3, hf⟩
set_option maxRecDepth 100000 in
theorem law_step (hi : i + 7 ≤ N) (hN : N ≤ 3584) (hc : c.1 ≤ 200 + 4 * i ∧ c.2 ≤ 10000 + 206 * i) (hI : lI A R G) (K : ∀ c' A R G, c'.1 ≤ 200 + 4 * (i + 7) ∧ c'.2 ≤ 10000 + 206 * (i + 7) → lI A R G → bw (tL xs N) E c' 1505 (lL i) [] (A, R, G)) : bw (tL xs N) E c 27 (lL i) [] (A, R, G) := by
  have hk := kL xs N
  refine r_al hk rfl rfl ?_
  refine r_il hk rfl rfl ?_
  refine r_sld hk rfl (vp_in_nI (by omega) (by omega)) rfl ?_
  refine r_ii hk rfl ?_
  refine r_bi hk rfl rfl ?_
  refine r_sw hk rfl ?_ (K _ _ _ _ (by omega) hI)
  refine List.forall_mem_cons.mpr ⟨law_count hi hN hc hI K, List.forall_mem_cons.mpr ⟨law_dawn hi hN hc hI K, List.forall_mem_cons.mpr ⟨law_feed hi hN hc hI K, List.forall_mem_cons.mpr ⟨law_text hi hN hc hI K, List.forall_mem_cons.mpr ⟨law_force hi hN hc hI K, List.forall_mem_cons.mpr ⟨law_asks hi hN hc hI K, List.forall_mem_cons.mpr ⟨law_judge hi hN hc hI K, List.forall_mem_cons.mpr ⟨law_file hi hN hc hI K, List.forall_mem_cons.mpr ⟨law_put hi hN hc hI K, List.forall_mem_cons.mpr ⟨law_told hi hN hc hI K, List.forall_mem_cons.mpr ⟨law_paper hi hN hc hI K, List.forall_mem_cons.mpr ⟨law_hearing hi hN hc hI K, List.forall_mem_cons.mpr ⟨law_hear hi hN hc hI K, List.forall_mem_cons.mpr ⟨law_rob hi hN hc hI K, List.forall_mem_cons.mpr ⟨law_day hi hN hc hI K, List.forall_mem_cons.mpr ⟨law_run hi hN hc hI K, List.forall_mem_cons.mpr ⟨law_when hi hN hc hI K, List.forall_mem_cons.mpr ⟨law_sitting hi hN hc hI K, List.forall_mem_cons.mpr ⟨law_burglary hi hN hc hI K, List.forall_mem_cons.mpr ⟨law_wants hi hN hc hI K, List.forall_mem_cons.mpr ⟨law_fullest hi hN hc hI K, List.forall_mem_cons.mpr ⟨law_cruel hi hN hc hI K, List.forall_mem_cons.mpr ⟨law_ruin hi hN hc hI K, List.forall_mem_cons.mpr ⟨law_tells hi hN hc hI K, List.forall_mem_cons.mpr ⟨law_kinds hi hN hc hI K, List.forall_mem_cons.mpr ⟨law_turned hi hN hc hI K, List.forall_mem_cons.mpr ⟨law_states hi hN hc hI K, List.forall_mem_cons.mpr ⟨law_dropped hi hN hc hI K, List.forall_mem_cons.mpr ⟨law_laws hi hN hc hI K, List.forall_mem_cons.mpr ⟨law_film hi hN hc hI K, List.forall_mem_cons.mpr ⟨law_drawn hi hN hc hI K, List.forall_mem_cons.mpr ⟨law_odds hi hN hc hI K, List.forall_mem_cons.mpr ⟨law_image hi hN hc hI K, List.forall_mem_cons.mpr ⟨law_back hi hN hc hI K, List.forall_mem_cons.mpr ⟨law_sheet hi hN hc hI K, List.forall_mem_cons.mpr ⟨law_cell hi hN hc hI K, List.forall_mem_cons.mpr ⟨law_copy hi hN hc hI K, List.forall_mem_cons.mpr ⟨law_judgesBy hi hN hc hI K, List.forall_mem_cons.mpr ⟨law_taken hi hN hc hI K, fun _ h => absurd h List.not_mem_nil⟩⟩⟩⟩⟩⟩⟩⟩⟩⟩⟩⟩⟩⟩⟩⟩⟩⟩⟩⟩⟩⟩⟩⟩⟩⟩⟩⟩⟩⟩⟩⟩⟩⟩⟩⟩⟩⟩⟩
theorem lt7 (h : N < i + 7) (hN : N ≤ 3584) (hi : i ≤ 3600) : nI N - 7 < nI i := by
  by_cases h7 : 7 ≤ N
  · have e : nI N - 7 = nI (N - 7) := by
      obtain ⟨k, rfl⟩ : ∃ k, N = k + 7 := ⟨N - 7, by omega⟩
      rw [Nat.add_sub_cancel, ← nI_add]
      show nI k + nI 7 - nI 7 = nI k
      rw [Int32.add_sub_cancel]
    rw [e]
    exact nI_lt (by omega) (by omega)
  · have h1 : nI N - 7 < 0 := by
      have : N = 0 ∨ N = 1 ∨ N = 2 ∨ N = 3 ∨ N = 4 ∨ N = 5 ∨ N = 6 := by omega
      rcases this with rfl | rfl | rfl | rfl | rfl | rfl | rfl <;> decide
    exact Int32.lt_of_lt_of_le h1 (nI_nn (by omega))
theorem nlt7 (h : i + 7 ≤ N) (hN : N ≤ 3584) : ¬ nI N - 7 < nI i := by
  have e : nI N - 7 = nI (N - 7) := by
    obtain ⟨k, rfl⟩ : ∃ k, N = k + 7 := ⟨N - 7, by omega⟩
    rw [Nat.add_sub_cancel, ← nI_add]
    show nI k + nI 7 - nI 7 = nI k
    rw [Int32.add_sub_cancel]
  rw [e]
  exact Int32.not_lt.mpr (nI_le (by omega) (by omega))
set_option maxRecDepth 100000 in
theorem law_loop (hN : N ≤ 3584) : ∀ (r i : Nat) (c : Nat × Nat) (A : Nat → Nat → Int32) (R : Nat → Nat → Option Nat) (G : Nat → Nat × Nat), N ≤ i + r → i ≤ N + 7 → (c.1 ≤ 200 + 4 * i ∧ c.2 ≤ 10000 + 206 * i) → lI A R G → bw (tL xs N) (fun r _ c => r = some (.int 1) ∧ c.1 ≤ 600000 ∧ c.2 ≤ 7302250) c 18 (lL i) [] (A, R, G) := by
  intro r
  induction r with
  | zero =>
    intro i c A R G h1 h2 hc hI
    have hk := kL xs N
    refine r_il hk rfl rfl ?_
    refine r_al hk rfl rfl ?_
    refine r_sle hk rfl ?_
    refine r_ii hk rfl ?_
    refine r_bi hk rfl rfl ?_
    refine r_icT hk rfl (lt7 (by omega) hN (by omega)) ?_
    refine r_ii hk rfl ?_
    exact r_ri hk rfl ⟨rfl, by omega, by omega⟩
  | succ r ih =>
    intro i c A R G h1 h2 hc hI
    have hk := kL xs N
    refine r_il hk rfl rfl ?_
    refine r_al hk rfl rfl ?_
    refine r_sle hk rfl ?_
    refine r_ii hk rfl ?_
    refine r_bi hk rfl rfl ?_
    by_cases h7 : N < i + 7
    · refine r_icT hk rfl (lt7 h7 hN (by omega)) ?_
      refine r_ii hk rfl ?_
      exact r_ri hk rfl ⟨rfl, by omega, by omega⟩
    · refine r_icF hk rfl (nlt7 (by omega) hN) ?_
      refine law_step (by omega) hN hc hI fun c' A' R' G' hc' hI' => ?_
      refine r_inc hk rfl rfl ?_
      refine r_go hk rfl ?_
      have e : nI i + 7 = nI (i + 7) := nI_add _ 7
      show bw (tL xs N) _ c' 18 [some (.ref 1300), some (.ref 0), some (.ref 48), some (.int (nI i + 7))] [] (A', R', G')
      rw [e]
      exact ih (i + 7) c' A' R' G' (by omega) (by omega) hc' hI'
theorem bt_0 (i : Nat) : bt 0 i = false := by
  unfold bt
  simp
set_option maxRecDepth 100000 in
theorem law_all (hN : N ≤ 3584) : bw (tL xs N) (fun r _ c => r = some (.int 1) ∧ c.1 ≤ 600000 ∧ c.2 ≤ 7302250) (0, 0) 0 [some (.ref 1300), none, none, none] [] (fun _ _ => 0, fun _ _ => none, fun _ => (0, 0)) := by
  have hk := kL xs N
  refine r_new hk rfl 0 (by decide) rfl (by decide) (by decide) rfl ?_
  refine r_dup hk rfl rfl ?_
  obtain ⟨A1, R1, G1, p1, p2, p3, p4, p5, p6, p7⟩ := qX4_init (A := ap (fun _ _ => 0) 0 (fun _ => 0)) (R := rp (fun _ _ => none) 0 (fun _ => none)) (G := gu (fun _ => (0, 0)) 0 (0, 5)) gu_at (fun k h _ => gu_o h) ap_eq
  refine r_bcI (t := [.ref 0]) hk rfl rfl (show gu (fun _ => (0, 0)) 0 (0, 5) 0 = _ from gu_at) (Nat.le_of_ble_eq_true rfl) p1 (by decide) (by decide) rfl ?_
  refine r_as hk rfl ?_
  refine r_new hk rfl 48 (by decide) (p3 48 (by decide) (by decide) (by decide)) (by decide) (by decide) rfl ?_
  refine r_dup hk rfl rfl ?_
  obtain ⟨A2, R2, G2, q1, q2, q3, q4, q5, ⟨q60, q65, q66, q68, q611, q612, q613⟩, q7⟩ := qX5_init (A := ap A1 48 (fun _ => 0)) (R := rp R1 48 (fun _ => none)) (G := gu G1 48 (0, 6)) gu_at (fun k h1 h2 => by rw [gu_o (by omega)]; exact p3 k (by omega) (by omega) (by omega)) ap_eq (fun k h => by rw [gu_o (by omega)]; exact (p2 k (Or.inl h)).trans (if_pos (by omega)))
  refine r_bcI (t := [.ref 48]) hk rfl rfl (show gu G1 48 (0, 6) 48 = _ from gu_at) (Nat.le_of_ble_eq_true rfl) q1 (by decide) (by decide) rfl ?_
  refine r_as hk rfl ?_
  refine r_ii hk rfl ?_
  refine r_is hk rfl ?_
  have a1 : ∀ o, (o < 48 ∨ (80 ≤ o ∧ o ≤ 82)) → A2 o = ax o := fun o ho => by
    rw [(q3 o (by omega)).1, ap_ne (by omega)]; exact p4 o ho
  have r1 : ∀ o, (o < 48 ∨ 80 ≤ o) → R2 o = R1 o := fun o ho => by rw [(q3 o ho).2, rp_o (by omega)]
  have g1 : ∀ o, 80 ≤ o → G2 o = G1 o := fun o ho => by rw [q4 o ho, gu_o (by omega)]
  have z1 : ∀ o, o < 40 → ¬ o = 0 → A2 o = fun _ => 0 := fun o h h0 => by
    rw [a1 o (by omega)]
    unfold ax
    rw [if_neg h0, if_neg (by omega), if_neg (by omega), if_neg (by omega)]
  have v1 : vX A2 1 = fun _ _ => 0 := by
    funext f i
    unfold vX
    rw [z1 1 (by decide) (by decide), z1 (1 + 1) (by decide) (by decide), z1 (1 + 2) (by decide) (by decide), z1 (1 + 3) (by decide) (by decide), z1 (1 + 4) (by decide) (by decide), z1 (1 + 5) (by decide) (by decide), z1 (1 + 6) (by decide) (by decide), z1 (1 + 7) (by decide) (by decide), z1 (1 + 8) (by decide) (by decide)]
    split <;> first | rfl | (split <;> rfl)
  have v2 : vM A2 = fun _ _ => 0 := by
    funext f i
    unfold vM
    rw [q7 49 (by decide) (by decide) (by decide) (by decide) (by decide) (by decide), q7 50 (by decide) (by decide) (by decide) (by decide) (by decide) (by decide), q7 51 (by decide) (by decide) (by decide) (by decide) (by decide) (by decide), q7 52 (by decide) (by decide) (by decide) (by decide) (by decide) (by decide), q60, q65, q66]
    split <;> rfl
  refine law_loop hN N 0 _ A2 R2 G2 (by omega) (by omega) ⟨by decide, by decide⟩ ⟨0, 0, 1, fun _ => W0, ⟨q2, by decide, ⟨by decide, by decide, ?_, q611, fun t ht => ?_⟩, ⟨by decide, ?_, q60, ?_, ?_, ?_, ?_, ?_, ?_, q612, ?_⟩, Or.inl ⟨?_, q613⟩, ⟨0, by decide, ?_, q68, fun i hi => absurd hi (by omega)⟩, fun s hs => ?_, fun i hi => ?_⟩, fun k h1 h2 => ?_⟩
  · rw [a1 0 (by omega)]; rfl
  · obtain rfl : t = 0 := by omega
    refine ⟨?_, ⟨3, ⟨?_, ?_, ?_, ?_⟩, ?_⟩, q5⟩
    · rw [r1 37 (by omega)]; exact p5
    · show G2 80 = _
      rw [g1 80 (by omega)]; exact p2 80 (by omega)
    · show G2 81 = _
      rw [g1 81 (by omega)]; exact p2 81 (by omega)
    · show G2 82 = _
      rw [g1 82 (by omega)]; exact p2 82 (by omega)
    · show G2 83 = _
      rw [g1 83 (by omega)]; exact p2 83 (by omega)
    · show TXt (A2 81) (A2 82) 3 W0
      rw [a1 81 (by omega), a1 82 (by omega)]
      exact TXt0 rfl rfl rfl rfl rfl rfl
  · rw [z1 1 (by decide) (by decide)]; rfl
  · rw [v1]
    exact ⟨⟨fun p hp => absurd hp (by omega), fun c _ => isS_0⟩, fun c _ => ⟨show (0 : Int32) ≤ 0 by decide, show (0 : Int32) ≤ 99 by decide⟩, by decide, by decide⟩
  · intro c _ hb
    rw [z1 1 (by decide) (by decide), bt_0] at hb
    cases hb
  · intro i _
    rw [z1 1 (by decide) (by decide)]
    exact bt_0 i
  · rw [v1, v2]; exact eqV.rf
  · rw [z1 1 (by decide) (by decide)]; show (0 : Int32) ≤ 999; decide
  · rw [z1 1 (by decide) (by decide)]; rfl
  · rw [r1 1 (by omega)]; exact p7
  · rw [a1 0 (by omega)]; rfl
  · rw [z1 31 (by decide) (by decide)]; rfl
  · have s4 : s = 0 ∨ s = 1 ∨ s = 2 ∨ s = 3 := by omega
    have e58 := q7 58 (by decide) (by decide) (by decide) (by decide) (by decide) (by decide)
    have e59 := q7 59 (by decide) (by decide) (by decide) (by decide) (by decide) (by decide)
    have e60 := q7 60 (by decide) (by decide) (by decide) (by decide) (by decide) (by decide)
    refine ⟨?_, ?_, ⟨0, by decide, ?_, ?_⟩, fun k hk => ?_⟩
    · rw [r1 38 (by omega)]; exact p6 s hs
    · rw [a1 _ (by omega), e58]
      rcases s4 with rfl | rfl | rfl | rfl <;> rfl
    · rw [a1 _ (by omega)]
      rcases s4 with rfl | rfl | rfl | rfl <;> rfl
    · rw [e59]; rfl
    · rw [a1 _ (by omega), e60]
      rcases s4 with rfl | rfl | rfl | rfl <;> rfl
  · rw [q7 62 (by decide) (by decide) (by decide) (by decide) (by decide) (by decide)]; rfl
  · have t1 : tw 1 = 84 := rfl
    rw [g1 k (by omega)]
    exact p3 k h2 (by omega) (by omega)
end LW
