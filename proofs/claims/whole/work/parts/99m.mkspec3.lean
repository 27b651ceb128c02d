/-! what the model's constructor leaves -/
def wr (p : Nat) : List Int32 → Nat → (Nat → Nat → Int32) → Nat → Nat → Int32
  | [], _, A => A
  | v :: l, j, A => wr p l (j + 1) (au A p j v)
def am (k : Nat) : Nat → Int32 := if k = 58 then fun i => ([-1, -1, -1, -1] : List Int32).getD i 0 else if k = 61 then lawT else if k = 62 then fun i => mWd.getD i 0 else fun _ => 0
def fi (j : Nat) : Nat := [1, 2, 3, 4, 7, 9, 10, 14, 15, 16, 17, 18, 19, 24, 25, 29, 30, 31, 32, 33].getD j 0
/-- the first n arrays of the model are made -/
def iM (A0 : Nat → Nat → Int32) (R0 : Nat → Nat → Option Nat) (G0 : Nat → Nat × Nat) (n : Nat) (A : Nat → Nat → Int32) (R : Nat → Nat → Option Nat) (G : Nat → Nat × Nat) : Prop :=
  G 48 = (0, 6) ∧ (A 48 = fun _ => 0) ∧ (∀ j, j < n → G (49 + j) = gtb (49 + j) ∧ A (49 + j) = am (49 + j)) ∧ (∀ k, 49 + n ≤ k → k < 80 → G k = (0, 0)) ∧ (∀ j, j < n → R 48 (fi j) = some (49 + j)) ∧ ∀ o, (o < 48 ∨ 80 ≤ o) → A o = A0 o ∧ R o = R0 o ∧ G o = G0 o
section S3
variable {A A0 B : Nat → Nat → Int32} {R R0 : Nat → Nat → Option Nat} {G G0 : Nat → Nat × Nat} {w b n z p N : Nat} {E : bR} {c c' : Nat × Nat}
theorem wr_o {o : Nat} (h : ¬ o = p) : ∀ (l : List Int32) (j : Nat) (A : Nat → Nat → Int32), wr p l j A o = A o
  | [], _, _ => rfl
  | v :: l, j, A => (wr_o h l (j + 1) _).trans (au_o h)
theorem wr_at : ∀ (l : List Int32) (j : Nat) (A : Nat → Nat → Int32) (i : Nat), wr p l j A p i = if i < j then A p i else if i < j + l.length then l.getD (i - j) 0 else A p i
  | [], j, A, i => by
    show A p i = _
    by_cases h : i < j
    · rw [if_pos h]
    · rw [if_neg h, if_neg (by simpa using h)]
  | v :: l, j, A, i => by
    show wr p l (j + 1) (au A p j v) p i = _
    rw [wr_at l (j + 1) (au A p j v) i]
    by_cases h : i < j
    · rw [if_pos (by omega), if_pos h, au_j (by omega)]
    · rw [if_neg h]
      by_cases e : i = j
      · subst e
        rw [if_pos (by omega), au_k, if_pos (by rw [List.length_cons]; omega), Nat.sub_self]
        rfl
      · rw [if_neg (by omega), List.length_cons]
        by_cases h2 : i < j + 1 + l.length
        · rw [if_pos h2, if_pos (by omega), show i - j = (i - (j + 1)) + 1 by omega]
          rfl
        · rw [if_neg h2, if_neg (by omega), au_j e]
theorem wr_z (l : List Int32) (h : A p = fun _ => 0) : wr p l 0 A p = fun i => l.getD i 0 := by
  funext i
  rw [wr_at, if_neg (by omega), h]
  by_cases h2 : i < 0 + l.length
  · rw [if_pos h2]; rfl
  · rw [if_neg h2, List.getD_eq_getElem?_getD, List.getElem?_eq_none (by omega)]; rfl
theorem fi_lt : ∀ j, j < 20 → fi j < 35 ∧ alay 5 (fi j) = j + 3 := by decide
theorem fi_in : ∀ i, i < 20 → ∀ j, j < 20 → fi i = fi j → i = j := by decide
theorem fi_on : ∀ k, k < 35 → 2 ≤ alay 5 k → ∃ j, j < 20 ∧ k = fi j := by decide
theorem iM.step (hi : iM A0 R0 G0 n A R G) (hn : n < 20) (hg : gtb (49 + n) = (1, N)) (h1 : B (49 + n) = am (49 + n)) (h2 : ∀ o, ¬ o = 49 + n → B o = A o) : iM A0 R0 G0 (n + 1) B (ar (rp R (49 + n) (fun _ => none)) 48 (fi n) (some (49 + n))) (gu G (49 + n) (1, N)) := by
  obtain ⟨a, b, c, d, e, f⟩ := hi
  refine ⟨by rw [gu_o (by omega)]; exact a, by rw [h2 48 (by omega)]; exact b, fun j hj => ?_, fun k h1 h2 => by rw [gu_o (by omega)]; exact d k (by omega) h2, fun j hj => ?_, fun o ho => ?_⟩
  · by_cases q : j = n
    · subst q
      exact ⟨by rw [gu_at, hg], h1⟩
    · rw [gu_o (by omega), h2 _ (by omega)]; exact c j (by omega)
  · by_cases q : j = n
    · subst q; exact ar_at
    · show ar _ 48 (fi n) _ 48 (fi j) = _
      unfold ar
      rw [if_neg (fun w => q (fi_in j (by omega) n hn w.2)), rp_o (by omega)]
      exact e j (by omega)
  · rw [h2 o (by omega), ar_ne (by omega), rp_o (by omega), gu_o (by omega)]
    exact f o ho
theorem lX5_blk {pc0 pc1 pc2 pc3 pc4 idx : Nat} {x : Int32} (b0 : blk tX5_init pc0 = bL (o_al 0 pc1)) (b1 : blk tX5_init pc1 = bL (o_ii x pc2)) (b2 : blk tX5_init pc2 = b_nwa 20 2823 pc3) (b3 : blk tX5_init pc3 = b_pwR 5 idx pc4) (hi : iM A0 R0 G0 n A R G) (hx : x.toNatClampNeg = N) (hx0 : ¬ x < 0) (hn : n < 20) (hfi : idx = fi n) (hg : gtb (49 + n) = (1, N)) (hN : N ≤ 2000) (ham : am (49 + n) = fun _ => 0) (hc1 : c.1 + 1 ≤ 20) (hc2 : c.2 + N ≤ 2823) (hc : (c.1 + 1, c.2 + N) = c')
    (h : ∀ A' R' G', iM A0 R0 G0 (n + 1) A' R' G' → bw tX5_init E c' pc4 [some (.ref 48), none] [] (A', R', G')) : bw tX5_init E c pc0 [some (.ref 48), none] [] (A, R, G) := by
  have hk := kX5_init
  subst hfi
  refine r_al hk b0 rfl ?_
  refine r_ii hk b1 ?_
  refine r_nwa hk b2 (49 + n) (by omega) (hi.2.2.2.1 _ (by omega) (by omega)) hx0 hx (by omega) hc1 hc2 hc ?_
  refine r_pwR hk b3 (by rw [gu_o (by omega)]; exact hi.1) ?_
  exact h _ _ _ (hi.step hn hg (by rw [ap_eq, ham]) (fun o ho => ap_ne ho))
theorem lX5_bli {pc0 pc1 pc2 pc3 pc5 pc4 idx : Nat} {x : Int32} {l : List Int32} (b0 : blk tX5_init pc0 = bL (o_al 0 pc1)) (b1 : blk tX5_init pc1 = bL (o_ii x pc2)) (b2 : blk tX5_init pc2 = b_nwa 20 2823 pc3) (b3 : blk tX5_init pc5 = b_pwR 5 idx pc4)
    (hin : ∀ (A : Nat → Nat → Int32) (R : Nat → Nat → Option Nat) (G : Nat → Nat × Nat), G (49 + n) = (1, N) → bw tX5_init E c' pc5 [some (.ref 48), none] [.ref (49 + n), .ref 48] (wr (49 + n) l 0 A, R, G) → bw tX5_init E c' pc3 [some (.ref 48), none] [.ref (49 + n), .ref 48] (A, R, G))
    (hi : iM A0 R0 G0 n A R G) (hx : x.toNatClampNeg = N) (hx0 : ¬ x < 0) (hn : n < 20) (hfi : idx = fi n) (hg : gtb (49 + n) = (1, N)) (hN : N ≤ 2000) (ham : am (49 + n) = fun i => l.getD i 0) (hc1 : c.1 + 1 ≤ 20) (hc2 : c.2 + N ≤ 2823) (hc : (c.1 + 1, c.2 + N) = c')
    (h : ∀ A' R' G', iM A0 R0 G0 (n + 1) A' R' G' → bw tX5_init E c' pc4 [some (.ref 48), none] [] (A', R', G')) : bw tX5_init E c pc0 [some (.ref 48), none] [] (A, R, G) := by
  have hk := kX5_init
  subst hfi
  refine r_al hk b0 rfl ?_
  refine r_ii hk b1 ?_
  refine r_nwa hk b2 (49 + n) (by omega) (hi.2.2.2.1 _ (by omega) (by omega)) hx0 hx (by omega) hc1 hc2 hc ?_
  refine hin _ _ _ gu_at ?_
  refine r_pwR hk b3 (by rw [gu_o (by omega)]; exact hi.1) ?_
  exact h _ _ _ (hi.step hn hg (by rw [ham]; exact wr_z l ap_eq) (fun o ho => (wr_o ho l 0 _).trans (ap_ne ho)))
set_option maxRecDepth 100000 in
set_option maxHeartbeats 4000000 in
theorem lX5_i58 {c : Nat × Nat} (A : Nat → Nat → Int32) (R : Nat → Nat → Option Nat) (G : Nat → Nat × Nat) (hG : G 58 = (1, 4)) (h : bw tX5_init E c 97 [some (.ref 48), none] [.ref 58, .ref 48] (wr 58 [-1, -1, -1, -1] 0 A, R, G)) : bw tX5_init E c 81 [some (.ref 48), none] [.ref 58, .ref 48] (A, R, G) := by
  have hk := kX5_init
  refine r_dup hk rfl rfl ?_
  refine r_ii hk rfl ?_
  refine r_ii hk rfl ?_
  refine r_iast (j := 0) hk rfl hG (by unfold vp_in; decide) rfl ?_
  refine r_dup hk rfl rfl ?_
  refine r_ii hk rfl ?_
  refine r_ii hk rfl ?_
  refine r_iast (j := 1) hk rfl hG (by unfold vp_in; decide) rfl ?_
  refine r_dup hk rfl rfl ?_
  refine r_ii hk rfl ?_
  refine r_ii hk rfl ?_
  refine r_iast (j := 2) hk rfl hG (by unfold vp_in; decide) rfl ?_
  refine r_dup hk rfl rfl ?_
  refine r_ii hk rfl ?_
  refine r_ii hk rfl ?_
  refine r_iast (j := 3) hk rfl hG (by unfold vp_in; decide) rfl ?_
  exact h
set_option maxRecDepth 100000 in
set_option maxHeartbeats 4000000 in
theorem lX5_i61 {c : Nat × Nat} (A : Nat → Nat → Int32) (R : Nat → Nat → Option Nat) (G : Nat → Nat × Nat) (hG : G 61 = (1, 41)) (h : bw tX5_init E c 361 [some (.ref 48), none] [.ref 61, .ref 48] (wr 61 lawB 0 A, R, G)) : bw tX5_init E c 121 [some (.ref 48), none] [.ref 61, .ref 48] (A, R, G) := by
  have hk := kX5_init
  refine r_dup hk rfl rfl ?_
  refine r_ii hk rfl ?_
  refine r_ii hk rfl ?_
  refine r_iast (j := 0) hk rfl hG (by unfold vp_in; decide) rfl ?_
  refine r_dup hk rfl rfl ?_
  refine r_ii hk rfl ?_
  refine r_ii hk rfl ?_
  refine r_iast (j := 1) hk rfl hG (by unfold vp_in; decide) rfl ?_
  refine r_dup hk rfl rfl ?_
  refine r_ii hk rfl ?_
  refine r_ii hk rfl ?_
  refine r_iast (j := 2) hk rfl hG (by unfold vp_in; decide) rfl ?_
  refine r_dup hk rfl rfl ?_
  refine r_ii hk rfl ?_
  refine r_ii hk rfl ?_
  refine r_iast (j := 3) hk rfl hG (by unfold vp_in; decide) rfl ?_
  refine r_dup hk rfl rfl ?_
  refine r_ii hk rfl ?_
  refine r_ii hk rfl ?_
  refine r_iast (j := 4) hk rfl hG (by unfold vp_in; decide) rfl ?_
  refine r_dup hk rfl rfl ?_
  refine r_ii hk rfl ?_
  refine r_ii hk rfl ?_
  refine r_iast (j := 5) hk rfl hG (by unfold vp_in; decide) rfl ?_
  refine r_dup hk rfl rfl ?_
  refine r_ii hk rfl ?_
  refine r_ii hk rfl ?_
  refine r_iast (j := 6) hk rfl hG (by unfold vp_in; decide) rfl ?_
  refine r_dup hk rfl rfl ?_
  refine r_ii hk rfl ?_
  refine r_ii hk rfl ?_
  refine r_iast (j := 7) hk rfl hG (by unfold vp_in; decide) rfl ?_
  refine r_dup hk rfl rfl ?_
  refine r_ii hk rfl ?_
  refine r_ii hk rfl ?_
  refine r_iast (j := 8) hk rfl hG (by unfold vp_in; decide) rfl ?_
  refine r_dup hk rfl rfl ?_
  refine r_ii hk rfl ?_
  refine r_ii hk rfl ?_
  refine r_iast (j := 9) hk rfl hG (by unfold vp_in; decide) rfl ?_
  refine r_dup hk rfl rfl ?_
  refine r_ii hk rfl ?_
  refine r_ii hk rfl ?_
  refine r_iast (j := 10) hk rfl hG (by unfold vp_in; decide) rfl ?_
  refine r_dup hk rfl rfl ?_
  refine r_ii hk rfl ?_
  refine r_ii hk rfl ?_
  refine r_iast (j := 11) hk rfl hG (by unfold vp_in; decide) rfl ?_
  refine r_dup hk rfl rfl ?_
  refine r_ii hk rfl ?_
  refine r_ii hk rfl ?_
  refine r_iast (j := 12) hk rfl hG (by unfold vp_in; decide) rfl ?_
  refine r_dup hk rfl rfl ?_
  refine r_ii hk rfl ?_
  refine r_ii hk rfl ?_
  refine r_iast (j := 13) hk rfl hG (by unfold vp_in; decide) rfl ?_
  refine r_dup hk rfl rfl ?_
  refine r_ii hk rfl ?_
  refine r_ii hk rfl ?_
  refine r_iast (j := 14) hk rfl hG (by unfold vp_in; decide) rfl ?_
  refine r_dup hk rfl rfl ?_
  refine r_ii hk rfl ?_
  refine r_ii hk rfl ?_
  refine r_iast (j := 15) hk rfl hG (by unfold vp_in; decide) rfl ?_
  refine r_dup hk rfl rfl ?_
  refine r_ii hk rfl ?_
  refine r_ii hk rfl ?_
  refine r_iast (j := 16) hk rfl hG (by unfold vp_in; decide) rfl ?_
  refine r_dup hk rfl rfl ?_
  refine r_ii hk rfl ?_
  refine r_ii hk rfl ?_
  refine r_iast (j := 17) hk rfl hG (by unfold vp_in; decide) rfl ?_
  refine r_dup hk rfl rfl ?_
  refine r_ii hk rfl ?_
  refine r_ii hk rfl ?_
  refine r_iast (j := 18) hk rfl hG (by unfold vp_in; decide) rfl ?_
  refine r_dup hk rfl rfl ?_
  refine r_ii hk rfl ?_
  refine r_ii hk rfl ?_
  refine r_iast (j := 19) hk rfl hG (by unfold vp_in; decide) rfl ?_
  refine r_dup hk rfl rfl ?_
  refine r_ii hk rfl ?_
  refine r_ii hk rfl ?_
  refine r_iast (j := 20) hk rfl hG (by unfold vp_in; decide) rfl ?_
  refine r_dup hk rfl rfl ?_
  refine r_ii hk rfl ?_
  refine r_ii hk rfl ?_
  refine r_iast (j := 21) hk rfl hG (by unfold vp_in; decide) rfl ?_
  refine r_dup hk rfl rfl ?_
  refine r_ii hk rfl ?_
  refine r_ii hk rfl ?_
  refine r_iast (j := 22) hk rfl hG (by unfold vp_in; decide) rfl ?_
  refine r_dup hk rfl rfl ?_
  refine r_ii hk rfl ?_
  refine r_ii hk rfl ?_
  refine r_iast (j := 23) hk rfl hG (by unfold vp_in; decide) rfl ?_
  refine r_dup hk rfl rfl ?_
  refine r_ii hk rfl ?_
  refine r_ii hk rfl ?_
  refine r_iast (j := 24) hk rfl hG (by unfold vp_in; decide) rfl ?_
  refine r_dup hk rfl rfl ?_
  refine r_ii hk rfl ?_
  refine r_ii hk rfl ?_
  refine r_iast (j := 25) hk rfl hG (by unfold vp_in; decide) rfl ?_
  refine r_dup hk rfl rfl ?_
  refine r_ii hk rfl ?_
  refine r_ii hk rfl ?_
  refine r_iast (j := 26) hk rfl hG (by unfold vp_in; decide) rfl ?_
  refine r_dup hk rfl rfl ?_
  refine r_ii hk rfl ?_
  refine r_ii hk rfl ?_
  refine r_iast (j := 27) hk rfl hG (by unfold vp_in; decide) rfl ?_
  refine r_dup hk rfl rfl ?_
  refine r_ii hk rfl ?_
  refine r_ii hk rfl ?_
  refine r_iast (j := 28) hk rfl hG (by unfold vp_in; decide) rfl ?_
  refine r_dup hk rfl rfl ?_
  refine r_ii hk rfl ?_
  refine r_ii hk rfl ?_
  refine r_iast (j := 29) hk rfl hG (by unfold vp_in; decide) rfl ?_
  refine r_dup hk rfl rfl ?_
  refine r_ii hk rfl ?_
  refine r_ii hk rfl ?_
  refine r_iast (j := 30) hk rfl hG (by unfold vp_in; decide) rfl ?_
  refine r_dup hk rfl rfl ?_
  refine r_ii hk rfl ?_
  refine r_ii hk rfl ?_
  refine r_iast (j := 31) hk rfl hG (by unfold vp_in; decide) rfl ?_
  refine r_dup hk rfl rfl ?_
  refine r_ii hk rfl ?_
  refine r_ii hk rfl ?_
  refine r_iast (j := 32) hk rfl hG (by unfold vp_in; decide) rfl ?_
  refine r_dup hk rfl rfl ?_
  refine r_ii hk rfl ?_
  refine r_ii hk rfl ?_
  refine r_iast (j := 33) hk rfl hG (by unfold vp_in; decide) rfl ?_
  refine r_dup hk rfl rfl ?_
  refine r_ii hk rfl ?_
  refine r_ii hk rfl ?_
  refine r_iast (j := 34) hk rfl hG (by unfold vp_in; decide) rfl ?_
  refine r_dup hk rfl rfl ?_
  refine r_ii hk rfl ?_
  refine r_ii hk rfl ?_
  refine r_iast (j := 35) hk rfl hG (by unfold vp_in; decide) rfl ?_
  refine r_dup hk rfl rfl ?_
  refine r_ii hk rfl ?_
  refine r_ii hk rfl ?_
  refine r_iast (j := 36) hk rfl hG (by unfold vp_in; decide) rfl ?_
  refine r_dup hk rfl rfl ?_
  refine r_ii hk rfl ?_
  refine r_ii hk rfl ?_
  refine r_iast (j := 37) hk rfl hG (by unfold vp_in; decide) rfl ?_
  refine r_dup hk rfl rfl ?_
  refine r_ii hk rfl ?_
  refine r_ii hk rfl ?_
  refine r_iast (j := 38) hk rfl hG (by unfold vp_in; decide) rfl ?_
  refine r_dup hk rfl rfl ?_
  refine r_ii hk rfl ?_
  refine r_ii hk rfl ?_
  refine r_iast (j := 39) hk rfl hG (by unfold vp_in; decide) rfl ?_
  refine r_dup hk rfl rfl ?_
  refine r_ii hk rfl ?_
  refine r_ii hk rfl ?_
  refine r_iast (j := 40) hk rfl hG (by unfold vp_in; decide) rfl ?_
  exact h
set_option maxRecDepth 100000 in
set_option maxHeartbeats 4000000 in
theorem lX5_i62 {c : Nat × Nat} (A : Nat → Nat → Int32) (R : Nat → Nat → Option Nat) (G : Nat → Nat × Nat) (hG : G 62 = (1, 96)) (h : bw tX5_init E c 939 [some (.ref 48), none] [.ref 62, .ref 48] (wr 62 mWd 0 A, R, G)) : bw tX5_init E c 369 [some (.ref 48), none] [.ref 62, .ref 48] (A, R, G) := by
  have hk := kX5_init
  refine r_dup hk rfl rfl ?_
  refine r_ii hk rfl ?_
  refine r_ii hk rfl ?_
  refine r_iast (j := 0) hk rfl hG (by unfold vp_in; decide) rfl ?_
  refine r_dup hk rfl rfl ?_
  refine r_ii hk rfl ?_
  refine r_ii hk rfl ?_
  refine r_iast (j := 1) hk rfl hG (by unfold vp_in; decide) rfl ?_
  refine r_dup hk rfl rfl ?_
  refine r_ii hk rfl ?_
  refine r_ii hk rfl ?_
  refine r_iast (j := 2) hk rfl hG (by unfold vp_in; decide) rfl ?_
  refine r_dup hk rfl rfl ?_
  refine r_ii hk rfl ?_
  refine r_ii hk rfl ?_
  refine r_iast (j := 3) hk rfl hG (by unfold vp_in; decide) rfl ?_
  refine r_dup hk rfl rfl ?_
  refine r_ii hk rfl ?_
  refine r_ii hk rfl ?_
  refine r_iast (j := 4) hk rfl hG (by unfold vp_in; decide) rfl ?_
  refine r_dup hk rfl rfl ?_
  refine r_ii hk rfl ?_
  refine r_ii hk rfl ?_
  refine r_iast (j := 5) hk rfl hG (by unfold vp_in; decide) rfl ?_
  refine r_dup hk rfl rfl ?_
  refine r_ii hk rfl ?_
  refine r_ii hk rfl ?_
  refine r_iast (j := 6) hk rfl hG (by unfold vp_in; decide) rfl ?_
  refine r_dup hk rfl rfl ?_
  refine r_ii hk rfl ?_
  refine r_ii hk rfl ?_
  refine r_iast (j := 7) hk rfl hG (by unfold vp_in; decide) rfl ?_
  refine r_dup hk rfl rfl ?_
  refine r_ii hk rfl ?_
  refine r_ii hk rfl ?_
  refine r_iast (j := 8) hk rfl hG (by unfold vp_in; decide) rfl ?_
  refine r_dup hk rfl rfl ?_
  refine r_ii hk rfl ?_
  refine r_ii hk rfl ?_
  refine r_iast (j := 9) hk rfl hG (by unfold vp_in; decide) rfl ?_
  refine r_dup hk rfl rfl ?_
  refine r_ii hk rfl ?_
  refine r_ii hk rfl ?_
  refine r_iast (j := 10) hk rfl hG (by unfold vp_in; decide) rfl ?_
  refine r_dup hk rfl rfl ?_
  refine r_ii hk rfl ?_
  refine r_ii hk rfl ?_
  refine r_iast (j := 11) hk rfl hG (by unfold vp_in; decide) rfl ?_
  refine r_dup hk rfl rfl ?_
  refine r_ii hk rfl ?_
  refine r_ii hk rfl ?_
  refine r_iast (j := 12) hk rfl hG (by unfold vp_in; decide) rfl ?_
  refine r_dup hk rfl rfl ?_
  refine r_ii hk rfl ?_
  refine r_ii hk rfl ?_
  refine r_iast (j := 13) hk rfl hG (by unfold vp_in; decide) rfl ?_
  refine r_dup hk rfl rfl ?_
  refine r_ii hk rfl ?_
  refine r_ii hk rfl ?_
  refine r_iast (j := 14) hk rfl hG (by unfold vp_in; decide) rfl ?_
  refine r_dup hk rfl rfl ?_
  refine r_ii hk rfl ?_
  refine r_ii hk rfl ?_
  refine r_iast (j := 15) hk rfl hG (by unfold vp_in; decide) rfl ?_
  refine r_dup hk rfl rfl ?_
  refine r_ii hk rfl ?_
  refine r_ii hk rfl ?_
  refine r_iast (j := 16) hk rfl hG (by unfold vp_in; decide) rfl ?_
  refine r_dup hk rfl rfl ?_
  refine r_ii hk rfl ?_
  refine r_ii hk rfl ?_
  refine r_iast (j := 17) hk rfl hG (by unfold vp_in; decide) rfl ?_
  refine r_dup hk rfl rfl ?_
  refine r_ii hk rfl ?_
  refine r_ii hk rfl ?_
  refine r_iast (j := 18) hk rfl hG (by unfold vp_in; decide) rfl ?_
  refine r_dup hk rfl rfl ?_
  refine r_ii hk rfl ?_
  refine r_ii hk rfl ?_
  refine r_iast (j := 19) hk rfl hG (by unfold vp_in; decide) rfl ?_
  refine r_dup hk rfl rfl ?_
  refine r_ii hk rfl ?_
  refine r_ii hk rfl ?_
  refine r_iast (j := 20) hk rfl hG (by unfold vp_in; decide) rfl ?_
  refine r_dup hk rfl rfl ?_
  refine r_ii hk rfl ?_
  refine r_ii hk rfl ?_
  refine r_iast (j := 21) hk rfl hG (by unfold vp_in; decide) rfl ?_
  refine r_dup hk rfl rfl ?_
  refine r_ii hk rfl ?_
  refine r_ii hk rfl ?_
  refine r_iast (j := 22) hk rfl hG (by unfold vp_in; decide) rfl ?_
  refine r_dup hk rfl rfl ?_
  refine r_ii hk rfl ?_
  refine r_ii hk rfl ?_
  refine r_iast (j := 23) hk rfl hG (by unfold vp_in; decide) rfl ?_
  refine r_dup hk rfl rfl ?_
  refine r_ii hk rfl ?_
  refine r_ii hk rfl ?_
  refine r_iast (j := 24) hk rfl hG (by unfold vp_in; decide) rfl ?_
  refine r_dup hk rfl rfl ?_
  refine r_ii hk rfl ?_
  refine r_ii hk rfl ?_
  refine r_iast (j := 25) hk rfl hG (by unfold vp_in; decide) rfl ?_
  refine r_dup hk rfl rfl ?_
  refine r_ii hk rfl ?_
  refine r_ii hk rfl ?_
  refine r_iast (j := 26) hk rfl hG (by unfold vp_in; decide) rfl ?_
  refine r_dup hk rfl rfl ?_
  refine r_ii hk rfl ?_
  refine r_ii hk rfl ?_
  refine r_iast (j := 27) hk rfl hG (by unfold vp_in; decide) rfl ?_
  refine r_dup hk rfl rfl ?_
  refine r_ii hk rfl ?_
  refine r_ii hk rfl ?_
  refine r_iast (j := 28) hk rfl hG (by unfold vp_in; decide) rfl ?_
  refine r_dup hk rfl rfl ?_
  refine r_ii hk rfl ?_
  refine r_ii hk rfl ?_
  refine r_iast (j := 29) hk rfl hG (by unfold vp_in; decide) rfl ?_
  refine r_dup hk rfl rfl ?_
  refine r_ii hk rfl ?_
  refine r_ii hk rfl ?_
  refine r_iast (j := 30) hk rfl hG (by unfold vp_in; decide) rfl ?_
  refine r_dup hk rfl rfl ?_
  refine r_ii hk rfl ?_
  refine r_ii hk rfl ?_
  refine r_iast (j := 31) hk rfl hG (by unfold vp_in; decide) rfl ?_
  refine r_dup hk rfl rfl ?_
  refine r_ii hk rfl ?_
  refine r_ii hk rfl ?_
  refine r_iast (j := 32) hk rfl hG (by unfold vp_in; decide) rfl ?_
  refine r_dup hk rfl rfl ?_
  refine r_ii hk rfl ?_
  refine r_ii hk rfl ?_
  refine r_iast (j := 33) hk rfl hG (by unfold vp_in; decide) rfl ?_
  refine r_dup hk rfl rfl ?_
  refine r_ii hk rfl ?_
  refine r_ii hk rfl ?_
  refine r_iast (j := 34) hk rfl hG (by unfold vp_in; decide) rfl ?_
  refine r_dup hk rfl rfl ?_
  refine r_ii hk rfl ?_
  refine r_ii hk rfl ?_
  refine r_iast (j := 35) hk rfl hG (by unfold vp_in; decide) rfl ?_
  refine r_dup hk rfl rfl ?_
  refine r_ii hk rfl ?_
  refine r_ii hk rfl ?_
  refine r_iast (j := 36) hk rfl hG (by unfold vp_in; decide) rfl ?_
  refine r_dup hk rfl rfl ?_
  refine r_ii hk rfl ?_
  refine r_ii hk rfl ?_
  refine r_iast (j := 37) hk rfl hG (by unfold vp_in; decide) rfl ?_
  refine r_dup hk rfl rfl ?_
  refine r_ii hk rfl ?_
  refine r_ii hk rfl ?_
  refine r_iast (j := 38) hk rfl hG (by unfold vp_in; decide) rfl ?_
  refine r_dup hk rfl rfl ?_
  refine r_ii hk rfl ?_
  refine r_ii hk rfl ?_
  refine r_iast (j := 39) hk rfl hG (by unfold vp_in; decide) rfl ?_
  refine r_dup hk rfl rfl ?_
  refine r_ii hk rfl ?_
  refine r_ii hk rfl ?_
  refine r_iast (j := 40) hk rfl hG (by unfold vp_in; decide) rfl ?_
  refine r_dup hk rfl rfl ?_
  refine r_ii hk rfl ?_
  refine r_ii hk rfl ?_
  refine r_iast (j := 41) hk rfl hG (by unfold vp_in; decide) rfl ?_
  refine r_dup hk rfl rfl ?_
  refine r_ii hk rfl ?_
  refine r_ii hk rfl ?_
  refine r_iast (j := 42) hk rfl hG (by unfold vp_in; decide) rfl ?_
  refine r_dup hk rfl rfl ?_
  refine r_ii hk rfl ?_
  refine r_ii hk rfl ?_
  refine r_iast (j := 43) hk rfl hG (by unfold vp_in; decide) rfl ?_
  refine r_dup hk rfl rfl ?_
  refine r_ii hk rfl ?_
  refine r_ii hk rfl ?_
  refine r_iast (j := 44) hk rfl hG (by unfold vp_in; decide) rfl ?_
  refine r_dup hk rfl rfl ?_
  refine r_ii hk rfl ?_
  refine r_ii hk rfl ?_
  refine r_iast (j := 45) hk rfl hG (by unfold vp_in; decide) rfl ?_
  refine r_dup hk rfl rfl ?_
  refine r_ii hk rfl ?_
  refine r_ii hk rfl ?_
  refine r_iast (j := 46) hk rfl hG (by unfold vp_in; decide) rfl ?_
  refine r_dup hk rfl rfl ?_
  refine r_ii hk rfl ?_
  refine r_ii hk rfl ?_
  refine r_iast (j := 47) hk rfl hG (by unfold vp_in; decide) rfl ?_
  refine r_dup hk rfl rfl ?_
  refine r_ii hk rfl ?_
  refine r_ii hk rfl ?_
  refine r_iast (j := 48) hk rfl hG (by unfold vp_in; decide) rfl ?_
  refine r_dup hk rfl rfl ?_
  refine r_ii hk rfl ?_
  refine r_ii hk rfl ?_
  refine r_iast (j := 49) hk rfl hG (by unfold vp_in; decide) rfl ?_
  refine r_dup hk rfl rfl ?_
  refine r_ii hk rfl ?_
  refine r_ii hk rfl ?_
  refine r_iast (j := 50) hk rfl hG (by unfold vp_in; decide) rfl ?_
  refine r_dup hk rfl rfl ?_
  refine r_ii hk rfl ?_
  refine r_ii hk rfl ?_
  refine r_iast (j := 51) hk rfl hG (by unfold vp_in; decide) rfl ?_
  refine r_dup hk rfl rfl ?_
  refine r_ii hk rfl ?_
  refine r_ii hk rfl ?_
  refine r_iast (j := 52) hk rfl hG (by unfold vp_in; decide) rfl ?_
  refine r_dup hk rfl rfl ?_
  refine r_ii hk rfl ?_
  refine r_ii hk rfl ?_
  refine r_iast (j := 53) hk rfl hG (by unfold vp_in; decide) rfl ?_
  refine r_dup hk rfl rfl ?_
  refine r_ii hk rfl ?_
  refine r_ii hk rfl ?_
  refine r_iast (j := 54) hk rfl hG (by unfold vp_in; decide) rfl ?_
  refine r_dup hk rfl rfl ?_
  refine r_ii hk rfl ?_
  refine r_ii hk rfl ?_
  refine r_iast (j := 55) hk rfl hG (by unfold vp_in; decide) rfl ?_
  refine r_dup hk rfl rfl ?_
  refine r_ii hk rfl ?_
  refine r_ii hk rfl ?_
  refine r_iast (j := 56) hk rfl hG (by unfold vp_in; decide) rfl ?_
  refine r_dup hk rfl rfl ?_
  refine r_ii hk rfl ?_
  refine r_ii hk rfl ?_
  refine r_iast (j := 57) hk rfl hG (by unfold vp_in; decide) rfl ?_
  refine r_dup hk rfl rfl ?_
  refine r_ii hk rfl ?_
  refine r_ii hk rfl ?_
  refine r_iast (j := 58) hk rfl hG (by unfold vp_in; decide) rfl ?_
  refine r_dup hk rfl rfl ?_
  refine r_ii hk rfl ?_
  refine r_ii hk rfl ?_
  refine r_iast (j := 59) hk rfl hG (by unfold vp_in; decide) rfl ?_
  refine r_dup hk rfl rfl ?_
  refine r_ii hk rfl ?_
  refine r_ii hk rfl ?_
  refine r_iast (j := 60) hk rfl hG (by unfold vp_in; decide) rfl ?_
  refine r_dup hk rfl rfl ?_
  refine r_ii hk rfl ?_
  refine r_ii hk rfl ?_
  refine r_iast (j := 61) hk rfl hG (by unfold vp_in; decide) rfl ?_
  refine r_dup hk rfl rfl ?_
  refine r_ii hk rfl ?_
  refine r_ii hk rfl ?_
  refine r_iast (j := 62) hk rfl hG (by unfold vp_in; decide) rfl ?_
  refine r_dup hk rfl rfl ?_
  refine r_ii hk rfl ?_
  refine r_ii hk rfl ?_
  refine r_iast (j := 63) hk rfl hG (by unfold vp_in; decide) rfl ?_
  refine r_dup hk rfl rfl ?_
  refine r_ii hk rfl ?_
  refine r_ii hk rfl ?_
  refine r_iast (j := 64) hk rfl hG (by unfold vp_in; decide) rfl ?_
  refine r_dup hk rfl rfl ?_
  refine r_ii hk rfl ?_
  refine r_ii hk rfl ?_
  refine r_iast (j := 65) hk rfl hG (by unfold vp_in; decide) rfl ?_
  refine r_dup hk rfl rfl ?_
  refine r_ii hk rfl ?_
  refine r_ii hk rfl ?_
  refine r_iast (j := 66) hk rfl hG (by unfold vp_in; decide) rfl ?_
  refine r_dup hk rfl rfl ?_
  refine r_ii hk rfl ?_
  refine r_ii hk rfl ?_
  refine r_iast (j := 67) hk rfl hG (by unfold vp_in; decide) rfl ?_
  refine r_dup hk rfl rfl ?_
  refine r_ii hk rfl ?_
  refine r_ii hk rfl ?_
  refine r_iast (j := 68) hk rfl hG (by unfold vp_in; decide) rfl ?_
  refine r_dup hk rfl rfl ?_
  refine r_ii hk rfl ?_
  refine r_ii hk rfl ?_
  refine r_iast (j := 69) hk rfl hG (by unfold vp_in; decide) rfl ?_
  refine r_dup hk rfl rfl ?_
  refine r_ii hk rfl ?_
  refine r_ii hk rfl ?_
  refine r_iast (j := 70) hk rfl hG (by unfold vp_in; decide) rfl ?_
  refine r_dup hk rfl rfl ?_
  refine r_ii hk rfl ?_
  refine r_ii hk rfl ?_
  refine r_iast (j := 71) hk rfl hG (by unfold vp_in; decide) rfl ?_
  refine r_dup hk rfl rfl ?_
  refine r_ii hk rfl ?_
  refine r_ii hk rfl ?_
  refine r_iast (j := 72) hk rfl hG (by unfold vp_in; decide) rfl ?_
  refine r_dup hk rfl rfl ?_
  refine r_ii hk rfl ?_
  refine r_ii hk rfl ?_
  refine r_iast (j := 73) hk rfl hG (by unfold vp_in; decide) rfl ?_
  refine r_dup hk rfl rfl ?_
  refine r_ii hk rfl ?_
  refine r_ii hk rfl ?_
  refine r_iast (j := 74) hk rfl hG (by unfold vp_in; decide) rfl ?_
  refine r_dup hk rfl rfl ?_
  refine r_ii hk rfl ?_
  refine r_ii hk rfl ?_
  refine r_iast (j := 75) hk rfl hG (by unfold vp_in; decide) rfl ?_
  refine r_dup hk rfl rfl ?_
  refine r_ii hk rfl ?_
  refine r_ii hk rfl ?_
  refine r_iast (j := 76) hk rfl hG (by unfold vp_in; decide) rfl ?_
  refine r_dup hk rfl rfl ?_
  refine r_ii hk rfl ?_
  refine r_ii hk rfl ?_
  refine r_iast (j := 77) hk rfl hG (by unfold vp_in; decide) rfl ?_
  refine r_dup hk rfl rfl ?_
  refine r_ii hk rfl ?_
  refine r_ii hk rfl ?_
  refine r_iast (j := 78) hk rfl hG (by unfold vp_in; decide) rfl ?_
  refine r_dup hk rfl rfl ?_
  refine r_ii hk rfl ?_
  refine r_ii hk rfl ?_
  refine r_iast (j := 79) hk rfl hG (by unfold vp_in; decide) rfl ?_
  refine r_dup hk rfl rfl ?_
  refine r_ii hk rfl ?_
  refine r_ii hk rfl ?_
  refine r_iast (j := 80) hk rfl hG (by unfold vp_in; decide) rfl ?_
  refine r_dup hk rfl rfl ?_
  refine r_ii hk rfl ?_
  refine r_ii hk rfl ?_
  refine r_iast (j := 81) hk rfl hG (by unfold vp_in; decide) rfl ?_
  refine r_dup hk rfl rfl ?_
  refine r_ii hk rfl ?_
  refine r_ii hk rfl ?_
  refine r_iast (j := 82) hk rfl hG (by unfold vp_in; decide) rfl ?_
  refine r_dup hk rfl rfl ?_
  refine r_ii hk rfl ?_
  refine r_ii hk rfl ?_
  refine r_iast (j := 83) hk rfl hG (by unfold vp_in; decide) rfl ?_
  refine r_dup hk rfl rfl ?_
  refine r_ii hk rfl ?_
  refine r_ii hk rfl ?_
  refine r_iast (j := 84) hk rfl hG (by unfold vp_in; decide) rfl ?_
  refine r_dup hk rfl rfl ?_
  refine r_ii hk rfl ?_
  refine r_ii hk rfl ?_
  refine r_iast (j := 85) hk rfl hG (by unfold vp_in; decide) rfl ?_
  refine r_dup hk rfl rfl ?_
  refine r_ii hk rfl ?_
  refine r_ii hk rfl ?_
  refine r_iast (j := 86) hk rfl hG (by unfold vp_in; decide) rfl ?_
  refine r_dup hk rfl rfl ?_
  refine r_ii hk rfl ?_
  refine r_ii hk rfl ?_
  refine r_iast (j := 87) hk rfl hG (by unfold vp_in; decide) rfl ?_
  refine r_dup hk rfl rfl ?_
  refine r_ii hk rfl ?_
  refine r_ii hk rfl ?_
  refine r_iast (j := 88) hk rfl hG (by unfold vp_in; decide) rfl ?_
  refine r_dup hk rfl rfl ?_
  refine r_ii hk rfl ?_
  refine r_ii hk rfl ?_
  refine r_iast (j := 89) hk rfl hG (by unfold vp_in; decide) rfl ?_
  refine r_dup hk rfl rfl ?_
  refine r_ii hk rfl ?_
  refine r_ii hk rfl ?_
  refine r_iast (j := 90) hk rfl hG (by unfold vp_in; decide) rfl ?_
  refine r_dup hk rfl rfl ?_
  refine r_ii hk rfl ?_
  refine r_ii hk rfl ?_
  refine r_iast (j := 91) hk rfl hG (by unfold vp_in; decide) rfl ?_
  refine r_dup hk rfl rfl ?_
  refine r_ii hk rfl ?_
  refine r_ii hk rfl ?_
  refine r_iast (j := 92) hk rfl hG (by unfold vp_in; decide) rfl ?_
  refine r_dup hk rfl rfl ?_
  refine r_ii hk rfl ?_
  refine r_ii hk rfl ?_
  refine r_iast (j := 93) hk rfl hG (by unfold vp_in; decide) rfl ?_
  refine r_dup hk rfl rfl ?_
  refine r_ii hk rfl ?_
  refine r_ii hk rfl ?_
  refine r_iast (j := 94) hk rfl hG (by unfold vp_in; decide) rfl ?_
  refine r_dup hk rfl rfl ?_
  refine r_ii hk rfl ?_
  refine r_ii hk rfl ?_
  refine r_iast (j := 95) hk rfl hG (by unfold vp_in; decide) rfl ?_
  exact h
set_option maxRecDepth 100000 in
set_option maxHeartbeats 4000000 in
theorem lX5_all (h0 : G 48 = (0, 6)) (hf : ∀ k, 49 ≤ k → k < 80 → G k = (0, 0)) (hA : A 48 = fun _ => 0) (h : ∀ A' R' G', iM A R G 20 A' R' G' → bw tX5_init E (20, 2823) 993 [some (.ref 48), none] [] (A', R', G')) : bw tX5_init E (0, 0) 0 [some (.ref 48), none] [] (A, R, G) := by
  have hk := kX5_init
  refine r_al hk rfl rfl ?_
  refine r_obj hk rfl (Nat.le_of_ble_eq_true rfl) ?_
  have i0 : iM A R G 0 A R G := ⟨h0, hA, fun j hj => absurd hj (by omega), hf, fun j hj => absurd hj (by omega), fun _ _ => ⟨rfl, rfl, rfl⟩⟩
  refine lX5_blk (n := 0) (N := 6) (c' := (1, 6)) rfl rfl rfl rfl i0 rfl (by decide) (by decide) rfl rfl (by decide) rfl (by decide) (by decide) rfl fun A1 R1 G1 i1 => ?_
  refine lX5_blk (n := 1) (N := 6) (c' := (2, 12)) rfl rfl rfl rfl i1 rfl (by decide) (by decide) rfl rfl (by decide) rfl (by decide) (by decide) rfl fun A2 R2 G2 i2 => ?_
  refine lX5_blk (n := 2) (N := 18) (c' := (3, 30)) rfl rfl rfl rfl i2 rfl (by decide) (by decide) rfl rfl (by decide) rfl (by decide) (by decide) rfl fun A3 R3 G3 i3 => ?_
  refine lX5_blk (n := 3) (N := 24) (c' := (4, 54)) rfl rfl rfl rfl i3 rfl (by decide) (by decide) rfl rfl (by decide) rfl (by decide) (by decide) rfl fun A4 R4 G4 i4 => ?_
  refine lX5_blk (n := 4) (N := 160) (c' := (5, 214)) rfl rfl rfl rfl i4 rfl (by decide) (by decide) rfl rfl (by decide) rfl (by decide) (by decide) rfl fun A5 R5 G5 i5 => ?_
  refine lX5_blk (n := 5) (N := 1200) (c' := (6, 1414)) rfl rfl rfl rfl i5 rfl (by decide) (by decide) rfl rfl (by decide) rfl (by decide) (by decide) rfl fun A6 R6 G6 i6 => ?_
  refine lX5_blk (n := 6) (N := 24) (c' := (7, 1438)) rfl rfl rfl rfl i6 rfl (by decide) (by decide) rfl rfl (by decide) rfl (by decide) (by decide) rfl fun A7 R7 G7 i7 => ?_
  refine lX5_blk (n := 7) (N := 42) (c' := (8, 1480)) rfl rfl rfl rfl i7 rfl (by decide) (by decide) rfl rfl (by decide) rfl (by decide) (by decide) rfl fun A8 R8 G8 i8 => ?_
  refine lX5_blk (n := 8) (N := 4) (c' := (9, 1484)) rfl rfl rfl rfl i8 rfl (by decide) (by decide) rfl rfl (by decide) rfl (by decide) (by decide) rfl fun A9 R9 G9 i9 => ?_
  refine lX5_bli (n := 9) (N := 4) (c' := (10, 1488)) (l := [-1, -1, -1, -1]) rfl rfl rfl rfl lX5_i58 i9 rfl (by decide) (by decide) rfl rfl (by decide) rfl (by decide) (by decide) rfl fun A10 R10 G10 i10 => ?_
  refine lX5_blk (n := 10) (N := 4) (c' := (11, 1492)) rfl rfl rfl rfl i10 rfl (by decide) (by decide) rfl rfl (by decide) rfl (by decide) (by decide) rfl fun A11 R11 G11 i11 => ?_
  refine lX5_blk (n := 11) (N := 160) (c' := (12, 1652)) rfl rfl rfl rfl i11 rfl (by decide) (by decide) rfl rfl (by decide) rfl (by decide) (by decide) rfl fun A12 R12 G12 i12 => ?_
  refine lX5_bli (n := 12) (N := 41) (c' := (13, 1693)) (l := lawB) rfl rfl rfl rfl lX5_i61 i12 rfl (by decide) (by decide) rfl rfl (by decide) rfl (by decide) (by decide) rfl fun A13 R13 G13 i13 => ?_
  refine lX5_bli (n := 13) (N := 96) (c' := (14, 1789)) (l := mWd) rfl rfl rfl rfl lX5_i62 i13 rfl (by decide) (by decide) rfl rfl (by decide) rfl (by decide) (by decide) rfl fun A14 R14 G14 i14 => ?_
  refine lX5_blk (n := 14) (N := 200) (c' := (15, 1989)) rfl rfl rfl rfl i14 rfl (by decide) (by decide) rfl rfl (by decide) rfl (by decide) (by decide) rfl fun A15 R15 G15 i15 => ?_
  refine lX5_blk (n := 15) (N := 200) (c' := (16, 2189)) rfl rfl rfl rfl i15 rfl (by decide) (by decide) rfl rfl (by decide) rfl (by decide) (by decide) rfl fun A16 R16 G16 i16 => ?_
  refine lX5_blk (n := 16) (N := 6) (c' := (17, 2195)) rfl rfl rfl rfl i16 rfl (by decide) (by decide) rfl rfl (by decide) rfl (by decide) (by decide) rfl fun A17 R17 G17 i17 => ?_
  refine lX5_blk (n := 17) (N := 44) (c' := (18, 2239)) rfl rfl rfl rfl i17 rfl (by decide) (by decide) rfl rfl (by decide) rfl (by decide) (by decide) rfl fun A18 R18 G18 i18 => ?_
  refine lX5_blk (n := 18) (N := 576) (c' := (19, 2815)) rfl rfl rfl rfl i18 rfl (by decide) (by decide) rfl rfl (by decide) rfl (by decide) (by decide) rfl fun A19 R19 G19 i19 => ?_
  refine lX5_blk (n := 19) (N := 8) (c' := (20, 2823)) rfl rfl rfl rfl i19 rfl (by decide) (by decide) rfl rfl (by decide) rfl (by decide) (by decide) rfl fun A20 R20 G20 i20 => ?_
  exact h _ _ _ i20
end S3
