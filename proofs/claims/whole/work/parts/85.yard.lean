/-! the model's reader, step by step -/
def yH (A : Nat → Nat → Int32) (n z : Nat) (T : Nat → Nat) (N : Nat) : Prop := n < 6 ∧ z ≤ 160 ∧ A 48 8 = nI z ∧ A 48 11 = nI n ∧ (∀ i, i < 96 → A 62 i = mWd.getD i 0) ∧ N ≤ 160 ∧ ∀ i, i ≤ N → tkT (A 53) z i = tX (T i) ∧ okT (T i)
/-- from here the reader does well -/
def yY (E : aR) (A : Nat → Nat → Int32) (R : Nat → Nat → Option Nat) (G : Nat → Nat × Nat) (n z : Nat) (w m : Int32) (S O : List Nat) (i : Nat) : Prop := ∀ B d3, yB A n B S O → B 48 20 = nI (tkQ (A 53) z i) → aw tX5_eRead E 14 [some (.ref 48), some (.int w), some (.int m), d3] [] (B, R, G)
def yK0 (E : aR) (A : Nat → Nat → Int32) (R : Nat → Nat → Option Nat) (G : Nat → Nat × Nat) (n z i : Nat) : Prop := ∀ B, yF A n B → B 48 21 = nI (tkPl (A 53) z i) → E (some (.int 0)) (B, R, G)
def yK1 (E : aR) (A : Nat → Nat → Int32) (R : Nat → Nat → Option Nat) (G : Nat → Nat × Nat) (n z : Nat) (O : List Nat) (i : Nat) : Prop := ∀ B, yB A n B [] O → B 48 20 = nI (tkQ (A 53) z i) → E (some (.int 1)) (B, R, G)
section YS
variable {E : aR} {A B C : Nat → Nat → Int32} {R : Nat → Nat → Option Nat} {G : Nat → Nat × Nat} {t : Nat → Int32} {z n N i : Nat} {T : Nat → Nat} {S O S' O' : List Nat} {w m : Int32}
theorem tkPl_Q : ∀ i, tkPl t z i = skipN t z (tkQ t z i)
  | 0 => rfl
  | _ + 1 => rfl
theorem tkQ_le : ∀ i, tkQ t z i ≤ z
  | 0 => Nat.zero_le _
  | i + 1 => (tkEnd_le (tkPl_le i)).2.1
theorem mtk_at : ∀ a, a < 27 → a < 6 → mtk (tX a) = 2 ∧ mvl (tX a) = wM (wdT a) := by decide +kernel
theorem tX_n {a : Nat} (h : 100 ≤ a) : tX a = nI (a - 100) := if_neg (by omega)
theorem mtk_an {a : Nat} (h : 100 ≤ a) (h2 : a < 10100) : mtk (tX a) = 1 ∧ 100000 + mvl (tX a) = wM (wdT a) := by
  rw [tX_n h, (mtk_num (v := a - 100) (by omega)).1, (mtk_num (v := a - 100) (by omega)).2]
  refine ⟨rfl, ?_⟩
  have e : wdT a = a - 85 := if_neg (by omega)
  rw [e, wM_n (by omega), show (100000 : Int32) = nI 100000 from rfl, nI_add, show a - 85 - 15 = a - 100 by omega]
theorem mtk_bad : ∀ a, a < 27 → (¬ a < 6 ∧ ¬ a = 12 ∧ ¬ a = 19) → ¬ mtk (tX a) = 1 ∧ ¬ mtk (tX a) = 2 ∧ ¬ mtk (tX a) = 45 ∧ ¬ mtk (tX a) = 40 ∧ (mtk (tX a) = 6 → a = 8) := by decide +kernel
theorem mtk_j : ∀ a, a < 14 → (a = 6 ∨ a = 7 ∨ 9 ≤ a) → ¬ mtk (tX a) = 59 ∧ ¬ mtk (tX a) = 41 ∧ sgM (mtk (tX a)) = nI (a + 5) ∧ ¬ nI (a + 5) = -1 ∧ (12 < nI (a + 5) ↔ ¬ a ≤ 7) ∧ rkM (nI (a + 5)) = nI (rk a) ∧ (nI (rk a) = 4 ↔ rk a = 4) ∧ 1 ≤ rk a ∧ rk a ≤ 7 ∧ hM a = nI (a + 5) := by decide +kernel
theorem mtk_end : ∀ a, a < 27 → ((a < 14 ∨ 18 < a) ∧ ¬ a = 20 ∧ ¬ a = 21 ∧ ¬ a = 6 ∧ ¬ a = 7 ∧ ¬ (9 ≤ a ∧ a ≤ 13)) → ¬ mtk (tX a) = 59 ∧ ¬ mtk (tX a) = 41 ∧ sgM (mtk (tX a)) = -1 := by decide +kernel
theorem yB.nx {p e : Nat} {tok val : Int32} (h : yB A n B S O) (hx : nxM B C p e tok val) : yB A n C S O := by
  obtain ⟨⟨f1, f2, f3⟩, h2, h3, h4, h5, h6⟩ := h
  obtain ⟨x1, x2, -⟩ := hx
  refine ⟨⟨fun o a b c => ?_, fun k a b c d => ?_, fun k hk => ?_⟩, ?_, ?_, ?_, ?_, ?_⟩
  · rw [x1 o a]; exact f1 o a b c
  · rw [x2 k a]; exact f2 k a b c d
  · rw [x1 54 (by decide)]; exact f3 k hk
  · rw [x1 54 (by decide)]; exact h2
  · rw [x2 28 (by omega)]; exact h3
  · rw [x1 63 (by decide)]; exact h4
  · rw [x2 26 (by omega)]; exact h5
  · rw [x2 27 (by omega)]; exact h6
theorem qX5_nextAt (hG : aGS G) (H : yH A n z T N) (hi : i ≤ N) (hB : yB A n B S O) (h20 : B 48 20 = nI (tkQ (A 53) z i)) : ∃ C, (yB A n C S O ∧ C 48 20 = nI (tkQ (A 53) z (i + 1)) ∧ C 48 21 = nI (tkPl (A 53) z i) ∧ C 48 22 = mtk (tX (T i)) ∧ ((mtk (tX (T i)) = 1 ∨ mtk (tX (T i)) = 2 ∨ mtk (tX (T i)) = 3) → C 48 23 = mvl (tX (T i)))) ∧ CX5_next [.ref 48] (B, R, G) none (C, R, G) := by
  obtain ⟨hn, hz, h8, h11, hw, hN, hT⟩ := H
  have e53 : B 53 = A 53 := hB.1.1 53 (by decide) (by decide) (by decide)
  have e62 : B 62 = A 62 := hB.1.1 62 (by decide) (by decide) (by decide)
  have e8 : B 48 8 = A 48 8 := hB.1.2.1 8 (by omega) (by decide) (by decide) (by decide)
  obtain ⟨C, hC, hc⟩ := qX5_next (A := B) (R := R) hG hz (by rw [e8]; exact h8) (tkQ_le (t := A 53) i) h20 (by rw [e62]; exact hw)
  have hy := hB.nx hC
  rw [e53, ← tkPl_Q] at hC
  obtain ⟨x1, x2, x3, x4, x5, x6⟩ := hC
  have ht : tkCode (A 53) z (tkPl (A 53) z i) = tX (T i) := (hT i hi).1
  rw [ht] at x5 x6
  exact ⟨C, ⟨hy, x3, x4, x5, x6⟩, hc⟩
theorem yY.nx (hG : aGS G) (H : yH A n z T N) (hi : i ≤ N) (h : ∀ C, yB A n C S O → C 48 20 = nI (tkQ (A 53) z (i + 1)) → C 48 21 = nI (tkPl (A 53) z i) → C 48 22 = mtk (tX (T i)) → ((mtk (tX (T i)) = 1 ∨ mtk (tX (T i)) = 2 ∨ mtk (tX (T i)) = 3) → C 48 23 = mvl (tX (T i))) → aw tX5_eRead E 18 [some (.ref 48), some (.int w), some (.int m), none] [] (C, R, G)) : yY E A R G n z w m S O i := by
  intro B d3 hB h20
  obtain ⟨C, ⟨c1, c2, c3, c4, c5⟩, hc⟩ := qX5_nextAt (R := R) hG H hi hB h20
  exact sX5_eRead_14 hG _ _ _ ⟨_, hc, h C c1 c2 c3 c4 c5⟩
theorem yB.A11 (H : yH A n z T N) (h : yB A n B S O) : B 48 11 = nI n := by rw [h.s11]; exact H.2.2.2.1
theorem qX5_holds (hG : aGS G) {h : Nat} (hh : B 48 26 = nI h) (hl : h < 200) (x : Int32) : CX5_holds [.ref 48, .int x] (B, R, G) none (au (au B 63 h x) 48 26 (nI (h + 1)), R, G) := by
  refine aC_of (Nat.le_of_ble_eq_true rfl) fun E hE => sX5_holds_0 hG _ ?_
  simp (disch := omega) only [hh, nI_clamp, aua, nI_1]
  exact ⟨vp_in_nI (by omega) (by omega), hE⟩
theorem qX5_opensOne (hG : aGS G) (h : yB A n B S O) (hl : S.length < 200) {s : Nat} (hs : s = 0 ∨ s = 8 ∨ s = 14) (ho : op S < 5) : ∃ C, (yB A n C (s :: S) O ∧ yK B C) ∧ CX5_opensOne [.ref 48, .int (hM s)] (B, R, G) (some (.int 1)) (C, R, G) := by
  have h27 := h.2.2.2.2.2
  have h26 := h.2.2.2.2.1
  have hop : op (s :: S) = op S + if s = 0 ∨ s = 8 ∨ s = 14 then 1 else 0 := rfl
  rw [if_pos hs] at hop
  refine ⟨au (au (au B 48 27 (nI (op S + 1))) 63 S.length (hM s)) 48 26 (nI (S.length + 1)), ⟨h.push (by unfold okS; omega) ?_ ?_ au_k ?_ ?_ ?_ ?_, ?_⟩, aC_of (Nat.le_of_ble_eq_true rfl) fun E hE => sX5_opensOne_0 hG _ (br_f ?_ ⟨_, ?_, sX5_opensOne_25 _ hE⟩)⟩
  · intro o a b; rw [au_o a, au_o b, au_o a]
  · intro k a b c; rw [au_j a, aua (by decide), au_j b]
  · rw [au_j (by decide), aua (by decide), au_k, hop]
  · rw [au_j (by decide), aua (by decide), au_j (by decide)]
  · rw [aua (by decide), au_k]
  · intro j hj; rw [aua (by decide), au_j (by omega), aua (by decide)]
  · intro k a b c; rw [au_j a, aua (by decide), au_j b]
  · rw [h27, show (5 : Int32) = nI 5 from rfl, nI_eq (by omega) (by omega)]; omega
  · rw [h27, nI_1]
    exact qX5_holds hG (by rw [au_j (by decide)]; exact h26) hl _
theorem qX5_opensNo (hG : aGS G) (h : yB A n B S O) (ho : op S = 5) (x : Int32) : CX5_opensOne [.ref 48, .int x] (B, R, G) (some (.int 0)) (B, R, G) := by
  have h27 := h.2.2.2.2.2
  rw [ho] at h27
  exact aC_of (Nat.le_of_ble_eq_true rfl) fun E hE => sX5_opensOne_0 hG _ (br_t h27 hE)
theorem yB.last {s : Nat} (h : yB A n B (s :: S) O) : B 48 26 = nI (S.length + 1) ∧ B 63 S.length = hM s ∧ s < 15 ∧ (s = 0 ∨ 6 ≤ s) := by
  refine ⟨h.2.2.2.2.1, h.2.2.2.1.2.1, ?_⟩
  rcases h.2.2.2.1.1 with q | q
  · exact ⟨by omega, Or.inl q⟩
  · exact ⟨by omega, Or.inr q.1⟩
theorem rk4 {s : Nat} (h : s < 15) (h2 : s = 0 ∨ 6 ≤ s) : rkM (hM s) = 4 ↔ rk s = 4 := by
  obtain ⟨r1, _, _, _, r5, _⟩ := rk_M s h h2
  rw [r1, show (4 : Int32) = nI 4 from rfl, nI_eq (by omega) (by omega)]
theorem qX5_between0 (hG : aGS G) (H : yH A n z T N) (h : yB A n B S O) (hl : S.length + O.length < 200) {a : Nat} (ha : a < 14 ∧ (a = 6 ∨ a = 7 ∨ 9 ≤ a)) (hU : uw (if rk a = 4 then 5 else rk a) S O = (S', O'))
    (K : ∀ C, yB A n C S' O' → yK B C → (rk a = 4 → ∀ s S1, S' = s :: S1 → ¬ rk s = 4) → ∃ D, CX5_holds [.ref 48, .int (nI (a + 5))] (C, R, G) none (D, R, G) ∧ E (some (.int 1)) (D, R, G))
    (K' : ∀ C, yB A n C S' O' → yK B C → (∃ s S1, S' = s :: S1 ∧ rk s = 4) → rk a = 4 → E (some (.int 0)) (C, R, G)) :
    aw tX5_between E 0 [some (.ref 48), some (.int (nI (a + 5)))] [] (B, R, G) := by
  obtain ⟨j1, j2, j3, j4, j5, j6, j7, j8, j9, j10⟩ := mtk_j a ha.1 ha.2
  have hn := H.1
  have fin : ∀ C, yB A n C S' O' → yK B C → aw tX5_between E 20 [some (.ref 48), some (.int (nI (a + 5)))] [] (C, R, G) := by
    intro C hC hK
    refine sX5_between_20 hG _ ?_
    rw [j6]
    refine br_i j7 (fun q4 => ?_) (fun q4 => ?_)
    · cases S' with
      | nil =>
        obtain ⟨D, d1, d2⟩ := K C hC hK (fun _ s S1 h => absurd h (by intro w; cases w))
        refine br_t ?_ ⟨_, d1, sX5_between_60 _ d2⟩
        rw [hC.2.2.2.2.1]
        exact nI_le (a := 0) (b := 0) (by omega) (by omega)
      | cons s S1 =>
        have hlen := uw_len (k := if rk a = 4 then 5 else rk a) S O
        rw [hU, List.length_cons] at hlen
        obtain ⟨l1, l2, l3, l4⟩ := hC.last
        refine br_f ?_ ?_
        · rw [l1]; exact nI_ge (a := 0) (by omega) (by omega)
        rw [l1, nI_p1, nI_clamp (by omega), l2]
        refine ⟨vp_in_nI (by omega) (by omega), br_i (rk4 l3 l4) (fun q => ?_) (fun q => ?_)⟩
        · exact K' C hC hK ⟨s, S1, rfl, q⟩ q4
        · obtain ⟨D, d1, d2⟩ := K C hC hK (fun _ s2 S2 h => by cases h; exact q)
          exact ⟨_, d1, sX5_between_60 _ d2⟩
    · obtain ⟨D, d1, d2⟩ := K C hC hK (fun h => absurd h q4)
      exact ⟨_, d1, sX5_between_60 _ d2⟩
  refine sX5_between_0 hG _ ?_
  rw [j6]
  refine br_i j7 (fun q4 => ?_) (fun q4 => ?_)
  · rw [if_pos q4] at hU
    obtain ⟨C, ⟨c1, c2⟩, c3⟩ := qX5_unwinds (R := R) hG hn (by exact H.2.2.2.1) (u := 5) (by omega) (by omega) h hl
    rw [hU] at c1
    exact ⟨_, c3, fin C c1 c2⟩
  · rw [if_neg q4] at hU
    obtain ⟨C, ⟨c1, c2⟩, c3⟩ := qX5_unwinds (R := R) hG hn (by exact H.2.2.2.1) (u := rk a) (by omega) (by omega) h hl
    rw [hU] at c1
    exact ⟨_, c3, fin C c1 c2⟩
theorem isJ_lt {a : Nat} (h : isJ a) : a < 14 ∧ (a = 6 ∨ a = 7 ∨ 9 ≤ a) := by unfold isJ at h; omega
theorem yY.atom (hG : aGS G) (H : yH A n z T N) (hi : i ≤ N) (hl : S.length + O.length ≤ i) (ha : isA (T i)) (h : yY E A R G n z 0 m (uw 7 S (O ++ [wdT (T i)])).1 (uw 7 S (O ++ [wdT (T i)])).2 (i + 1)) : yY E A R G n z 1 m S O i := by
  have hN := H.2.2.2.2.2.1
  have hO := (H.2.2.2.2.2.2 i hi).2
  have h11 := H.2.2.2.1
  refine yY.nx hG H hi fun C hC c20 c21 c22 c23 => ?_
  have fin : ∀ x, x = wM (wdT (T i)) → ∃ μ1, CX5_puts [.ref 48, .int x] (C, R, G) none μ1 ∧ aw tX5_eRead E 64 [some (.ref 48), some (.int 1), some (.int m), none] [] μ1 := by
    intro x hx
    obtain ⟨D, ⟨d1, d2, -⟩, d3⟩ := qX5_puts (R := R) hG H.1 h11 hC (by omega) hx
    obtain ⟨F, ⟨f1, f2⟩, f3⟩ := qX5_unwinds (R := R) hG H.1 h11 (u := 7) (by omega) (by omega) d1 (by rw [List.length_append, List.length_cons, List.length_nil]; omega)
    refine ⟨_, d3, sX5_eRead_64 hG _ _ _ ⟨_, f3, sX5_eRead_70 _ _ _ (h F _ f1 ?_)⟩⟩
    rw [f2 20 (by decide) (by decide) (by decide), d2 20 (by decide) (by decide) (by decide)]
    exact c20
  refine sX5_eRead_18 hG _ _ _ (br_f (by decide) ?_)
  rw [c22]
  by_cases h6 : T i < 6
  · obtain ⟨k1, k2⟩ := mtk_at (T i) (by omega) h6
    rw [k1] at c23 ⊢
    refine br_f (by decide) (br_t rfl ?_)
    rw [c23 (by decide)]
    exact fin _ k2
  · have h100 : 100 ≤ T i := by rcases ha with q | q <;> omega
    obtain ⟨k1, k2⟩ := mtk_an h100 (by unfold okT at hO; omega)
    rw [k1] at c23 ⊢
    refine br_t rfl ?_
    rw [c23 (by decide)]
    exact fin _ k2
theorem yY.opens (hG : aGS G) (H : yH A n z T N) (hi : i ≤ N) (hl : S.length + O.length ≤ i) {s : Nat} {m' : Int32} (ha : (T i = 8 ∧ ¬ m = 0 ∧ s = 8 ∧ m' = m) ∨ (T i = 12 ∧ s = 14 ∧ m' = 0) ∨ (T i = 19 ∧ s = 0 ∧ m' = 1)) (h5 : op S < 5 → yY E A R G n z 1 m' (s :: S) O (i + 1)) (h6 : op S = 5 → yK0 E A R G n z i) (ho : op S ≤ 5) : yY E A R G n z 1 m S O i := by
  have hN := H.2.2.2.2.2.1
  refine yY.nx hG H hi fun C hC c20 c21 c22 c23 => ?_
  have hs : s = 0 ∨ s = 8 ∨ s = 14 := by omega
  have key : ∃ v1 μ1, CX5_opensOne [.ref 48, .int (hM s)] (C, R, G) (some (.int v1)) μ1 ∧ (v1 = 0 → E (some (.int 0)) μ1) ∧ (¬ v1 = 0 → ∀ d3, aw tX5_eRead E 14 [some (.ref 48), some (.int 1), some (.int m'), d3] [] μ1) := by
    by_cases q : op S < 5
    · obtain ⟨D, ⟨d1, d2⟩, d3⟩ := qX5_opensOne (R := R) hG hC (by omega) hs q
      refine ⟨_, _, d3, fun w => absurd w (by decide), fun _ d => h5 q D d d1 ?_⟩
      rw [d2 20 (by decide) (by decide) (by decide)]
      exact c20
    · have q5 : op S = 5 := by omega
      exact ⟨_, _, qX5_opensNo (R := R) hG hC q5 _, fun _ => h6 q5 C hC.1 c21, fun w => absurd rfl w⟩
  obtain ⟨v1, μ1, k1, k2, k3⟩ := key
  refine sX5_eRead_18 hG _ _ _ (br_f (by decide) ?_)
  rw [c22]
  rcases ha with ⟨a, b, rfl, rfl⟩ | ⟨a, rfl, rfl⟩ | ⟨a, rfl, rfl⟩
  · rw [a]
    refine br_f (by decide) (br_f (by decide) (br_t (by decide) (br_f b ?_)))
    exact ⟨v1, μ1, k1, sX5_eRead_94 _ _ _ _ ⟨k2, fun w => k3 w _⟩⟩
  · rw [a]
    refine br_f (by decide) (br_f (by decide) (br_f (by decide) (br_t (by decide) ?_)))
    exact ⟨v1, μ1, k1, sX5_eRead_114 _ _ _ _ ⟨k2, fun w => k3 w _⟩⟩
  · rw [a]
    refine br_f (by decide) (br_f (by decide) (br_f (by decide) (br_f (by decide) (br_t (by decide) ?_))))
    exact ⟨v1, μ1, k1, sX5_eRead_138 _ _ _ _ ⟨k2, fun w => k3 w _⟩⟩
theorem yY.bad (hG : aGS G) (H : yH A n z T N) (hi : i ≤ N) (ha : ¬ isA (T i)) (h12 : ¬ T i = 12) (h19 : ¬ T i = 19) (h8 : T i = 8 → m = 0) (h : yK0 E A R G n z i) : yY E A R G n z 1 m S O i := by
  have hO := (H.2.2.2.2.2.2 i hi).2
  have h27 : T i < 27 ∧ ¬ T i < 6 := by unfold isA at ha; unfold okT at hO; omega
  obtain ⟨k1, k2, k3, k4, k5⟩ := mtk_bad (T i) h27.1 ⟨h27.2, h12, h19⟩
  refine yY.nx hG H hi fun C hC c20 c21 c22 c23 => ?_
  have hE := h C hC.1 c21
  refine sX5_eRead_18 hG _ _ _ (br_f (by decide) ?_)
  rw [c22]
  refine br_f k1 (br_f k2 ⟨fun q => br_t (h8 (k5 q)) (br_f k3 (br_f k4 hE)), fun q => br_f k3 (br_f k4 hE)⟩)
theorem yY.sign (hG : aGS G) (H : yH A n z T N) (hi : i ≤ N) (hl : S.length + O.length ≤ i) (ha : isJ (T i)) (hU : uw (if rk (T i) = 4 then 5 else rk (T i)) S O = (S', O')) (h1 : (rk (T i) = 4 → ∀ s S1, S' = s :: S1 → ¬ rk s = 4) → yY E A R G n z 1 (if T i ≤ 7 then 1 else 0) (T i :: S') O' (i + 1)) (h0 : (∃ s S1, S' = s :: S1 ∧ rk s = 4) → rk (T i) = 4 → yK0 E A R G n z i) : yY E A R G n z 0 m S O i := by
  have hN := H.2.2.2.2.2.1
  have hj := isJ_lt ha
  obtain ⟨j1, j2, j3, j4, j5, j6, j7, j8, j9, j10⟩ := mtk_j (T i) hj.1 hj.2
  have hlen := uw_len (k := if rk (T i) = 4 then 5 else rk (T i)) S O
  rw [hU] at hlen
  have hlen : S'.length + O'.length = S.length + O.length := hlen
  refine yY.nx hG H hi fun C hC c20 c21 c22 c23 => ?_
  have key : ∃ v1 μ1, CX5_between [.ref 48, .int (nI (T i + 5))] (C, R, G) (some (.int v1)) μ1 ∧ (v1 = 0 → E (some (.int 0)) μ1) ∧ (¬ v1 = 0 → ∀ d3, aw tX5_eRead E 14 [some (.ref 48), some (.int 1), some (.int (if T i ≤ 7 then 1 else 0)), d3] [] μ1) := by
    have hl2 : S.length + O.length < 200 := by omega
    by_cases q4 : (∃ s S1, S' = s :: S1 ∧ rk s = 4) ∧ rk (T i) = 4
    · obtain ⟨D, ⟨d1, d2⟩, d3⟩ : ∃ D, (yB A n D S' O' ∧ yK C D) ∧ CX5_between [.ref 48, .int (nI (T i + 5))] (C, R, G) (some (.int 0)) (D, R, G) := by
        refine aC_exA vX5_between (Nat.le_of_ble_eq_true rfl) fun E hE => qX5_between0 hG H hC hl2 hj hU (fun D _ _ hx => ?_) (fun D d1 d2 _ _ => hE D ⟨d1, d2⟩)
        obtain ⟨⟨s, S1, e1, e2⟩, e3⟩ := q4
        exact absurd e2 (hx e3 s S1 e1)
      refine ⟨_, _, d3, fun _ => h0 q4.1 q4.2 D d1.1 ?_, fun w => absurd rfl w⟩
      rw [d2 21 (by decide) (by decide) (by decide)]
      exact c21
    · have hc : rk (T i) = 4 → ∀ s S1, S' = s :: S1 → ¬ rk s = 4 := fun a s S1 b c => q4 ⟨⟨s, S1, b, c⟩, a⟩
      obtain ⟨D, ⟨d1, d2⟩, d3⟩ : ∃ D, (yB A n D (T i :: S') O' ∧ yK C D) ∧ CX5_between [.ref 48, .int (nI (T i + 5))] (C, R, G) (some (.int 1)) (D, R, G) := by
        refine aC_exA vX5_between (Nat.le_of_ble_eq_true rfl) fun E hE => qX5_between0 hG H hC hl2 hj hU (fun D d1 d2 _ => ⟨_, qX5_holds hG d1.2.2.2.2.1 (by omega) _, hE _ ⟨?_, ?_⟩⟩) (fun D d1 d2 x y => absurd ⟨x, y⟩ q4)
        · refine d1.push (by unfold okS; omega) ?_ ?_ au_k ?_ ?_ ?_ ?_
          · intro o a b; rw [au_o a, au_o b]
          · intro k a b c; rw [au_j a, aua (by decide)]
          · have hop : op (T i :: S') = op S' + if T i = 0 ∨ T i = 8 ∨ T i = 14 then 1 else 0 := rfl
            rw [au_j (by decide), aua (by decide), d1.2.2.2.2.2, hop, if_neg (by unfold isJ at ha; omega), Nat.add_zero]
          · rw [au_j (by decide), aua (by decide)]
          · rw [aua (by decide), au_k, j10]
          · intro j hj; rw [aua (by decide), au_j (by omega)]
        · intro k a b c
          rw [au_j a, aua (by decide)]
          exact d2 k a b c
      refine ⟨_, _, d3, fun w => absurd w (by decide), fun _ x3 => h1 hc D x3 d1 ?_⟩
      rw [d2 20 (by decide) (by decide) (by decide)]
      exact c20
  obtain ⟨v1, μ1, k1, k2, k3⟩ := key
  refine sX5_eRead_18 hG _ _ _ (br_t rfl ?_)
  rw [c22, j3]
  refine br_f j1 (br_f j2 (br_f j4 ⟨v1, μ1, k1, sX5_eRead_244 _ _ _ _ ⟨k2, fun w => ?_⟩⟩))
  have hk := k3 w
  refine br_i j5 (fun q => ?_) (fun q => ?_)
  · rw [if_neg q] at hk; exact hk _
  · rw [if_pos (Decidable.not_not.mp q)] at hk; exact hk _
theorem yY.close (hG : aGS G) (H : yH A n z T N) (hi : i ≤ N) (hl : S.length + O.length ≤ i) (ha : T i = 20) (hU : uw 1 S O = (0 :: S', O')) (h : yY E A R G n z 0 m (uw 7 S' O').1 (uw 7 S' O').2 (i + 1)) : yY E A R G n z 0 m S O i := by
  have hN := H.2.2.2.2.2.1
  have hlen := uw_len (k := 1) S O
  rw [hU] at hlen
  have hlen : S'.length + 1 + O'.length = S.length + O.length := hlen
  refine yY.nx hG H hi fun C hC c20 c21 c22 c23 => ?_
  obtain ⟨D, ⟨d1, d2⟩, d3⟩ := qX5_unwinds (R := R) hG H.1 H.2.2.2.1 (u := 1) (by omega) (by omega) hC (by omega)
  rw [hU] at d1
  have d1 : yB A n D (0 :: S') O' := d1
  have h26 : D 48 26 = nI (S'.length + 1) := d1.2.2.2.2.1
  have h27 : D 48 27 = nI (op S' + 1) := d1.2.2.2.2.2
  refine sX5_eRead_18 hG _ _ _ (br_t rfl ?_)
  rw [c22, ha]
  refine br_f (by decide) (br_t (by decide) ⟨_, d3, sX5_eRead_191 hG _ _ _ (br_f ?_ ?_)⟩)
  · rw [h26, show (0 : Int32) = nI 0 from rfl, nI_eq (by omega) (by omega)]; omega
  have e27 : (au D 48 26 (nI S'.length)) 48 27 = D 48 27 := au_j (by decide)
  rw [h26, nI_p1, e27, h27, nI_p1]
  have hy : yB A n (au (au D 48 26 (nI S'.length)) 48 27 (nI (op S'))) S' O' := by
    refine d1.pop ?_ ?_ ?_ au_k ?_
    · intro o a; rw [au_o a, au_o a]
    · intro k a b c; rw [au_j b, au_j a]
    · rw [au_j (by decide), au_k]
    · rw [au_j (by decide), au_j (by decide)]
  obtain ⟨F, ⟨f1, f2⟩, f3⟩ := qX5_unwinds (R := R) hG H.1 H.2.2.2.1 (u := 7) (by omega) (by omega) hy (by omega)
  refine ⟨_, f3, sX5_eRead_226 _ _ _ (h F _ f1 ?_)⟩
  rw [f2 20 (by decide) (by decide) (by decide), au_j (by decide), au_j (by decide), d2 20 (by decide) (by decide) (by decide)]
  exact c20
theorem yY.closeBad (hG : aGS G) (H : yH A n z T N) (hi : i ≤ N) (hl : S.length + O.length ≤ i) (ha : T i = 20) (hU : uw 1 S O = ([], O')) (h : yK0 E A R G n z i) : yY E A R G n z 0 m S O i := by
  have hN := H.2.2.2.2.2.1
  refine yY.nx hG H hi fun C hC c20 c21 c22 c23 => ?_
  obtain ⟨D, ⟨d1, d2⟩, d3⟩ := qX5_unwinds (R := R) hG H.1 H.2.2.2.1 (u := 1) (by omega) (by omega) hC (by omega)
  rw [hU] at d1
  have h26 : D 48 26 = nI 0 := d1.2.2.2.2.1
  refine sX5_eRead_18 hG _ _ _ (br_t rfl ?_)
  rw [c22, ha]
  refine br_f (by decide) (br_t (by decide) ⟨_, d3, sX5_eRead_191 hG _ _ _ (br_t h26 (h D d1.1 ?_))⟩)
  rw [d2 21 (by decide) (by decide) (by decide)]
  exact c21
theorem yY.semi (hG : aGS G) (H : yH A n z T N) (hi : i ≤ N) (hl : S.length + O.length ≤ i) (ha : T i = 21) (hU : uw 1 S O = ([], O')) (h : yK1 E A R G n z O' (i + 1)) : yY E A R G n z 0 m S O i := by
  have hN := H.2.2.2.2.2.1
  refine yY.nx hG H hi fun C hC c20 c21 c22 c23 => ?_
  obtain ⟨D, ⟨d1, d2⟩, d3⟩ := qX5_unwinds (R := R) hG H.1 H.2.2.2.1 (u := 1) (by omega) (by omega) hC (by omega)
  rw [hU] at d1
  have h26 : D 48 26 = nI 0 := d1.2.2.2.2.1
  refine sX5_eRead_18 hG _ _ _ (br_t rfl ?_)
  rw [c22, ha]
  refine br_t (by decide) ⟨_, d3, sX5_eRead_164 hG _ _ _ (br_t h26 (h D d1 ?_))⟩
  rw [d2 20 (by decide) (by decide) (by decide)]
  exact c20
theorem yY.semiBad (hG : aGS G) (H : yH A n z T N) (hi : i ≤ N) (hl : S.length + O.length ≤ i) (ha : T i = 21) {s : Nat} (hU : uw 1 S O = (s :: S', O')) (h : yK0 E A R G n z i) : yY E A R G n z 0 m S O i := by
  have hN := H.2.2.2.2.2.1
  have hlen := uw_len (k := 1) S O
  rw [hU] at hlen
  have hlen : S'.length + 1 + O'.length = S.length + O.length := hlen
  refine yY.nx hG H hi fun C hC c20 c21 c22 c23 => ?_
  obtain ⟨D, ⟨d1, d2⟩, d3⟩ := qX5_unwinds (R := R) hG H.1 H.2.2.2.1 (u := 1) (by omega) (by omega) hC (by omega)
  rw [hU] at d1
  have h26 : D 48 26 = nI (S'.length + 1) := d1.2.2.2.2.1
  refine sX5_eRead_18 hG _ _ _ (br_t rfl ?_)
  rw [c22, ha]
  refine br_t (by decide) ⟨_, d3, sX5_eRead_164 hG _ _ _ (br_f ?_ (h D d1.1 ?_))⟩
  · rw [h26, show (0 : Int32) = nI 0 from rfl, nI_eq (by omega) (by omega)]; omega
  rw [d2 21 (by decide) (by decide) (by decide)]
  exact c21
theorem yY.fin (hG : aGS G) (H : yH A n z T N) (hi : i ≤ N) (h20 : ¬ T i = 20) (h21 : ¬ T i = 21) (hj : ¬ isJ (T i)) (h : yK0 E A R G n z i) : yY E A R G n z 0 m S O i := by
  have hO := (H.2.2.2.2.2.2 i hi).2
  refine yY.nx hG H hi fun C hC c20 c21 c22 c23 => ?_
  have hE := h C hC.1 c21
  refine sX5_eRead_18 hG _ _ _ (br_t rfl ?_)
  rw [c22]
  have key : ¬ mtk (tX (T i)) = 59 ∧ ¬ mtk (tX (T i)) = 41 ∧ sgM (mtk (tX (T i))) = -1 := by
    by_cases q : T i < 27
    · exact mtk_end (T i) q ⟨by unfold okT at hO; omega, h20, h21, by unfold isJ at hj; omega, by unfold isJ at hj; omega, by unfold isJ at hj; omega⟩
    · rw [(mtk_an (a := T i) (by unfold okT at hO; omega) (by unfold okT at hO; omega)).1]
      decide
  exact br_f key.1 (br_f key.2.1 (br_t key.2.2 hE))
end YS
