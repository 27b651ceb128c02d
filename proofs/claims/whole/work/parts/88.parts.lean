/-! the levels, and the whole of a part -/
def pS (T : Nat → Nat) (N l o i i1 x : Nat) (C1 : List Nat) : Prop := ∀ (E : aR) (A : Nat → Nat → Int32) (R : Nat → Nat → Option Nat) (G : Nat → Nat × Nat) (n z : Nat), aGS G → yH A n z T N → ∀ m S O, pC T l o i m S O →
  ∃ m1 S1 O1, S1.length + O1.length ≤ i1 ∧ (∀ k, k ≤ (if x = 0 then lr (l + 1) else lr l) → uw k S1 O1 = uw k S (O ++ C1)) ∧ jnU (l + 1) (T i1) S1 O1 ∧ (l = 2 → ¬ x = 0 → top4 S1 O1) ∧ (yY E A R G n z 0 m1 S1 O1 i1 → yY E A R G n z 1 m S O i)
section PP2
variable {A B : Nat → Nat → Int32} {R : Nat → Nat → Option Nat} {G : Nat → Nat × Nat} {n z N i l o d : Nat} {T : Nat → Nat} {S O C C0 : List Nat} {w m : Int32}
theorem pS.ok {i1 x : Nat} {C1 : List Nat} (hl5 : l < 5) (hS : pS T N l o i i1 x C1) (hx : jnA l (T i1) → l = 2 ∧ ¬ x = 0) : pM T N l o i true i1 C1 := by
  intro E A R G n z hG2 hY m S O hp
  refine ⟨fun q => absurd q (by decide), fun _ => ?_⟩
  obtain ⟨m1, S1, O1, g1, g2, g3, g4, g5⟩ := hS E A R G n z hG2 hY m S O hp
  refine ⟨m1, S1, O1, g1, fun k hk => g2 k ?_, fun l' a b => ?_, g5⟩
  · have := (lr_le l hl5).1
    by_cases q : x = 0
    · rw [if_pos q]; omega
    · rw [if_neg q]; exact hk
  · by_cases q : l' = l
    · subst q
      obtain ⟨e1, e2⟩ := hx b
      exact ⟨e1, g4 e1 e2⟩
    · exact g3 l' (by omega) b
theorem pLoop (hG : aGS G) (H : xH A T N) (hl5 : l < 5) (ho : o ≤ 5) (ihU : pLv T N A R G (l + 1) o) {e : Nat} (he : 7 * (5 - o) + 8 ≤ e + (l + 1)) : ∀ (f i1 : Nat) (B1 : Nat → Nat → Int32) (C1 : List Nat) (x : Nat) (d5 : Option Value), N - i1 < f → i < i1 → i1 ≤ N → xB A B1 (C0 ++ C1) i1 → C0.length ≤ i → C1.length ≤ i1 - i → x + 1 ≤ i1 - i → (l = 2 → x ≤ 1) → pW l o true C1 → pS T N l o i i1 x C1 →
    ∃ (ok : Bool) (i' : Nat) (C : List Nat) (B' : Nat → Nat → Int32), (∀ E : aR, E (some (.int (if ok then 1 else 0))) (B', R, G) → aw (tX1_readLevel (gR e).1 (gR e).2.1 (gR e).2.2) E 63 [some (.ref 31), some (.int (nI l)), some (.int (nI o)), some (.int (nI (if l = 2 then 1 else 160))), some (.int (nI x)), d5] [] (B1, R, G)) ∧ i ≤ i' ∧ (ok = true → i < i') ∧ i' ≤ N ∧ xB A B' (C0 ++ C) i' ∧ C.length ≤ i' - i ∧ pW l o ok C ∧ pM T N l o i ok i' C
  | 0, i1, B1, C1, x, d5, hf, h1, h2, h3, h4, h5, h6, h7, h8, h9 => absurd hf (by omega)
  | f + 1, i1, B1, C1, x, d5, hf, h1, h2, h3, h4, h5, h6, h7, h8, h9 => by
    have hN := H.1
    obtain ⟨tk, ta⟩ := h3.tk H h2
    have hOT := (H.2.1 i1 h2).2
    have hmost : (if l = 2 then 1 else 160) ≤ 160 := by split <;> omega
    by_cases q : (if l = 2 then 1 else 160) ≤ x
    · have hl2 : l = 2 ∧ ¬ x = 0 := by
        by_cases q2 : l = 2
        · rw [if_pos q2] at q; omega
        · rw [if_neg q2] at q; omega
      exact ⟨true, i1, C1, B1, fun E hE => sX1_readLevel_63 hG _ _ _ _ _ (br_t (nI_le q (by omega)) hE), by omega, fun _ => h1, h2, h3, h5, h8, h9.ok hl5 (fun _ => hl2)⟩
    have hge : ¬ nI (if l = 2 then 1 else 160) ≤ nI x := nI_ge (by omega) (by omega)
    by_cases hj : jnA l (T i1)
    case neg =>
      exact ⟨true, i1, C1, B1, fun E hE => sX1_readLevel_63 hG _ _ _ _ _ (br_f hge ⟨ta, gt31 hG, br_f (by rw [tk, jnX_j hl5 hOT]; exact hj) hE⟩), by omega, fun _ => h1, h2, h3, h5, h8, h9.ok hl5 (fun w => absurd w hj)⟩
    obtain ⟨j1, j2, j3, j4, j5, j6, j7, j8, j9⟩ := jf hj
    have hJ := (jnA_lt hj).2.2
    have hlt : i1 < N := H.2.2 i1 h2 (by have := (jnA_lt hj).2.1; omega) (by have := (jnA_lt hj).2.1; omega)
    obtain ⟨ok, i2, C2, B3, hc, k1, k2, k3, k4, k5, k6, k7⟩ := ihU (i1 + 1) (by omega) _ _ (h3.at (j := i1 + 1)) (by rw [List.length_append]; omega) e he
    have hc' : (gR e).1 [.ref 31, .int (nI l + 1), .int (nI o)] (au B1 31 6 (B1 31 6 + 1), R, G) (some (.int (if ok then 1 else 0))) (B3, R, G) := by
      rw [h3.2.2.1, nI_1, nI_1]; exact hc
    have hjx : jnX (nI l) (tkX B1) := by rw [tk, jnX_j hl5 hOT]; exact hj
    -- the model, behind the sign
    have hm : ∀ (E : aR) (A : Nat → Nat → Int32) (R : Nat → Nat → Option Nat) (G : Nat → Nat × Nat) (n z : Nat), aGS G → yH A n z T N → ∀ m S O, pC T l o i m S O → ∃ m2, pC T (l + 1) o (i1 + 1) m2 (T i1 :: S) (O ++ C1) ∧ (yY E A R G n z 1 m2 (T i1 :: S) (O ++ C1) (i1 + 1) → yY E A R G n z 1 m S O i) := by
      intro E A R G n z hG2 hY m S O hp
      obtain ⟨m1, S1, O1, g1, g2, g3, g4, g5⟩ := h9 E A R G n z hG2 hY m S O hp
      refine ⟨if T i1 ≤ 7 then 1 else 0, ⟨fun a => ?_, fun a _ => ?_, fun s S' a => ?_, ?_, ?_⟩, fun hy => g5 (yY.sign hG2 hY h2 g1 hJ (S' := S) (O' := O ++ C1) ?_ (fun _ => hy) ?_)⟩
      · rw [if_pos (j7.mpr (by omega))]; decide
      · rw [if_neg (fun w => by have := j7.mp w; omega)]
      · cases a; exact j4
      · have : op (T i1 :: S) = op S + if T i1 = 0 ∨ T i1 = 8 ∨ T i1 = 14 then 1 else 0 := rfl
        rw [this, if_neg (by unfold isJ at hJ; omega), Nat.add_zero]
        exact hp.2.2.2.1
      · rw [List.length_cons, List.length_append]
        have := hp.2.2.2.2
        omega
      · rw [g2 _ ?_, tpS_up hp.2.2.1 j3]
        by_cases x0 : x = 0
        · rw [if_pos x0]; exact j2
        · rw [if_neg x0]
          refine j8 (fun w => ?_)
          rw [if_pos w] at q
          omega
      · rintro ⟨s, S', es, e4⟩ e5
        have := hp.2.2.1 s S' es
        rw [j5 e5] at this
        have e3 : tl 2 = 3 := rfl
        omega
    cases ok with
    | false =>
      refine ⟨false, i2, C1 ++ C2, B3, fun E hE => sX1_readLevel_63 hG _ _ _ _ _ (br_f hge ⟨ta, gt31 hG, br_t hjx ⟨_, _, hc', sX1_readLevel_104 _ _ _ _ _ _ (br_t rfl hE)⟩⟩), by omega, fun w => absurd w (by decide), k3, ?_, ?_, fun w => absurd w (by decide), ?_⟩
      · rw [← List.append_assoc]; exact k4
      · rw [List.length_append]; omega
      · intro E A R G n z hG2 hY m S O hp
        refine ⟨fun _ hk => ?_, fun w => absurd w (by decide)⟩
        obtain ⟨m2, p1, p2⟩ := hm E A R G n z hG2 hY m S O hp
        exact p2 ((k7 E A R G n z hG2 hY m2 _ _ p1).1 rfl hk)
    | true =>
      have hl4 : (C0 ++ C1 ++ C2).length < 160 := by rw [List.length_append, List.length_append]; omega
      have hx := k4.add (w := T i1) (v := tkX B1) (by rw [tk]; exact j9)
      rw [show C0 ++ C1 ++ C2 ++ [T i1] = C0 ++ (C1 ++ (C2 ++ [T i1])) by rw [List.append_assoc, List.append_assoc]] at hx
      have hk2 := k2 rfl
      have hW : pW l o true (C1 ++ (C2 ++ [T i1])) := by
        intro _ d ws hok hb
        rw [List.append_assoc, List.append_assoc]
        exact h8 rfl d _ (k6 rfl (d + 1) _ (okW_bin hJ hok) (by omega)) hb
      have hSS : pS T N l o i i2 (x + 1) (C1 ++ (C2 ++ [T i1])) := by
        intro E A R G n z hG2 hY m S O hp
        obtain ⟨m2, p1, p2⟩ := hm E A R G n z hG2 hY m S O hp
        obtain ⟨m3, S3, O3, g1, g2, g3, g4⟩ := (k7 E A R G n z hG2 hY m2 _ _ p1).2 rfl
        refine ⟨m3, S3, O3, g1, fun k hk => ?_, g3, fun w _ => ?_, fun hy => p2 (g4 hy)⟩
        · rw [if_neg (by omega)] at hk
          have := (lr_le l hl5).1
          rw [g2 k (by omega), uw_s, if_pos (by omega), List.append_assoc, List.append_assoc]
        · have h4' := j6 w
          refine ⟨T i1, S, ?_, h4'⟩
          rw [g2 5 (by rw [w]; decide), uw_s, if_neg (by omega)]
      obtain ⟨ok, i', C, B', r1, r2⟩ := pLoop hG H hl5 ho ihU he f i2 _ (C1 ++ (C2 ++ [T i1])) (x + 1) (some (.int (tkX B1))) (by omega) (by omega) k3 hx h4 (by simp only [List.length_append, List.length_cons, List.length_nil]; omega) (by omega) (fun w => by
          rw [if_pos w] at q; omega) hW hSS
      refine ⟨ok, i', C, B', fun E hE => sX1_readLevel_63 hG _ _ _ _ _ (br_f hge ⟨ta, gt31 hG, br_t hjx ⟨_, _, hc', sX1_readLevel_104 _ _ _ _ _ _ (br_f (by decide) ⟨gt31 hG, _, qX1_add hG k4 hl4 _, sX1_readLevel_115 _ _ _ _ _ ?_⟩)⟩⟩), r2⟩
      rw [nI_1]
      exact r1 E hE
theorem pStep (hG : aGS G) (H : xH A T N) (hl5 : l < 5) (ho : o ≤ 5) (ihU : pLv T N A R G (l + 1) o) (ihN : l = 2 → o < 5 → pLv T N A R G 2 (o + 1)) : pLv T N A R G l o := by
  intro i hi B C0 hB hl d hd
  obtain ⟨e, rfl⟩ : ∃ e, d = e + 1 := ⟨d - 1, by omega⟩
  obtain ⟨tk, ta⟩ := hB.tk H hi
  have hOT := (H.2.1 i hi).2
  have e9 : (-9 : Int32) = tX 8 := by decide
  have hlt5 : nI l < 5 := nI_lt (b := 5) hl5 (by omega)
  have e2 : (nI l = 2) ↔ l = 2 := nI_eq (b := 2) (by omega) (by omega)
  by_cases q : l = 2 ∧ T i = 8
  · obtain ⟨q1, q2⟩ := q
    subst q1
    obtain ⟨ok, i', C, B', hc, hr⟩ := pPre (d := e) (w := 8) (l := 2) hG H (Or.inr ⟨rfl, rfl, q2⟩) ho (ihN rfl) hi hB hl (by omega) (by omega)
    exact ⟨ok, i', C, B', aC_of (Nat.le_of_ble_eq_true rfl) fun E hE => sX1_readLevel_0 hG _ _ (br_t hlt5 (br_t rfl ⟨ta, gt31 hG, br_t (by rw [tk, q2, e9]) ⟨_, _, hc, sX1_readLevel_33 _ _ _ _ _ _ _ ⟨bok ok, hE⟩⟩⟩)), hr⟩
  obtain ⟨ok, i1, C1, B1, hc, k1, k2, k3, k4, k5, k6, k7⟩ := ihU i hi B C0 hB hl e (by omega)
  have hc' : (gR e).1 [.ref 31, .int (nI l + 1), .int (nI o)] (B, R, G) (some (.int (if ok then 1 else 0))) (B1, R, G) := by rw [nI_1]; exact hc
  have ent : ∀ E : aR, aw (tX1_readLevel (gR e).1 (gR e).2.1 (gR e).2.2) E 42 [some (.ref 31), some (.int (nI l)), some (.int (nI o)), none, none, none] [.int (if ok then 1 else 0)] (B1, R, G) → aw (tX1_readLevel (gR e).1 (gR e).2.1 (gR e).2.2) E 0 [some (.ref 31), some (.int (nI l)), some (.int (nI o)), none, none, none] [] (B, R, G) := by
    intro E h
    refine sX1_readLevel_0 hG _ _ (br_t hlt5 (br_i e2 (fun w => ⟨ta, gt31 hG, br_f ?_ ⟨_, _, hc', h⟩⟩) (fun w => ⟨_, _, hc', h⟩)))
    rw [tk, e9, tX_q hOT (by omega)]
    exact fun w2 => q ⟨w, w2⟩
  have hpc : ∀ {m S O}, pC T l o i m S O → pC T (l + 1) o i m S O := by
    intro m S O hp
    refine ⟨fun a => hp.1 (by omega), fun a b => ?_, fun s S' a => ?_, hp.2.2.2.1, hp.2.2.2.2⟩
    · by_cases w : l = 2
      · exact absurd ⟨w, b⟩ q
      · exact hp.2.1 (by omega) b
    · have := hp.2.2.1 s S' a
      have := (lr_le l hl5).2.1
      omega
  cases ok with
  | false =>
    refine ⟨false, i1, C1, B1, aC_of (Nat.le_of_ble_eq_true rfl) fun E hE => ent E (sX1_readLevel_42 _ _ _ _ _ _ (br_t rfl hE)), k1, fun w => absurd w (by decide), k3, k4, k5, fun w => absurd w (by decide), ?_⟩
    intro E A R G n z hG2 hY m S O hp
    exact ⟨fun _ hk => (k7 E A R G n z hG2 hY m S O (hpc hp)).1 rfl hk, fun w => absurd w (by decide)⟩
  | true =>
    have hk2 := k2 rfl
    obtain ⟨ok, i', C, B', r1, r2⟩ := pLoop hG H hl5 ho ihU (e := e) (by omega) (N - i1 + 1) i1 B1 C1 0 none (by omega) hk2 k3 k4 hl k5 (by omega) (fun _ => by omega) (fun _ d ws hok hb => k6 rfl d ws hok (by omega)) (fun E A R G n z hG2 hY m S O hp => by
        obtain ⟨m1, S1, O1, g1, g2, g3, g4⟩ := (k7 E A R G n z hG2 hY m S O (hpc hp)).2 rfl
        exact ⟨m1, S1, O1, g1, fun k hk => g2 k (by rw [if_pos rfl] at hk; exact hk), g3, fun _ w => absurd rfl w, g4⟩)
    refine ⟨ok, i', C, B', aC_of (Nat.le_of_ble_eq_true rfl) fun E hE => ent E (sX1_readLevel_42 _ _ _ _ _ _ (br_f (by decide) (br_i e2 (fun w => ?_) (fun w => ?_)))), r2⟩
    · have := r1 E hE
      rw [if_pos w] at this
      exact this
    · have := r1 E hE
      rw [if_neg w] at this
      exact this
theorem pAll (hG : aGS G) (H : xH A T N) : ∀ (q l o : Nat), l ≤ 5 → o ≤ 5 → 6 * (5 - o) + (5 - l) < q → pLv T N A R G l o
  | 0, l, o, hl, ho, hq => absurd hq (by omega)
  | q + 1, l, o, hl, ho, hq => by
    by_cases h5 : l = 5
    · subst h5
      intro i hi B C0 hB hl d hd
      obtain ⟨e, rfl⟩ : ∃ e, d = e + 1 := ⟨d - 1, by omega⟩
      obtain ⟨ok, i', C, B', hc, hr⟩ := pOne (d := e) hG H ho (fun w => pAll hG H q 5 (o + 1) (by omega) (by omega) (by omega)) (fun w => pAll hG H q 0 (o + 1) (by omega) (by omega) (by omega)) hi hB hl (by omega)
      exact ⟨ok, i', C, B', aC_of (Nat.le_of_ble_eq_true rfl) fun E hE => sX1_readLevel_0 hG _ _ (br_f (by decide) ⟨_, _, hc, sX1_readLevel_10 _ _ _ _ _ _ _ ⟨bok ok, hE⟩⟩), hr⟩
    · exact pStep hG H (by omega) ho (pAll hG H q (l + 1) o (by omega) ho (by omega)) (fun w1 w2 => pAll hG H q 2 (o + 1) (by omega) (by omega) (by omega))
end PP2
