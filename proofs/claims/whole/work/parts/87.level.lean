/-! the reader of a part, level by level -/
section PL
variable {E : aR} {A B : Nat → Nat → Int32} {R : Nat → Nat → Option Nat} {G : Nat → Nat × Nat} {n z N i l o d : Nat} {T : Nat → Nat} {S O C C0 : List Nat} {w m : Int32}
theorem bok (ok : Bool) : (if ok then (1 : Int32) else 0) = 0 ∨ (if ok then (1 : Int32) else 0) = 1 := by cases ok <;> decide
theorem yY.stop {A : Nat → Nat → Int32} (hG : aGS G) (H : yH A n z T N) (hi : i ≤ N) (hl : S.length + O.length ≤ i) (hU : jnU 0 (T i) S O) (h20 : ¬ T i = 20) (h21 : ¬ T i = 21) (h : yK0 E A R G n z i) : yY E A R G n z 0 m S O i := by
  by_cases hj : isJ (T i)
  · obtain ⟨l', hl'⟩ : ∃ l', jnA l' (T i) := by
      unfold isJ at hj
      by_cases q0 : T i = 6
      · exact ⟨0, by unfold jnA; omega⟩
      by_cases q1 : T i = 7
      · exact ⟨1, by unfold jnA; omega⟩
      by_cases q2 : T i ≤ 10
      · exact ⟨2, by unfold jnA; omega⟩
      by_cases q3 : T i ≤ 12
      · exact ⟨3, by unfold jnA; omega⟩
      · exact ⟨4, by unfold jnA; omega⟩
    obtain ⟨e2, s, S', ht, h4⟩ := hU l' (Nat.zero_le _) hl'
    subst e2
    have hr : rk (T i) = 4 := (jf hl').2.2.2.2.2.1 rfl
    refine yY.sign (S' := s :: S') (O' := (uw 5 S O).2) hG H hi hl hj ?_ (fun x => absurd h4 (x hr s S' rfl)) (fun _ _ => h)
    rw [if_pos hr, ← ht]
  · exact yY.fin hG H hi h20 h21 hj h
theorem pPre (hG : aGS G) (H : xH A T N) {w : Nat} (hw : (w = 14 ∧ l = 5 ∧ T i = 12) ∨ (w = 8 ∧ l = 2 ∧ T i = 8)) (ho : o ≤ 5) (ih : o < 5 → pLv T N A R G l (o + 1)) (hi : i ≤ N) (hB : xB A B C0 i) (hl : C0.length ≤ i) (hd : 7 * (5 - o) + 2 ≤ d + l) (hd1 : 1 ≤ d) : pRes T N A R G (gR d).2.2 [.ref 31, .int (wX w), .int (nI l), .int (nI o)] l o i B C0 := by
  obtain ⟨e, rfl⟩ : ∃ e, d = e + 1 := ⟨d - 1, by omega⟩
  have hN := H.1
  have hm : ∀ m : Int32, (l ≤ 2 → ¬ m = 0) → ∃ m', ((T i = 8 ∧ ¬ m = 0 ∧ w = 8 ∧ m' = m) ∨ (T i = 12 ∧ w = 14 ∧ m' = 0) ∨ (T i = 19 ∧ w = 0 ∧ m' = 1)) ∧ (l ≤ 2 → ¬ m' = 0) ∧ (3 ≤ l → m' = 0) := by
    intro m h
    rcases hw with ⟨a, b, c⟩ | ⟨a, b, c⟩
    · exact ⟨0, Or.inr (Or.inl ⟨c, a, rfl⟩), fun q => by omega, fun _ => rfl⟩
    · exact ⟨m, Or.inl ⟨c, h (by omega), a, rfl⟩, h, fun q => by omega⟩
  by_cases q : o < 5
  case neg =>
    have o5 : o = 5 := by omega
    refine ⟨false, i, [], B, aC_of (Nat.le_of_ble_eq_true rfl) fun E hE => sX1_readPrefixed_0 _ _ _ (br_f (by rw [o5]; decide) hE), Nat.le_refl _, fun q => absurd q (by decide), hi, ?_, Nat.zero_le _, fun q => absurd q (by decide), ?_⟩
    · rw [List.append_nil]; exact hB
    · intro E A R G n z hG2 hY m S O hc
      refine ⟨fun _ hk => ?_, fun q => absurd q (by decide)⟩
      obtain ⟨m', f1, f2, f3⟩ := hm m hc.1
      exact yY.opens hG2 hY hi hc.2.2.2.2 f1 (fun x => by have := hc.2.2.2.1; omega) (fun _ => hk) (by have := hc.2.2.2.1; omega)
  have hlt : i < N := H.2.2 i hi (by omega) (by omega)
  obtain ⟨ok, i', C, B', hc, h1, h2, h3, h4, h5, h6, h7⟩ := ih q (i + 1) (by omega) _ C0 (hB.at (j := i + 1)) (by omega) e (by omega)
  have hc' : (gR e).1 [.ref 31, .int (nI l), .int (nI o + 1)] (au B 31 6 (B 31 6 + 1), R, G) (some (.int (if ok then 1 else 0))) (B', R, G) := by
    rw [hB.2.2.1, nI_1, nI_1]; exact hc
  have hop : ∀ S, op (w :: S) = op S + 1 := fun S => by
    have : op (w :: S) = op S + if w = 0 ∨ w = 8 ∨ w = 14 then 1 else 0 := rfl
    rw [this, if_pos (by omega)]
  have hrk : rk w = tl l ∧ lr l ≤ rk w := by
    rcases hw with ⟨a, b, c⟩ | ⟨a, b, c⟩
    · rw [a, b]; decide
    · rw [a, b]; decide
  have hcc : ∀ m m' S O, pC T l o i m S O → (l ≤ 2 → ¬ m' = 0) → (3 ≤ l → m' = 0) → pC T l (o + 1) (i + 1) m' (w :: S) O := by
    intro m m' S O hp a b
    refine ⟨a, fun x _ => b x, fun s S' x => ?_, by rw [hop, hp.2.2.2.1], by rw [List.length_cons]; have := hp.2.2.2.2; omega⟩
    cases x
    omega
  cases ok with
  | false =>
    refine ⟨false, i', C, B', aC_of (Nat.le_of_ble_eq_true rfl) fun E hE => sX1_readPrefixed_0 _ _ _ (br_t (nI_lt (a := o) (b := 5) q (by omega)) ⟨gt31 hG, _, _, hc', sX1_readPrefixed_25 _ _ _ _ (br_t rfl hE)⟩), by omega, fun q => absurd q (by decide), h3, h4, by omega, fun q => absurd q (by decide), ?_⟩
    intro E A R G n z hG2 hY m S O hp
    refine ⟨fun _ hk => ?_, fun q => absurd q (by decide)⟩
    obtain ⟨m', f1, f2, f3⟩ := hm m hp.1
    exact yY.opens hG2 hY hi hp.2.2.2.2 f1 (fun _ => (h7 E A R G n z hG2 hY m' (w :: S) O (hcc m m' S O hp f2 f3)).1 rfl hk) (fun x => by have := hp.2.2.2.1; omega) (by have := hp.2.2.2.1; omega)
  | true =>
    have hl3 : (C0 ++ C).length ≤ i' := by rw [List.length_append]; omega
    have hl4 : (C0 ++ C).length < 160 := by rw [List.length_append]; omega
    refine ⟨true, i', C ++ [w], _, aC_of (Nat.le_of_ble_eq_true rfl) fun E hE => sX1_readPrefixed_0 _ _ _ (br_t (nI_lt (a := o) (b := 5) q (by omega)) ⟨gt31 hG, _, _, hc', sX1_readPrefixed_25 _ _ _ _ (br_f (by decide) ⟨gt31 hG, _, qX1_add hG h4 hl4 _, sX1_readPrefixed_35 _ _ _ _ hE⟩)⟩), by omega, fun _ => by omega, h3, ?_, ?_, ?_, ?_⟩
    · rw [← List.append_assoc]; exact h4.add rfl
    · rw [List.length_append, List.length_cons, List.length_nil]; omega
    · intro _ d ws hok hb
      rw [List.append_assoc]
      exact h6 rfl d _ (okW_un (by omega) hok) (by omega)
    · intro E A R G n z hG2 hY m S O hp
      refine ⟨fun q => absurd q (by decide), fun _ => ?_⟩
      obtain ⟨m', f1, f2, f3⟩ := hm m hp.1
      obtain ⟨m1, S1, O1, g1, g2, g3, g4⟩ := (h7 E A R G n z hG2 hY m' (w :: S) O (hcc m m' S O hp f2 f3)).2 rfl
      refine ⟨m1, S1, O1, g1, fun k hk => ?_, g3, fun hy => yY.opens hG2 hY hi hp.2.2.2.2 f1 (fun _ => g4 hy) (fun x => by have := hp.2.2.2.1; omega) (by have := hp.2.2.2.1; omega)⟩
      rw [g2 k hk, uw_s, if_pos (by omega), List.append_assoc]
theorem pOne (hG : aGS G) (H : xH A T N) (ho : o ≤ 5) (ih5 : o < 5 → pLv T N A R G 5 (o + 1)) (ih0 : o < 5 → pLv T N A R G 0 (o + 1)) (hi : i ≤ N) (hB : xB A B C0 i) (hl : C0.length ≤ i) (hd : 7 * (5 - o) + 2 ≤ d) : pRes T N A R G (gR d).2.1 [.ref 31, .int (nI o)] 5 o i B C0 := by
  obtain ⟨e, rfl⟩ : ∃ e, d = e + 1 := ⟨d - 1, by omega⟩
  have hN := H.1
  obtain ⟨tk, ta⟩ := hB.tk H hi
  have hOT := (H.2.1 i hi).2
  have e13 : (-13 : Int32) = tX 12 := by decide
  have e20 : (-20 : Int32) = tX 19 := by decide
  have e21 : (-21 : Int32) = tX 20 := by decide
  by_cases q12 : T i = 12
  · obtain ⟨ok, i', C, B', hc, hr⟩ := pPre (d := e) (w := 14) (l := 5) hG H (Or.inl ⟨rfl, rfl, q12⟩) ho ih5 hi hB hl (by omega) (by omega)
    refine ⟨ok, i', C, B', aC_of (Nat.le_of_ble_eq_true rfl) fun E hE => sX1_readOne_0 hG _ ⟨ta, gt31 hG, br_t (by rw [tk, q12, e13]) ⟨_, _, hc, sX1_readOne_19 _ _ _ _ ⟨bok ok, hE⟩⟩⟩, hr⟩
  by_cases q19 : T i = 19
  · have n12 : ¬ tkX B = -13 := by rw [tk, e13, tX_q hOT (by omega)]; omega
    by_cases q : o < 5
    case neg =>
      have o5 : o = 5 := by omega
      refine ⟨false, i, [], B, aC_of (Nat.le_of_ble_eq_true rfl) fun E hE => sX1_readOne_0 hG _ ⟨ta, gt31 hG, br_f n12 (br_t (by rw [tk, q19, e20]) (br_f (by rw [o5]; decide) hE))⟩, Nat.le_refl _, fun q => absurd q (by decide), hi, ?_, Nat.zero_le _, fun q => absurd q (by decide), ?_⟩
      · rw [List.append_nil]; exact hB
      · intro E A R G n z hG2 hY m S O hc
        exact ⟨fun _ hk => yY.opens (s := 0) (m' := 1) hG2 hY hi hc.2.2.2.2 (Or.inr (Or.inr ⟨q19, rfl, rfl⟩)) (fun x => by have := hc.2.2.2.1; omega) (fun _ => hk) (by have := hc.2.2.2.1; omega), fun q => absurd q (by decide)⟩
    have hlt : i < N := H.2.2 i hi (by omega) (by omega)
    obtain ⟨ok, i', C, B', hc, h1, h2, h3, h4, h5, h6, h7⟩ := ih0 q (i + 1) (by omega) _ C0 (hB.at (j := i + 1)) (by omega) e (by omega)
    have hc' : (gR e).1 [.ref 31, .int 0, .int (nI o + 1)] (au B 31 6 (B 31 6 + 1), R, G) (some (.int (if ok then 1 else 0))) (B', R, G) := by
      rw [hB.2.2.1, nI_1, nI_1]; exact hc
    have hcc : ∀ m S O, pC T 5 o i m S O → pC T 0 (o + 1) (i + 1) 1 (0 :: S) O := by
      intro m S O hp
      refine ⟨fun _ => by decide, fun x => absurd x (by omega), fun s S' x => ?_, ?_, by rw [List.length_cons]; have := hp.2.2.2.2; omega⟩
      · cases x; decide
      · have : op (0 :: S) = op S + if (0 : Nat) = 0 ∨ (0 : Nat) = 8 ∨ (0 : Nat) = 14 then 1 else 0 := rfl
        rw [this, if_pos (by omega), hp.2.2.2.1]
    have hop : ∀ {E A R G n z}, aGS G → yH A n z T N → ∀ m S O, pC T 5 o i m S O → yY E A R G n z 1 1 (0 :: S) O (i + 1) → yY E A R G n z 1 m S O i := fun hG2 hY m S O hp hy => yY.opens (s := 0) (m' := 1) hG2 hY hi hp.2.2.2.2 (Or.inr (Or.inr ⟨q19, rfl, rfl⟩)) (fun _ => hy) (fun x => by have := hp.2.2.2.1; omega) (by have := hp.2.2.2.1; omega)
    cases ok with
    | false =>
      refine ⟨false, i', C, B', aC_of (Nat.le_of_ble_eq_true rfl) fun E hE => sX1_readOne_0 hG _ ⟨ta, gt31 hG, br_f n12 (br_t (by rw [tk, q19, e20]) (br_t (nI_lt (a := o) (b := 5) q (by omega)) ⟨_, _, hc', sX1_readOne_51 _ _ _ (br_t rfl hE)⟩))⟩, by omega, fun q => absurd q (by decide), h3, h4, by omega, fun q => absurd q (by decide), ?_⟩
      intro E A R G n z hG2 hY m S O hp
      exact ⟨fun _ hk => hop hG2 hY m S O hp ((h7 E A R G n z hG2 hY 1 (0 :: S) O (hcc m S O hp)).1 rfl hk), fun q => absurd q (by decide)⟩
    | true =>
      have hm : ∀ (E : aR) (A : Nat → Nat → Int32) (R : Nat → Nat → Option Nat) (G : Nat → Nat × Nat) (n z : Nat), aGS G → yH A n z T N → ∀ m S O, pC T 5 o i m S O → ∃ m1 S1 O1, S1.length + O1.length ≤ i' ∧ uw 1 S1 O1 = (0 :: S, O ++ C) ∧ jnU 0 (T i') S1 O1 ∧ (yY E A R G n z 0 m1 S1 O1 i' → yY E A R G n z 1 m S O i) := by
        intro E A R G n z hG2 hY m S O hp
        obtain ⟨m1, S1, O1, g1, g2, g3, g4⟩ := (h7 E A R G n z hG2 hY 1 (0 :: S) O (hcc m S O hp)).2 rfl
        refine ⟨m1, S1, O1, g1, ?_, g3, fun hy => hop hG2 hY m S O hp (g4 hy)⟩
        rw [g2 1 (by decide), uw_s, if_neg (by decide)]
      have hOT' := (H.2.1 i' h3).2
      by_cases q20 : T i' = 20
      · have hlt' : i' < N := H.2.2 i' h3 (by omega) (by omega)
        refine ⟨true, i' + 1, C, _, aC_of (Nat.le_of_ble_eq_true rfl) fun E hE => sX1_readOne_0 hG _ ⟨ta, gt31 hG, br_f n12 (br_t (by rw [tk, q19, e20]) (br_t (nI_lt (a := o) (b := 5) q (by omega)) ⟨_, _, hc', sX1_readOne_51 _ _ _ (br_f (by decide) ⟨gt31 hG, _, _, qX1_skip1 hG H h4 h3 (by rw [q20, e21]), sX1_readOne_60 _ _ _ _ (br_f (by decide) hE)⟩)⟩))⟩, by omega, fun _ => by omega, by omega, h4.at, by omega, ?_, ?_⟩
        · intro _ d ws hok hb
          exact h6 rfl d ws hok (by omega)
        · intro E A R G n z hG2 hY m S O hp
          refine ⟨fun q => absurd q (by decide), fun _ => ?_⟩
          obtain ⟨m1, S1, O1, g1, g2, g3, g4⟩ := hm E A R G n z hG2 hY m S O hp
          refine ⟨m1, (uw 7 S (O ++ C)).1, (uw 7 S (O ++ C)).2, ?_, fun k hk => uw_uw (by have : lr 5 = 7 := rfl; omega) _ _, fun l' a b => absurd (jnA_lt b).1 (by omega), fun hy => g4 (yY.close hG2 hY h3 g1 q20 g2 hy)⟩
          rw [uw_len, List.length_append]
          have := hp.2.2.2.2
          omega
      · refine ⟨false, i', C, B', aC_of (Nat.le_of_ble_eq_true rfl) fun E hE => sX1_readOne_0 hG _ ⟨ta, gt31 hG, br_f n12 (br_t (by rw [tk, q19, e20]) (br_t (nI_lt (a := o) (b := 5) q (by omega)) ⟨_, _, hc', sX1_readOne_51 _ _ _ (br_f (by decide) ⟨gt31 hG, _, _, qX1_skip0 hG H h4 h3 (by rw [e21, tX_q hOT' (by omega)]; exact q20), sX1_readOne_60 _ _ _ _ (br_t rfl hE)⟩)⟩))⟩, by omega, fun q => absurd q (by decide), h3, h4, by omega, fun q => absurd q (by decide), ?_⟩
        intro E A R G n z hG2 hY m S O hp
        refine ⟨fun _ hk => ?_, fun q => absurd q (by decide)⟩
        obtain ⟨m1, S1, O1, g1, g2, g3, g4⟩ := hm E A R G n z hG2 hY m S O hp
        refine g4 ?_
        by_cases q21 : T i' = 21
        · exact yY.semiBad hG2 hY h3 g1 q21 g2 hk
        · exact yY.stop hG2 hY h3 g1 g3 q20 q21 hk
  have n12 : ¬ tkX B = -13 := by rw [tk, e13, tX_q hOT (by omega)]; exact q12
  have n19 : ¬ tkX B = -20 := by rw [tk, e20, tX_q hOT (by omega)]; exact q19
  by_cases qa : isA (T i)
  · have hlt : i < N := H.2.2 i hi (by unfold isA at qa; omega) (by unfold isA at qa; omega)
    obtain ⟨w1, w2⟩ := tX_w qa
    obtain ⟨w3, w4⟩ := w2 hOT
    have hx := hB.add (w := wdT (T i)) (v := tkX B) (by rw [tk, w1])
    refine ⟨true, i + 1, [wdT (T i)], _, aC_of (Nat.le_of_ble_eq_true rfl) fun E hE => sX1_readOne_0 hG _ ⟨ta, gt31 hG, br_f n12 (br_f n19 (br_t (by rw [tk, tX_at hOT]; exact qa) ⟨_, qX1_add hG hB (by omega) _, sX1_readOne_82 _ _ ⟨gt31 hG, hE⟩⟩))⟩, by omega, fun _ => by omega, by omega, ?_, ?_, ?_, ?_⟩
    · rw [hx.2.2.1, nI_1]; exact hx.at
    · rw [List.length_cons, List.length_nil]; omega
    · intro _ d ws hok hb
      exact okW_atom w3 w4 (by omega) hok
    · intro E A R G n z hG2 hY m S O hp
      refine ⟨fun q => absurd q (by decide), fun _ => ⟨m, (uw 7 S (O ++ [wdT (T i)])).1, (uw 7 S (O ++ [wdT (T i)])).2, ?_, fun k hk => uw_uw (by have : lr 5 = 7 := rfl; omega) _ _, fun l' a b => absurd (jnA_lt b).1 (by omega), fun hy => yY.atom hG2 hY hi hp.2.2.2.2 qa hy⟩⟩
      rw [uw_len, List.length_append, List.length_cons, List.length_nil]
      have := hp.2.2.2.2
      omega
  · refine ⟨false, i, [], B, aC_of (Nat.le_of_ble_eq_true rfl) fun E hE => sX1_readOne_0 hG _ ⟨ta, gt31 hG, br_f n12 (br_f n19 (br_f (by rw [tk, tX_at hOT]; exact qa) hE))⟩, Nat.le_refl _, fun q => absurd q (by decide), hi, ?_, Nat.zero_le _, fun q => absurd q (by decide), ?_⟩
    · rw [List.append_nil]; exact hB
    · intro E A R G n z hG2 hY m S O hp
      exact ⟨fun _ hk => yY.bad hG2 hY hi qa q12 q19 (hp.2.1 (by omega)) hk, fun q => absurd q (by decide)⟩
end PL
