/-! tokens, and the signs that the model holds -/
set_option maxRecDepth 100000 in
set_option maxHeartbeats 4000000 in
theorem sX5_unwinds_0d {E : aR} {A : Nat → Nat → Int32} {R : Nat → Nat → Option Nat} {G : Nat → Nat × Nat} (hG : aGS G) (x1 : Int32) (d2 : Option Value)
    (h : (((A 48 26) ≤ 0) → (E none (A, R, G))) ∧ ((¬ ((A 48 26) ≤ 0)) → ((vp_in ((A 48 26) - 1) 200) ∧ ((((rkM (A 63 ((A 48 26) - 1).toNatClampNeg)) < x1) → (E none (A, R, G))) ∧ ((¬ ((rkM (A 63 ((A 48 26) - 1).toNatClampNeg)) < x1)) → ((vp_in (((au A 48 26 ((A 48 26) - 1))) 48 26) 200) ∧ (((((au A 48 26 ((A 48 26) - 1)) 63 (((au A 48 26 ((A 48 26) - 1))) 48 26).toNatClampNeg) = 13) → (∃ (μ1 : aM), CX5_puts [.ref 48, .int ((au A 48 26 ((A 48 26) - 1)) 63 (((au A 48 26 ((A 48 26) - 1))) 48 26).toNatClampNeg)] ((au (au A 48 26 ((A 48 26) - 1)) 48 27 ((((au A 48 26 ((A 48 26) - 1))) 48 27) - 1)), R, G) none μ1 ∧ aw tX5_unwinds E 76 [some (.ref 48), some (.int x1), some (.int ((au A 48 26 ((A 48 26) - 1)) 63 (((au A 48 26 ((A 48 26) - 1))) 48 26).toNatClampNeg))] [] μ1)) ∧ ((¬ (((au A 48 26 ((A 48 26) - 1)) 63 (((au A 48 26 ((A 48 26) - 1))) 48 26).toNatClampNeg) = 13)) → (((((au A 48 26 ((A 48 26) - 1)) 63 (((au A 48 26 ((A 48 26) - 1))) 48 26).toNatClampNeg) = 19) → (∃ (μ1 : aM), CX5_puts [.ref 48, .int ((au A 48 26 ((A 48 26) - 1)) 63 (((au A 48 26 ((A 48 26) - 1))) 48 26).toNatClampNeg)] ((au (au A 48 26 ((A 48 26) - 1)) 48 27 ((((au A 48 26 ((A 48 26) - 1))) 48 27) - 1)), R, G) none μ1 ∧ aw tX5_unwinds E 76 [some (.ref 48), some (.int x1), some (.int ((au A 48 26 ((A 48 26) - 1)) 63 (((au A 48 26 ((A 48 26) - 1))) 48 26).toNatClampNeg))] [] μ1)) ∧ ((¬ (((au A 48 26 ((A 48 26) - 1)) 63 (((au A 48 26 ((A 48 26) - 1))) 48 26).toNatClampNeg) = 19)) → (∃ (μ1 : aM), CX5_puts [.ref 48, .int ((au A 48 26 ((A 48 26) - 1)) 63 (((au A 48 26 ((A 48 26) - 1))) 48 26).toNatClampNeg)] ((au (au A 48 26 ((A 48 26) - 1)) 48 27 ((((au A 48 26 ((A 48 26) - 1))) 48 27) - 0)), R, G) none μ1 ∧ aw tX5_unwinds E 76 [some (.ref 48), some (.int x1), some (.int ((au A 48 26 ((A 48 26) - 1)) 63 (((au A 48 26 ((A 48 26) - 1))) 48 26).toNatClampNeg))] [] μ1))))))))))) :
    aw tX5_unwinds E 0 [some (.ref 48), some (.int x1), d2] [] (A, R, G) := by
  by_cases c1 : (A 48 26) ≤ 0
  · replace h := h.1 c1
    exact ⟨4, And.intro (gt48 hG) (Or.inl (And.intro c1 (h)))⟩
  · replace h := h.2 c1
    obtain ⟨q2, h⟩ := h
    by_cases c3 : (rkM (A 63 ((A 48 26) - 1).toNatClampNeg)) < x1
    · replace h := h.1 c3
      exact ⟨14, And.intro (gt48 hG) (Or.inr (And.intro c1 (And.intro (gt48 hG) (And.intro (gt48 hG) (And.intro (gt63 hG) (And.intro (vin_len (gl63 hG) q2) (Exists.intro _ (Exists.intro _ (And.intro (Nat.le_of_ble_eq_true rfl) (And.intro (Nat.le_of_ble_eq_true rfl) (And.intro (pX5_rank _) (Or.inl (And.intro c3 (h))))))))))))))⟩
    · replace h := h.2 c3
      obtain ⟨q4, h⟩ := h
      by_cases c5 : ((au A 48 26 ((A 48 26) - 1)) 63 (((au A 48 26 ((A 48 26) - 1))) 48 26).toNatClampNeg) = 13
      · replace h := h.1 c5
        obtain ⟨μ1, h1, n, h⟩ := h
        exact ⟨n + 38, And.intro (gt48 hG) (Or.inr (And.intro c1 (And.intro (gt48 hG) (And.intro (gt48 hG) (And.intro (gt63 hG) (And.intro (vin_len (gl63 hG) q2) (Exists.intro _ (Exists.intro _ (And.intro (Nat.le_of_ble_eq_true rfl) (And.intro (Nat.le_of_ble_eq_true rfl) (And.intro (pX5_rank _) (Or.inr (And.intro c3 (And.intro rfl (And.intro (gt48 hG) (And.intro (gt48 hG) (And.intro (gt48 hG) (And.intro (gt48 hG) (And.intro (gt63 hG) (And.intro (vin_len (gl63 hG) q4) (And.intro rfl (And.intro (gt48 hG) (Or.inl (And.intro c5 (And.intro (gt48 hG) (Exists.intro _ (Exists.intro _ (Exists.intro _ (Exists.intro _ (And.intro rfl (And.intro (gt48 hG) (And.intro (Nat.le_of_ble_eq_true rfl) (And.intro h1 (h))))))))))))))))))))))))))))))))))⟩
      · replace h := h.2 c5
        by_cases c6 : ((au A 48 26 ((A 48 26) - 1)) 63 (((au A 48 26 ((A 48 26) - 1))) 48 26).toNatClampNeg) = 19
        · replace h := h.1 c6
          obtain ⟨μ1, h1, n, h⟩ := h
          exact ⟨n + 41, And.intro (gt48 hG) (Or.inr (And.intro c1 (And.intro (gt48 hG) (And.intro (gt48 hG) (And.intro (gt63 hG) (And.intro (vin_len (gl63 hG) q2) (Exists.intro _ (Exists.intro _ (And.intro (Nat.le_of_ble_eq_true rfl) (And.intro (Nat.le_of_ble_eq_true rfl) (And.intro (pX5_rank _) (Or.inr (And.intro c3 (And.intro rfl (And.intro (gt48 hG) (And.intro (gt48 hG) (And.intro (gt48 hG) (And.intro (gt48 hG) (And.intro (gt63 hG) (And.intro (vin_len (gl63 hG) q4) (And.intro rfl (And.intro (gt48 hG) (Or.inr (And.intro c5 (Or.inr (And.intro (fun z => z c6) (And.intro (gt48 hG) (Exists.intro _ (Exists.intro _ (Exists.intro _ (Exists.intro _ (And.intro rfl (And.intro (gt48 hG) (And.intro (Nat.le_of_ble_eq_true rfl) (And.intro h1 (h))))))))))))))))))))))))))))))))))))⟩
        · replace h := h.2 c6
          obtain ⟨μ1, h1, n, h⟩ := h
          exact ⟨n + 40, And.intro (gt48 hG) (Or.inr (And.intro c1 (And.intro (gt48 hG) (And.intro (gt48 hG) (And.intro (gt63 hG) (And.intro (vin_len (gl63 hG) q2) (Exists.intro _ (Exists.intro _ (And.intro (Nat.le_of_ble_eq_true rfl) (And.intro (Nat.le_of_ble_eq_true rfl) (And.intro (pX5_rank _) (Or.inr (And.intro c3 (And.intro rfl (And.intro (gt48 hG) (And.intro (gt48 hG) (And.intro (gt48 hG) (And.intro (gt48 hG) (And.intro (gt63 hG) (And.intro (vin_len (gl63 hG) q4) (And.intro rfl (And.intro (gt48 hG) (Or.inr (And.intro c5 (Or.inl (And.intro c6 (And.intro (gt48 hG) (Exists.intro _ (Exists.intro _ (Exists.intro _ (Exists.intro _ (And.intro rfl (And.intro (gt48 hG) (And.intro (Nat.le_of_ble_eq_true rfl) (And.intro h1 (h))))))))))))))))))))))))))))))))))))⟩

/-- a token: below 15 the word, 19 .. 26 what stands between, 100 + v the number v -/
def tX (a : Nat) : Int32 := if a < 100 then -(nI (a + 1)) else nI (a - 100)
def okT (a : Nat) : Prop := a < 14 ∨ (18 < a ∧ a < 27) ∨ (100 ≤ a ∧ a < 10100)
def isA (a : Nat) : Prop := a < 6 ∨ 100 ≤ a
def wdT (a : Nat) : Nat := if a < 6 then a else a - 85
def isJ (a : Nat) : Prop := a = 6 ∨ a = 7 ∨ (9 ≤ a ∧ a ≤ 13)
/-- how a sign is held -/
def hM (s : Nat) : Int32 := if s = 0 then 0 else nI (s + 5)
def rk (s : Nat) : Nat := if s = 0 then 0 else if s = 6 then 1 else if s = 7 then 2 else if s = 8 then 3 else if s ≤ 10 then 4 else if s ≤ 12 then 5 else if s = 13 then 6 else 7
def okS (s : Nat) : Prop := s = 0 ∨ (6 ≤ s ∧ s < 15)
def op : List Nat → Nat
  | [] => 0
  | s :: S => op S + if s = 0 ∨ s = 8 ∨ s = 14 then 1 else 0
def hst (F : Nat → Int32) : List Nat → Prop
  | [] => True
  | s :: S => okS s ∧ F S.length = hM s ∧ hst F S
/-- signs that bind at least so come -/
def uw (k : Nat) : List Nat → List Nat → List Nat × List Nat
  | [], O => ([], O)
  | s :: S, O => if k ≤ rk s then uw k S (O ++ [s]) else (s :: S, O)
/-- where token i's bytes are looked for -/
noncomputable def tkQ (t : Nat → Int32) (z : Nat) : Nat → Nat
  | 0 => 0
  | i + 1 => tkEnd t z (tkPl t z i)
def yF (A : Nat → Nat → Int32) (n : Nat) (B : Nat → Nat → Int32) : Prop := (∀ o, ¬ o = 48 → ¬ o = 54 → ¬ o = 63 → B o = A o) ∧ (∀ k, (k < 20 ∨ 23 < k) → ¬ k = 26 → ¬ k = 27 → ¬ k = 28 → B 48 k = A 48 k) ∧ ∀ k, k < 200 * n → B 54 k = A 54 k
/-- what the model's reader stands at -/
def yB (A : Nat → Nat → Int32) (n : Nat) (B : Nat → Nat → Int32) (S O : List Nat) : Prop := yF A n B ∧ rowW wM (fun j => B 54 (200 * n + j)) 0 O ∧ B 48 28 = nI O.length ∧ hst (B 63) S ∧ B 48 26 = nI S.length ∧ B 48 27 = nI (op S)
def yK (B C : Nat → Nat → Int32) : Prop := ∀ k, ¬ k = 26 → ¬ k = 27 → ¬ k = 28 → C 48 k = B 48 k
section YD
variable {E : aR} {A B C : Nat → Nat → Int32} {R : Nat → Nat → Option Nat} {G : Nat → Nat × Nat} {t : Nat → Int32} {z n : Nat} {S O : List Nat}
theorem hst_c {F F' : Nat → Int32} : ∀ S : List Nat, (∀ j, j < S.length → F' j = F j) → hst F S → hst F' S
  | [], _, _ => trivial
  | s :: S, h, hs => ⟨hs.1, by rw [h _ (by rw [List.length_cons]; omega)]; exact hs.2.1, hst_c S (fun j hj => h j (by rw [List.length_cons]; omega)) hs.2.2⟩
theorem rowW_c {f F F' : Nat → Int32} : ∀ (ws : List Nat) (i : Nat), (∀ j, i ≤ j → j < i + ws.length → F' j = F j) → rowW f F i ws → rowW f F' i ws
  | [], _, _, _ => trivial
  | w :: ws, i, h, hs => ⟨by rw [h i (by omega) (by rw [List.length_cons]; omega)]; exact hs.1, rowW_c ws (i + 1) (fun j h1 h2 => h j (by omega) (by rw [List.length_cons]; omega)) hs.2⟩
theorem rowW_snoc {f F : Nat → Int32} {w : Nat} : ∀ (ws : List Nat) (i : Nat), rowW f F i ws → F (i + ws.length) = f w → rowW f F i (ws ++ [w])
  | [], i, _, h => ⟨h, trivial⟩
  | v :: ws, i, hs, h => ⟨hs.1, rowW_snoc ws (i + 1) hs.2 (by rw [← h, List.length_cons, show i + 1 + ws.length = i + (ws.length + 1) by omega])⟩
theorem rk_M : ∀ s, s < 15 → (s = 0 ∨ 6 ≤ s) → rkM (hM s) = nI (rk s) ∧ (hM s = 13 ↔ s = 8) ∧ (hM s = 19 ↔ s = 14) ∧ (6 ≤ s → wM s = hM s) ∧ rk s < 8 ∧ (1 ≤ rk s → 6 ≤ s) := by decide +kernel
theorem uw_len {k : Nat} : ∀ S O : List Nat, (uw k S O).1.length + (uw k S O).2.length = S.length + O.length
  | [], O => rfl
  | s :: S, O => by
    unfold uw
    by_cases h : k ≤ rk s
    · rw [if_pos h, uw_len S (O ++ [s]), List.length_append, List.length_cons, List.length_cons, List.length_nil]; omega
    · rw [if_neg h]
theorem uw_s {k s : Nat} {S O : List Nat} : uw k (s :: S) O = if k ≤ rk s then uw k S (O ++ [s]) else (s :: S, O) := by
  conv => lhs; unfold uw
theorem uw_uw {k m : Nat} (h : k ≤ m) : ∀ S O : List Nat, uw k (uw m S O).1 (uw m S O).2 = uw k S O
  | [], O => rfl
  | s :: S, O => by
    rw [uw_s (k := m)]
    by_cases c : m ≤ rk s
    · rw [if_pos c, uw_uw h S (O ++ [s]), uw_s (k := k), if_pos (by omega)]
    · rw [if_neg c]
theorem op_le : ∀ S : List Nat, op S ≤ S.length
  | [] => Nat.le_refl 0
  | s :: S => by
    have h : op (s :: S) = op S + if s = 0 ∨ s = 8 ∨ s = 14 then 1 else 0 := rfl
    have := op_le S
    rw [h, List.length_cons]
    by_cases c : s = 0 ∨ s = 8 ∨ s = 14
    · rw [if_pos c]; omega
    · rw [if_neg c]; omega
theorem nI_p1 (k : Nat) : nI (k + 1) - 1 = nI k := by
  have h : nI (k + 1) - nI 1 = nI (k + 1 - 1) := pk_sub (by omega)
  rw [Nat.add_sub_cancel] at h
  exact h
theorem yF.rfl' : yF A n A := ⟨fun _ _ _ _ => rfl, fun _ _ _ _ _ => rfl, fun _ _ => rfl⟩
theorem yB.push (h : yB A n B S O) {s : Nat} (hs : okS s) (hC : ∀ o, ¬ o = 48 → ¬ o = 63 → C o = B o) (hK : yK B C) (h26 : C 48 26 = nI (S.length + 1)) (h27 : C 48 27 = nI (op (s :: S))) (h28 : C 48 28 = B 48 28) (h63 : C 63 S.length = hM s) (h63' : ∀ j, j < S.length → C 63 j = B 63 j) : yB A n C (s :: S) O := by
  obtain ⟨⟨f1, f2, f3⟩, h2, h3, h4, h5, h6⟩ := h
  refine ⟨⟨fun o a b c => ?_, fun k a b c d => ?_, fun k hk => ?_⟩, ?_, ?_, ⟨hs, h63, hst_c S h63' h4⟩, by rw [List.length_cons]; exact h26, h27⟩
  · rw [hC o a c]; exact f1 o a b c
  · rw [hK k b c d]; exact f2 k a b c d
  · rw [hC 54 (by decide) (by decide)]; exact f3 k hk
  · rw [hC 54 (by decide) (by decide)]; exact h2
  · rw [h28]; exact h3
theorem yB.put (h : yB A n B S O) {w : Nat} (hC : ∀ o, ¬ o = 48 → ¬ o = 54 → C o = B o) (hK : yK B C) (h26 : C 48 26 = B 48 26) (h27 : C 48 27 = B 48 27) (h28 : C 48 28 = nI (O.length + 1)) (h54 : C 54 (200 * n + O.length) = wM w) (h54' : ∀ j, j < 200 * n + O.length → C 54 j = B 54 j) : yB A n C S (O ++ [w]) := by
  obtain ⟨⟨f1, f2, f3⟩, h2, h3, h4, h5, h6⟩ := h
  refine ⟨⟨fun o a b c => ?_, fun k a b c d => ?_, fun k hk => ?_⟩, rowW_snoc O 0 (rowW_c O 0 (fun j _ hj => h54' _ (by omega)) h2) (by rw [Nat.zero_add]; exact h54), ?_, ?_, by rw [h26]; exact h5, by rw [h27]; exact h6⟩
  · rw [hC o a b]; exact f1 o a b c
  · rw [hK k b c d]; exact f2 k a b c d
  · rw [h54' k (by omega)]; exact f3 k hk
  · rw [h28, List.length_append]; rfl
  · rw [hC 63 (by decide) (by decide)]; exact h4
theorem yB.pop {s : Nat} (h : yB A n B (s :: S) O) (hC : ∀ o, ¬ o = 48 → C o = B o) (hK : yK B C) (h26 : C 48 26 = nI S.length) (h27 : C 48 27 = nI (op S)) (h28 : C 48 28 = B 48 28) : yB A n C S O := by
  obtain ⟨⟨f1, f2, f3⟩, h2, h3, h4, h5, h6⟩ := h
  refine ⟨⟨fun o a b c => ?_, fun k a b c d => ?_, fun k hk => ?_⟩, ?_, ?_, ?_, h26, h27⟩
  · rw [hC o a]; exact f1 o a b c
  · rw [hK k b c d]; exact f2 k a b c d
  · rw [hC 54 (by decide)]; exact f3 k hk
  · rw [hC 54 (by decide)]; exact h2
  · rw [h28]; exact h3
  · rw [hC 63 (by decide)]; exact h4.2.2
theorem yB.s11 (h : yB A n B S O) : B 48 11 = A 48 11 := h.1.2.1 11 (by omega) (by decide) (by decide) (by decide)
theorem qX5_puts (hG : aGS G) (hn : n < 6) (hA : A 48 11 = nI n) (h : yB A n B S O) (hl : O.length < 200) {x : Int32} {w : Nat} (hx : x = wM w) : ∃ C, (yB A n C S (O ++ [w]) ∧ yK B C ∧ C 48 26 = B 48 26 ∧ C 48 27 = B 48 27) ∧ CX5_puts [.ref 48, .int x] (B, R, G) none (C, R, G) := by
  have e28 := h.2.2.1
  refine ⟨au (au B 54 (200 * n + O.length) x) 48 28 (nI (O.length + 1)), ⟨h.put ?_ ?_ ?_ ?_ au_k ?_ ?_, ?_, ?_, ?_⟩, aC_of (Nat.le_of_ble_eq_true rfl) fun E hE => sX5_puts_0 hG _ ?_⟩
  · intro o a b; rw [au_o a, au_o b]
  · intro k a b c; rw [au_j c, aua (by decide)]
  · rw [au_j (by decide), aua (by decide)]
  · rw [au_j (by decide), aua (by decide)]
  · rw [aua (by decide), au_k]; exact hx
  · intro j hj; rw [aua (by decide), au_j (by omega)]
  · intro k a b c; rw [au_j c, aua (by decide)]
  · rw [au_j (by decide), aua (by decide)]
  · rw [au_j (by decide), aua (by decide)]
  · simp (disch := omega) only [h.s11, hA, e28, n200, nI_add, nI_clamp, aua, nI_1]
    exact ⟨vp_in_nI (by omega) (by omega), hE⟩
theorem lX5_unw (hG : aGS G) (hn : n < 6) (hA : A 48 11 = nI n) {u : Nat} (h1 : 1 ≤ u) (h7 : u ≤ 7) {S1 O1 : List Nat} (K : ∀ C, yB A n C S1 O1 → yK B C → E none (C, R, G)) : ∀ (S O : List Nat) (D : Nat → Nat → Int32) (d2 : Option Value), yB A n D S O → yK B D → S.length + O.length < 200 → uw u S O = (S1, O1) → aw tX5_unwinds E 0 [some (.ref 48), some (.int (nI u)), d2] [] (D, R, G)
  | [], O, D, d2, hD, hK, hl, he => by
    have he : ([], O) = (S1, O1) := he
    cases he
    refine sX5_unwinds_0d hG _ _ (br_t ?_ (K D hD hK))
    rw [hD.2.2.2.2.1]
    exact nI_le (a := 0) (b := 0) (by omega) (by omega)
  | s :: S, O, D, d2, hD, hK, hl, he => by
    obtain ⟨hD1, hD2, hD3, hD4, hD5, hD6⟩ := hD
    rw [List.length_cons] at hl hD5
    have hs15 : s < 15 := by rcases hD4.1 with q | q <;> omega
    obtain ⟨r1, r2, r3, r4, r5, r6⟩ := rk_M s hs15 (by rcases hD4.1 with q | q <;> omega)
    have ep : nI (S.length + 1) - 1 = nI S.length := nI_p1 _
    rw [uw_s] at he
    refine sX5_unwinds_0d hG _ _ (br_f (by rw [hD5]; exact nI_ge (a := 0) (by omega) (by omega)) ?_)
    simp (disch := omega) only [hD5, ep, nI_clamp, hD4.2.1, r1, au_k, aua]
    refine ⟨vp_in_nI (by omega) (by omega), ?_⟩
    by_cases c : u ≤ rk s
    case neg =>
      rw [if_neg c] at he
      cases he
      exact br_t (nI_lt (a := rk s) (b := u) (by omega) (by omega)) (K D ⟨hD1, hD2, hD3, hD4, by rw [List.length_cons]; exact hD5, hD6⟩ hK)
    rw [if_pos c] at he
    have hgo : ∀ v, D 48 27 - v = nI (op S) → ∃ μ1, CX5_puts [.ref 48, .int (hM s)] (au (au D 48 26 (nI S.length)) 48 27 (D 48 27 - v), R, G) none μ1 ∧ aw tX5_unwinds E 76 [some (.ref 48), some (.int (nI u)), some (.int (hM s))] [] μ1 := by
      intro v hv
      have hy : yB A n (au (au D 48 26 (nI S.length)) 48 27 (D 48 27 - v)) S O := by
        refine yB.pop (s := s) ⟨hD1, hD2, hD3, hD4, by rw [List.length_cons]; exact hD5, hD6⟩ ?_ ?_ ?_ ?_ ?_
        · intro o a; rw [au_o a, au_o a]
        · intro k a b c; rw [au_j b, au_j a]
        · rw [au_j (by decide), au_k]
        · rw [au_k]; exact hv
        · rw [au_j (by decide), au_j (by decide)]
      obtain ⟨C, ⟨k1, k2, k3, k4⟩, k5⟩ := qX5_puts (R := R) hG hn hA hy (by omega) (x := hM s) (w := s) (r4 (r6 (by omega))).symm
      refine ⟨_, k5, sX5_unwinds_76 _ _ (lX5_unw hG hn hA h1 h7 K S (O ++ [s]) C _ k1 (fun k a b c => ?_) (by rw [List.length_append, List.length_cons, List.length_nil]; omega) he)⟩
      rw [k2 k a b c, au_j b, au_j a]
      exact hK k a b c
    refine br_f (nI_nlt (a := rk s) (b := u) c (by omega)) ⟨vp_in_nI (by omega) (by omega), ?_⟩
    have e27 : (au D 48 26 (nI S.length)) 48 27 = D 48 27 := au_j (by decide)
    rw [e27]
    have hop : op (s :: S) = op S + if s = 0 ∨ s = 8 ∨ s = 14 then 1 else 0 := rfl
    have h1' : (s = 8 ∨ s = 14) → D 48 27 - 1 = nI (op S) := fun q => by
      rw [hD6, hop, if_pos (Or.inr q)]
      exact nI_p1 _
    refine ⟨fun q => hgo 1 (h1' (Or.inl (r2.mp q))), fun q1 => ⟨fun q => hgo 1 (h1' (Or.inr (r3.mp q))), fun q2 => hgo 0 ?_⟩⟩
    rw [Int32.sub_zero, hD6, hop, if_neg ?_, Nat.add_zero]
    rintro (q | q | q)
    · have := r6 (by omega); omega
    · exact q1 (r2.mpr q)
    · exact q2 (r3.mpr q)
/-- unwinds -/
theorem qX5_unwinds (hG : aGS G) (hn : n < 6) (hA : A 48 11 = nI n) {u : Nat} (h1 : 1 ≤ u) (h7 : u ≤ 7) {S O : List Nat} (h : yB A n B S O) (hl : S.length + O.length < 200) : ∃ C, (yB A n C (uw u S O).1 (uw u S O).2 ∧ yK B C) ∧ CX5_unwinds [.ref 48, .int (nI u)] (B, R, G) none (C, R, G) :=
  aC_exA vX5_unwinds (Nat.le_of_ble_eq_true rfl) fun E hE => lX5_unw hG hn hA h1 h7 (fun C hC hK => hE C ⟨hC, hK⟩) S O B none h (fun _ _ _ _ => rfl) hl rfl
end YD
