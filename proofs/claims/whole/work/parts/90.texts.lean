/-! a whole text, as the model reads it and as the class does -/
def jo (W : Nat → List Nat) : Nat → List Nat
  | 0 => []
  | p + 1 => jo W p ++ W p
def mF (A : Nat → Nat → Int32) (n : Nat) (B : Nat → Nat → Int32) : Prop := (∀ o, ¬ o = 48 → ¬ o = 54 → ¬ o = 55 → ¬ o = 63 → B o = A o) ∧ (∀ k, (k < 20 ∨ 23 < k) → ¬ k = 26 → ¬ k = 27 → ¬ k = 28 → B 48 k = A 48 k) ∧ (∀ k, k < 200 * n → B 54 k = A 54 k) ∧ ∀ k, k < 4 * n → B 55 k = A 55 k
def mP (A : Nat → Nat → Int32) (n z : Nat) (W : Nat → List Nat) (p i : Nat) (B : Nat → Nat → Int32) : Prop := mF A n B ∧ rowW wM (fun j => B 54 (200 * n + j)) 0 (jo W p) ∧ B 48 28 = nI (jo W p).length ∧ B 48 20 = nI (tkQ (A 53) z i) ∧ ∀ q, q < p → B 55 (4 * n + q) = nI (jo W q).length
def tY (E : aR) (A : Nat → Nat → Int32) (R : Nat → Nat → Option Nat) (G : Nat → Nat × Nat) (n z : Nat) (W : Nat → List Nat) (p i : Nat) : Prop := ∀ B, mP A n z W p i B → aw tX5_text E 26 [some (.ref 48), some (.int 1), some (.int (nI p))] [] (B, R, G)
def tK0 (E : aR) (A : Nat → Nat → Int32) (R : Nat → Nat → Option Nat) (G : Nat → Nat × Nat) (n z i : Nat) : Prop := ∀ D v, mF A n D → E (some (.int (-100 - nI (tkPl (A 53) z i)))) (au (au D 55 (4 * n + 3) v) 48 8 0, R, G)
def tK1 (E : aR) (A : Nat → Nat → Int32) (R : Nat → Nat → Option Nat) (G : Nat → Nat × Nat) (n z : Nat) (W : Nat → List Nat) (i : Nat) : Prop := ∀ D, mP A n z W 3 (i + 1) D → E (some (.int (nI n))) (au (au (au D 55 (4 * n + 3) (nI (jo W 3).length)) 48 8 0) 48 11 (nI (n + 1)), R, G)
section TT
variable {E : aR} {A B C D : Nat → Nat → Int32} {R : Nat → Nat → Option Nat} {G : Nat → Nat × Nat} {z n N i p : Nat} {T : Nat → Nat} {W W' : Nat → List Nat}
theorem jo_s {p : Nat} : jo W (p + 1) = jo W p ++ W p := rfl
theorem jo_c : ∀ p, (∀ q, q < p → W' q = W q) → jo W' p = jo W p
  | 0, _ => rfl
  | p + 1, h => by rw [jo_s, jo_s, jo_c p (fun q hq => h q (by omega)), h p (by omega)]
theorem mF.rfl' : mF A n A := ⟨fun _ _ _ _ _ => rfl, fun _ _ _ _ _ => rfl, fun _ _ => rfl, fun _ _ => rfl⟩
theorem mF.tr (h : mF A n B) (k : mF B n C) : mF A n C := ⟨fun o a b c d => (k.1 o a b c d).trans (h.1 o a b c d), fun j a b c d => (k.2.1 j a b c d).trans (h.2.1 j a b c d), fun j a => (k.2.2.1 j a).trans (h.2.2.1 j a), fun j a => (k.2.2.2 j a).trans (h.2.2.2 j a)⟩
theorem mF.st (h : mF A n B) {q : Nat} {v : Int32} : mF A n (au B 55 (4 * n + q) v) := by
  refine ⟨fun o a b c d => ?_, fun k a b c d => ?_, fun k hk => ?_, fun k hk => ?_⟩
  · rw [au_o c]; exact h.1 o a b c d
  · rw [aua (by decide)]; exact h.2.1 k a b c d
  · rw [aua (by decide)]; exact h.2.2.1 k hk
  · rw [au_j (by omega)]; exact h.2.2.2 k hk
theorem yF.mF (h : yF A n B) : mF A n B := ⟨fun o a b c d => h.1 o a b d, h.2.1, h.2.2, fun k _ => by rw [h.1 55 (by decide) (by decide) (by decide)]⟩
theorem yH.go (h : yH A n z T N) (k : mF A n B) : yH B n z T N := by
  obtain ⟨a, b, c, d, e, f, g⟩ := h
  refine ⟨a, b, ?_, ?_, ?_, f, ?_⟩
  · rw [k.2.1 8 (by omega) (by decide) (by decide) (by decide)]; exact c
  · rw [k.2.1 11 (by omega) (by decide) (by decide) (by decide)]; exact d
  · rw [k.1 62 (by decide) (by decide) (by decide) (by decide)]; exact e
  · rw [k.1 53 (by decide) (by decide) (by decide) (by decide)]; exact g
theorem mF.t53 (k : mF A n B) : B 53 = A 53 := k.1 53 (by decide) (by decide) (by decide) (by decide)
theorem qX5_nextT (hG : aGS G) (H : yH B n z T N) (hi : i ≤ N) (h20 : B 48 20 = nI (tkQ (B 53) z i)) : ∃ C, ((∀ o, ¬ o = 48 → C o = B o) ∧ (∀ k, (k < 20 ∨ 23 < k) → C 48 k = B 48 k) ∧ C 48 20 = nI (tkQ (B 53) z (i + 1)) ∧ C 48 21 = nI (tkPl (B 53) z i) ∧ C 48 22 = mtk (tX (T i)) ∧ ((mtk (tX (T i)) = 1 ∨ mtk (tX (T i)) = 2 ∨ mtk (tX (T i)) = 3) → C 48 23 = mvl (tX (T i)))) ∧ CX5_next [.ref 48] (B, R, G) none (C, R, G) := by
  obtain ⟨hn, hz, h8, h11, hw, hN, hT⟩ := H
  obtain ⟨C, hC, hc⟩ := qX5_next (A := B) (R := R) hG hz h8 (tkQ_le (t := B 53) i) h20 hw
  rw [← tkPl_Q] at hC
  obtain ⟨x1, x2, x3, x4, x5, x6⟩ := hC
  have ht : tkCode (B 53) z (tkPl (B 53) z i) = tX (T i) := (hT i hi).1
  rw [ht] at x5 x6
  exact ⟨C, ⟨x1, x2, x3, x4, x5, x6⟩, hc⟩
theorem mtk_key : ∀ a, a < 27 → ∀ p, p < 3 → (a < 14 ∨ 18 < a) → ((mtk (tX a) = 3 ∧ mvl (tX a) = nI p) ↔ a = 22 + p) := by decide +kernel
theorem mtk_kq {a p : Nat} (h : okT a) (hp : p < 3) : (mtk (tX a) = 3 ∧ mvl (tX a) = nI p) ↔ a = 22 + p := by
  by_cases q : a < 27
  · exact mtk_key a q p hp (by unfold okT at h; omega)
  · rw [(mtk_an (a := a) (by unfold okT at h; omega) (by unfold okT at h; omega)).1]
    exact ⟨fun w => absurd w.1 (by decide), fun w => by omega⟩
theorem mtk_e : ∀ a, a < 27 → (a < 14 ∨ 18 < a) → (mtk (tX a) = 0 ↔ a = 25) := by decide +kernel
theorem mtk_eq {a : Nat} (h : okT a) : mtk (tX a) = 0 ↔ a = 25 := by
  by_cases q : a < 27
  · exact mtk_e a q (by unfold okT at h; omega)
  · rw [(mtk_an (a := a) (by unfold okT at h; omega) (by unfold okT at h; omega)).1]
    exact ⟨fun w => absurd w (by decide), fun w => by omega⟩
/-- nothing more is read -/
theorem tY.no (hG : aGS G) (H : yH A n z T N) (hD : mF A n D) (h21 : D 48 21 = nI (tkPl (A 53) z i)) (hK : tK0 E A R G n z i) (x2 : Int32) : aw tX5_text E 26 [some (.ref 48), some (.int 0), some (.int x2)] [] (D, R, G) := by
  have hn := H.1
  have h11 : D 48 11 = nI n := by rw [hD.2.1 11 (by omega) (by decide) (by decide) (by decide)]; exact H.2.2.2.1
  have e3 : (nI (4 * n) + 3) = nI (4 * n + 3) := nI_add _ 3
  have hk := hK D (D 48 28) hD
  rw [← h21] at hk
  have key : vp_in ((4 * (D 48 11)) + 3) 24 ∧ E (some (.int ((-100) - (((au (au D 55 ((4 * (D 48 11)) + 3).toNatClampNeg (D 48 28)) 48 8 0)) 48 21)))) ((au (au D 55 ((4 * (D 48 11)) + 3).toNatClampNeg (D 48 28)) 48 8 0), R, G) := by
    have e21 : (au (au D 55 (4 * n + 3) (D 48 28)) 48 8 0) 48 21 = D 48 21 := by rw [au_j (by decide), aua (by decide)]
    rw [h11, n4, e3, nI_clamp (by omega), e21]
    exact ⟨vp_in_nI (by omega) (by omega), hk⟩
  exact sX5_text_26 hG _ _ ⟨fun _ => br_t rfl key, fun _ => br_t rfl key⟩
theorem tY.key (hG : aGS G) (H : yH A n z T N) (hi : i ≤ N) (hp : p < 3) (hT : ¬ T i = 22 + p) (hK : tK0 E A R G n z i) : tY E A R G n z W p i := by
  intro B hB
  obtain ⟨b1, b2, b3, b4, b5⟩ := hB
  have hn := H.1
  have H' := H.go b1
  have hOT := (H.2.2.2.2.2.2 i hi).2
  obtain ⟨C, ⟨x1, x2, x3, x4, x5, x6⟩, hc⟩ := qX5_nextT (R := R) hG H' hi (by rw [b1.t53]; exact b4)
  have hC : mF A n C := b1.tr ⟨fun o a _ _ _ => x1 o a, fun k a _ _ _ => x2 k a, fun k _ => by rw [x1 54 (by decide)], fun k _ => by rw [x1 55 (by decide)]⟩
  have h11 : C 48 11 = nI n := by rw [hC.2.1 11 (by omega) (by decide) (by decide) (by decide)]; exact H.2.2.2.1
  have fin : ∀ y, vp_in ((4 * (C 48 11)) + nI p) 24 ∧ aw tX5_text E 26 [some (.ref 48), some (.int 0), some (.int y)] [] ((au C 55 ((4 * (C 48 11)) + nI p).toNatClampNeg (C 48 28)), R, G) := by
    intro y
    rw [h11, n4, nI_add, nI_clamp (by omega)]
    refine ⟨vp_in_nI (by omega) (by omega), tY.no hG H hC.st ?_ hK _⟩
    rw [aua (by decide), x4, b1.t53]
  refine sX5_text_26 hG _ _ (br_f (nI_ge (a := p) (b := 3) hp (by omega)) (br_f (by decide) ⟨_, hc, sX5_text_39 hG _ _ ⟨fun w => br_f ?_ (fin _), fun _ => fin _⟩⟩))
  rw [x5] at w
  rw [x6 (Or.inr (Or.inr w))]
  exact fun w2 => hT ((mtk_kq hOT hp).mp ⟨w, w2⟩)
theorem tY.part (hG : aGS G) (H : yH A n z T N) (hp : p < 3) {i' : Nat} {ok : Bool} {C' : List Nat} (hT : T i = 22 + p) (hi : i + 1 ≤ N) (hl : (jo W p).length ≤ i)
    (hE : ∀ (E : aR) (A : Nat → Nat → Int32) (R : Nat → Nat → Option Nat) (G : Nat → Nat × Nat) (n z : Nat), aGS G → yH A n z T N → ∀ O : List Nat, O.length ≤ i → (ok = false → yK0 E A R G n z i' → yY E A R G n z 1 1 [] O (i + 1)) ∧ (ok = true → yK1 E A R G n z (O ++ C') i' → yY E A R G n z 1 1 [] O (i + 1)))
    (h0 : ok = false → tK0 E A R G n z i') (hW : ∀ q, q < p → W' q = W q) (hW2 : W' p = C') (h1 : ok = true → tY E A R G n z W' (p + 1) i') : tY E A R G n z W p i := by
  intro B hB
  obtain ⟨b1, b2, b3, b4, b5⟩ := hB
  have hn := H.1
  have H' := H.go b1
  have hOT := (H.2.2.2.2.2.2 i (by omega)).2
  obtain ⟨C, ⟨x1, x2, x3, x4, x5, x6⟩, hc⟩ := qX5_nextT (R := R) (i := i) hG H' (by omega) (by rw [b1.t53]; exact b4)
  have hC : mF A n C := b1.tr ⟨fun o a _ _ _ => x1 o a, fun k a _ _ _ => x2 k a, fun k _ => by rw [x1 54 (by decide)], fun k _ => by rw [x1 55 (by decide)]⟩
  have h11 : C 48 11 = nI n := by rw [hC.2.1 11 (by omega) (by decide) (by decide) (by decide)]; exact H.2.2.2.1
  have h28 : C 48 28 = nI (jo W p).length := by rw [x2 28 (by omega)]; exact b3
  obtain ⟨k1, k2⟩ := (mtk_kq hOT hp).mpr hT
  rw [k1] at x5 x6
  have x6 := x6 (by decide)
  rw [k2] at x6
  refine sX5_text_26 hG _ _ (br_f (nI_ge (a := p) (b := 3) hp (by omega)) (br_f (by decide) ⟨_, hc, sX5_text_39 hG _ _ (br_t x5 (br_t x6 ?_))⟩))
  rw [h11, n4, nI_add, nI_clamp (by omega), h28]
  refine ⟨vp_in_nI (by omega) (by omega), ?_⟩
  obtain ⟨A1, hA1⟩ : ∃ A1, A1 = au C 55 (4 * n + p) (nI (jo W p).length) := ⟨_, rfl⟩
  obtain ⟨A2, hA2⟩ : ∃ A2, A2 = au (au A1 48 26 0) 48 27 0 := ⟨_, rfl⟩
  rw [← hA1]
  have m1 : mF A n A1 := by rw [hA1]; exact hC.st
  have m2 : mF A n A2 := by
    rw [hA2]
    refine ⟨fun o a b c d => ?_, fun k a b c d => ?_, fun k hk => ?_, fun k hk => ?_⟩
    · rw [au_o a, au_o a]; exact m1.1 o a b c d
    · rw [au_j c, au_j b]; exact m1.2.1 k a b c d
    · rw [aua (by decide), aua (by decide)]; exact m1.2.2.1 k hk
    · rw [aua (by decide), aua (by decide)]; exact m1.2.2.2 k hk
  have H2 := H.go m2
  have e54 : A2 54 = B 54 := by rw [hA2, au_o (by decide), au_o (by decide), hA1, au_o (by decide), x1 54 (by decide)]
  have e55 : A2 55 = A1 55 := by rw [hA2, au_o (by decide), au_o (by decide)]
  have hy : yB A2 n A2 [] (jo W p) := by
    refine ⟨yF.rfl', by rw [e54]; exact b2, ?_, trivial, ?_, ?_⟩
    · rw [hA2, au_j (by decide), au_j (by decide), hA1, aua (by decide)]; exact h28
    · rw [hA2, au_j (by decide), au_k]; rfl
    · rw [hA2, au_k]; rfl
  have h20 : A2 48 20 = nI (tkQ (A2 53) z (i + 1)) := by
    rw [m2.t53, hA2, au_j (by decide), au_j (by decide), hA1, aua (by decide), x3, b1.t53]
  cases ok with
  | false =>
    obtain ⟨D, ⟨d1, d2⟩, d3⟩ : ∃ D, (yF A2 n D ∧ D 48 21 = nI (tkPl (A2 53) z i')) ∧ CX5_eRead [.ref 48] (A1, R, G) (some (.int 0)) (D, R, G) := by
      refine aC_exA vX5_eRead (Nat.le_of_ble_eq_true rfl) fun F hF => sX5_eRead_0 hG ?_
      rw [← hA2]
      exact (hE F A2 R G n z hG H2 (jo W p) hl).1 rfl (fun D a b => hF D ⟨a, b⟩) A2 none hy h20
    exact ⟨_, _, d3, sX5_text_86 _ _ _ (br_t rfl (tY.no hG H (m2.tr d1.mF) (by rw [d2, m2.t53]) (h0 rfl) _))⟩
  | true =>
    obtain ⟨D, ⟨d1, d2⟩, d3⟩ : ∃ D, (yB A2 n D [] (jo W p ++ C') ∧ D 48 20 = nI (tkQ (A2 53) z i')) ∧ CX5_eRead [.ref 48] (A1, R, G) (some (.int 1)) (D, R, G) := by
      refine aC_exA vX5_eRead (Nat.le_of_ble_eq_true rfl) fun F hF => sX5_eRead_0 hG ?_
      rw [← hA2]
      exact (hE F A2 R G n z hG H2 (jo W p) hl).2 rfl (fun D a b => hF D ⟨a, b⟩) A2 none hy h20
    have ej : jo W' (p + 1) = jo W p ++ C' := by rw [jo_s, jo_c p hW, hW2]
    refine ⟨_, _, d3, sX5_text_86 _ _ _ (br_f (by decide) ?_)⟩
    rw [nI_1]
    refine h1 rfl D ⟨m2.tr d1.1.mF, ?_, ?_, ?_, fun q hq => ?_⟩
    · rw [ej]; exact d1.2.1
    · rw [ej]; exact d1.2.2.1
    · rw [d2, m2.t53]
    · have e1 : D 55 = A1 55 := (d1.1.1 55 (by decide) (by decide) (by decide)).trans e55
      rw [e1, hA1]
      by_cases w : q = p
      · subst w; rw [au_k, jo_c q hW]
      · rw [au_j (by omega), x1 55 (by decide), jo_c q (fun j hj => hW j (by omega))]
        exact b5 q (by omega)
theorem tY.fin (hG : aGS G) (H : yH A n z T N) (hi : i ≤ N) (h1 : T i = 25 → tK1 E A R G n z W i) (h0 : ¬ T i = 25 → tK0 E A R G n z i) : tY E A R G n z W 3 i := by
  intro B hB
  obtain ⟨b1, b2, b3, b4, b5⟩ := hB
  have hn := H.1
  have H' := H.go b1
  have hOT := (H.2.2.2.2.2.2 i hi).2
  obtain ⟨C, ⟨x1, x2, x3, x4, x5, x6⟩, hc⟩ := qX5_nextT (R := R) hG H' hi (by rw [b1.t53]; exact b4)
  have hC : mF A n C := b1.tr ⟨fun o a _ _ _ => x1 o a, fun k a _ _ _ => x2 k a, fun k _ => by rw [x1 54 (by decide)], fun k _ => by rw [x1 55 (by decide)]⟩
  have h11 : C 48 11 = nI n := by rw [hC.2.1 11 (by omega) (by decide) (by decide) (by decide)]; exact H.2.2.2.1
  have h28 : C 48 28 = nI (jo W 3).length := by rw [x2 28 (by omega)]; exact b3
  have e3 : (nI (4 * n) + 3) = nI (4 * n + 3) := nI_add _ 3
  refine sX5_text_26 hG _ _ (br_t (nI_le (a := 3) (b := 3) (by omega) (by omega)) (br_f (by decide) ⟨_, hc, sX5_text_109 hG _ _ ?_⟩))
  rw [h11, n4, e3, nI_clamp (by omega), x5, h28]
  refine br_i (mtk_eq hOT) (fun w => ⟨vp_in_nI (by omega) (by omega), ?_⟩) (fun w => ⟨vp_in_nI (by omega) (by omega), ?_⟩)
  · have hk := h1 w C ⟨hC, by rw [x1 54 (by decide)]; exact b2, h28, by rw [x3, b1.t53], fun q hq => by rw [x1 55 (by decide)]; exact b5 q hq⟩
    have e11 : (au (au C 55 (4 * n + 3) (nI (jo W 3).length)) 48 8 0) 48 11 = nI n := by rw [au_j (by decide), aua (by decide)]; exact h11
    rw [e11, nI_1]
    refine sX5_text_166 hG _ _ ?_
    rw [au_k, nI_p1]
    exact hk
  · have hk := h0 w C (nI (jo W 3).length) hC
    have e21 : (au (au C 55 (4 * n + 3) (nI (jo W 3).length)) 48 8 0) 48 21 = nI (tkPl (A 53) z i) := by rw [au_j (by decide), aua (by decide), x4, b1.t53]
    rw [e21]
    exact hk
end TT
