/-! the whole tape, by both -/
/-- what the class's reader holds behind a good text -/
def xW (B : Nat → Nat → Int32) (W : Nat → List Nat) : Prop := (jo W 3).length ≤ 160 ∧ B 31 7 = nI (jo W 3).length ∧ rowW wX (B 35) 0 (jo W 3) ∧ (∀ q, q < 3 → B 36 q = nI (jo W (q + 1)).length) ∧ ∀ q, q < 3 → okW 0 (W q)
def xF (A B : Nat → Nat → Int32) : Prop := (∀ o, ¬ o = 31 → ¬ o = 33 → ¬ o = 34 → ¬ o = 35 → ¬ o = 36 → B o = A o) ∧ ∀ k, ¬ k = 6 → ¬ k = 7 → B 31 k = A 31 k
section FT
variable {E : aR} {A B C D : Nat → Nat → Int32} {R : Nat → Nat → Option Nat} {G : Nat → Nat × Nat} {z n N i p : Nat} {T : Nat → Nat} {W W' : Nat → List Nat}
theorem xB.F {C0 : List Nat} (h : xB A B C0 i) : xF A B := ⟨fun o a b c d e => h.1 o a d, h.2.1⟩
theorem xF.tr (h : xF A B) (k : xF B C) : xF A C := ⟨fun o a b c d e => (k.1 o a b c d e).trans (h.1 o a b c d e), fun j a b => (k.2 j a b).trans (h.2 j a b)⟩
theorem xF.e36 {v : Int32} : xF A (au A 36 p v) := ⟨fun o a b c d e => au_o e, fun k _ _ => aua (by decide)⟩
theorem xB.pl {C0 : List Nat} {P : Nat → Nat} (H : xH A T N) (h : xB A B C0 i) (hi : i ≤ N) (hP : ∀ i, i ≤ N → A 34 i = nI (P i)) : plX B = nI (P i) ∧ 0 ≤ B 31 6 := by
  have hN := H.1
  have h6 := h.2.2.1
  unfold plX
  rw [h6, if_pos (show nI i ≤ 160 from nI_le (a := i) (b := 160) (by omega) (by omega)), nI_clamp (by omega), h.1 34 (by decide) (by decide)]
  exact ⟨hP i hi, nI_nn (by omega)⟩
theorem xH.e36 {v : Int32} (H : xH A T N) : xH (au A 36 p v) T N := ⟨H.1, by rw [au_o (by decide)]; exact H.2.1, H.2.2⟩
theorem pText (hG : aGS G) {P : Nat → Nat} : ∀ (f p i : Nat) (W : Nat → List Nat) (A B : Nat → Nat → Int32), p + f = 3 → xH A T N → (∀ i, i ≤ N → A 34 i = nI (P i)) → i ≤ N → xB A B (jo W p) i → (jo W p).length ≤ i → (∀ q, q < p → A 36 q = nI (jo W (q + 1)).length) → (∀ q, q < p → okW 0 (W q)) →
    ∃ (ok : Bool) (i' : Nat) (W' : Nat → List Nat) (B' : Nat → Nat → Int32), (∀ E : aR, E (some (.int (if ok then -1 else nI (P i')))) (B', R, G) → aw tX1_faultOfTape E 16 [some (.ref 31), some (.int (nI p))] [] (B, R, G)) ∧ i' ≤ N ∧ xF A B' ∧ (ok = true → xW B' W') ∧
    ∀ (E : aR) (A : Nat → Nat → Int32) (R : Nat → Nat → Option Nat) (G : Nat → Nat × Nat) (n z : Nat), aGS G → yH A n z T N → (ok = false → tK0 E A R G n z i' → tY E A R G n z W p i) ∧ (ok = true → tK1 E A R G n z W' i' → tY E A R G n z W p i)
  | 0, p, i, W, A, B, hp, H, hP, hi, hB, hl, he, hk => by
    have hp3 : p = 3 := by omega
    subst hp3
    have hN := H.1
    obtain ⟨tk, ta⟩ := hB.tk H hi
    obtain ⟨pl, -⟩ := hB.pl H hi hP
    have hOT := (H.2.1 i hi).2
    have e26 : (-26 : Int32) = tX 25 := by decide
    have hq : tkX B = -26 ↔ T i = 25 := by rw [tk, e26, tX_q hOT (by omega)]
    by_cases q : T i = 25
    · refine ⟨true, i, W, B, fun E hE => sX1_faultOfTape_16 hG _ (br_t (nI_le (a := 3) (b := 3) (by omega) (by omega)) ⟨ta, br_t (hq.mpr q) hE⟩), hi, hB.F, fun _ => ⟨by omega, hB.2.2.2.1, hB.2.2.2.2, fun q hq => by rw [hB.1 36 (by decide) (by decide)]; exact he q hq, hk⟩, ?_⟩
      intro E A R G n z hG2 hY
      exact ⟨fun w => absurd w (by decide), fun _ hK => tY.fin hG2 hY hi (fun _ => hK) (fun w => absurd q w)⟩
    · refine ⟨false, i, W, B, fun E hE => sX1_faultOfTape_16 hG _ (br_t (nI_le (a := 3) (b := 3) (by omega) (by omega)) ⟨ta, br_f (fun w => q (hq.mp w)) ?_⟩), hi, hB.F, fun w => absurd w (by decide), ?_⟩
      · rw [pl]; exact hE
      · intro E A R G n z hG2 hY
        exact ⟨fun _ hK => tY.fin hG2 hY hi (fun w => absurd w q) (fun _ => hK), fun w => absurd w (by decide)⟩
  | f + 1, p, i, W, A, B, hp, H, hP, hi, hB, hl, he, hk => by
    have hN := H.1
    have hp3 : p < 3 := by omega
    obtain ⟨ok, i1, C', B1, hc, k1, k2, k3, k4, k5⟩ := qX1_readPart (R := R) hG H hp3 hi hB hl
    have hge : ¬ (3 : Int32) ≤ nI p := nI_ge (a := p) (b := 3) hp3 (by omega)
    cases ok with
    | false =>
      obtain ⟨Cx, hx⟩ := k3 rfl
      obtain ⟨pl, ta⟩ := hx.pl H k2 hP
      refine ⟨false, i1, W, B1, fun E hE => sX1_faultOfTape_16 hG _ (br_f hge ⟨_, _, hc, sX1_faultOfTape_26 hG _ _ (br_t rfl ⟨ta, ?_⟩)⟩), k2, hx.F, fun w => absurd w (by decide), ?_⟩
      · rw [pl]; exact hE
      · intro E A R G n z hG2 hY
        refine ⟨fun _ hK => ?_, fun w => absurd w (by decide)⟩
        rcases k5 with ⟨a, _, b⟩ | ⟨a, b, c⟩
        · rw [b] at hK; exact tY.key hG2 hY hi hp3 a hK
        · exact tY.part (ok := false) (W' := fun q => if q = p then C' else W q) hG2 hY hp3 a b hl c (fun _ => hK) (fun q hq => if_neg (by omega)) (if_pos rfl) (fun w => absurd w (by decide))
    | true =>
      obtain ⟨hx, hlen, hok⟩ := k4 rfl
      have hT : T i = 22 + p := by
        rcases k5 with ⟨_, a, _⟩ | ⟨a, _, _⟩
        · exact absurd a (by decide)
        · exact a
      obtain ⟨W1, hW1⟩ : ∃ W1 : Nat → List Nat, W1 = fun q => if q = p then C' else W q := ⟨_, rfl⟩
      have e1 : ∀ q, q < p → W1 q = W q := fun q hq => by rw [hW1]; exact if_neg (by omega)
      have e2 : W1 p = C' := by rw [hW1]; exact if_pos rfl
      have ej : jo W1 (p + 1) = jo W p ++ C' := by rw [jo_s, jo_c p e1, e2]
      rw [← ej] at hx
      obtain ⟨ok, i', W', B', r1, r2, r3, r4, r5⟩ := pText hG (P := P) f (p + 1) i1 W1 _ B1 (by omega) (H.e36 (p := p) (v := nI (jo W1 (p + 1)).length)) (by rw [au_o (by decide)]; exact hP) k2 hx (by rw [ej, List.length_append]; omega) (fun q hq => by
          by_cases w : q = p
          · subst w; rw [au_k]
          · rw [au_j w, he q (by omega), jo_c (q + 1) (fun j hj => e1 j (by omega))]) (fun q hq => by
          by_cases w : q = p
          · subst w; rw [e2]; exact hok
          · rw [e1 q (by omega)]; exact hk q (by omega))
      refine ⟨ok, i', W', B', fun E hE => sX1_faultOfTape_16 hG _ (br_f hge ⟨_, _, hc, sX1_faultOfTape_26 hG _ _ (br_f (by decide) ?_)⟩), r2, xF.e36.tr r3, r4, ?_⟩
      · rw [nI_1]; exact r1 E hE
      · intro E A R G n z hG2 hY
        obtain ⟨s1, s2⟩ := r5 E A R G n z hG2 hY
        rcases k5 with ⟨_, a, _⟩ | ⟨a, b, c⟩
        · exact absurd a (by decide)
        · exact ⟨fun w hK => tY.part (ok := true) hG2 hY hp3 a b hl c (fun w => absurd w (by decide)) e1 e2 (fun _ => s1 w hK), fun w hK => tY.part (ok := true) hG2 hY hp3 a b hl c (fun w => absurd w (by decide)) e1 e2 (fun _ => s2 w hK)⟩
end FT
