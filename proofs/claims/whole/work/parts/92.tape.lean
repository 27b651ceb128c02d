/-! the tape, from its bytes on -/
section TP
variable {E : aR} {A B C D : Nat → Nat → Int32} {R : Nat → Nat → Option Nat} {G : Nat → Nat × Nat} {z n N i p : Nat} {T : Nat → Nat} {W W' : Nat → List Nat}
/-- the model, when the text is good or not -/
theorem qX5_textNo (hG : aGS G) (H : yH A n z T N) (h : ∀ E : aR, tK0 E A R G n z i → tY E A R G n z (fun _ => []) 0 0) : ∃ F, (∃ D v, mF A n D ∧ F = au (au D 55 (4 * n + 3) v) 48 8 0) ∧ CX5_text [.ref 48] (A, R, G) (some (.int (-100 - nI (tkPl (A 53) z i)))) (F, R, G) := by
  have hn := H.1
  refine aC_exA vX5_text (Nat.le_of_ble_eq_true rfl) fun E hE => sX5_text_0 hG (br_f ?_ (h E (fun D v hD => hE _ ⟨D, v, hD, rfl⟩) _ ⟨?_, trivial, au_k, ?_, fun q hq => absurd hq (by omega)⟩))
  · rw [H.2.2.2.1, show (6 : Int32) = nI 6 from rfl, nI_eq (by omega) (by omega)]; omega
  · refine ⟨fun o a b c d => ?_, fun k a b c d => ?_, fun k hk => ?_, fun k hk => ?_⟩
    · rw [au_o a, au_o a]
    · rw [au_j d, au_j (by omega)]
    · rw [aua (by decide), aua (by decide)]
    · rw [aua (by decide), aua (by decide)]
  · rw [au_j (by decide), au_k]; rfl
theorem qX5_textYes (hG : aGS G) (H : yH A n z T N) (h : ∀ E : aR, tK1 E A R G n z W i → tY E A R G n z (fun _ => []) 0 0) : ∃ F, (∃ D, mP A n z W 3 (i + 1) D ∧ F = au (au (au D 55 (4 * n + 3) (nI (jo W 3).length)) 48 8 0) 48 11 (nI (n + 1))) ∧ CX5_text [.ref 48] (A, R, G) (some (.int (nI n))) (F, R, G) := by
  have hn := H.1
  refine aC_exA vX5_text (Nat.le_of_ble_eq_true rfl) fun E hE => sX5_text_0 hG (br_f ?_ (h E (fun D hD => hE _ ⟨D, hD, rfl⟩) _ ⟨?_, trivial, au_k, ?_, fun q hq => absurd hq (by omega)⟩))
  · rw [H.2.2.2.1, show (6 : Int32) = nI 6 from rfl, nI_eq (by omega) (by omega)]; omega
  · refine ⟨fun o a b c d => ?_, fun k a b c d => ?_, fun k hk => ?_, fun k hk => ?_⟩
    · rw [au_o a, au_o a]
    · rw [au_j d, au_j (by omega)]
    · rw [aua (by decide), aua (by decide)]
    · rw [aua (by decide), aua (by decide)]
  · rw [au_j (by decide), au_k]; rfl
theorem yH.of {t : Nat → Int32} (hT : ∀ i, tkT t z i = tX (T i) ∧ okT (T i)) (ht : ∀ q, q < z → t q = A 53 q) (hn : n < 6) (hz : z ≤ 160) (h8 : A 48 8 = nI z) (h11 : A 48 11 = nI n) (hw : sCo A) (hN : N ≤ 160) : yH A n z T N :=
  ⟨hn, hz, h8, h11, hw, hN, fun i _ => by rw [← tkT_c ht i]; exact hT i⟩
/-- faultOfTape, and what the model's text does at the same tape -/
theorem qX1_faultOfTape (hG : aGS G) (h5 : A 31 5 = nI z) (hz : z ≤ 160) : ∃ (ok : Bool) (i' : Nat) (W' : Nat → List Nat) (B' : Nat → Nat → Int32), CX1_faultOfTape [.ref 31] (A, R, G) (some (.int (if ok then -1 else nI (tkPl (A 32) z i')))) (B', R, G) ∧ xF A B' ∧ (ok = true → xW B' W') ∧
    ∀ (A2 : Nat → Nat → Int32) (R2 : Nat → Nat → Option Nat) (G2 : Nat → Nat × Nat) (n : Nat), aGS G2 → (∀ q, q < z → A 32 q = A2 53 q) → n < 6 → A2 48 8 = nI z → A2 48 11 = nI n → sCo A2 →
      (ok = false → ∃ F, (∃ D v, mF A2 n D ∧ F = au (au D 55 (4 * n + 3) v) 48 8 0) ∧ CX5_text [.ref 48] (A2, R2, G2) (some (.int (-100 - nI (tkPl (A 32) z i')))) (F, R2, G2)) ∧
      (ok = true → ∃ F, (∃ D, mP A2 n z W' 3 (i' + 1) D ∧ F = au (au (au D 55 (4 * n + 3) (nI (jo W' 3).length)) 48 8 0) 48 11 (nI (n + 1))) ∧ CX5_text [.ref 48] (A2, R2, G2) (some (.int (nI n))) (F, R2, G2)) := by
  obtain ⟨B, ⟨N, hN⟩, hs⟩ := qX1_scan (A := A) (R := R) hG h5 hz
  obtain ⟨T, hT, hX, hTN⟩ := xH.of hN
  have hB : ∀ o, ¬ o = 33 → ¬ o = 34 → B o = A o := hN.2.1.1
  obtain ⟨B0, hB0⟩ : ∃ B0, B0 = au (au B 31 6 0) 31 7 0 := ⟨_, rfl⟩
  have h33 : B0 33 = B 33 := by rw [hB0, au_o (by decide), au_o (by decide)]
  have h34 : B0 34 = B 34 := by rw [hB0, au_o (by decide), au_o (by decide)]
  have hX0 : xH B0 T N := ⟨hX.1, by rw [h33]; exact hX.2.1, hX.2.2⟩
  have hP : ∀ i, i ≤ N → B0 34 i = nI (tkPl (A 32) z i) := fun i hi => by
    rw [h34]
    by_cases q : i < N
    · exact (hN.2.1.2 i q).2.1
    · have : i = N := by omega
      rw [this]; exact hN.2.2.2.1
  have hxB : xB B0 B0 (jo (fun _ => []) 0) 0 := ⟨fun _ _ _ => rfl, fun _ _ _ => rfl, by rw [hB0, au_j (by decide), au_k]; rfl, by rw [hB0, au_k]; rfl, trivial⟩
  obtain ⟨ok, i', W', B', r1, r2, r3, r4, r5⟩ := pText (R := R) hG (P := tkPl (A 32) z) 3 0 0 (fun _ => []) B0 B0 rfl hX0 hP (Nat.zero_le _) hxB (Nat.zero_le _) (fun q hq => absurd hq (by omega)) (fun q hq => absurd hq (by omega))
  refine ⟨ok, i', W', B', aC_of (Nat.le_of_ble_eq_true rfl) fun E hE => sX1_faultOfTape_0 hG ⟨_, hs, sX1_faultOfTape_4 hG _ ?_⟩, ⟨fun o a b c d e => ?_, fun k a b => ?_⟩, r4, ?_⟩
  · rw [← hB0]; exact r1 E hE
  · rw [r3.1 o a b c d e, hB0, au_o a, au_o a]; exact hB o b c
  · rw [r3.2 k a b, hB0, au_j b, au_j a, hB 31 (by decide) (by decide)]
  · intro A2 R2 G2 n hG2 ht hn h8 h11 hw
    have hY := yH.of (N := N) hT ht hn hz h8 h11 hw hX.1
    refine ⟨fun w => ?_, fun w => ?_⟩
    · rw [tkPl_c ht]
      exact qX5_textNo hG2 hY fun E hK => (r5 E A2 R2 G2 n z hG2 hY).1 w hK
    · exact qX5_textYes hG2 hY fun E hK => (r5 E A2 R2 G2 n z hG2 hY).2 w hK
/-- behind a bad text -/
theorem TMt.go54 {A B : Nat → Nat → Int32} {n : Nat} (h : mF A n B) {k : Nat} (hk : k < n) {W : Nat → List Nat} (hM : TMt (A 54) (A 55) k W) : TMt (B 54) (B 55) k W := by
  intro part hp
  obtain ⟨q, h1, h2, h3, h4, h5⟩ := hM part hp
  refine ⟨q, ?_, ?_, h3, h4, rowW_c _ _ (fun j a b => h.2.2.1 _ (by omega)) h5⟩
  · rw [h.2.2.2 _ (by omega)]; exact h1
  · rw [h.2.2.2 _ (by omega)]; exact h2
theorem rowW_app {f F : Nat → Int32} {b : List Nat} : ∀ (a : List Nat) (i : Nat), rowW f F i (a ++ b) → rowW f F i a ∧ rowW f F (i + a.length) b
  | [], i, h => ⟨trivial, h⟩
  | w :: a, i, h => by
    obtain ⟨h1, h2⟩ := rowW_app a (i + 1) h.2
    refine ⟨⟨h.1, h1⟩, ?_⟩
    rw [List.length_cons, show i + (a.length + 1) = i + 1 + a.length by omega]
    exact h2
theorem jo_le {W : Nat → List Nat} : ∀ q, (jo W (q + 1)).length = (jo W q).length + (W q).length := fun q => by rw [jo_s, List.length_append]
theorem jo_le3 {W : Nat → List Nat} {q : Nat} (h : q < 3) : (jo W q).length + (W q).length ≤ (jo W 3).length := by
  have e0 : (jo W 1).length = (jo W 0).length + (W 0).length := jo_le 0
  have e1 : (jo W 2).length = (jo W 1).length + (W 1).length := jo_le 1
  have e2 : (jo W 3).length = (jo W 2).length + (W 2).length := jo_le 2
  have : q = 0 ∨ q = 1 ∨ q = 2 := by omega
  rcases this with rfl | rfl | rfl <;> omega
theorem rowW_jo {f F : Nat → Int32} {W : Nat → List Nat} (h : rowW f F 0 (jo W 3)) {q : Nat} (hq : q < 3) : rowW f F (jo W q).length (W q) := by
  have h2 := (rowW_app (jo W 2) 0 h).1
  have h1 := (rowW_app (jo W 1) 0 h2).1
  have : q = 0 ∨ q = 1 ∨ q = 2 := by omega
  rcases this with rfl | rfl | rfl
  · have := (rowW_app (jo W 0) 0 h1).2
    rw [Nat.zero_add] at this; exact this
  · have := (rowW_app (jo W 1) 0 h2).2
    rw [Nat.zero_add] at this; exact this
  · have := (rowW_app (jo W 2) 0 h).2
    rw [Nat.zero_add] at this; exact this
theorem TMt.of (h : mP A n z W 3 i D) (hl : (jo W 3).length ≤ 160) (hk : ∀ q, q < 3 → okW 0 (W q)) : TMt (D 54) ((au D 55 (4 * n + 3) (nI (jo W 3).length)) 55) n W := by
  intro part hp
  obtain ⟨h1, h2, h3, h4, h5⟩ := h
  have e := jo_le (W := W)
  have hlen := jo_le3 (W := W) hp
  refine ⟨(jo W part).length, ?_, ?_, by omega, hk part hp, rowW_jo h2 hp⟩
  · rw [au_j (by omega)]; exact h5 part hp
  · rw [← e part]
    by_cases q : part = 2
    · subst q; rw [show 4 * n + 2 + 1 = 4 * n + 3 by omega, au_k]
    · rw [au_j (by omega), show 4 * n + part + 1 = 4 * n + (part + 1) by omega]; exact h5 (part + 1) (by omega)
theorem TXt.of {B : Nat → Nat → Int32} (h : xW B W) {F S : Nat → Int32} (hF : ∀ j, j < (jo W 3).length → F j = B 35 j) (hS : ∀ q, q < 3 → S q = B 36 q) : TXt F S (jo W 3).length W := by
  obtain ⟨h1, h2, h3, h4, h5⟩ := h
  refine ⟨by omega, fun part hp => ⟨(jo W part).length, fun w => by subst w; rfl, fun w => ?_, ?_, jo_le3 hp, h5 part hp, rowW_c _ _ (fun j a b => hF j (Nat.lt_of_lt_of_le b (jo_le3 hp))) (rowW_jo h3 hp)⟩⟩
  · obtain ⟨q, rfl⟩ : ∃ q, part = q + 1 := ⟨part - 1, by omega⟩
    rw [Nat.add_sub_cancel, hS q (by omega)]; exact h4 q (by omega)
  · rw [hS part hp, h4 part hp, jo_le]
end TP
