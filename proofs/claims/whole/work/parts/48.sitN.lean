section SN
variable {A : Nat → Nat → Int32} {R : Nat → Nat → Option Nat} {G : Nat → Nat × Nat} {n : Nat} {Λ : aLm}
theorem ix0 {c m : Nat} : 64 * nI c + nI m = nI (64 * c + m) := by
  rw [show (64 : Int32) = nI 64 from rfl, nI_mulc, nI_add]
theorem ix1 {c m : Nat} : 64 * nI c + 64 + nI m = nI (64 * (c + 1) + m) := by
  rw [show (64 : Int32) = nI 64 from rfl, nI_mulc, nI_add, nI_add, show 64 * c + 64 = 64 * (c + 1) by omega]
theorem b_tst0 (x : Int32) {p : Nat} (hp : p < 32) : ((x >>> (nI p &&& 31)) &&& 1) = 0 ↔ ¬ bt x p = true := by
  rw [b_tst x hp]
  by_cases h : bt x p = true
  · rw [if_pos h]; exact ⟨fun q => absurd q (by decide), fun q => absurd h q⟩
  · rw [if_neg h]; exact ⟨fun _ => h, fun _ => rfl⟩
theorem lX5_p {E : aR} (hG : aGS G) {c m : Nat} {who : Int32} (hw : A 68 c = who) (hc : c < 8) (hm : m < 64) (hE : ∀ d x, aw tX5_tellsSittings E 104 [some (.ref 48), some (.int (nI c)), some (.int (nI (m + 1))), d, x, none] [] (au A 67 (64 * c + m) (stepM who (fun j => A 67 (64 * (c + 1) + j)) m 6), R, G)) :
    ∀ i p, p + i = 6 → ∀ d, aw tX5_tellsSittings E 128 [some (.ref 48), some (.int (nI c)), some (.int (nI m)), some (.int (stepM who (fun j => A 67 (64 * (c + 1) + j)) m p)), some (.int (nI p)), d] [] (A, R, G)
  | 0, p, hp, d => by
    have hp2 : p = 6 := by omega
    subst hp2
    refine sX5_tellsSittings_128 hG _ _ _ _ _ ⟨fun _ => ?_, fun h => absurd (nI_le (a := 6) (b := 6) (by omega) (by omega)) h⟩
    rw [ix0, nI_clamp (by omega), nI_1]
    exact ⟨vp_in_nI (by omega) (by omega), hE _ _⟩
  | i + 1, p, hp, d => by
    have ih := lX5_p hG hw hc hm hE i (p + 1) (by omega)
    unfold stepM at ih
    have hlt := setb_lt m hm p (by omega)
    refine sX5_tellsSittings_128 hG _ _ _ _ _ ⟨fun h => absurd h (nI_ge (a := p) (b := 6) (by omega) (by omega)), fun _ => ⟨vp_in_nI (by omega) (by omega), ?_⟩⟩
    rw [setb_nI m hm p (by omega), ix1, nI_clamp (by omega), nI_clamp (by omega), hw, nI_1, b_tst1 _ (by omega), b_tst0 _ (by omega)]
    refine ⟨fun h1 => ⟨fun h2 => ⟨vp_in_nI (by omega) (by omega), fun h3 => ?_, fun h3 => ?_⟩, fun h2 => ?_⟩, fun h1 => ?_⟩
    · rw [if_pos ⟨h1, h2⟩, if_neg (Int32.not_lt.mpr h3)] at ih
      exact ih _
    · rw [if_pos ⟨h1, h2⟩, if_pos (Int32.not_le.mp h3)] at ih
      exact ih _
    · rw [if_neg (fun q => h2 q.2)] at ih
      exact ih _
    · rw [if_neg (fun q => h1 q.1)] at ih
      exact ih _
theorem lX5_m {E : aR} (hG : aGS G) {c : Nat} {who : Nat → Int32} (hc : c < 8) (hE : ∀ B' x d y, jSM A B' → B' 68 = A 68 → rwX who 67 (c - 1) B' ∨ c = 0 → rwX who 67 c B' → (∀ j, j < 64 → B' 67 (64 * c + j) = mostV who (8 - c) j) → aw tX5_tellsSittings E 219 [some (.ref 48), some (.int (nI c)), x, d, y, none] [] (B', R, G)) :
    ∀ (i m : Nat) (B : Nat → Nat → Int32) (d x y : Option Value), m + i = 64 → jSM A B → B 68 = A 68 → A 68 c = who c → rwX who 67 c B → (∀ j, j < m → B 67 (64 * c + j) = mostV who (8 - c) j) → aw tX5_tellsSittings E 104 [some (.ref 48), some (.int (nI c)), some (.int (nI m)), d, x, y] [] (B, R, G)
  | 0, m, B, d, x, y, hi, hj, h68, hw, hr, hd => by
    have hm : m = 64 := by omega
    subst hm
    refine sX5_tellsSittings_104 hG _ _ _ _ _ ⟨fun _ => hE B _ _ _ hj h68 ?_ hr hd, fun h => absurd (nI_le (a := 64) (b := 64) (by omega) (by omega)) h⟩
    by_cases h0 : c = 0
    · exact Or.inr h0
    · refine Or.inl fun e h1 h2 j hj => ?_
      by_cases h3 : e = c
      · subst h3; exact hd j hj
      · exact hr e (by omega) h2 j hj
  | i + 1, m, B, d, x, y, hi, hj, h68, hw, hr, hd => by
    refine sX5_tellsSittings_104 hG _ _ _ _ _ ⟨fun h => absurd h (nI_ge (a := m) (b := 64) (by omega) (by omega)), fun _ => ?_⟩
    have key : stepM (who c) (fun j => B 67 (64 * (c + 1) + j)) m 6 = mostV who (8 - c) m := by
      rw [show 8 - c = (7 - c) + 1 by omega]
      conv => rhs; unfold mostV
      rw [show 7 - (7 - c) = c by omega]
      refine stepM_c (by omega) (fun j hj => ?_) 6 (by omega)
      show B 67 (64 * (c + 1) + j) = _
      rw [hr (c + 1) (by omega) (by omega) j hj, show 8 - (c + 1) = 7 - c by omega]
    have h79 := lX5_p (A := B) (R := R) (E := E) hG (who := who c) (by rw [h68]; exact hw) hc (m := m) (by omega) (fun d x => ?_) 6 0 (by omega)
    · rw [ix1, nI_clamp (by omega)]
      exact ⟨vp_in_nI (by omega) (by omega), h79 _⟩
    · refine lX5_m hG hc hE i (m + 1) _ d x none (by omega) (hj.tr jSM.a7) (by rw [au_o (by decide)]; exact h68) hw (fun e h1 h2 j hj => ?_) (fun j hj => ?_)
      · rw [au_j (by omega)]; exact hr e h1 h2 j hj
      · by_cases e : j = m
        · subst e; rw [au_k]; exact key
        · rw [au_j (by omega)]; exact hd j (by omega)
theorem lX5_c {E : aR} {who : Nat → Int32} (hG : aGS G) (hw : ∀ c, c < 8 → A 68 c = who c) (hE : ∀ B, jSM A B → B 68 = A 68 → rwA who 67 B → E none (B, R, G)) :
    ∀ (c : Nat) (B : Nat → Nat → Int32) (d1 d2 d3 d4 : Option Value), c < 8 → jSM A B → B 68 = A 68 → rwX who 67 c B → aw tX5_tellsSittings E 98 [some (.ref 48), some (.int (nI c)), d1, d2, d3, d4] [] (B, R, G) := by
  intro c
  induction c with
  | zero =>
    intro B d1 d2 d3 d4 hc hj h68 hr
    refine sX5_tellsSittings_98 _ _ _ _ _ ⟨fun h => absurd h (by decide), fun _ => ?_⟩
    refine lX5_m (A := B) hG hc (fun B' x d y h1 h2 _ h3 h4 => sX5_tellsSittings_219 _ _ _ _ _ (sX5_tellsSittings_222 _ _ _ _ _ (sX5_tellsSittings_98 _ _ _ _ _ ⟨fun _ => hE B' (hj.tr h1) (h2.trans h68) (fun d hd j hj => by
        by_cases e : d = 0
        · subst e; exact h4 j hj
        · exact h3 d (by omega) hd j hj), fun h => absurd (by decide) h⟩))) 64 0 B _ _ _ (by omega) jSM.rf rfl (by rw [h68]; exact hw 0 hc) hr (fun j hj => absurd hj (by omega))
  | succ c ih =>
    intro B d1 d2 d3 d4 hc hj h68 hr
    refine sX5_tellsSittings_98 _ _ _ _ _ ⟨fun h => absurd h (Int32.not_lt.mpr (nI_le (a := 0) (b := c + 1) (by omega) (by omega))), fun _ => ?_⟩
    refine lX5_m (A := B) hG hc (fun B' x d y h1 h2 h3 _ _ => sX5_tellsSittings_219 _ _ _ _ _ (sX5_tellsSittings_222 _ _ _ _ _ (by
        rw [nI_dec c (by omega)]
        rcases h3 with h3 | h3
        · exact ih B' _ _ _ _ (by omega) (hj.tr h1) (h2.trans h68) h3
        · omega))) 64 0 B _ _ _ (by omega) jSM.rf rfl (by rw [h68]; exact hw (c + 1) hc) hr (fun j hj => absurd hj (by omega))
theorem lX5_0 {E : aR} (hG : aGS G) (hE : ∀ B, jSM A B → B 68 = A 68 → (∀ j, j < 64 → B 67 (64 * 8 + j) = 0) → aw tX5_tellsSittings E 98 [some (.ref 48), some (.int (nI 7)), none, none, none, none] [] (B, R, G)) :
    ∀ (i m : Nat) (B : Nat → Nat → Int32) (d1 d2 d3 d4 : Option Value), m + i = 64 → jSM A B → B 68 = A 68 → (∀ j, j < m → B 67 (64 * 8 + j) = 0) → aw tX5_tellsSittings E 72 [some (.ref 48), some (.int (nI m)), d1, d2, d3, d4] [] (B, R, G)
  | 0, m, B, d1, d2, d3, d4, hi, hj, h68, hd => by
    have hm : m = 64 := by omega
    subst hm
    exact sX5_tellsSittings_72 hG _ _ _ _ _ ⟨fun _ => hE B hj h68 hd, fun h => absurd (nI_le (a := 64) (b := 64) (by omega) (by omega)) h⟩
  | i + 1, m, B, d1, d2, d3, d4, hi, hj, h68, hd => by
    refine sX5_tellsSittings_72 hG _ _ _ _ _ ⟨fun h => absurd h (nI_ge (a := m) (b := 64) (by omega) (by omega)), fun _ => ?_⟩
    simp (disch := omega) only [show (512 : Int32) = nI 512 from rfl, nI_add, nI_clamp, nI_1]
    refine ⟨vp_in_nI (by omega) (by omega), lX5_0 hG hE i (m + 1) _ _ _ _ _ (by omega) (hj.tr jSM.a7) (by rw [au_o (by decide)]; exact h68) (fun j hj2 => ?_)⟩
    by_cases e : j = m
    · subst e; exact au_k
    · rw [au_j (by omega)]; exact hd j (by omega)
theorem qX5_tellsSittings (hG : aGS G) (hn6 : n ≤ 6) (hn : A 48 0 = nI n) (hL : LMA A Λ) : ∃ A', (jSM A A' ∧ rwA (whoC Λ n (vM A)) 67 A' ∧ ∀ c, c < 8 → A' 68 c = whoC Λ n (vM A) c) ∧ CX5_tellsSittings [.ref 48] (A, R, G) none (A', R, G) := by
  refine aC_exA vX5_tellsSittings (Nat.le_of_ble_eq_true rfl) fun E hE => ?_
  refine sX5_tellsSittings_0 (lX5_w hG hn6 hn hL (fun B hj hw => ?_) 8 0 A _ _ _ _ (by omega) jSM.rf (fun e he => absurd he (by omega)))
  refine lX5_0 hG (fun C hj2 h68 h8 => ?_) 64 0 B _ _ _ _ (by omega) jSM.rf rfl (fun j hj => absurd hj (by omega))
  refine lX5_c (A := C) (who := whoC Λ n (vM A)) hG (fun c hc => by rw [h68]; exact hw c hc) (fun D hj3 hd68 hr => hE D ⟨(hj.tr hj2).tr hj3, hr, fun c hc => by rw [hd68, h68]; exact hw c hc⟩) 7 C _ _ _ _ (by omega) jSM.rf rfl (fun d h1 h2 j hj4 => ?_)
  have e : d = 8 := by omega
  subst e
  rw [h8 j hj4]
  rfl
end SN
