section SX
variable {A : Nat → Nat → Int32} {R : Nat → Nat → Option Nat} {G : Nat → Nat × Nat} {w n : Nat} {Λ : aLm}
def jSX (w : Nat) (A A' : Nat → Nat → Int32) : Prop := ∀ o, ¬ o = 39 → ¬ o = 10 → ¬ o = w + 3 → A' o = A o
theorem jSX.rf : jSX w A A := fun _ _ _ _ => rfl
theorem jSX.tr {B C : Nat → Nat → Int32} (h : jSX w A B) (k : jSX w B C) : jSX w A C := fun o h1 h2 h3 => (k o h1 h2 h3).trans (h o h1 h2 h3)
theorem jSX.a {k : Nat} {x : Int32} : jSX w A (au A 39 k x) := fun _ h _ _ => au_o h
theorem jX.s {B : Nat → Nat → Int32} (h : jX 1 w A B) : jSX w A B := fun o _ h2 h3 => h o h2 h3
theorem jSX.v {B : Nat → Nat → Int32} (h : jSX w A B) (h80 : 80 ≤ w) : vX B 1 = vX A 1 := vX_go fun k hk => h _ (by omega) (by omega) (by omega)
theorem jSX.b {B : Nat → Nat → Int32} (h : jSX w A B) (h80 : 80 ≤ w) (hB : bnA 1 w n Λ A R G) : bnA 1 w n Λ B R G := by
  refine ⟨hB.1.go (h _ (by omega) (by omega) (by omega)) (h _ (by omega) (by omega) (by omega)), ?_, ?_, ?_⟩
  · rw [h 1 (by omega) (by omega) (by omega)]; exact hB.2.1
  · rw [h.v h80]; exact hB.2.2.1
  · intro c hc q
    rw [h 1 (by omega) (by omega) (by omega)] at q
    rw [h 7 (by omega) (by omega) (by omega)]
    exact hB.2.2.2 c hc q
/-- the rows behind case c are told -/
def rwX (who : Nat → Int32) (o c : Nat) (B : Nat → Nat → Int32) : Prop := ∀ d, c < d → d ≤ 8 → ∀ j, j < 64 → B o (64 * d + j) = mostV who (8 - d) j
theorem lX4_p {E : aR} (hG : aGS G) {c m : Nat} {who : Int32} (hc : c < 8) (hm : m < 64) (hE : ∀ d x, aw tX4_fillMost E 61 [some (.ref 0), some (.int (nI 64)), some (.int (nI c)), some (.int who), some (.int (nI (m + 1))), d, x] [] (au A 39 (64 * c + m) (stepM who (fun j => A 39 (64 * (c + 1) + j)) m 6), R, G)) :
    ∀ i p, p + i = 6 → aw tX4_fillMost E 79 [some (.ref 0), some (.int (nI 64)), some (.int (nI c)), some (.int who), some (.int (nI m)), some (.int (stepM who (fun j => A 39 (64 * (c + 1) + j)) m p)), some (.int (nI p))] [] (A, R, G)
  | 0, p, hp => by
    have hp2 : p = 6 := by omega
    subst hp2
    refine sX4_fillMost_79 hG _ _ _ _ _ _ ⟨fun _ => ?_, fun h => absurd (nI_le (a := 6) (b := 6) (by omega) (by omega)) h⟩
    rw [shl6 c (by omega), nI_add, nI_clamp (by omega), nI_1]
    exact ⟨vp_in_nI (by omega) (by omega), hE _ _⟩
  | i + 1, p, hp => by
    have ih := lX4_p hG hc hm hE i (p + 1) (by omega)
    unfold stepM at ih
    refine sX4_fillMost_79 hG _ _ _ _ _ _ ⟨fun h => absurd h (nI_ge (a := p) (b := 6) (by omega) (by omega)), fun _ => ⟨fun h => ?_, fun h => ?_⟩⟩
    · rw [if_neg (fun q => (bit_an (by omega)).mpr q h)] at ih
      rw [nI_1]
      exact ih
    · rw [if_pos ((bit_an (by omega)).mp h)] at ih
      have hlt := setb_lt m hm p (by omega)
      unfold mbX
      rw [setb_nI m hm p (by omega), nI_1, shl6 (c + 1) (by omega), nI_add, nI_clamp (by omega), nI_1]
      exact ⟨vp_in_nI (by omega) (by omega), ih⟩
theorem lX4_m {E : aR} (hG : aGS G) {c : Nat} {who : Nat → Int32} (hc : c < 8) (hE : ∀ B' d x y, jSX w A B' → rwX who 39 (c - 1) B' ∨ c = 0 → rwX who 39 c B' → (∀ j, j < 64 → B' 39 (64 * c + j) = mostV who (8 - c) j) → aw tX4_fillMost E 147 [some (.ref 0), some (.int (nI 64)), some (.int (nI c)), d, x, y, none] [] (B', R, G)) :
    ∀ (i m : Nat) (B : Nat → Nat → Int32) (d x : Option Value), m + i = 64 → jSX w A B → rwX who 39 c B → (∀ j, j < m → B 39 (64 * c + j) = mostV who (8 - c) j) → aw tX4_fillMost E 61 [some (.ref 0), some (.int (nI 64)), some (.int (nI c)), some (.int (who c)), some (.int (nI m)), d, x] [] (B, R, G)
  | 0, m, B, d, x, hi, hj, hr, hd => by
    have hm : m = 64 := by omega
    subst hm
    refine sX4_fillMost_61 hG _ _ _ _ _ _ ⟨fun _ => hE B _ _ _ hj ?_ hr hd, fun h => absurd (nI_le (a := 64) (b := 64) (by omega) (by omega)) h⟩
    by_cases h0 : c = 0
    · exact Or.inr h0
    · refine Or.inl fun e h1 h2 j hj => ?_
      by_cases h3 : e = c
      · subst h3; exact hd j hj
      · exact hr e (by omega) h2 j hj
  | i + 1, m, B, d, x, hi, hj, hr, hd => by
    refine sX4_fillMost_61 hG _ _ _ _ _ _ ⟨fun h => absurd h (nI_ge (a := m) (b := 64) (by omega) (by omega)), fun _ => ?_⟩
    have key : stepM (who c) (fun j => B 39 (64 * (c + 1) + j)) m 6 = mostV who (8 - c) m := by
      rw [show 8 - c = (7 - c) + 1 by omega]
      conv => rhs; unfold mostV
      rw [show 7 - (7 - c) = c by omega]
      refine stepM_c (by omega) (fun j hj => ?_) 6 (by omega)
      show B 39 (64 * (c + 1) + j) = _
      rw [hr (c + 1) (by omega) (by omega) j hj, show 8 - (c + 1) = 7 - c by omega]
    have h79 := lX4_p (A := B) (R := R) (E := E) hG hc (m := m) (by omega) (who := who c) (fun d x => ?_) 6 0 (by omega)
    · unfold mbX
      rw [nI_1, shl6 (c + 1) (by omega), nI_add, nI_clamp (by omega)]
      exact ⟨vp_in_nI (by omega) (by omega), h79⟩
    · refine lX4_m hG hc hE i (m + 1) _ d x (by omega) (hj.tr jSX.a) (fun e h1 h2 j hj => ?_) (fun j hj => ?_)
      · rw [au_j (by omega)]; exact hr e h1 h2 j hj
      · by_cases e : j = m
        · subst e; rw [au_k]; exact key
        · rw [au_j (by omega)]; exact hd j (by omega)
theorem nI_dec : ∀ k, k < 10 → nI (k + 1) + (-1) = nI k := by decide +kernel
theorem lX4_c {E : aR} (hG : aGS G) (hn6 : n ≤ 6) (h80 : 80 ≤ w) (hB : bnA 1 w n Λ A R G) (hE : ∀ B, jSX w A B → (∀ d, d ≤ 8 → ∀ j, j < 64 → B 39 (64 * d + j) = mostV (whoC Λ n (vX A 1)) (8 - d) j) → E none (B, R, G)) :
    ∀ (c : Nat) (B : Nat → Nat → Int32) (d1 d2 d3 d4 : Option Value), c < 8 → jSX w A B → rwX (whoC Λ n (vX A 1)) 39 c B → aw tX4_fillMost E 30 [some (.ref 0), some (.int (nI 64)), some (.int (nI c)), d1, d2, d3, d4] [] (B, R, G) := by
  intro c
  induction c with
  | zero =>
    intro B d1 d2 d3 d4 hc hj hr
    have hBB := hj.b h80 hB
    have fin : ∀ C d x, jSX w A C → rwX (whoC Λ n (vX A 1)) 39 0 C → aw tX4_fillMost E 61 [some (.ref 0), some (.int (nI 64)), some (.int (nI 0)), some (.int (whoC Λ n (vX A 1) 0)), some (.int (nI 0)), d, x] [] (C, R, G) := fun C d x hjc hrc =>
      lX4_m (w := w) hG (who := whoC Λ n (vX A 1)) hc (fun B' d x y h1 _ h3 h4 => sX4_fillMost_147 _ _ _ _ _ _ (sX4_fillMost_150 _ _ _ _ _ _ (sX4_fillMost_30 hG _ _ _ _ _ _ ⟨fun _ => hE B' (hjc.tr h1) (fun d hd j hj => by
        by_cases e : d = 0
        · subst e; exact h4 j hj
        · exact h3 d (by omega) hd j hj), fun h => absurd (by decide) h⟩))) 64 0 C d x (by omega) jSX.rf hrc (fun j hj => absurd hj (by omega))
    refine sX4_fillMost_30 hG _ _ _ _ _ _ ⟨fun h => absurd h (by decide), fun _ => ⟨fun ht => ?_, fun ht => ?_⟩⟩
    · rw [thX_bt (by omega)] at ht
      obtain ⟨B1, hj1, hC⟩ := qX0_whoCan (gB1 hG) hBB.1 hBB.2.1 hBB.2.2.1.1 hn6 hc ht
      have h5 := (bt_v5 hBB.2.2.2 hc).mp ht
      rw [hj.v h80] at h5 hC
      have hw : whoC Λ n (vX A 1) 0 = whoV Λ n (vX A 1) 0 := if_neg h5
      refine ⟨_, _, hC, sX4_fillMost_53 _ _ _ _ _ _ _ ?_⟩
      rw [← hw]
      exact fin B1 _ _ (hj.tr hj1.s) (fun d h1 h2 j hjj => by rw [hj1 39 (by omega) (by omega)]; exact hr d h1 h2 j hjj)
    · rw [thX_bt (by omega), bt_v5 hBB.2.2.2 hc, hj.v h80] at ht
      have hw : whoC Λ n (vX A 1) 0 = 0 := if_pos (Classical.byContradiction ht)
      have := fin B none none hj hr
      rw [hw] at this
      exact this
  | succ c ih =>
    intro B d1 d2 d3 d4 hc hj hr
    have hBB := hj.b h80 hB
    have fin : ∀ C d x, jSX w A C → rwX (whoC Λ n (vX A 1)) 39 (c + 1) C → aw tX4_fillMost E 61 [some (.ref 0), some (.int (nI 64)), some (.int (nI (c + 1))), some (.int (whoC Λ n (vX A 1) (c + 1))), some (.int (nI 0)), d, x] [] (C, R, G) := fun C d x hjc hrc =>
      lX4_m (w := w) hG (who := whoC Λ n (vX A 1)) hc (fun B' d x y h1 h2 _ _ => sX4_fillMost_147 _ _ _ _ _ _ (sX4_fillMost_150 _ _ _ _ _ _ (by
        rw [nI_dec c (by omega)]
        rcases h2 with h2 | h2
        · exact ih B' _ _ _ _ (by omega) (hjc.tr h1) h2
        · omega))) 64 0 C d x (by omega) jSX.rf hrc (fun j hj => absurd hj (by omega))
    refine sX4_fillMost_30 hG _ _ _ _ _ _ ⟨fun h => absurd h (Int32.not_lt.mpr (nI_le (a := 0) (b := c + 1) (by omega) (by omega))), fun _ => ⟨fun ht => ?_, fun ht => ?_⟩⟩
    · rw [thX_bt (by omega)] at ht
      obtain ⟨B1, hj1, hC⟩ := qX0_whoCan (gB1 hG) hBB.1 hBB.2.1 hBB.2.2.1.1 hn6 hc ht
      have h5 := (bt_v5 hBB.2.2.2 hc).mp ht
      rw [hj.v h80] at h5 hC
      have hw : whoC Λ n (vX A 1) (c + 1) = whoV Λ n (vX A 1) (c + 1) := if_neg h5
      refine ⟨_, _, hC, sX4_fillMost_53 _ _ _ _ _ _ _ ?_⟩
      rw [← hw]
      exact fin B1 _ _ (hj.tr hj1.s) (fun d h1 h2 j hjj => by rw [hj1 39 (by omega) (by omega)]; exact hr d h1 h2 j hjj)
    · rw [thX_bt (by omega), bt_v5 hBB.2.2.2 hc, hj.v h80] at ht
      have hw : whoC Λ n (vX A 1) (c + 1) = 0 := if_pos (Classical.byContradiction ht)
      have := fin B none none hj hr
      rw [hw] at this
      exact this
end SX
