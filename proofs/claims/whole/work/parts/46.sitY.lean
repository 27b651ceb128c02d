section SY
variable {A : Nat → Nat → Int32} {R : Nat → Nat → Option Nat} {G : Nat → Nat × Nat} {w n : Nat} {Λ : aLm}
/-- all rows are told at o -/
def rwA (who : Nat → Int32) (o : Nat) (B : Nat → Nat → Int32) : Prop := ∀ d, d ≤ 8 → ∀ j, j < 64 → B o (64 * d + j) = mostV who (8 - d) j
theorem lX4_0 {E : aR} (hG : aGS G) (hE : ∀ B, jSX w A B → (∀ j, j < 64 → B 39 (64 * 8 + j) = 0) → aw tX4_fillMost E 30 [some (.ref 0), some (.int (nI 64)), some (.int (nI 7)), none, none, none, none] [] (B, R, G)) :
    ∀ (i m : Nat) (B : Nat → Nat → Int32) (d1 d2 d3 d4 : Option Value), m + i = 64 → jSX w A B → (∀ j, j < m → B 39 (64 * 8 + j) = 0) → aw tX4_fillMost E 5 [some (.ref 0), some (.int (nI 64)), some (.int (nI m)), d1, d2, d3, d4] [] (B, R, G)
  | 0, m, B, d1, d2, d3, d4, hi, hj, hd => by
    have hm : m = 64 := by omega
    subst hm
    exact sX4_fillMost_5 hG _ _ _ _ _ _ ⟨fun _ => hE B hj hd, fun h => absurd (nI_le (a := 64) (b := 64) (by omega) (by omega)) h⟩
  | i + 1, m, B, d1, d2, d3, d4, hi, hj, hd => by
    refine sX4_fillMost_5 hG _ _ _ _ _ _ ⟨fun h => absurd h (nI_ge (a := m) (b := 64) (by omega) (by omega)), fun _ => ?_⟩
    simp (disch := omega) only [show (512 : Int32) = nI 512 from rfl, nI_add, nI_clamp, nI_1]
    refine ⟨vp_in_nI (by omega) (by omega), lX4_0 hG hE i (m + 1) _ _ _ _ _ (by omega) (hj.tr jSX.a) (fun j hj2 => ?_)⟩
    by_cases e : j = m
    · subst e; exact au_k
    · rw [au_j (by omega)]; exact hd j (by omega)
theorem qX4_fillMost (hG : aGS G) (hn6 : n ≤ 6) (h80 : 80 ≤ w) (hB : bnA 1 w n Λ A R G) : ∃ A', (jSX w A A' ∧ rwA (whoC Λ n (vX A 1)) 39 A') ∧ CX4_fillMost [.ref 0] (A, R, G) none (A', R, G) := by
  refine aC_exA vX4_fillMost (Nat.le_of_ble_eq_true rfl) fun E hE => ?_
  refine sX4_fillMost_0 (lX4_0 (w := w) hG (fun B hj h8 => ?_) 64 0 A _ _ _ _ (by omega) jSX.rf (fun j hj => absurd hj (by omega)))
  have hv := hj.v h80
  refine lX4_c (A := B) hG hn6 h80 (hj.b h80 hB) (fun C hj2 hr => ?_) 7 B _ _ _ _ (by omega) jSX.rf (fun d h1 h2 j hj3 => ?_)
  · rw [hv] at hr
    exact hE C ⟨hj.tr hj2, hr⟩
  · have e : d = 8 := by omega
    subst e
    rw [h8 j hj3]
    rfl
theorem lX4_d {E : aR} (hG : aGS G) {c m : Nat} {who : Nat → Int32} (hc : c < 8) (hm : m < 64) (hr : rwA who 39 A) (hE : ∀ r, r = digM (who c) (mostV who (7 - c)) m (mostV who (8 - c) m) 6 0 → E (some (.int (nI r))) (A, R, G)) :
    ∀ i p, p + i = 6 → digM (who c) (mostV who (7 - c)) m (mostV who (8 - c) m) i p = digM (who c) (mostV who (7 - c)) m (mostV who (8 - c) m) 6 0 → aw tX4_leastDigit E 56 [some (.ref 0), some (.int (nI c)), some (.int (nI m)), some (.int (mostV who (8 - c) m)), some (.int (who c &&& (nI m ^^^ (-1)))), some (.int (nI p))] [] (A, R, G)
  | 0, p, hp, he => by
    have hp2 : p = 6 := by omega
    subst hp2
    exact sX4_leastDigit_56 hG _ _ _ _ _ ⟨fun _ => hE 0 he, fun h => absurd (nI_le (a := 6) (b := 6) (by omega) (by omega)) h⟩
  | i + 1, p, hp, he => by
    have ih := lX4_d hG hc hm hr hE i (p + 1) (by omega)
    unfold digM at he
    refine sX4_leastDigit_56 hG _ _ _ _ _ ⟨fun h => absurd h (nI_ge (a := p) (b := 6) (by omega) (by omega)), fun _ => ⟨fun h => ?_, fun h => ?_⟩⟩
    · rw [if_neg (fun q => (bit_an (by omega)).mpr q.1 h)] at he
      rw [nI_1]
      exact ih (he.trans (by rfl))
    · have hb := (bit_an (by omega)).mp h
      have hlt := setb_lt m hm p (by omega)
      unfold mbX
      rw [setb_nI m hm p (by omega), nI_1, shl6 (c + 1) (by omega), nI_add, nI_clamp (by omega), nI_1, hr (c + 1) (by omega) _ hlt, show 8 - (c + 1) = 7 - c by omega]
      refine ⟨vp_in_nI (by omega) (by omega), fun h2 => ?_, fun h2 => ?_⟩
      · rw [if_pos ⟨hb, h2⟩] at he
        exact hE (p + 1) (he.trans (by rfl))
      · rw [if_neg (fun q => h2 q.2)] at he
        exact ih (he.trans (by rfl))
theorem and0 (x : Int32) : (0 : Int32) = 0 &&& x := by
  refine b_ext fun i hi => ?_
  rw [b_and, b_0, Bool.false_and]
theorem qX4_leastDigit (hG : aGS G) (hn6 : n ≤ 6) (hB : bnA 1 w n Λ A R G) (h80 : 80 ≤ w) {c m : Nat} (hc : c < 8) (hm : m < 64) (hr : rwA (whoC Λ n (vX A 1)) 39 A) : ∃ A', jX 1 w A A' ∧ CX4_leastDigit [.ref 0, .int (nI c), .int (nI m)] (A, R, G) (some (.int (nI (dig1 (whoC Λ n (vX A 1)) c m)))) (A', R, G) := by
  refine aC_exA vX4_leastDigit (Nat.le_of_ble_eq_true rfl) fun E hE => ?_
  refine sX4_leastDigit_0 hG _ _ ?_
  unfold mbX
  rw [nI_1, shl6 (c + 1) (by omega), shl6 c (by omega), nI_add, nI_add, nI_clamp (by omega), nI_clamp (by omega), hr c (by omega) m hm, hr (c + 1) (by omega) m hm, show 8 - (c + 1) = 7 - c by omega]
  refine ⟨vp_in_nI (by omega) (by omega), vp_in_nI (by omega) (by omega), fun h => ?_, fun h => ⟨fun ht => ?_, fun ht => ?_⟩⟩
  · have h9 := hE A jX.rf
    unfold dig1 at h9
    rw [if_pos h] at h9
    exact h9
  · rw [thX_bt hc] at ht
    obtain ⟨B1, hj1, hC⟩ := qX0_whoCan (gB1 hG) hB.1 hB.2.1 hB.2.2.1.1 hn6 hc ht
    have h5 := (bt_v5 hB.2.2.2 hc).mp ht
    have hw : whoC Λ n (vX A 1) c = whoV Λ n (vX A 1) c := if_neg h5
    have h9 := hE B1 hj1
    unfold dig1 at h9
    rw [if_neg h] at h9
    refine ⟨_, _, hC, sX4_leastDigit_43 _ _ _ _ _ _ ?_⟩
    rw [← hw]
    exact lX4_d (who := whoC Λ n (vX A 1)) hG hc hm (fun d hd j hj => by rw [hj1 39 (by omega) (by omega)]; exact hr d hd j hj) (fun r e => by rw [e]; exact h9) 6 0 (by omega) (by rfl)
  · rw [thX_bt hc, bt_v5 hB.2.2.2 hc] at ht
    have hw : whoC Λ n (vX A 1) c = 0 := if_pos (Classical.byContradiction ht)
    have h9 := hE A jX.rf
    unfold dig1 at h9
    rw [if_neg h] at h9
    have := lX4_d (R := R) (E := E) (who := whoC Λ n (vX A 1)) hG hc hm hr (fun r e => by rw [e]; exact h9) 6 0 (by omega) (by rfl)
    rw [hw, ← and0] at this
    exact this
end SY
