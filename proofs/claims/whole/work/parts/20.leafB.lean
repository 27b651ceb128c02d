theorem pX4_isSet (v : Int32) {μ : aM} : CX4_isSet [.int v] μ (some (.int (bI (0 ≤ v ∧ v ≤ 1023)))) μ := by
  obtain ⟨A, R, G⟩ := μ
  exact aC_of (Nat.le_of_ble_eq_true rfl) fun E hE => sX4_isSet_0 v hE
theorem pX4_isByte (v : Int32) {μ : aM} : CX4_isByte [.int v] μ (some (.int (bI (0 ≤ v ∧ v ≤ 255)))) μ := by
  obtain ⟨A, R, G⟩ := μ
  exact aC_of (Nat.le_of_ble_eq_true rfl) fun E hE => sX4_isByte_0 v hE
theorem pX5_isByte (v : Int32) {μ : aM} : CX5_isByte [.int v] μ (some (.int (bI (0 ≤ v ∧ v ≤ 255)))) μ := by
  obtain ⟨A, R, G⟩ := μ
  exact aC_of (Nat.le_of_ble_eq_true rfl) fun E hE => sX5_isByte_0 v hE
theorem nI_lit (n : Nat) : (Int32.ofNat n) = nI n := rfl
theorem pk_ix7 {c : Int32} (h0 : 0 ≤ c) (h7 : c ≤ 7) : ∃ k, k < 8 ∧ c = nI k := by
  rcases pk_ix c (n := 8) (by omega) with q | q | h
  · exact absurd h0 (Int32.not_le.mpr q)
  · have q : (8 : Int32) ≤ c := q
    exact absurd (Int32.le_trans q h7) (by decide)
  · exact h
theorem clI_in {v lo hi : Int32} (h0 : lo ≤ v) (h : v ≤ hi) : clI v lo hi = v := by
  unfold clI
  rw [if_neg (Int32.not_lt.mpr h0), if_neg (Int32.not_lt.mpr h)]
theorem nI_mul3 (k : Nat) : (3 : Int32) * nI k = nI (3 * k) := pk_mul 3 k
section LF2
variable {A : Nat → Nat → Int32} {R : Nat → Nat → Option Nat} {G : Nat → Nat × Nat}
theorem pX5_isOne (hG : aGS G) (p : Int32) : CX5_isOne [.ref 48, .int p] (A, R, G) (some (.int (bI (0 ≤ p ∧ p ≤ A 48 0 - 1)))) (A, R, G) := aC_of (Nat.le_of_ble_eq_true rfl) fun E hE => sX5_isOne_0 hG p hE
theorem nI_ix {k : Nat} (h : k < 2 ^ 31) : (nI k).toNatClampNeg = k := nI_clamp h
theorem pX5_isThere (hG : aGS G) (c : Int32) : CX5_isThere [.ref 48, .int c] (A, R, G) (some (.int (bI (thM A c)))) (A, R, G) := by
  refine aC_of (Nat.le_of_ble_eq_true rfl) fun E hE => sX5_isThere_0 hG c ⟨fun h => ?_, fun h => aE_n hE ?_⟩
  · rw [clI_in h.1 h.2]
    obtain ⟨k, hk, rfl⟩ := pk_ix7 h.1 h.2
    rw [nI_mul3, nI_ix (k := 3 * k) (by omega)]
    refine ⟨vp_in_nI (by omega) (by omega), fun h1 => aE_n hE ?_, fun h1 => aE_b hE ⟨k, hk, rfl, h1⟩⟩
    rintro ⟨j, hj, e, h2⟩
    rw [nI_eq (by omega) (by omega)] at e
    subst e
    exact h2 h1
  · rintro ⟨k, hk, rfl, -⟩
    exact h ⟨nI_pos' (by omega), nI_le (a := k) (b := 7) (by omega) (by omega)⟩
end LF2
