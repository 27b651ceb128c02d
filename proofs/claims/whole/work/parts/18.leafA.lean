theorem nIle {a b : Nat} (h : a ≤ b) (hb : b < 2 ^ 31) : nI a ≤ nI b := nI_le h hb
theorem pX4_within (v lo hi : Int32) {μ : aM} : CX4_within [.int v, .int lo, .int hi] μ (some (.int (bI (lo ≤ v ∧ v ≤ hi)))) μ := by
  obtain ⟨A, R, G⟩ := μ
  refine aC_of (Nat.le_of_ble_eq_true rfl) fun E hE => sX4_within_0 v lo hi ?_
  repeat' (first | refine And.intro ?_ ?_ | intro _)
  all_goals first | (refine aE_b hE ?_; simp only [Int32.lt_iff_toInt_lt, Int32.le_iff_toInt_le] at *; omega) | (refine aE_n hE ?_; simp only [Int32.lt_iff_toInt_lt, Int32.le_iff_toInt_le] at *; omega)
theorem pX5_in (v lo hi : Int32) {μ : aM} : CX5_in [.int v, .int lo, .int hi] μ (some (.int (bI (lo ≤ v ∧ v ≤ hi)))) μ := by
  obtain ⟨A, R, G⟩ := μ
  refine aC_of (Nat.le_of_ble_eq_true rfl) fun E hE => sX5_in_0 v lo hi ?_
  repeat' (first | refine And.intro ?_ ?_ | intro _)
  all_goals first | (refine aE_b hE ?_; simp only [Int32.lt_iff_toInt_lt, Int32.le_iff_toInt_le] at *; omega) | (refine aE_n hE ?_; simp only [Int32.lt_iff_toInt_lt, Int32.le_iff_toInt_le] at *; omega)
theorem pX5_within (v lo hi : Int32) {μ : aM} : CX5_within [.int v, .int lo, .int hi] μ (some (.int (clI v lo hi))) μ := by
  obtain ⟨A, R, G⟩ := μ
  refine aC_of (Nat.le_of_ble_eq_true rfl) fun E hE => sX5_within_0 v lo hi ?_
  refine ⟨fun h => ⟨fun h2 => aE_e hE ?_, fun h2 => aE_e hE ?_⟩, fun h => aE_e hE ?_⟩
  · unfold clI; rw [if_neg (Int32.not_lt.mpr h), if_neg (Int32.not_lt.mpr h2)]
  · unfold clI; rw [if_neg (Int32.not_lt.mpr h), if_pos (Int32.not_le.mp h2)]
  · unfold clI; rw [if_pos (Int32.not_le.mp h)]
theorem lX5_onesOf {E : aR} {A : Nat → Nat → Int32} {R : Nat → Nat → Option Nat} {G : Nat → Nat × Nat} (x : Int32) (hE : E (some (.int (ones x))) (A, R, G)) : ∀ n k, k + n = 10 → aw tX5_onesOf E 4 [some (.int x), some (.int (onesN x k)), some (.int (nI k))] [] (A, R, G)
  | 0, k, h => sX5_onesOf_4 x _ _ ⟨fun _ => by
      have hk : k = 10 := by omega
      subst hk
      exact hE, fun q => absurd (nI_le (a := 10) (b := k) (by omega) (by omega)) q⟩
  | n + 1, k, h => sX5_onesOf_4 x _ _ ⟨fun q => absurd q (nI_ge (a := k) (b := 10) (by omega) (by omega)), fun _ => by
      rw [nI_1]
      exact lX5_onesOf x hE n (k + 1) (by omega)⟩
theorem pX5_onesOf (x : Int32) {μ : aM} : CX5_onesOf [.int x] μ (some (.int (ones x))) μ := by
  obtain ⟨A, R, G⟩ := μ
  exact aC_of (Nat.le_of_ble_eq_true rfl) fun E hE => sX5_onesOf_0 x (lX5_onesOf x hE 10 0 rfl)
theorem pJ6_bitCount (x : Int32) {μ : aM} : CJ6_bitCount_0f7a4 [.int x] μ (some (.int (popc x))) μ := by
  obtain ⟨A, R, G⟩ := μ
  refine aC_of (Nat.le_of_ble_eq_true rfl) fun E hE => sJ6_bitCount_0f7a4_0 x ?_
  intros
  subst_vars
  exact hE
theorem pX5_rank (x : Int32) {μ : aM} : CX5_rank [.int x] μ (some (.int (rkM x))) μ := by
  obtain ⟨A, R, G⟩ := μ
  refine aC_of (Nat.le_of_ble_eq_true rfl) fun E hE => sX5_rank_0 x ?_
  repeat' (first | refine And.intro ?_ ?_ | intro _)
  all_goals (refine aE_e hE ?_; unfold rkM; simp_all [Int32.not_lt])
  rename_i h1 h2 h3
  rw [if_neg (Int32.not_le.mpr h1), if_neg (Int32.not_le.mpr h2)]
theorem pX5_two (s a b : Int32) {μ : aM} : CX5_two [.int s, .int a, .int b] μ (some (.int (twM s a b))) μ := by
  obtain ⟨A, R, G⟩ := μ
  refine aC_of (Nat.le_of_ble_eq_true rfl) fun E hE => sX5_two_0 s a b ?_
  repeat' (first | refine And.intro ?_ ?_ | intro _)
  all_goals (refine aE_e hE ?_; unfold twM; simp_all [bI, Int32.not_lt, Int32.not_le])
theorem pX5_isUnder (k o : Int32) {μ : aM} : CX5_isUnder [.int k, .int o] μ (some (.int (bI (o = 0 ∨ k = o ∨ (o = 1 ∧ k = 3) ∨ (o = 2 ∧ k = 4))))) μ := by
  obtain ⟨A, R, G⟩ := μ
  refine aC_of (Nat.le_of_ble_eq_true rfl) fun E hE => sX5_isUnder_0 k o ?_
  repeat' (first | refine And.intro ?_ ?_ | intro _)
  all_goals first | (refine aE_b hE ?_; simp_all; done) | (refine aE_n hE ?_; simp_all; done)
theorem pX1_joins (l t : Int32) {μ : aM} : CX1_joins [.int l, .int t] μ (some (.int (bI (jnX l t)))) μ := by
  obtain ⟨A, R, G⟩ := μ
  refine aC_of (Nat.le_of_ble_eq_true rfl) fun E hE => sX1_joins_0 l t ?_
  repeat' (first | refine And.intro ?_ ?_ | intro _)
  all_goals first | (refine aE_b hE ?_; unfold jnX; simp_all; done) | (refine aE_n hE ?_; unfold jnX; simp_all; done)
theorem pX1_signOf (s : Int32) {μ : aM} : CX1_signOf [.int s] μ (some (.int (sgX s))) μ := by
  obtain ⟨A, R, G⟩ := μ
  refine aC_of (Nat.le_of_ble_eq_true rfl) fun E hE => sX1_signOf_0 s ?_
  repeat' (first | refine And.intro ?_ ?_ | intro _)
  all_goals (refine aE_e hE ?_; unfold sgX; simp_all)
theorem pX4_nextLot (x : Int64) {μ : aM} : CX4_nextLot [.long x] μ (some (.long (lotF x))) μ := by
  obtain ⟨A, R, G⟩ := μ
  exact aC_of (Nat.le_of_ble_eq_true rfl) fun E hE => sX4_nextLot_0 x hE
section LF
variable {A : Nat → Nat → Int32} {R : Nat → Nat → Option Nat} {G : Nat → Nat × Nat}
theorem pX5_signOf (hG : aGS G) : CX5_signOf [.ref 48] (A, R, G) (some (.int (sgM (A 48 22)))) (A, R, G) := by
  refine aC_of (Nat.le_of_ble_eq_true rfl) fun E hE => sX5_signOf_0 hG ?_
  repeat' (first | refine And.intro ?_ ?_ | intro _)
  all_goals (refine aE_e hE ?_; unfold sgM; simp_all)
theorem pX0_hasJudge {b : Nat} (hb : aGb G b) (p : Int32) : CX0_hasJudge [.ref b, .int p] (A, R, G) (some (.int (bI (0 ≤ p ∧ p < A b 9)))) (A, R, G) := by
  refine aC_of (Nat.le_of_ble_eq_true rfl) fun E hE => sX0_hasJudge_0 hb p ?_
  repeat' (first | refine And.intro ?_ ?_ | intro _)
  all_goals first | (refine aE_b hE ?_; simp only [Int32.lt_iff_toInt_lt, Int32.le_iff_toInt_le] at *; omega) | (refine aE_n hE ?_; simp only [Int32.lt_iff_toInt_lt, Int32.le_iff_toInt_le] at *; omega)
theorem pX0_hasCase {b : Nat} (hb : aGb G b) (c : Int32) : CX0_hasCase [.ref b, .int c] (A, R, G) (some (.int (bI (thX A b c)))) (A, R, G) := by
  refine aC_of (Nat.le_of_ble_eq_true rfl) fun E hE => sX0_hasCase_0 hb c ⟨fun h => aE_n hE ?_, fun h => ⟨fun h2 => aE_n hE ?_, fun h2 => ⟨fun h3 => aE_b hE ?_, fun h3 => aE_n hE ?_⟩⟩⟩
  · rintro ⟨k, h1, rfl, h3⟩
    exact nI_pos (by omega) h
  · rintro ⟨k, h1, rfl, h3⟩
    exact nI_ge (a := k) (b := 8) h1 (by omega) h2
  · rcases pk_ix c (n := 8) (by omega) with q | q | ⟨j, hj, rfl⟩
    · exact absurd q h
    · exact absurd q h2
    · exact ⟨j, hj, rfl, h3⟩
  · rintro ⟨k, h1, rfl, h4⟩
    exact h3 h4
theorem pX2_isMissing {o : Nat} (ho : aGs G o) : CX2_isMissing [.ref o] (A, R, G) (some (.int (bI (A o 1 = -1)))) (A, R, G) := by
  exact aC_of (Nat.le_of_ble_eq_true rfl) fun E hE => sX2_isMissing_0 ho ⟨fun h => aE_b hE h, fun h => aE_n hE h⟩
theorem pX2_holds {o : Nat} (ho : aGs G o) (f n : Int32) : CX2_holds [.ref o, .int f, .int n] (A, R, G) (some (.int (bI (hdX (A o 2) f n)))) (A, R, G) := by
  refine aC_of (Nat.le_of_ble_eq_true rfl) fun E hE => sX2_holds_0 ho f n ?_
  repeat' (first | refine And.intro ?_ ?_ | intro _)
  all_goals first | (refine aE_b hE ?_; unfold hdX; simp only [Int32.lt_iff_toInt_lt, Int32.le_iff_toInt_le] at *; omega) | (refine aE_n hE ?_; unfold hdX; simp only [Int32.lt_iff_toInt_lt, Int32.le_iff_toInt_le] at *; omega)
theorem pX2_cut {o : Nat} (ho : aGs G o) (v : Int32) : CX2_cut [.ref o, .int v] (A, R, G) (some (.int (cutX (A o 1) v))) (A, R, G) := by
  refine aC_of (Nat.le_of_ble_eq_true rfl) fun E hE => sX2_cut_0 ho v ?_
  repeat' (first | refine And.intro ?_ ?_ | intro _)
  all_goals (refine aE_e hE ?_; unfold cutX; simp_all)
theorem vin_of {i : Int32} {n : Nat} (h0 : 0 ≤ i) (h : i < nI n) (hn : n < 2 ^ 31) : vp_in i n := by
  rcases pk_ix i (n := n) hn with q | q | ⟨j, hj, rfl⟩
  · exact absurd h0 (Int32.not_le.mpr q)
  · exact absurd h (Int32.not_lt.mpr q)
  · exact vp_in_nI hj hn
theorem pX1_isLetter (hG : aGS G) (q : Int32) (h : inT A q) : CX1_isLetter [.ref 31, .int q] (A, R, G) (some (.int (bI (ltX A q)))) (A, R, G) := by
  refine aC_of (Nat.le_of_ble_eq_true rfl) fun E hE => sX1_isLetter_0 hG q ⟨fun h1 => aE_n hE ?_, fun h1 => ⟨vin_of h.2 (Int32.lt_of_lt_of_le (Int32.not_le.mp h1) h.1) (by omega), ?_⟩⟩
  · unfold ltX; simp_all [Int32.not_lt]
    intro h2; exact absurd h2 (Int32.not_lt.mpr h1)
  repeat' (first | refine And.intro ?_ ?_ | intro _)
  all_goals first | (refine aE_b hE ?_; unfold ltX; simp only [Int32.lt_iff_toInt_lt, Int32.le_iff_toInt_le] at *; omega) | (refine aE_n hE ?_; unfold ltX; simp only [Int32.lt_iff_toInt_lt, Int32.le_iff_toInt_le] at *; omega)
theorem pX1_isDigit (hG : aGS G) (q : Int32) (h : inT A q) : CX1_isDigit [.ref 31, .int q] (A, R, G) (some (.int (bI (dgX A q)))) (A, R, G) := by
  refine aC_of (Nat.le_of_ble_eq_true rfl) fun E hE => sX1_isDigit_0 hG q ⟨fun h1 => aE_n hE ?_, fun h1 => ⟨vin_of h.2 (Int32.lt_of_lt_of_le (Int32.not_le.mp h1) h.1) (by omega), ?_⟩⟩
  · unfold dgX; simp_all [Int32.not_lt]
    intro h2; exact absurd h2 (Int32.not_lt.mpr h1)
  repeat' (first | refine And.intro ?_ ?_ | intro _)
  all_goals first | (refine aE_b hE ?_; unfold dgX; simp only [Int32.lt_iff_toInt_lt, Int32.le_iff_toInt_le] at *; omega) | (refine aE_n hE ?_; unfold dgX; simp only [Int32.lt_iff_toInt_lt, Int32.le_iff_toInt_le] at *; omega)
theorem pX1_token (hG : aGS G) (h : 0 ≤ A 31 6) : CX1_token [.ref 31] (A, R, G) (some (.int (tkX A))) (A, R, G) := by
  refine aC_of (Nat.le_of_ble_eq_true rfl) fun E hE => sX1_token_0 hG ⟨fun h1 => aE_e hE ?_, fun h1 => ⟨vin_of h ?_ (by omega), aE_e hE ?_⟩⟩
  · unfold tkX; rw [if_neg (Int32.not_le.mpr h1)]
  · have h2 := Int32.not_lt.mp h1
    exact Int32.lt_of_le_of_lt h2 (by decide)
  · unfold tkX; rw [if_pos (Int32.not_lt.mp h1)]
theorem pX1_place (hG : aGS G) (h : 0 ≤ A 31 6) : CX1_place [.ref 31] (A, R, G) (some (.int (plX A))) (A, R, G) := by
  refine aC_of (Nat.le_of_ble_eq_true rfl) fun E hE => sX1_place_0 hG ⟨fun h1 => aE_e hE ?_, fun h1 => ⟨vin_of h ?_ (by omega), aE_e hE ?_⟩⟩
  · unfold plX; rw [if_neg (Int32.not_le.mpr h1)]
  · have h2 := Int32.not_lt.mp h1
    exact Int32.lt_of_le_of_lt h2 (by decide)
  · unfold plX; rw [if_pos (Int32.not_lt.mp h1)]
theorem pX4_mostBehind (hG : aGS G) (c m : Int32) (h : vp_in (((c + 1) <<< ((6 : Int32) &&& 31)) + m) 576) : CX4_mostBehind [.ref 0, .int c, .int m] (A, R, G) (some (.int (mbX A c m))) (A, R, G) := by
  exact aC_of (Nat.le_of_ble_eq_true rfl) fun E hE => sX4_mostBehind_0 hG c m ⟨h, hE⟩
end LF
