/-! the lexer, as the class has it -/
def isL (t : Nat → Int32) (z p : Nat) : Prop := p < z ∧ 97 ≤ t p ∧ t p ≤ 122
def isD (t : Nat → Int32) (z p : Nat) : Prop := p < z ∧ 48 ≤ t p ∧ t p ≤ 57
def isBk (t : Nat → Int32) (z p : Nat) : Prop := p < z ∧ (t p = 32 ∨ t p = 10)
/-- as long as P holds -/
noncomputable def runN (P : Nat → Prop) : Nat → Nat → Nat
  | 0, p => p
  | f + 1, p => @ite _ (P p) (Classical.propDecidable _) (runN P f (p + 1)) p
noncomputable def skipN (t : Nat → Int32) (z p : Nat) : Nat := runN (isBk t z) (z - p) p
noncomputable def tkEnd (t : Nat → Int32) (z p : Nat) : Nat := @ite _ (isL t z p) (Classical.propDecidable _) (runN (isL t z) (z - p) p) (@ite _ (isD t z p) (Classical.propDecidable _) (runN (isD t z) (z - p) p) (if p < z then p + 1 else p))
def wcode (i : Nat) : Int32 := [-23, -24, -25, -7, -8, -9, -1, -2, -3, -4, -5, -6].getD i 0
noncomputable def wdR (t : Nat → Int32) (p e : Nat) : Nat → Nat → Int32
  | 0, _ => -27
  | m + 1, i => @ite _ (isW t p e i) (Classical.propDecidable _) (wcode i) (wdR t p e m (i + 1))
def numR (t : Nat → Int32) : Nat → Nat → Int32 → Int32
  | 0, _, a => a
  | m + 1, k, a => numR t m (k + 1) (((10 * a) + t k) - 48)
noncomputable def tkCode (t : Nat → Int32) (z p : Nat) : Int32 := @ite _ (p < z) (Classical.propDecidable _) (@ite _ (isL t z p) (Classical.propDecidable _) (wdR t p (tkEnd t z p) 12 0) (@ite _ (isD t z p) (Classical.propDecidable _) (if tkEnd t z p - p ≤ 4 then numR t (tkEnd t z p - p) p 0 else -27) (sgX (t p)))) (-26)
/-- where token i stands -/
noncomputable def tkPl (t : Nat → Int32) (z : Nat) : Nat → Nat
  | 0 => skipN t z 0
  | i + 1 => skipN t z (tkEnd t z (tkPl t z i))
noncomputable def tkT (t : Nat → Int32) (z i : Nat) : Int32 := tkCode t z (tkPl t z i)
section LX
variable {E : aR} {A B : Nat → Nat → Int32} {R : Nat → Nat → Option Nat} {G : Nat → Nat × Nat} {t : Nat → Int32} {z : Nat}
theorem runN_s {P : Nat → Prop} {f p : Nat} : runN P (f + 1) p = @ite _ (P p) (Classical.propDecidable _) (runN P f (p + 1)) p := by
  conv => lhs; unfold runN
theorem runN_le {P : Nat → Prop} : ∀ f p, p ≤ runN P f p ∧ runN P f p ≤ p + f
  | 0, p => by unfold runN; omega
  | f + 1, p => by
    rw [runN_s]
    have := runN_le (P := P) f (p + 1)
    by_cases h : P p
    · rw [if_pos h]; omega
    · rw [if_neg h]; omega
theorem runN_in {P : Nat → Prop} : ∀ f p q, p ≤ q → q < runN P f p → P q
  | 0, p, q, h1, h2 => by unfold runN at h2; omega
  | f + 1, p, q, h1, h2 => by
    rw [runN_s] at h2
    by_cases h : P p
    · rw [if_pos h] at h2
      by_cases e : q = p
      · subst e; exact h
      · exact runN_in f (p + 1) q (by omega) h2
    · rw [if_neg h] at h2; omega
theorem runN_end {P : Nat → Prop} : ∀ f p, (∀ q, P q → q < p + f) → ¬ P (runN P f p)
  | 0, p, h => by unfold runN; exact fun q => by have := h p q; omega
  | f + 1, p, h => by
    rw [runN_s]
    by_cases hp : P p
    · rw [if_pos hp]; exact runN_end f (p + 1) (fun q hq => by have := h q hq; omega)
    · rw [if_neg hp]; exact hp
theorem ltX_n (h : A 31 5 = nI z) (hz : z ≤ 160) {p : Nat} (hp : p < 2147483648) : ltX A (nI p) ↔ isL (A 32) z p := by
  unfold ltX isL
  rw [h, nI_clamp (by omega), nI_ltI (by omega) (by omega)]
theorem dgX_n (h : A 31 5 = nI z) (hz : z ≤ 160) {p : Nat} (hp : p < 2147483648) : dgX A (nI p) ↔ isD (A 32) z p := by
  unfold dgX isD
  rw [h, nI_clamp (by omega), nI_ltI (by omega) (by omega)]
theorem inT_n (h : A 31 5 = nI z) (hz : z ≤ 160) {p : Nat} (hp : p < 2147483648) : inT A (nI p) := ⟨by rw [h]; exact nI_le (a := z) (b := 160) hz (by omega), nI_nn hp⟩
theorem lX1_eL (hG : aGS G) (h : A 31 5 = nI z) (hz : z ≤ 160) (r : Nat) (hE : E (some (.int (nI r))) (A, R, G)) :
    ∀ (m q : Nat) (d1 : Option Value), q + m = z → runN (isL (A 32) z) m q = r → aw tX1_endOfToken E 10 [some (.ref 31), d1, some (.int (nI q))] [] (A, R, G)
  | 0, q, d1, hq, hr => by
    have : q = r := hr
    subst this
    exact sX1_endOfToken_10 hG _ _ (br_t (by rw [h]; exact nI_le (by omega) (by omega)) hE)
  | m + 1, q, d1, hq, hr => by
    rw [runN_s] at hr
    refine sX1_endOfToken_10 hG _ _ (br_f (by rw [h]; exact nI_ge (by omega) (by omega)) ⟨inT_n h hz (by omega), ?_⟩)
    rw [nI_1]
    by_cases c : isL (A 32) z q
    · rw [if_pos c] at hr
      exact br_t ((ltX_n h hz (by omega)).mpr c) (lX1_eL hG h hz r hE m (q + 1) none (by omega) hr)
    · rw [if_neg c] at hr
      subst hr
      exact br_f (fun w => c ((ltX_n h hz (by omega)).mp w)) hE
theorem lX1_eD (hG : aGS G) (h : A 31 5 = nI z) (hz : z ≤ 160) (r : Nat) (hE : E (some (.int (nI r))) (A, R, G)) :
    ∀ (m q : Nat) (d1 : Option Value), q + m = z → runN (isD (A 32) z) m q = r → aw tX1_endOfToken E 40 [some (.ref 31), d1, some (.int (nI q))] [] (A, R, G)
  | 0, q, d1, hq, hr => by
    have : q = r := hr
    subst this
    exact sX1_endOfToken_40 hG _ _ (br_t (by rw [h]; exact nI_le (by omega) (by omega)) hE)
  | m + 1, q, d1, hq, hr => by
    rw [runN_s] at hr
    refine sX1_endOfToken_40 hG _ _ (br_f (by rw [h]; exact nI_ge (by omega) (by omega)) ⟨inT_n h hz (by omega), ?_⟩)
    rw [nI_1]
    by_cases c : isD (A 32) z q
    · rw [if_pos c] at hr
      exact br_t ((dgX_n h hz (by omega)).mpr c) (lX1_eD hG h hz r hE m (q + 1) none (by omega) hr)
    · rw [if_neg c] at hr
      subst hr
      exact br_f (fun w => c ((dgX_n h hz (by omega)).mp w)) hE
theorem qX1_endOfToken (hG : aGS G) (h : A 31 5 = nI z) (hz : z ≤ 160) {p : Nat} (hp : p ≤ z) : CX1_endOfToken [.ref 31, .int (nI p)] (A, R, G) (some (.int (nI (tkEnd (A 32) z p)))) (A, R, G) := by
  refine aC_of (Nat.le_of_ble_eq_true rfl) fun E hE => sX1_endOfToken_0 hG _ ⟨inT_n h hz (by omega), ?_⟩
  unfold tkEnd at hE
  by_cases c : isL (A 32) z p
  · rw [if_pos c] at hE
    exact br_t ((ltX_n h hz (by omega)).mpr c) (lX1_eL hG h hz _ hE (z - p) p _ (by omega) rfl)
  rw [if_neg c] at hE
  refine br_f (fun w => c ((ltX_n h hz (by omega)).mp w)) ?_
  by_cases d : isD (A 32) z p
  · rw [if_pos d] at hE
    exact br_t ((dgX_n h hz (by omega)).mpr d) (lX1_eD hG h hz _ hE (z - p) p _ (by omega) rfl)
  rw [if_neg d] at hE
  refine br_f (fun w => d ((dgX_n h hz (by omega)).mp w)) ?_
  by_cases e : p < z
  · rw [if_pos e] at hE
    exact br_f (by rw [h]; exact nI_ge e (by omega)) (by rw [nI_1]; exact hE)
  · rw [if_neg e] at hE
    exact br_t (by rw [h]; exact nI_le (by omega) (by omega)) hE
theorem tkEnd_le {p : Nat} (hp : p ≤ z) : p ≤ tkEnd t z p ∧ tkEnd t z p ≤ z ∧ (p < z → p < tkEnd t z p) := by
  unfold tkEnd
  by_cases c : isL t z p
  · rw [if_pos c]
    have h1 := runN_le (P := isL t z) (z - p) p
    refine ⟨h1.1, by omega, fun hlt => ?_⟩
    obtain ⟨m, hm⟩ : ∃ m, z - p = m + 1 := ⟨z - p - 1, by omega⟩
    rw [hm, runN_s, if_pos c]
    have := runN_le (P := isL t z) m (p + 1)
    omega
  rw [if_neg c]
  by_cases d : isD t z p
  · rw [if_pos d]
    have h1 := runN_le (P := isD t z) (z - p) p
    refine ⟨h1.1, by omega, fun hlt => ?_⟩
    obtain ⟨m, hm⟩ : ∃ m, z - p = m + 1 := ⟨z - p - 1, by omega⟩
    rw [hm, runN_s, if_pos d]
    have := runN_le (P := isD t z) m (p + 1)
    omega
  rw [if_neg d]
  by_cases e : p < z
  · rw [if_pos e]; omega
  · rw [if_neg e]; omega
theorem lX1_num (hG : aGS G) {e : Nat} (he : e ≤ 160) (r : Int32) (hE : E (some (.int r)) (A, R, G)) :
    ∀ (m q : Nat) (a : Int32) (d1 : Option Value), q + m = e → numR (A 32) m q a = r → aw tX1_numberBetween E 15 [some (.ref 31), d1, some (.int (nI e)), some (.int a), some (.int (nI q))] [] (A, R, G)
  | 0, q, a, d1, hq, hr => by
    have : a = r := hr
    subst this
    exact sX1_numberBetween_15 hG _ _ _ _ (br_t (nI_le (by omega) (by omega)) hE)
  | m + 1, q, a, d1, hq, hr => by
    unfold numR at hr
    refine sX1_numberBetween_15 hG _ _ _ _ (br_f (nI_ge (by omega) (by omega)) ⟨vp_in_nI (by omega) (by omega), ?_⟩)
    rw [nI_1, nI_clamp (by omega)]
    exact lX1_num hG he r hE m (q + 1) _ none (by omega) hr
theorem qX1_numberBetween (hG : aGS G) {p e : Nat} (hp : p ≤ e) (he : e ≤ 160) : CX1_numberBetween [.ref 31, .int (nI p), .int (nI e)] (A, R, G) (some (.int (if e - p ≤ 4 then numR (A 32) (e - p) p 0 else -27))) (A, R, G) := by
  have es : nI e - nI p = nI (e - p) := pk_sub hp
  refine aC_of (Nat.le_of_ble_eq_true rfl) fun E hE => sX1_numberBetween_0 _ _ ?_
  rw [es]
  by_cases c : e - p ≤ 4
  · rw [if_pos c] at hE
    exact br_t (nI_le (a := e - p) (b := 4) c (by omega)) (lX1_num hG he _ hE (e - p) p 0 _ (by omega) rfl)
  · rw [if_neg c] at hE
    exact br_f (nI_ge (a := 4) (b := e - p) (by omega) (by omega)) hE
theorem wdR_s {p e m i : Nat} : wdR t p e (m + 1) i = @ite _ (isW t p e i) (Classical.propDecidable _) (wcode i) (wdR t p e m (i + 1)) := by
  conv => lhs; unfold wdR
theorem qX1_wordBetween (hG : aGS G) {p e : Nat} (hp : p ≤ e) (he : e ≤ 160) : CX1_wordBetween [.ref 31, .int (nI p), .int (nI e)] (A, R, G) (some (.int (wdR (A 32) p e 12 0))) (A, R, G) := by
  refine aC_of (Nat.le_of_ble_eq_true rfl) fun E hE => sX1_wordBetween_0 hG _ _ ⟨_, _, qX1_isWord hG (i := 0) (by omega) hp he, ?_⟩
  rw [wdR_s] at hE
  by_cases c0 : isW (A 32) p e 0
  · rw [if_pos c0] at hE
    exact sX1_wordBetween_8 hG _ _ _ (br_f (bI_ne c0) hE)
  rw [if_neg c0] at hE
  refine sX1_wordBetween_8 hG _ _ _ (br_t (bI_f c0) ⟨_, _, qX1_isWord hG (i := 1) (by omega) hp he, ?_⟩)
  rw [wdR_s] at hE
  by_cases c1 : isW (A 32) p e 1
  · rw [if_pos c1] at hE
    exact sX1_wordBetween_22 hG _ _ _ (br_f (bI_ne c1) hE)
  rw [if_neg c1] at hE
  refine sX1_wordBetween_22 hG _ _ _ (br_t (bI_f c1) ⟨_, _, qX1_isWord hG (i := 2) (by omega) hp he, ?_⟩)
  rw [wdR_s] at hE
  by_cases c2 : isW (A 32) p e 2
  · rw [if_pos c2] at hE
    exact sX1_wordBetween_36 hG _ _ _ (br_f (bI_ne c2) hE)
  rw [if_neg c2] at hE
  refine sX1_wordBetween_36 hG _ _ _ (br_t (bI_f c2) ⟨_, _, qX1_isWord hG (i := 3) (by omega) hp he, ?_⟩)
  rw [wdR_s] at hE
  by_cases c3 : isW (A 32) p e 3
  · rw [if_pos c3] at hE
    exact sX1_wordBetween_50 hG _ _ _ (br_f (bI_ne c3) hE)
  rw [if_neg c3] at hE
  refine sX1_wordBetween_50 hG _ _ _ (br_t (bI_f c3) ⟨_, _, qX1_isWord hG (i := 4) (by omega) hp he, ?_⟩)
  rw [wdR_s] at hE
  by_cases c4 : isW (A 32) p e 4
  · rw [if_pos c4] at hE
    exact sX1_wordBetween_64 hG _ _ _ (br_f (bI_ne c4) hE)
  rw [if_neg c4] at hE
  refine sX1_wordBetween_64 hG _ _ _ (br_t (bI_f c4) ⟨_, _, qX1_isWord hG (i := 5) (by omega) hp he, ?_⟩)
  rw [wdR_s] at hE
  by_cases c5 : isW (A 32) p e 5
  · rw [if_pos c5] at hE
    exact sX1_wordBetween_78 hG _ _ _ (br_f (bI_ne c5) hE)
  rw [if_neg c5] at hE
  refine sX1_wordBetween_78 hG _ _ _ (br_t (bI_f c5) ⟨_, _, qX1_isWord hG (i := 6) (by omega) hp he, ?_⟩)
  rw [wdR_s] at hE
  by_cases c6 : isW (A 32) p e 6
  · rw [if_pos c6] at hE
    exact sX1_wordBetween_92 hG _ _ _ (br_f (bI_ne c6) hE)
  rw [if_neg c6] at hE
  refine sX1_wordBetween_92 hG _ _ _ (br_t (bI_f c6) ⟨_, _, qX1_isWord hG (i := 7) (by omega) hp he, ?_⟩)
  rw [wdR_s] at hE
  by_cases c7 : isW (A 32) p e 7
  · rw [if_pos c7] at hE
    exact sX1_wordBetween_105 hG _ _ _ (br_f (bI_ne c7) hE)
  rw [if_neg c7] at hE
  refine sX1_wordBetween_105 hG _ _ _ (br_t (bI_f c7) ⟨_, _, qX1_isWord hG (i := 8) (by omega) hp he, ?_⟩)
  rw [wdR_s] at hE
  by_cases c8 : isW (A 32) p e 8
  · rw [if_pos c8] at hE
    exact sX1_wordBetween_119 hG _ _ _ (br_f (bI_ne c8) hE)
  rw [if_neg c8] at hE
  refine sX1_wordBetween_119 hG _ _ _ (br_t (bI_f c8) ⟨_, _, qX1_isWord hG (i := 9) (by omega) hp he, ?_⟩)
  rw [wdR_s] at hE
  by_cases c9 : isW (A 32) p e 9
  · rw [if_pos c9] at hE
    exact sX1_wordBetween_133 hG _ _ _ (br_f (bI_ne c9) hE)
  rw [if_neg c9] at hE
  refine sX1_wordBetween_133 hG _ _ _ (br_t (bI_f c9) ⟨_, _, qX1_isWord hG (i := 10) (by omega) hp he, ?_⟩)
  rw [wdR_s] at hE
  by_cases c10 : isW (A 32) p e 10
  · rw [if_pos c10] at hE
    exact sX1_wordBetween_147 hG _ _ _ (br_f (bI_ne c10) hE)
  rw [if_neg c10] at hE
  refine sX1_wordBetween_147 hG _ _ _ (br_t (bI_f c10) ⟨_, _, qX1_isWord hG (i := 11) (by omega) hp he, ?_⟩)
  rw [wdR_s] at hE
  by_cases c11 : isW (A 32) p e 11
  · rw [if_pos c11] at hE
    exact sX1_wordBetween_161 _ _ _ (br_f (bI_ne c11) hE)
  rw [if_neg c11] at hE
  exact sX1_wordBetween_161 _ _ _ (br_t (bI_f c11) hE)
theorem qX1_tokenBetween (hG : aGS G) (h : A 31 5 = nI z) (hz : z ≤ 160) {p : Nat} (hp : p ≤ z) : CX1_tokenBetween [.ref 31, .int (nI p), .int (nI (tkEnd (A 32) z p))] (A, R, G) (some (.int (tkCode (A 32) z p))) (A, R, G) := by
  obtain ⟨k1, k2, k3⟩ := tkEnd_le (t := A 32) hp
  refine aC_of (Nat.le_of_ble_eq_true rfl) fun E hE => sX1_tokenBetween_0 hG _ _ ?_
  unfold tkCode at hE
  by_cases e : p < z
  case neg =>
    rw [if_neg e] at hE
    exact br_f (by rw [h]; exact nI_nlt (by omega) (by omega)) hE
  rw [if_pos e] at hE
  refine br_t (by rw [h]; exact nI_lt e (by omega)) ⟨inT_n h hz (by omega), ?_⟩
  by_cases c : isL (A 32) z p
  · rw [if_pos c] at hE
    exact br_t ((ltX_n h hz (by omega)).mpr c) ⟨_, _, qX1_wordBetween hG k1 (by omega), sX1_tokenBetween_25 _ _ _ hE⟩
  rw [if_neg c] at hE
  refine br_f (fun w => c ((ltX_n h hz (by omega)).mp w)) ?_
  by_cases d : isD (A 32) z p
  · rw [if_pos d] at hE
    exact br_t ((dgX_n h hz (by omega)).mpr d) ⟨_, _, qX1_numberBetween hG k1 (by omega), sX1_tokenBetween_40 _ _ _ hE⟩
  rw [if_neg d] at hE
  refine br_f (fun w => d ((dgX_n h hz (by omega)).mp w)) ⟨vp_in_nI (by omega) (by omega), ?_⟩
  rw [nI_clamp (by omega)]
  exact hE
theorem skip_le {p : Nat} (hp : p ≤ z) : p ≤ skipN t z p ∧ skipN t z p ≤ z := by
  unfold skipN
  have := runN_le (P := isBk t z) (z - p) p
  omega
theorem tkPl_le (i : Nat) : tkPl t z i ≤ z := by
  induction i with
  | zero => exact (skip_le (Nat.zero_le _)).2
  | succ i ih => exact (skip_le (tkEnd_le ih).2.1).2
/-- what the scan leaves: the tokens before i are told -/
def scX1 (t : Nat → Int32) (z : Nat) (A B : Nat → Nat → Int32) (i : Nat) : Prop := (∀ o, ¬ o = 33 → ¬ o = 34 → B o = A o) ∧ ∀ j, j < i → B 33 j = tkT t z j ∧ B 34 j = nI (tkPl t z j) ∧ ¬ tkT t z j = -26 ∧ ¬ tkT t z j = -27
/-- all tokens are told, up to the last -/
def scXe (t : Nat → Int32) (z : Nat) (A B : Nat → Nat → Int32) (N : Nat) : Prop := N ≤ 160 ∧ scX1 t z A B N ∧ B 33 N = tkT t z N ∧ B 34 N = nI (tkPl t z N) ∧ (tkT t z N = -26 ∨ tkT t z N = -27)
theorem tkPl_ge : ∀ i, (∀ j, j < i → ¬ tkT t z j = -26) → i ≤ tkPl t z i
  | 0, _ => Nat.zero_le _
  | i + 1, h => by
    have ih := tkPl_ge i (fun j hj => h j (by omega))
    have hlt : tkPl t z i < z := by
      refine Classical.byContradiction fun q => h i (by omega) ?_
      unfold tkT tkCode
      rw [if_neg q]
    have h1 := (tkEnd_le (t := t) (tkPl_le (t := t) (z := z) i)).2.2 hlt
    have h2 := (skip_le (t := t) (tkEnd_le (t := t) (tkPl_le (t := t) (z := z) i)).2.1).1
    show i + 1 ≤ skipN t z (tkEnd t z (tkPl t z i))
    omega
theorem lX1_scan (hG : aGS G) (h : A 31 5 = nI z) (hz : z ≤ 160) (hE : ∀ B N, scXe (A 32) z A B N → E none (B, R, G)) :
    ∀ (m i q : Nat) (B : Nat → Nat → Int32) (d3 : Option Value), i + m = 161 → q ≤ z → skipN (A 32) z q = tkPl (A 32) z i → scX1 (A 32) z A B i → aw tX1_scan E 4 [some (.ref 31), some (.int (nI q)), some (.int (nI i)), d3] [] (B, R, G)
  | 0, i, q, B, d3, hi, hq, hsk, hs => by
    have h1 := tkPl_ge (t := A 32) (z := z) i (fun j hj => (hs.2 j hj).2.2.1)
    have h2 := tkPl_le (t := A 32) (z := z) i
    omega
  | m + 1, i, q, B, d3, hi, hq, hsk, hs => by
    have h31 : B 31 = A 31 := hs.1 31 (by omega) (by omega)
    have h32 : B 32 = A 32 := hs.1 32 (by omega) (by omega)
    have hp := tkPl_le (t := A 32) (z := z) i
    obtain ⟨k1, k2, k3⟩ := tkEnd_le (t := A 32) hp
    have hvi : vp_in (nI i) 161 := vp_in_nI (by omega) (by omega)
    -- behind the blanks
    have go : ∃ (v1 : Int32) (μ1 : aM), CX1_endOfToken [.ref 31, .int (nI (tkPl (A 32) z i))] ((au B 34 (nI i).toNatClampNeg (nI (tkPl (A 32) z i))), R, G) (some (.int v1)) μ1 ∧ aw tX1_scan E 59 [some (.ref 31), some (.int (nI (tkPl (A 32) z i))), some (.int (nI i)), none] [.int v1] μ1 := by
      rw [nI_clamp (by omega)]
      have e31 : au B 34 i (nI (tkPl (A 32) z i)) 31 = A 31 := (au_o (by omega)).trans h31
      have e32 : au B 34 i (nI (tkPl (A 32) z i)) 32 = A 32 := (au_o (by omega)).trans h32
      have c1 := qX1_endOfToken (A := au B 34 i (nI (tkPl (A 32) z i))) (R := R) hG (by rw [e31]; exact h) hz hp
      have c2 := qX1_tokenBetween (A := au B 34 i (nI (tkPl (A 32) z i))) (R := R) hG (by rw [e31]; exact h) hz hp
      rw [e32] at c1 c2
      refine ⟨_, _, c1, sX1_scan_59 hG _ _ _ _ ⟨_, _, c2, sX1_scan_71 hG _ _ _ _ _ _ ⟨gt33 hG, by rw [gl33 hG]; exact hvi, hvi, ?_⟩⟩⟩
      rw [nI_clamp (by omega), au_k, nI_1]
      have hs2 : scX1 (A 32) z A (au (au B 34 i (nI (tkPl (A 32) z i))) 33 i (tkCode (A 32) z (tkPl (A 32) z i))) i := ⟨fun o a b => by rw [au_o a, au_o b]; exact hs.1 o a b, fun j hj => by
        rw [au_j (by omega), au_o (by omega), au_o (by omega), au_j (by omega)]
        exact hs.2 j hj⟩
      have b33 : au (au B 34 i (nI (tkPl (A 32) z i))) 33 i (tkCode (A 32) z (tkPl (A 32) z i)) 33 i = tkT (A 32) z i := au_k
      have b34 : au (au B 34 i (nI (tkPl (A 32) z i))) 33 i (tkCode (A 32) z (tkPl (A 32) z i)) 34 i = nI (tkPl (A 32) z i) := by rw [au_o (by omega), au_k]
      refine ⟨fun w => hE _ i ⟨by omega, hs2, b33, b34, Or.inl w⟩, fun w1 => ⟨fun w => hE _ i ⟨by omega, hs2, b33, b34, Or.inr w⟩, fun w2 => ?_⟩⟩
      refine lX1_scan hG h hz hE m (i + 1) (tkEnd (A 32) z (tkPl (A 32) z i)) _ _ (by omega) k2 rfl ⟨hs2.1, fun j hj => ?_⟩
      by_cases e : j = i
      · subst e; exact ⟨b33, b34, w1, w2⟩
      · exact hs2.2 j (by omega)
    have blanks : ∀ (f q : Nat) (d3 : Option Value), q + f = z → runN (isBk (A 32) z) f q = tkPl (A 32) z i → aw tX1_scan E 11 [some (.ref 31), some (.int (nI q)), some (.int (nI i)), d3] [] (B, R, G) := by
      intro f
      induction f with
      | zero =>
        intro q d3 hq hr
        have e : q = tkPl (A 32) z i := hr
        refine sX1_scan_11 hG _ _ _ (br_t (by rw [h31, h]; exact nI_le (by omega) (by omega)) ⟨hvi, ?_⟩)
        rw [e]
        exact go
      | succ f ih =>
        intro q d3 hq hr
        rw [runN_s] at hr
        refine sX1_scan_11 hG _ _ _ (br_f (by rw [h31, h]; exact nI_ge (by omega) (by omega)) ⟨vp_in_nI (by omega) (by omega), ?_⟩)
        rw [nI_clamp (n := q) (by omega), h32, nI_1]
        refine ⟨fun w => ?_, fun w1 => ⟨fun w => ?_, fun w2 => ⟨hvi, ?_⟩⟩⟩
        · rw [if_pos (show isBk (A 32) z q from ⟨by omega, Or.inl w⟩)] at hr
          exact ih (q + 1) none (by omega) hr
        · rw [if_pos (show isBk (A 32) z q from ⟨by omega, Or.inr w⟩)] at hr
          exact ih (q + 1) none (by omega) hr
        · rw [if_neg (show ¬ isBk (A 32) z q from fun w => w.2.elim w1 w2)] at hr
          rw [hr]
          exact go
    refine sX1_scan_4 _ _ _ (br_f (nI_nlt (a := 160) (b := i) (by omega) (by omega)) ?_)
    exact blanks (z - q) q none (by omega) hsk
theorem qX1_scan (hG : aGS G) (h : A 31 5 = nI z) (hz : z ≤ 160) : ∃ B, (∃ N, scXe (A 32) z A B N) ∧ CX1_scan [.ref 31] (A, R, G) none (B, R, G) := by
  refine aC_exA vX1_scan (Nat.le_of_ble_eq_true rfl) fun E hE => sX1_scan_0 ?_
  exact lX1_scan hG h hz (fun B N hN => hE B ⟨N, hN⟩) 161 0 0 A none (by omega) (Nat.zero_le _) rfl ⟨fun _ _ _ => rfl, fun j hj => absurd hj (by omega)⟩
end LX
