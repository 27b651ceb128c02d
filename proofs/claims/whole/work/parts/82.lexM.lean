/-! the lexer, as the model has it -/
def sgk (k : Nat) : Nat := if k < 3 then k else if k < 9 then k + 3 else k - 6
/-- the model's token and value of a class's token -/
def mtk (c : Int32) : Int32 := if c = -26 then 0 else if 0 ≤ c then 1 else if -6 ≤ c then 2 else if c = -7 then 4 else if c = -8 then 5 else if c = -9 then 6 else if c = -20 then 40 else if c = -21 then 41 else if c = -22 then 59 else if c = -12 then 43 else if c = -13 then 45 else if c = -14 then 42 else if c = -10 then 60 else if c = -11 then 61 else if c = -23 then 3 else if c = -24 then 3 else if c = -25 then 3 else -1
def mvl (c : Int32) : Int32 := if 0 ≤ c then c else if -6 ≤ c then -1 - c else -23 - c
def isM (t : Nat → Int32) (p e k : Nat) : Prop := e - p ≤ 8 ∧ ∀ c, c < 8 → mWd.getD (8 * k + c) 0 = if p + c < e then t (p + c) else 32
noncomputable def mwR (t : Nat → Int32) (p e : Nat) : Nat → Nat → Nat
  | 0, _ => 12
  | m + 1, k => @ite _ (isM t p e k) (Classical.propDecidable _) k (mwR t p e m (k + 1))
def nxM (A B : Nat → Nat → Int32) (p e : Nat) (tok val : Int32) : Prop := (∀ o, ¬ o = 48 → B o = A o) ∧ (∀ k, (k < 20 ∨ 23 < k) → B 48 k = A 48 k) ∧ B 48 20 = nI e ∧ B 48 21 = nI p ∧ B 48 22 = tok ∧ ((tok = 1 ∨ tok = 2 ∨ tok = 3) → B 48 23 = val)
section LM
variable {E : aR} {A B C : Nat → Nat → Int32} {R : Nat → Nat → Option Nat} {G : Nat → Nat × Nat} {t : Nat → Int32} {z : Nat}
theorem mwR_s {p e m k : Nat} : mwR t p e (m + 1) k = @ite _ (isM t p e k) (Classical.propDecidable _) k (mwR t p e m (k + 1)) := by
  conv => lhs; unfold mwR
theorem mWd_t : ∀ k, k < 12 → ∀ c, c < 8 → mWd.getD (8 * k + c) 0 = if c < aSle.getD (sgk k) 0 then (aSby.getD (sgk k) []).getD c 0 else 32 := by decide +kernel
theorem aSby_32 : ∀ i, i < 12 → ∀ c, c < 6 → c < aSle.getD i 0 → ¬ (aSby.getD i []).getD c 0 = 32 := by decide +kernel
theorem aSby_ne : ∀ i, i < 12 → ∀ j, j < 12 → ¬ i = j → aSle.getD i 0 = aSle.getD j 0 → ∃ k, k < 6 ∧ k < aSle.getD i 0 ∧ ¬ (aSby.getD i []).getD k 0 = (aSby.getD j []).getD k 0 := by decide +kernel
theorem sgk_lt : ∀ k, k < 12 → sgk k < 12 := by decide
theorem sgk_on : ∀ i, i < 12 → ∃ k, k < 12 ∧ sgk k = i := by decide
theorem sgk_in : ∀ k, k < 12 → ∀ j, j < 12 → sgk k = sgk j → k = j := by decide
theorem isM_W {p e k : Nat} (hk : k < 12) (hpe : p ≤ e) (hl : ∀ q, p ≤ q → q < e → ¬ t q = 32) : isM t p e k ↔ isW t p e (sgk k) := by
  have hs := sgk_lt k hk
  have h6 := (aSle6 (sgk k) hs).2
  constructor
  · rintro ⟨h1, h2⟩
    have hlen : e - p = aSle.getD (sgk k) 0 := by
      rcases Nat.lt_or_ge (e - p) (aSle.getD (sgk k) 0) with hlt | hge
      · have h3 := h2 (e - p) (by omega)
        rw [mWd_t k hk _ (by omega), if_pos hlt, if_neg (by omega)] at h3
        exact absurd h3 (aSby_32 _ hs _ (by omega) hlt)
      · rcases Nat.eq_or_lt_of_le hge with heq | hgt
        · exact heq.symm
        · have h3 := h2 (aSle.getD (sgk k) 0) (by omega)
          rw [mWd_t k hk _ (by omega), if_neg (by omega), if_pos (by omega)] at h3
          exact absurd h3.symm (hl _ (by omega) (by omega))
    refine ⟨hlen, fun c hc => ?_⟩
    have h3 := h2 c (by omega)
    rw [mWd_t k hk _ (by omega), if_pos hc, if_pos (by omega)] at h3
    exact h3
  · rintro ⟨h1, h2⟩
    refine ⟨by omega, fun c hc => ?_⟩
    rw [mWd_t k hk _ hc]
    by_cases q : c < aSle.getD (sgk k) 0
    · rw [if_pos q, if_pos (by omega)]; exact h2 c q
    · rw [if_neg q, if_neg (by omega)]
theorem isW_u {p e i j : Nat} (hi : i < 12) (hj : j < 12) (h1 : isW t p e i) (h2 : isW t p e j) : i = j := by
  refine Classical.byContradiction fun q => ?_
  obtain ⟨k, _, h4, h5⟩ := aSby_ne i hi j hj q (h1.1.symm.trans h2.1)
  exact h5 ((h1.2 k h4).trans (h2.2 k (by have := h1.1; have := h2.1; omega)).symm)
theorem wdR_at {p e i : Nat} (hw : isW t p e i) (hu : ∀ j, j < 12 → isW t p e j → j = i) : ∀ m k, k ≤ i → i < k + m → k + m ≤ 12 → wdR t p e m k = wcode i
  | 0, k, h1, h2, h3 => by omega
  | m + 1, k, h1, h2, h3 => by
    rw [wdR_s]
    by_cases q : isW t p e k
    · rw [if_pos q, hu k (by omega) q]
    · rw [if_neg q]
      have : ¬ k = i := fun w => q (by rw [w]; exact hw)
      exact wdR_at hw hu m (k + 1) (by omega) (by omega) (by omega)
theorem wdR_no {p e : Nat} (hu : ∀ j, j < 12 → ¬ isW t p e j) : ∀ m k, k + m ≤ 12 → wdR t p e m k = -27
  | 0, k, h3 => by unfold wdR; rfl
  | m + 1, k, h3 => by
    rw [wdR_s, if_neg (hu k (by omega))]
    exact wdR_no hu m (k + 1) (by omega)
theorem mwR_at {p e i : Nat} (hw : isM t p e i) (hu : ∀ j, j < 12 → isM t p e j → j = i) : ∀ m k, k ≤ i → i < k + m → k + m ≤ 12 → mwR t p e m k = i
  | 0, k, h1, h2, h3 => by omega
  | m + 1, k, h1, h2, h3 => by
    rw [mwR_s]
    by_cases q : isM t p e k
    · rw [if_pos q, hu k (by omega) q]
    · rw [if_neg q]
      have : ¬ k = i := fun w => q (by rw [w]; exact hw)
      exact mwR_at hw hu m (k + 1) (by omega) (by omega) (by omega)
theorem mwR_no {p e : Nat} (hu : ∀ j, j < 12 → ¬ isM t p e j) : ∀ m k, k + m ≤ 12 → mwR t p e m k = 12
  | 0, k, h3 => by unfold mwR; rfl
  | m + 1, k, h3 => by
    rw [mwR_s, if_neg (hu k (by omega))]
    exact mwR_no hu m (k + 1) (by omega)
/-- the word, as either knows it -/
theorem wd_both {p e : Nat} (hpe : p ≤ e) (hl : ∀ q, p ≤ q → q < e → ¬ t q = 32) : (∃ k, k < 12 ∧ mwR t p e 12 0 = k ∧ wdR t p e 12 0 = wcode (sgk k)) ∨ (mwR t p e 12 0 = 12 ∧ wdR t p e 12 0 = -27) := by
  by_cases h : ∃ i, i < 12 ∧ isW t p e i
  · obtain ⟨i, hi, hw⟩ := h
    obtain ⟨k, hk, rfl⟩ := sgk_on i hi
    refine Or.inl ⟨k, hk, mwR_at ((isM_W hk hpe hl).mpr hw) (fun j hj hm => ?_) 12 0 (by omega) (by omega) (by omega), wdR_at hw (fun j hj hm => isW_u hj hi hm hw) 12 0 (by omega) (by omega) (by omega)⟩
    exact sgk_in j hj k hk (isW_u (sgk_lt j hj) hi ((isM_W hj hpe hl).mp hm) hw)
  · refine Or.inr ⟨mwR_no (fun j hj hm => h ⟨_, sgk_lt j hj, (isM_W hj hpe hl).mp hm⟩) 12 0 (by omega), wdR_no (fun j hj hm => h ⟨j, hj, hm⟩) 12 0 (by omega)⟩
theorem lX5_wf8 {E : aR} (hG : aGS G) (hw : ∀ i, i < 96 → A 62 i = mWd.getD i 0) {p e k : Nat} (hk : k < 12) (he : e ≤ 160) (hpe : p ≤ e) (hyes : isM (A 53) p e k → E (some (.int (nI k))) (A, R, G)) (hno : ¬ isM (A 53) p e k → ∀ d4 d5, aw tX5_wordFrom E 2 [some (.ref 48), some (.int (nI p)), some (.int (nI e)), some (.int (nI (k + 1))), d4, d5] [] (A, R, G)) (h8 : e - p ≤ 8) :
    ∀ (m c : Nat), c + m = 8 → (∀ j, j < c → mWd.getD (8 * k + j) 0 = if p + j < e then A 53 (p + j) else 32) → aw tX5_wordFrom E 26 [some (.ref 48), some (.int (nI p)), some (.int (nI e)), some (.int (nI k)), some (.int 1), some (.int (nI c))] [] (A, R, G)
  | 0, c, hc, hj => by
    have : c = 8 := by omega
    subst this
    exact sX5_wordFrom_26 hG _ _ _ _ _ (br_t (by decide) (br_f (by decide) (hyes ⟨h8, hj⟩)))
  | m + 1, c, hc, hj => by
    have e8 : (8 : Int32) * nI k = nI (8 * k) := pk_mul 8 k
    have fin : ¬ (mWd.getD (8 * k + c) 0 = if p + c < e then A 53 (p + c) else 32) → aw tX5_wordFrom E 26 [some (.ref 48), some (.int (nI p)), some (.int (nI e)), some (.int (nI k)), some (.int 0), some (.int (nI (c + 1)))] [] (A, R, G) := by
      intro hne
      have hn : ¬ isM (A 53) p e k := fun q => hne (q.2 c (by omega))
      refine sX5_wordFrom_26 hG _ _ _ _ _ ⟨fun _ => br_t rfl ?_, fun _ => br_t rfl ?_⟩
      · rw [nI_1]; exact hno hn _ _
      · rw [nI_1]; exact hno hn _ _
    have go : mWd.getD (8 * k + c) 0 = (if p + c < e then A 53 (p + c) else 32) → aw tX5_wordFrom E 26 [some (.ref 48), some (.int (nI p)), some (.int (nI e)), some (.int (nI k)), some (.int 1), some (.int (nI (c + 1)))] [] (A, R, G) := by
      intro heq
      refine lX5_wf8 hG hw hk he hpe hyes hno h8 m (c + 1) (by omega) (fun j hj2 => ?_)
      by_cases q : j = c
      · subst q; exact heq
      · exact hj j (by omega)
    refine sX5_wordFrom_26 hG _ _ _ _ _ (br_f (nI_ge (a := c) (b := 8) (by omega) (by omega)) (br_f (by decide) ?_))
    simp (disch := omega) only [e8, nI_add, nI_clamp, nI_1, hw]
    refine ⟨vp_in_nI (by omega) (by omega), fun q => ?_, fun q => ?_⟩
    · have hce : ¬ p + c < e := fun w => absurd q (nI_ge w (by omega))
      rw [if_neg hce] at go fin
      exact ⟨go, fin⟩
    · have hce : p + c < e := Nat.lt_of_not_le fun w => q (nI_le w (by omega))
      rw [if_pos hce] at go fin
      exact ⟨vp_in_nI (by omega) (by omega), go, fin⟩
theorem lX5_wf {E : aR} (hG : aGS G) (hw : ∀ i, i < 96 → A 62 i = mWd.getD i 0) {p e : Nat} (he : e ≤ 160) (hpe : p ≤ e) (r : Nat) (hE : E (some (.int (nI r))) (A, R, G)) :
    ∀ (m k : Nat) (d4 d5 : Option Value), k + m = 12 → mwR (A 53) p e m k = r → aw tX5_wordFrom E 2 [some (.ref 48), some (.int (nI p)), some (.int (nI e)), some (.int (nI k)), d4, d5] [] (A, R, G)
  | 0, k, d4, d5, hk, hr => by
    have hk2 : k = 12 := by omega
    have hr2 : 12 = r := hr
    subst hk2
    rw [← hr2] at hE
    exact sX5_wordFrom_2 _ _ _ _ _ (br_t (by decide) hE)
  | m + 1, k, d4, d5, hk, hr => by
    rw [mwR_s] at hr
    have es : nI e - nI p = nI (e - p) := pk_sub hpe
    refine sX5_wordFrom_2 _ _ _ _ _ (br_f (nI_ge (a := k) (b := 12) (by omega) (by omega)) ?_)
    rw [es]
    by_cases h8 : e - p ≤ 8
    · refine br_f (nI_nlt (a := 8) (b := e - p) h8 (by omega)) ?_
      refine lX5_wf8 hG hw (by omega) he hpe (fun q => ?_) (fun q d4 d5 => ?_) h8 8 0 (by omega) (fun j hj => absurd hj (by omega))
      · rw [if_pos q] at hr
        rw [hr]
        exact hE
      · rw [if_neg q] at hr
        exact lX5_wf hG hw he hpe r hE m (k + 1) d4 d5 (by omega) hr
    · refine br_t (nI_lt (a := 8) (b := e - p) (by omega) (by omega)) ?_
      rw [if_neg (fun q => h8 q.1)] at hr
      refine sX5_wordFrom_26 hG _ _ _ _ _ ⟨fun w => absurd w (by decide), fun _ => br_t rfl ?_⟩
      rw [nI_1]
      exact lX5_wf hG hw he hpe r hE m (k + 1) _ _ (by omega) hr
theorem qX5_wordFrom (hG : aGS G) (hw : ∀ i, i < 96 → A 62 i = mWd.getD i 0) {p e : Nat} (he : e ≤ 160) (hpe : p ≤ e) : CX5_wordFrom [.ref 48, .int (nI p), .int (nI e)] (A, R, G) (some (.int (nI (mwR (A 53) p e 12 0)))) (A, R, G) :=
  aC_of (Nat.le_of_ble_eq_true rfl) fun E hE => sX5_wordFrom_0 _ _ (lX5_wf hG hw he hpe _ hE 12 0 none none (by omega) rfl)
end LM
