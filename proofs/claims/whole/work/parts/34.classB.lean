/-- what holds of every bench, with its counts -/
def invD (n : Nat) (v : aV) : Prop := invV n v ∧ (∀ c, c < 8 → 0 ≤ v 7 c ∧ v 7 c ≤ 99) ∧ 0 ≤ v 8 2 ∧ v 8 2 ≤ 999
section XB
variable {A : Nat → Nat → Int32} {R : Nat → Nat → Option Nat} {G : Nat → Nat × Nat} {b w n : Nat} {Λ : aLm} {v : aV}
theorem clI_bd {x lo hi : Int32} (h : lo ≤ hi) : lo ≤ clI x lo hi ∧ clI x lo hi ≤ hi := by
  unfold clI
  by_cases h1 : x < lo <;> by_cases h2 : hi < x <;> simp only [h1, h2, if_true, if_false] <;> (simp only [Int32.lt_iff_toInt_lt, Int32.le_iff_toInt_le] at *; omega)
theorem min_cl {x hi : Int32} (h0 : 0 ≤ x) (h1 : 0 ≤ hi) : (if x < hi then x else hi) = clI x 0 hi := by
  unfold clI
  by_cases h2 : x < hi <;> by_cases h3 : x < 0 <;> by_cases h4 : hi < x <;> simp only [h2, h3, h4, if_true, if_false] <;> (simp only [Int32.lt_iff_toInt_lt, Int32.le_iff_toInt_le] at *; first | rfl | (exfalso; omega) | (refine Int32.toInt_inj.mp ?_; omega))
theorem add1_nn {x : Int32} (h0 : 0 ≤ x) (h1 : x ≤ 999) : 0 ≤ x + 1 := by
  simp only [Int32.le_iff_toInt_le] at *
  have e0 : (0 : Int32).toInt = 0 := rfl
  have e9 : (999 : Int32).toInt = 999 := rfl
  have e1 : (1 : Int32).toInt = 1 := rfl
  rw [e0] at h0 ⊢
  rw [e9] at h1
  rw [Int32.toInt_add, e1]
  rw [Int.bmod_eq_of_le (by omega) (by omega)]
  omega
theorem le999 {x : Int32} (h : x ≤ 99) : x ≤ 999 := Int32.le_trans h (by decide)
theorem dec_cl {x : Int32} (h0 : 0 ≤ x) : (if 0 < x - 1 then x - 1 else 0) = x - (if x ≤ 0 then 0 else 1) := by
  have e0 : (0 : Int32).toInt = 0 := rfl
  have e1 : (1 : Int32).toInt = 1 := rfl
  have hx := Int32.toInt_lt x
  simp only [Int32.le_iff_toInt_le] at h0
  rw [e0] at h0
  by_cases h2 : x ≤ 0
  · have hz : x = 0 := by
      simp only [Int32.le_iff_toInt_le] at h2
      rw [e0] at h2
      exact Int32.toInt_inj.mp (by rw [e0]; omega)
    rw [hz]
    decide
  · rw [if_neg h2]
    simp only [Int32.le_iff_toInt_le] at h2
    rw [e0] at h2
    have es : (x - 1).toInt = x.toInt - 1 := by
      rw [Int32.toInt_sub, e1]
      exact Int.bmod_eq_of_le (by omega) (by omega)
    by_cases h3 : 0 < x - 1
    · rw [if_pos h3]
    · rw [if_neg h3]
      simp only [Int32.lt_iff_toInt_lt] at h3
      rw [e0, es] at h3
      exact Int32.toInt_inj.mp (by rw [e0, es]; omega)
theorem au_v {f k g j : Nat} {x : Int32} (h : ¬ (g = f ∧ j = k)) : au v f k x g j = v g j := by rw [au_eq, if_neg h]
theorem dec_nn {x : Int32} (h0 : 0 ≤ x) : 0 ≤ x - (if x ≤ 0 then 0 else 1) := by
  rw [← dec_cl h0]
  by_cases h : 0 < x - 1
  · rw [if_pos h]; exact Int32.le_of_lt h
  · rw [if_neg h]; decide
theorem inv_dec1 {p : Nat} (h : invD n v) : invD n (decV1 v p) := by
  refine ⟨⟨fun q hq => ⟨?_, ?_, ?_⟩, fun c hc => ?_⟩, fun c hc => ?_, ?_⟩ <;> unfold decV1
  · rw [au_v (by omega)]; exact (h.1.1 q hq).1
  · rw [au_v (by omega)]; exact (h.1.1 q hq).2.1
  · by_cases e : q = p
    · subst e; rw [au_k]; exact dec_nn (h.1.1 q hq).2.2
    · rw [au_v (by omega)]; exact (h.1.1 q hq).2.2
  · rw [au_v (by omega)]; exact h.1.2 c hc
  · rw [au_v (by omega)]; exact h.2.1 c hc
  · rw [au_v (by omega)]; exact h.2.2
theorem inv_dec (h : invD n v) : ∀ k, invD n (decV v k)
  | 0 => h
  | k + 1 => inv_dec1 (inv_dec h k)
theorem inv_wait {c : Nat} {x : Int32} (h : invD n v) : invD n (au v 7 c (clI x 0 99)) := by
  refine ⟨⟨fun q hq => ⟨?_, ?_, ?_⟩, fun d hd => ?_⟩, fun d hd => ?_, ?_⟩
  · rw [au_v (by omega)]; exact (h.1.1 q hq).1
  · rw [au_v (by omega)]; exact (h.1.1 q hq).2.1
  · rw [au_v (by omega)]; exact (h.1.1 q hq).2.2
  · rw [au_v (by omega)]; exact h.1.2 d hd
  · by_cases e : d = c
    · subst e; rw [au_k]; exact clI_bd (by decide)
    · rw [au_v (by omega)]; exact h.2.1 d hd
  · rw [au_v (by omega)]; exact h.2.2
theorem takV_pos {p c : Nat} : 0 ≤ takV Λ v p c := by
  unfold takV
  simp only []
  generalize (if v 0 p = 1 then askV Λ v 1 p c + v 1 p else if v 0 p = 3 then askV Λ v 1 p c + v 1 p else if v 0 p = 4 then 2 * askV Λ v 1 p c else askV Λ v 1 p c) = u
  by_cases h : (1 : Int32) ≤ u
  · rw [if_pos h]; exact Int32.le_trans (by decide) h
  · rw [if_neg h]; decide
theorem inv_hol {p c : Nat} (h : invD n v) : invD n (holV Λ v p c) := by
  unfold holV
  refine ⟨⟨fun q hq => ⟨?_, ?_, ?_⟩, fun d hd => ?_⟩, fun d hd => ?_, ?_⟩
  · simp (disch := omega) only [au_v]; exact (h.1.1 q hq).1
  · rw [au_v (by omega), au_v (by omega), au_v (by omega)]
    by_cases e : q = p
    · subst e; rw [au_k]; exact isS_and (h.1.1 q hq).2.1
    · rw [au_v (by omega), au_v (by omega)]; exact (h.1.1 q hq).2.1
  · rw [au_v (by omega), au_v (by omega), au_v (by omega), au_v (by omega)]
    by_cases e : q = p
    · subst e; rw [au_k]; exact takV_pos
    · rw [au_v (by omega)]; exact (h.1.1 q hq).2.2
  · rw [au_v (by omega)]
    by_cases e : d = c
    · subst e; rw [au_k]; exact isS_0
    · simp (disch := omega) only [au_v]; exact h.1.2 d hd
  · simp (disch := omega) only [au_v]; exact h.2.1 d hd
  · rw [au_k]; exact clI_bd (by decide)
theorem inv_stp {m c : Nat} {s : aV × Int32} (h : invD n s.1) : invD n (stpV Λ m s c).1 := by
  unfold stpV
  by_cases h5 : s.1 5 c = 0
  · rw [if_pos h5]; exact h
  · rw [if_neg h5]
    cases fstV Λ s.1 c m 0 with
    | none => exact inv_wait h
    | some p => exact inv_hol h
theorem inv_cas {m : Nat} (h : invD n v) : ∀ k, invD n (casV Λ m v k).1
  | 0 => h
  | k + 1 => inv_stp (inv_cas h k)
theorem inv_day {m : Nat} (h : invD n v) : invD n (dayV Λ m v).1 := by
  rw [dayV_1]
  have h1 := inv_cas (Λ := Λ) (m := m) (inv_dec h m) 8
  refine ⟨⟨fun q hq => ⟨?_, ?_, ?_⟩, fun d hd => ?_⟩, fun d hd => ?_, ?_⟩
  · rw [au_v (by omega)]; exact (h1.1.1 q hq).1
  · rw [au_v (by omega)]; exact (h1.1.1 q hq).2.1
  · rw [au_v (by omega)]; exact (h1.1.1 q hq).2.2
  · rw [au_v (by omega)]; exact h1.1.2 d hd
  · rw [au_v (by omega)]; exact h1.2.1 d hd
  · rw [au_v (by omega)]; exact h1.2.2
theorem fst_lt {c : Nat} : ∀ (m k : Nat) {p : Nat}, fstV Λ v c m k = some p → p < k + m
  | 0, k, p, h => by cases h
  | m + 1, k, p, h => by
    unfold fstV at h
    by_cases hc : canV Λ v k c
    · rw [if_pos hc] at h; cases h; omega
    · rw [if_neg hc] at h
      have := fst_lt m (k + 1) h
      omega
theorem qX0_hold (hb : aGb G b) (hL : LXA A R G b w Λ) {p c : Nat} (hi : invD n (vX A b)) (hpn : p < n) (hn6 : n ≤ 6) (hc : c < 8) (ht : bt (A b 10) c = true) : ∃ A', (jDX b w A A' ∧ vX A' b = holV Λ (vX A b) p c) ∧ CX0_hold [.ref b, .int (nI p), .int (nI c)] (A, R, G) (some (.int (judV Λ (vX A b) p c))) (A', R, G) := by
  have hw := hL.1
  obtain ⟨A1, hj1, hC1⟩ := qX0_hardnessOf hb hL hi.1 hpn hn6 hc ht
  have ht1 : bt (A1 b 10) c = true := by rw [show A1 b = A b from hj1.e hw (k := 0) (by omega)]; exact ht
  obtain ⟨A2, hj2, hC2⟩ := qX0_daysFor hb (hj1.L hL) (by rw [hj1.v hw]; exact hi.1) hpn hn6 hc ht1
  rw [hj1.v hw] at hC2
  have hj := hj1.tr hj2
  have hv := hj.v hw
  have ht2 : bt (A2 b 10) c = true := by rw [show A2 b = A b from hj.e hw (k := 0) (by omega)]; exact ht
  refine aC_exA vX0_hold (Nat.le_of_ble_eq_true rfl) fun E hE => ?_
  refine sX0_hold_0 hb _ _ ⟨_, _, hC1, sX0_hold_6 hb _ _ _ _ _ ⟨_, _, hC2, sX0_hold_18 hb _ _ _ _ _ _ _ ?_⟩⟩
  simp (disch := omega) only [nI_clamp]
  refine ⟨gb5 hb, by rw [gbl5 hb]; exact vp_in_nI (by omega) (by omega), vp_in_nI (by omega) (by omega), vp_in_nI hc (by omega), fun v5 h5 v6 h6 => ?_⟩
  refine sX0_hold_74 hb _ _ _ _ fun v1 h1 => ?_
  subst h1
  have e2 : A2 (b + 3) p = vX A b 2 p := by rw [← hv]; rfl
  have e5 : A2 (b + 6) c = vX A b 5 c := by rw [← hv]; exact (vX5_t hc ht2).symm
  have e3 : A2 (b + 4) p = vX A b 3 p := by rw [← hv]; rfl
  have e8 : A2 b 12 = vX A b 8 2 := by rw [← hv]; rfl
  have es : (au A2 (b + 5) p (takV Λ (vX A b) p c)) (b + 3) p &&& (v5 ^^^ (-1)) = losV (vX A b) p c := by
    rw [h5, aua (by omega), aua (by omega), e2, e5]
    rfl
  rw [es] at h6 ⊢
  have e6 : v6 = vX A b 3 p + judV Λ (vX A b) p c := by
    rw [h6, aua (by omega), aua (by omega), e3]
  rw [mm_l (by decide), e6]
  refine hE _ ⟨?_, ?_⟩
  · exact (((((hj.d hw).tr (jDX.a (by omega))).tr (jDX.a (by omega))).tr (jDX.a (by omega))).tr jDX.g).tr (jDX.f (Or.inr rfl))
  · rw [vX_8 (j := 2) (Or.inr (Or.inr ⟨rfl, rfl⟩)), vX_gone hc]
    rw [show (b + 4) = b + (3 + 1) from rfl, vX_u (by omega), show (b + 3) = b + (2 + 1) from rfl, vX_u (by omega), show (b + 5) = b + (4 + 1) from rfl, vX_u (by omega), hv]
    rw [au_j (by omega), aua (by omega), aua (by omega), aua (by omega), e8, min_cl (add1_nn hi.2.2.1 hi.2.2.2) (by decide)]
    rfl
noncomputable def fstI (Λ : aLm) (v : aV) (c m k : Nat) : Int32 := match fstV Λ v c m k with
  | some p => nI p
  | none => -1
theorem lX0_first {E : aR} (hb : aGb G b) (hL : LXA A R G b w Λ) {c : Nat} (hn : A b 9 = nI n) (hi : invV n (vX A b)) (hn6 : n ≤ 6) (hc : c < 8) (ht : bt (A b 10) c = true) (r : Int32) (hE : ∀ A', jX b w A A' → E (some (.int r)) (A', R, G)) :
    ∀ (m k : Nat) (B : Nat → Nat → Int32), k + m = n → jX b w A B → r = fstI Λ (vX A b) c m k → aw tX0_firstWhoCan E 2 [some (.ref b), some (.int (nI c)), some (.int (nI k))] [] (B, R, G)
  | 0, k, B, hk, hj, hr => by
    have h0 : B b = A b := hj.e hL.1 (k := 0) (by omega)
    refine sX0_firstWhoCan_2 hb _ _ ⟨fun _ => aE_e (hE B hj) hr.symm, fun h => absurd ?_ h⟩
    rw [h0, hn]; exact nI_le (by omega) (by omega)
  | m + 1, k, B, hk, hj, hr => by
    have hw := hL.1
    have h0 : B b = A b := hj.e hw (k := 0) (by omega)
    refine sX0_firstWhoCan_2 hb _ _ ⟨fun h => absurd h (by rw [h0, hn]; exact nI_ge (by omega) (by omega)), fun _ => ?_⟩
    simp (disch := omega) only [nI_clamp]
    refine ⟨vp_in_nI (by omega) (by omega), fun h4 => ?_, fun h4 => ?_⟩
    · obtain ⟨B1, hj1, hC⟩ := qX0_may (n := n) hb (hj.L hL) (by rw [hj.v hw]; exact hi) (p := k) (c := c) (by omega) hn6 hc (by rw [h0]; exact ht)
      rw [hj.v hw] at hC
      have h4 : vX A b 4 k = 0 := by rw [← hj.v hw]; exact h4
      by_cases hm : mayV Λ (vX A b) k c
      · have hr2 : r = nI k := by rw [hr]; unfold fstI fstV; rw [if_pos (show canV Λ (vX A b) k c from ⟨h4, hm⟩)]
        exact ⟨_, _, hC, sX0_firstWhoCan_25 hb _ _ _ ⟨fun h => absurd h (bI_ne hm), fun _ => aE_e (hE _ (hj.tr hj1)) hr2.symm⟩⟩
      · have hr2 : r = fstI Λ (vX A b) c m (k + 1) := by
          rw [hr]; unfold fstI; conv => lhs; unfold fstV
          rw [if_neg (show ¬ canV Λ (vX A b) k c from fun q => hm q.2)]
        refine ⟨_, _, hC, sX0_firstWhoCan_25 hb _ _ _ ⟨fun _ => ?_, fun h => absurd (bI_f hm) h⟩⟩
        rw [nI_1]
        exact lX0_first hb hL hn hi hn6 hc ht r hE m (k + 1) B1 (by omega) (hj.tr hj1) hr2
    · have h4 : ¬ vX A b 4 k = 0 := by rw [← hj.v hw]; exact h4
      have hr2 : r = fstI Λ (vX A b) c m (k + 1) := by
        rw [hr]; unfold fstI; conv => lhs; unfold fstV
        rw [if_neg (show ¬ canV Λ (vX A b) k c from fun q => h4 q.1)]
      rw [nI_1]
      exact lX0_first hb hL hn hi hn6 hc ht r hE m (k + 1) B (by omega) hj hr2
theorem qX0_firstWhoCan (hb : aGb G b) (hL : LXA A R G b w Λ) {c : Nat} (hn : A b 9 = nI n) (hi : invV n (vX A b)) (hn6 : n ≤ 6) (hc : c < 8) (ht : bt (A b 10) c = true) : ∃ A', jX b w A A' ∧ CX0_firstWhoCan [.ref b, .int (nI c)] (A, R, G) (some (.int (fstI Λ (vX A b) c n 0))) (A', R, G) := by
  refine aC_exA vX0_firstWhoCan (Nat.le_of_ble_eq_true rfl) fun E hE => ?_
  exact sX0_firstWhoCan_0 hb _ (lX0_first hb hL hn hi hn6 hc ht _ hE n 0 A (by omega) jX.rf rfl)
theorem lX0_dec {E : aR} (hb : aGb G b) (hn : A b 9 = nI n) (hi : invD n (vX A b)) (hn6 : n ≤ 6) (hE : ∀ B d, jDX b w A B → vX B b = decV (vX A b) n → aw tX0_passDay E 38 [some (.ref b), some (.int 0), some (.int 0), d] [] (B, R, G)) :
    ∀ (m k : Nat) (B : Nat → Nat → Int32), k + m = n → jDX b w A B → vX B b = decV (vX A b) k → ∀ d2 d3, aw tX0_passDay E 2 [some (.ref b), some (.int (nI k)), d2, d3] [] (B, R, G)
  | 0, k, B, hk, hj, hv, _, _ => by
    have hk2 : k = n := by omega
    subst hk2
    exact sX0_passDay_2 hb _ _ _ ⟨fun _ => hE B _ hj hv, fun h => absurd (by rw [hj.n, hn]; exact nI_le (by omega) (by omega)) h⟩
  | m + 1, k, B, hk, hj, hv, _, _ => by
    refine sX0_passDay_2 hb _ _ _ ⟨fun h => absurd h (by rw [hj.n, hn]; exact nI_ge (by omega) (by omega)), fun _ => ?_⟩
    simp (disch := omega) only [nI_clamp]
    rw [nI_1]
    refine ⟨vp_in_nI (by omega) (by omega), ?_⟩
    have e4 : B (b + 5) k = decV (vX A b) k 4 k := by rw [← hv]; rfl
    refine lX0_dec hb hn hi hn6 hE m (k + 1) _ (by omega) (hj.tr (jDX.a (by omega))) ?_ _ _
    rw [show (b + 5) = b + (4 + 1) from rfl, vX_u (by omega), hv, show b + (4 + 1) = b + 5 from rfl, e4, dec_cl ((inv_dec hi k).1.1 k (by omega)).2.2]
    rfl
theorem lX0_cas {E : aR} (hb : aGb G b) (hL : LXA A R G b w Λ) (hn : A b 9 = nI n) (hn6 : n ≤ 6) (v : aV) (hi : invD n v) (hT : tI A b) (hE : ∀ B, jDX b w A B → vX B b = (casV Λ n v 8).1 → E (some (.int (casV Λ n v 8).2)) (au B b 11 (B b 11 + 1), R, G)) :
    ∀ (m k : Nat) (B : Nat → Nat → Int32), k + m = 8 → jDX b w A B → vX B b = (casV Λ n v k).1 → ∀ d3, aw tX0_passDay E 38 [some (.ref b), some (.int (casV Λ n v k).2), some (.int (nI k)), d3] [] (B, R, G)
  | 0, k, B, hk, hj, hv, _ => by
    have hk2 : k = 8 := by omega
    subst hk2
    exact sX0_passDay_38 hb _ _ _ ⟨fun _ => hE B hj hv, fun h => absurd (nI_le (a := 8) (b := 8) (by omega) (by omega)) h⟩
  | m + 1, k, B, hk, hj, hv, _ => by
    have hw := hL.1
    have hn2 : B b 9 = nI n := by rw [hj.n]; exact hn
    have hi2 : invD n (vX B b) := by rw [hv]; exact inv_cas hi k
    refine sX0_passDay_38 hb _ _ _ ⟨fun h => absurd h (nI_ge (a := k) (b := 8) (by omega) (by omega)), fun _ => ⟨fun ht => ?_, fun ht => ?_⟩⟩
    · rw [thX_bt (by omega)] at ht
      have ht5 := (bt_v5 (hj.t hw hT) (by omega)).mp ht
      rw [hv] at ht5
      obtain ⟨B1, hj1, hC⟩ := qX0_firstWhoCan hb (hj.L hL) hn2 hi2.1 hn6 (c := k) (by omega) ht
      refine ⟨_, _, hC, ?_⟩
      have hs : casV Λ n v (k + 1) = stpV Λ n (casV Λ n v k) k := rfl
      unfold stpV at hs
      rw [if_neg ht5, ← hv] at hs
      unfold fstI
      cases hf : fstV Λ (vX B b) k n 0 with
      | none =>
        rw [hf] at hs
        simp only [] at hs ⊢
        refine sX0_passDay_57 hb _ _ _ _ ⟨fun _ => ?_, fun h => absurd rfl h⟩
        simp (disch := omega) only [nI_clamp]
        refine ⟨vp_in_nI (by omega) (by omega), ?_⟩
        rw [nI_1]
        have e7 : B1 (b + 8) k = vX B b 7 k := by rw [← hj1.v hw]; rfl
        have h7 := hi2.2.1 k (by omega)
        have ih := lX0_cas hb hL hn hn6 v hi hT hE m (k + 1) (au B1 (b + 8) k (if B1 (b + 8) k + 1 < 99 then B1 (b + 8) k + 1 else 99)) (by omega) ((hj.tr (hj1.d hw)).tr (jDX.a (by omega))) (by rw [vX_7, hj1.v hw, e7, min_cl (add1_nn h7.1 (le999 h7.2)) (by decide), hs]) (some (.int (-1)))
        rw [hs] at ih
        exact ih
      | some p =>
        rw [hf] at hs
        simp only [] at hs ⊢
        have hp := fst_lt n 0 hf
        have hpm : ¬ nI p = -1 := by
          have : ∀ q, q < 6 → ¬ nI q = -1 := by decide +kernel
          exact this p (by omega)
        have ht1 : bt (B1 b 10) k = true := by rw [show B1 b = B b from hj1.e hw (k := 0) (by omega)]; exact ht
        obtain ⟨B2, ⟨hj2, hv2⟩, hC2⟩ := qX0_hold (n := n) hb ((hj1.L (hj.L hL))) (p := p) (c := k) (by rw [hj1.v hw]; exact hi2) (by omega) hn6 (by omega) ht1
        refine sX0_passDay_57 hb _ _ _ _ ⟨fun h => absurd h hpm, fun _ => ⟨_, _, hC2, sX0_passDay_91 hb _ _ _ _ ?_⟩⟩
        rw [nI_1]
        have ih := lX0_cas hb hL hn hn6 v hi hT hE m (k + 1) B2 (by omega) ((hj.tr (hj1.d hw)).tr hj2) (by rw [hv2, hj1.v hw, hs]) (some (.int (nI p)))
        rw [hs] at ih
        exact ih
    · rw [thX_bt (by omega)] at ht
      rw [bt_v5 (hj.t hw hT) (by omega), hv] at ht
      rw [nI_1]
      have hs : casV Λ n v (k + 1) = casV Λ n v k := by
        show stpV Λ n (casV Λ n v k) k = _
        unfold stpV
        rw [if_pos (Classical.byContradiction ht)]
      have ih := lX0_cas hb hL hn hn6 v hi hT hE m (k + 1) B (by omega) hj (by rw [hv, hs])
      rw [hs] at ih
      exact ih _
theorem qX0_passDay (hb : aGb G b) (hL : LXA A R G b w Λ) (hn : A b 9 = nI n) (hi : invD n (vX A b)) (hn6 : n ≤ 6) (hT : tI A b) : ∃ A', (jDX b w A A' ∧ vX A' b = (dayV Λ n (vX A b)).1) ∧ CX0_passDay [.ref b] (A, R, G) (some (.int (dayV Λ n (vX A b)).2)) (A', R, G) := by
  rw [dayV_1, dayV_2]
  have hw := hL.1
  refine aC_exA vX0_passDay (Nat.le_of_ble_eq_true rfl) fun E hE => ?_
  refine sX0_passDay_0 hb (lX0_dec (w := w) hb hn hi hn6 (fun B d hj hv => ?_) n 0 A (by omega) jDX.rf rfl _ _)
  have key := lX0_cas (R := R) (E := E) hb (hj.L hL) (by rw [hj.n]; exact hn) hn6 (decV (vX A b) n) (inv_dec hi n) (hj.t hw hT) (fun C hj1 hv1 => hE _ ⟨(hj.tr hj1).tr (jDX.f (Or.inl rfl)), by
    have e8 : C b 11 = (casV Λ n (decV (vX A b) n) 8).1 8 1 := by rw [← hv1]; rfl
    rw [vX_8 (j := 1) (Or.inr (Or.inl ⟨rfl, rfl⟩)), hv1, e8]⟩) 8 0 B (by omega) jDX.rf hv
  exact key _
end XB
