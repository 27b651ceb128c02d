/-! the class thinks -/
theorem aC_exM {tb : aT} (hl : aVl tb) {n : Nat} {args : List Value} {A : Nat → Nat → Int32} {R : Nat → Nat → Option Nat} {G : Nat → Nat × Nat} {Q : (Nat → Nat → Int32) → (Nat → Nat → Option Nat) → Prop} {r : Option Value} (hf : aFit args n) (h : ∀ E : aR, (∀ A' R', Q A' R' → E r (A', R', G)) → aw tb E 0 (aent args n) [] (A, R, G)) : ∃ A' R', Q A' R' ∧ aCl tb n args (A, R, G) r (A', R', G) := by
  obtain ⟨r1, μ1, h1, h2⟩ := aC_ex hl (E := fun r1 μ1 => ∃ A' R', Q A' R' ∧ r1 = r ∧ μ1 = (A', R', G)) hf (h _ fun A' R' hA => ⟨A', R', hA, rfl, rfl⟩)
  obtain ⟨A', R', hA, e1, e2⟩ := h1
  subst e1
  subst e2
  exact ⟨A', R', hA, h2⟩
/-- no case is there -/
def noV (v : aV) : Prop := ∀ c, c < 8 → v 5 c = 0
/-- what a run's answers show of the bench behind it -/
def seV (v w : aV) : Prop := ∀ f, (f = 2 ∨ f = 3 ∨ f = 5 ∨ f = 7) → ∀ i, v f i = w f i
section XD
variable {A : Nat → Nat → Int32} {R : Nat → Nat → Option Nat} {G : Nat → Nat × Nat} {w n : Nat} {Λ : aLm} {v : aV}
theorem decV_o {f i : Nat} (h : ¬ f = 4) : ∀ k, decV v k f i = v f i
  | 0 => rfl
  | k + 1 => by
    show decV1 (decV v k) k f i = v f i
    unfold decV1
    rw [au_v (fun q => h q.1)]
    exact decV_o h k
theorem cas_no (h : noV v) : ∀ k, k ≤ 8 → casV Λ n v k = (v, 0)
  | 0, _ => rfl
  | k + 1, hk => by
    show stpV Λ n (casV Λ n v k) k = _
    rw [cas_no h k (by omega)]
    unfold stpV
    rw [if_pos (h k (by omega))]
theorem day_no (h : noV v) : (dayV Λ n v).2 = 0 ∧ noV (dayV Λ n v).1 ∧ seV v (dayV Λ n v).1 := by
  have h1 : noV (decV v n) := fun c hc => by rw [decV_o (by decide)]; exact h c hc
  rw [dayV_1, dayV_2, cas_no h1 8 (by omega)]
  refine ⟨rfl, fun c hc => ?_, fun f hf i => ?_⟩
  · rw [au_v (by omega)]; exact h1 c hc
  · rw [au_v (by omega)]; exact (decV_o (by omega) n).symm
theorem gosV_1 {k : Nat} : (gosV Λ n v (k + 1)).1 = (dayV Λ n (gosV Λ n v k).1).1 := by
  conv => lhs; unfold gosV
theorem gosV_2 {k : Nat} : (gosV Λ n v (k + 1)).2 = (gosV Λ n v k).2 + ones (dayV Λ n (gosV Λ n v k).1).2 := by
  conv => lhs; unfold gosV
theorem ones0 : ones 0 = 0 := by decide +kernel
theorem gos_no {k : Nat} (h : noV (gosV Λ n v k).1) (j : Nat) : noV (gosV Λ n v (k + j)).1 ∧ (gosV Λ n v (k + j)).2 = (gosV Λ n v k).2 ∧ seV (gosV Λ n v k).1 (gosV Λ n v (k + j)).1 := by
  induction j with
  | zero => exact ⟨h, Eq.refl _, fun _ _ _ => Eq.refl _⟩
  | succ j ih =>
    obtain ⟨h1, h2, h3⟩ := ih
    obtain ⟨q1, q2, q3⟩ := day_no (Λ := Λ) (n := n) h1
    rw [← Nat.add_assoc, gosV_1, gosV_2, q1, h2, ones0]
    exact ⟨q2, Int32.add_zero _, fun f hf i => (h3 f hf i).trans (q3 f hf i)⟩
theorem isS_bit : ∀ k, k < 10 → isS ((1 : Int32) <<< (nI k &&& 31)) := by unfold isS; decide +kernel
theorem isS_cas : ∀ k, k ≤ 8 → isS (casV Λ n v k).2
  | 0, _ => isS_0
  | k + 1, hk => by
    have ih := isS_cas k (by omega)
    show isS (stpV Λ n (casV Λ n v k) k).2
    unfold stpV
    by_cases h5 : (casV Λ n v k).1 5 k = 0
    · rw [if_pos h5]; exact ih
    · rw [if_neg h5]
      cases fstV Λ (casV Λ n v k).1 k n 0 with
      | none => exact ih
      | some p => exact isS_or ih (isS_bit k (by omega))
theorem isS_day : isS (dayV Λ n v).2 := by rw [dayV_2]; exact isS_cas 8 (by omega)
theorem inv_gos (h : invD n v) (k : Nat) : invD n (gosV Λ n v k).1 := by
  induction k with
  | zero => exact h
  | succ k ih => rw [gosV_1]; exact inv_day ih
theorem qX4_think (hG : aGS G) (hR : R 1 14 = some w) : ∃ A', becX 11 1 A A' ∧ CX4_think [.ref 0] (A, R, G) none (A', ar R 11 14 (some w), G) := by
  obtain ⟨A', hA, hC⟩ := qX0_become (A := A) (gB11 hG) (gB1 hG) (Or.inr (by omega)) hR
  exact ⟨A', hA, aC_of (Nat.le_of_ble_eq_true rfl) fun E hE => sX4_think_0 hG ⟨_, hC, sX4_think_11 hE⟩⟩
theorem bt0_no (h : A 11 10 = 0) : noV (vX A 11) := fun c _ => by
  show (if c < 8 ∧ bt (A 11 10) c = true then A (11 + 6) c else 0) = 0
  rw [h, b_0]
  exact if_neg (fun q => absurd q.2 (by decide))
theorem lX4_heard {E : aR} {v0 : aV} (hG : aGS G) (hL : LXA A R G 11 w Λ) {m : Nat} (hn : A 11 9 = nI n) (hi : invD n v0) (hn6 : n ≤ 6) (hT : tI A 11) (hm : m ≤ 40) (hE : ∀ A', jDX 11 w A A' → seV (vX A' 11) (gosV Λ n v0 m).1 → E (some (.int (gosV Λ n v0 m).2)) (A', R, G)) :
    ∀ (i k : Nat) (B : Nat → Nat → Int32), k + i = m → jDX 11 w A B → vX B 11 = (gosV Λ n v0 k).1 → aw tX4_heardInThought E 4 [some (.ref 0), some (.int (nI m)), some (.int (gosV Λ n v0 k).2), some (.int (nI k))] [] (B, R, G)
  | 0, k, B, hk, hj, hv => by
    have hk2 : k = m := by omega
    subst hk2
    exact sX4_heardInThought_4 hG _ _ _ ⟨fun _ => hE B hj (fun _ _ _ => by rw [hv]), fun h => absurd (nI_le (a := k) (b := k) (by omega) (by omega)) h⟩
  | i + 1, k, B, hk, hj, hv => by
    have hw := hL.1
    have hi2 : invD n (vX B 11) := by rw [hv]; exact inv_gos hi k
    refine sX4_heardInThought_4 hG _ _ _ ⟨fun h => absurd h (nI_ge (a := k) (b := m) (by omega) (by omega)), fun _ => ⟨fun h0 => ?_, fun h0 => ?_⟩⟩
    · have hno := bt0_no h0
      rw [hv] at hno
      obtain ⟨_, h2, h3⟩ := gos_no hno (i + 1)
      rw [hk] at h2 h3
      rw [← h2]
      exact hE B hj (by rw [hv]; exact h3)
    · obtain ⟨B1, ⟨hj1, hv1⟩, hC⟩ := qX0_passDay (gB11 hG) (hj.L hL) (by rw [hj.n]; exact hn) hi2 hn6 (hj.t hw hT)
      rw [hv] at hv1 hC
      refine ⟨_, _, hC, sX4_heardInThought_27 _ _ _ _ _ ?_⟩
      rw [nI_1, popc_S isS_day, ← gosV_2]
      exact lX4_heard hG hL hn hi hn6 hT hm hE i (k + 1) B1 (by omega) (hj.tr hj1) (by rw [gosV_1]; exact hv1)
theorem qX4_heardInThought (hG : aGS G) (hL : LXA A R G 11 w Λ) {m : Nat} (hn : A 11 9 = nI n) (hi : invD n (vX A 11)) (hn6 : n ≤ 6) (hT : tI A 11) (hm : m ≤ 40) : ∃ A', (jDX 11 w A A' ∧ seV (vX A' 11) (gosV Λ n (vX A 11) m).1) ∧ CX4_heardInThought [.ref 0, .int (nI m)] (A, R, G) (some (.int (gosV Λ n (vX A 11) m).2)) (A', R, G) := by
  refine aC_exA vX4_heardInThought (Nat.le_of_ble_eq_true rfl) fun E hE => ?_
  exact sX4_heardInThought_0 _ (lX4_heard hG hL hn hi hn6 hT hm (fun A' h1 h2 => hE A' ⟨h1, h2⟩) m 0 A (by omega) jDX.rf rfl)
theorem lX4_first {E : aR} {s z : Nat} (hG : aGS G) (h80 : 80 ≤ w) (hL : LXA A R G 11 w Λ) (hn : A 11 9 = nI n) (hn6 : n ≤ 6) (hT : tI A 11) (hs : s < 4) (hz : z ≤ 40) (hz2 : A (40 + 2 * s) 2 = nI z) (r : Int32) (hE : ∀ A', jDX 11 w A A' → E (some (.int r)) (A', R, G)) :
    ∀ (i k : Nat) (B : Nat → Nat → Int32) (d : Option Value), k + i = z → jDX 11 w A B → invD n (vX B 11) → r = unlV Λ n (fun k => A (41 + 2 * s) k) i k (vX B 11) → aw tX4_firstOther E 9 [some (.ref 0), d, some (.ref (40 + 2 * s)), some (.int (nI k))] [] (B, R, G)
  | 0, k, B, d, hk, hj, hi, hr => by
    have hs2 : B (40 + 2 * s) = A (40 + 2 * s) := hj.1 _ (by omega) (by omega) (by omega) (by omega) (by omega) (by omega) (by omega)
    have hr : r = -1 := hr
    subst hr
    have he : z = k := by omega
    subst he
    have hg : (G (40 + 2 * s)).1 = 2 + 4 := by
      rw [hG _ (by omega)]
      have : ∀ s, s < 4 → (gtb (40 + 2 * s)).1 = 2 + 4 := by decide
      exact this s hs
    exact sX4_firstOther_9 hG _ _ _ ⟨hg, fun _ => hE B hj, fun h => absurd (by rw [hs2, hz2]; exact nI_le (by omega) (by omega)) h⟩
  | i + 1, k, B, d, hk, hj, hi, hr => by
    have hw := hL.1
    have hs2 : B (40 + 2 * s) = A (40 + 2 * s) := hj.1 _ (by omega) (by omega) (by omega) (by omega) (by omega) (by omega) (by omega)
    have hg : (G (40 + 2 * s)).1 = 2 + 4 := by
      rw [hG _ (by omega)]
      have : ∀ s, s < 4 → (gtb (40 + 2 * s)).1 = 2 + 4 := by decide
      exact this s hs
    have hg1 : G (40 + 2 * s + 1) = (1, 40) := by
      rw [hG _ (by omega)]
      have : ∀ s, s < 4 → gtb (40 + 2 * s + 1) = (1, 40) := by decide
      exact this s hs
    obtain ⟨B1, ⟨hj1, hv1⟩, hC⟩ := qX0_passDay (gB11 hG) (hj.L hL) (by rw [hj.n]; exact hn) hi hn6 (hj.t hw hT)
    have hj2 := hj.tr hj1
    have hc : B1 (40 + 2 * s + 1) k = A (41 + 2 * s) k := by
      rw [hj2.1 _ (by omega) (by omega) (by omega) (by omega) (by omega) (by omega) (by omega), show 40 + 2 * s + 1 = 41 + 2 * s by omega]
    unfold unlV at hr
    refine sX4_firstOther_9 hG _ _ _ ⟨hg, fun h => absurd h (by rw [hs2, hz2]; exact nI_ge (by omega) (by omega)), fun _ => ⟨_, _, hC, sX4_firstOther_24 _ _ _ _ ⟨hg, by rw [hg1], ?_⟩⟩⟩
    simp (disch := omega) only [nI_clamp]
    rw [hg1, hc, popc_S isS_day, nI_1]
    refine ⟨vp_in_nI (by omega) (by omega), fun h => ?_, fun h => ?_⟩
    · rw [if_pos h.symm, ← hv1] at hr
      exact lX4_first hG h80 hL hn hn6 hT hs hz hz2 r hE i (k + 1) B1 _ (by omega) hj2 (by rw [hv1]; exact inv_day hi) hr
    · rw [if_neg (fun q => h q.symm)] at hr
      rw [← hr]
      exact hE B1 hj2
theorem qX4_firstOther {s z : Nat} (hG : aGS G) (h80 : 80 ≤ w) (hL : LXA A R G 11 w Λ) (hn : A 11 9 = nI n) (hi : invD n (vX A 11)) (hn6 : n ≤ 6) (hT : tI A 11) (hs : s < 4) (hz : z ≤ 40) (hz2 : A (40 + 2 * s) 2 = nI z) (hR : R 38 s = some (40 + 2 * s)) : ∃ A', jDX 11 w A A' ∧ CX4_firstOther [.ref 0, .int (nI s)] (A, R, G) (some (.int (unlV Λ n (fun k => A (41 + 2 * s) k) z 0 (vX A 11)))) (A', R, G) := by
  refine aC_exA vX4_firstOther (Nat.le_of_ble_eq_true rfl) fun E hE => ?_
  refine sX4_firstOther_0 hG _ ?_
  simp (disch := omega) only [nI_clamp]
  exact ⟨vp_in_nI (by omega) (by omega), _, hR, lX4_first hG h80 hL hn hn6 hT hs hz hz2 _ hE z 0 A _ (by omega) jDX.rf hi rfl⟩
end XD
