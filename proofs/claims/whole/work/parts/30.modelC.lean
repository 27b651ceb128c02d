/-- the first who can, of m from k on -/
noncomputable def fstV (Λ : aLm) (v : aV) (c : Nat) : Nat → Nat → Option Nat
  | 0, _ => none
  | m + 1, k => @ite _ (canV Λ v k c) (Classical.propDecidable _) (some k) (fstV Λ v c m (k + 1))
def decV1 (v : aV) (p : Nat) : aV := au v 4 p (v 4 p - (if v 4 p ≤ 0 then 0 else 1))
def decV (v : aV) : Nat → aV
  | 0 => v
  | k + 1 => decV1 (decV v k) k
noncomputable def stpV (Λ : aLm) (n : Nat) (s : aV × Int32) (c : Nat) : aV × Int32 :=
  if s.1 5 c = 0 then s else match fstV Λ s.1 c n 0 with
    | some p => (holV Λ s.1 p c, s.2 ||| (1 <<< (nI c &&& 31)))
    | none => (au s.1 7 c (clI (s.1 7 c + 1) 0 99), s.2)
noncomputable def casV (Λ : aLm) (n : Nat) (v : aV) : Nat → aV × Int32
  | 0 => (v, 0)
  | k + 1 => stpV Λ n (casV Λ n v k) k
/-- a day of n judges: the bench behind it, what is heard -/
noncomputable def dayV (Λ : aLm) (n : Nat) (v : aV) : aV × Int32 :=
  (au (casV Λ n (decV v n) 8).1 8 1 ((casV Λ n (decV v n) 8).1 8 1 + 1), (casV Λ n (decV v n) 8).2)
section MC
variable {A : Nat → Nat → Int32} {R : Nat → Nat → Option Nat} {G : Nat → Nat × Nat} {Λ : aLm}
theorem lX5_isHeard {E : aR} (hG : aGS G) (hL : LMA A Λ) {n c : Nat} (hn : A 48 0 = nI n) (hn6 : n ≤ 6) (hc : c < 8) (r : Option Nat) (hE : ∀ A', (∀ p, r = some p → jD A A' ∧ vM A' = holV Λ (vM A) p c) → (r = none → jM A A') → E (some (.int (bI (∃ p, r = some p)))) (A', R, G)) :
    ∀ (m k : Nat) (B : Nat → Nat → Int32), k + m = n → jM A B → r = fstV Λ (vM A) c m k → aw tX5_isHeard E 2 [some (.ref 48), some (.int (nI c)), some (.int (nI k))] [] (B, R, G)
  | 0, k, B, hk, hj, hr => by
    have h48 : B 48 0 = nI n := by rw [hj 48 (by decide) (by decide)]; exact hn
    have hr : r = none := hr
    refine sX5_isHeard_2 hG _ _ ⟨fun _ => aE_n (hE B (fun p hp => ?_) (fun _ => hj)) ?_, fun h => absurd ?_ h⟩
    · rw [hr] at hp; cases hp
    · rintro ⟨p, hp⟩; rw [hr] at hp; cases hp
    · rw [h48]; exact nI_le (by omega) (by omega)
  | m + 1, k, B, hk, hj, hr => by
    have h48 : B 48 0 = nI n := by rw [hj 48 (by decide) (by decide)]; exact hn
    refine sX5_isHeard_2 hG _ _ ⟨fun h => absurd h (by rw [h48]; exact nI_ge (by omega) (by omega)), fun _ => ?_⟩
    obtain ⟨B1, hj1, hC1⟩ := qX5_can (R := R) hG (hj.L hL) (p := k) (c := c) (by omega) hc
    rw [hj.v] at hC1
    refine ⟨_, _, hC1, ?_⟩
    by_cases hcan : canV Λ (vM A) k c
    · have hr2 : r = some k := by rw [hr]; unfold fstV; rw [if_pos hcan]
      obtain ⟨B2, ⟨hj2, hv2⟩, hC2⟩ := qX5_hears (R := R) hG ((hj.tr hj1).L hL) (p := k) (c := c) (by omega) hc
      refine sX5_isHeard_16 hG _ _ _ ⟨fun h => absurd h (bI_ne hcan), fun _ => ⟨_, _, hC2, sX5_isHeard_25 _ _ _ ?_⟩⟩
      refine aE_b (hE B2 (fun p hp => ?_) (fun h => by rw [hr2] at h; cases h)) ⟨k, hr2⟩
      rw [hr2] at hp
      cases hp
      rw [(hj.tr hj1).v] at hv2
      exact ⟨(hj.tr hj1).d.tr hj2, hv2⟩
    · have hr2 : r = fstV Λ (vM A) c m (k + 1) := by rw [hr]; conv => lhs; unfold fstV; rw [if_neg hcan]
      refine sX5_isHeard_16 hG _ _ _ ⟨fun _ => ?_, fun h => absurd (bI_f hcan) h⟩
      rw [nI_1]
      exact lX5_isHeard hG hL hn hn6 hc r hE m (k + 1) B1 (by omega) (hj.tr hj1) hr2
theorem qX5_isHeard (hG : aGS G) (hL : LMA A Λ) {n c : Nat} (hn : A 48 0 = nI n) (hn6 : n ≤ 6) (hc : c < 8) : ∃ A', ((∀ p, fstV Λ (vM A) c n 0 = some p → jD A A' ∧ vM A' = holV Λ (vM A) p c) ∧ (fstV Λ (vM A) c n 0 = none → jM A A')) ∧ CX5_isHeard [.ref 48, .int (nI c)] (A, R, G) (some (.int (bI (∃ p, fstV Λ (vM A) c n 0 = some p)))) (A', R, G) := by
  refine aC_exA vX5_isHeard (Nat.le_of_ble_eq_true rfl) fun E hE => ?_
  exact sX5_isHeard_0 (nI c) (lX5_isHeard hG hL hn hn6 hc _ (fun A' h1 h2 => hE A' ⟨h1, h2⟩) n 0 A (by omega) jM.rf rfl)
theorem thM_iff {B : Nat → Nat → Int32} {k : Nat} (hk : k < 8) : thM B (nI k) ↔ ¬ vM B 5 k = 0 := by
  constructor
  · rintro ⟨j, hj, e, h⟩
    rw [nI_eq (by omega) (by omega)] at e
    subst e
    exact h
  · intro h
    exact ⟨k, hk, rfl, h⟩
theorem lX5_dec {E : aR} (hG : aGS G) {n : Nat} (hn : A 48 0 = nI n) (hn6 : n ≤ 6) (hE : ∀ B, jD A B → vM B = decV (vM A) n → aw tX5_dayOf E 51 [some (.ref 48), some (.int 0), some (.int 0)] [] (B, R, G)) :
    ∀ (m k : Nat) (B : Nat → Nat → Int32), k + m = n → jD A B → vM B = decV (vM A) k → aw tX5_dayOf E 4 [some (.ref 48), some (.int 0), some (.int (nI k))] [] (B, R, G)
  | 0, k, B, hk, hj, hv => by
    have h48 : B 48 0 = nI n := by rw [hj.2 0 (by decide) (by decide)]; exact hn
    have hk2 : k = n := by omega
    subst hk2
    exact sX5_dayOf_4 hG _ _ ⟨fun _ => hE B hj hv, fun h => absurd (by rw [h48]; exact nI_le (by omega) (by omega)) h⟩
  | m + 1, k, B, hk, hj, hv => by
    have h48 : B 48 0 = nI n := by rw [hj.2 0 (by decide) (by decide)]; exact hn
    refine sX5_dayOf_4 hG _ _ ⟨fun h => absurd h (by rw [h48]; exact nI_ge (by omega) (by omega)), fun _ => ?_⟩
    simp (disch := omega) only [nI_mul3, nI_clamp, show (2 : Int32) = nI 2 from rfl, nI_add, nI_1]
    have e4 : B 51 (3 * k + 2) = decV (vM A) k 4 k := by rw [← hv]; rfl
    refine ⟨vp_in_nI (by omega) (by omega), fun h => ?_, fun h => ?_⟩
    · refine lX5_dec hG hn hn6 hE m (k + 1) _ (by omega) (hj.tr jD.a51) ?_
      rw [vM_4, hv, e4]
      rw [e4] at h
      show _ = decV1 (decV (vM A) k) k
      unfold decV1
      rw [if_pos h]
    · refine lX5_dec hG hn hn6 hE m (k + 1) _ (by omega) (hj.tr jD.a51) ?_
      rw [vM_4, hv, e4]
      rw [e4] at h
      show _ = decV1 (decV (vM A) k) k
      unfold decV1
      rw [if_neg h]
theorem lX5_cas {E : aR} (hG : aGS G) (hL : LMA A Λ) {n : Nat} (hn : A 48 0 = nI n) (hn6 : n ≤ 6) (w : aV) (hE : ∀ B, jD A B → vM B = (casV Λ n w 8).1 → E (some (.int (casV Λ n w 8).2)) (au B 48 5 (B 48 5 + 1), R, G)) :
    ∀ (m k : Nat) (B : Nat → Nat → Int32), k + m = 8 → jD A B → vM B = (casV Λ n w k).1 → aw tX5_dayOf E 51 [some (.ref 48), some (.int (casV Λ n w k).2), some (.int (nI k))] [] (B, R, G)
  | 0, k, B, hk, hj, hv => by
    have hk2 : k = 8 := by omega
    subst hk2
    exact sX5_dayOf_51 hG _ _ ⟨fun _ => hE B hj hv, fun h => absurd (nI_le (a := 8) (b := 8) (by omega) (by omega)) h⟩
  | m + 1, k, B, hk, hj, hv => by
    have h48 : B 48 0 = nI n := by rw [hj.2 0 (by decide) (by decide)]; exact hn
    refine sX5_dayOf_51 hG _ _ ⟨fun h => absurd h (nI_ge (a := k) (b := 8) (by omega) (by omega)), fun _ => ⟨fun ht => ?_, fun ht => ?_⟩⟩
    · rw [thM_iff (by omega), hv] at ht
      obtain ⟨B1, ⟨hp, hq⟩, hC⟩ := qX5_isHeard (R := R) hG (hj.L hL) h48 hn6 (c := k) (by omega)
      rw [hv] at hp hq hC
      refine ⟨_, _, hC, ?_⟩
      cases hf : fstV Λ (casV Λ n w k).1 k n 0 with
      | none =>
        have hj1 := hq hf
        refine sX5_dayOf_70 hG _ _ _ ⟨fun _ => ?_, fun h => (h (bI_f (fun q => by obtain ⟨p, q⟩ := q; cases q))).elim⟩
        simp (disch := omega) only [nI_mul3, nI_clamp, show (2 : Int32) = nI 2 from rfl, nI_add, nI_1]
        refine ⟨vp_in_nI (by omega) (by omega), ?_⟩
        have e7 : B1 52 (3 * k + 2) = (casV Λ n w k).1 7 k := by rw [← hv, ← hj1.v]; rfl
        have hs : casV Λ n w (k + 1) = (au (casV Λ n w k).1 7 k (clI ((casV Λ n w k).1 7 k + 1) 0 99), (casV Λ n w k).2) := by
          show stpV Λ n (casV Λ n w k) k = _
          unfold stpV
          rw [if_neg ht, hf]
        have ih := lX5_cas hG hL hn hn6 w hE m (k + 1) (au B1 52 (3 * k + 2) (clI (B1 52 (3 * k + 2) + 1) 0 99)) (by omega) ((hj.tr hj1.d).tr jD.a52) (by rw [vM_7, hj1.v, hv, e7, hs])
        rw [hs] at ih
        exact ih
      | some p =>
        obtain ⟨hj1, hv1⟩ := hp p hf
        refine sX5_dayOf_70 hG _ _ _ ⟨fun h => absurd h (bI_ne ⟨p, rfl⟩), fun _ => ?_⟩
        rw [nI_1]
        have hs : casV Λ n w (k + 1) = (holV Λ (casV Λ n w k).1 p k, (casV Λ n w k).2 ||| (1 <<< (nI k &&& 31))) := by
          show stpV Λ n (casV Λ n w k) k = _
          unfold stpV
          rw [if_neg ht, hf]
        have ih := lX5_cas hG hL hn hn6 w hE m (k + 1) B1 (by omega) (hj.tr hj1) (by rw [hv1, hs])
        rw [hs] at ih
        exact ih
    · rw [thM_iff (by omega), hv] at ht
      rw [nI_1]
      have hs : casV Λ n w (k + 1) = casV Λ n w k := by
        show stpV Λ n (casV Λ n w k) k = _
        unfold stpV
        rw [if_pos (Classical.byContradiction ht)]
      have ih := lX5_cas hG hL hn hn6 w hE m (k + 1) B (by omega) hj (by rw [hv, hs])
      rw [hs] at ih
      exact ih
theorem dayV_1 {n : Nat} {v : aV} : (dayV Λ n v).1 = au (casV Λ n (decV v n) 8).1 8 1 ((casV Λ n (decV v n) 8).1 8 1 + 1) := by unfold dayV; with_reducible rfl
theorem dayV_2 {n : Nat} {v : aV} : (dayV Λ n v).2 = (casV Λ n (decV v n) 8).2 := by unfold dayV; with_reducible rfl
theorem qX5_dayOf (hG : aGS G) (hL : LMA A Λ) {n : Nat} (hn : A 48 0 = nI n) (hn6 : n ≤ 6) : ∃ A', (jD A A' ∧ vM A' = (dayV Λ n (vM A)).1) ∧ CX5_dayOf [.ref 48] (A, R, G) (some (.int (dayV Λ n (vM A)).2)) (A', R, G) := by
  rw [dayV_1, dayV_2]
  refine aC_exA vX5_dayOf (Nat.le_of_ble_eq_true rfl) fun E hE => ?_
  refine sX5_dayOf_0 (lX5_dec hG hn hn6 (fun B hj hv => ?_) n 0 A (by omega) jD.rf rfl)
  have h48 : B 48 0 = nI n := by rw [hj.2 0 (by decide) (by decide)]; exact hn
  have key := lX5_cas (R := R) (E := E) hG (hj.L hL) h48 hn6 (decV (vM A) n) (fun C hj1 hv1 => hE _ ⟨(hj.tr hj1).tr (jD.a48 (Or.inl rfl)), by
    have e8 : C 48 5 = (casV Λ n (decV (vM A) n) 8).1 8 1 := by rw [← hv1]; rfl
    rw [vM_8 (Or.inr (Or.inl ⟨rfl, rfl⟩)), hv1, e8]⟩) 8 0 B (by omega) jD.rf hv
  exact key
end MC
