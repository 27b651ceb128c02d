section ME
variable {A : Nat → Nat → Int32} {R : Nat → Nat → Option Nat} {G : Nat → Nat × Nat} {Λ : aLm}
theorem nI_m1 {k : Nat} (h : k < 2147483648) : ¬ nI k = -1 := fun q => by
  have h1 : (nI k).toInt = (-1 : Int32).toInt := by rw [q]
  rw [nI_toInt h] at h1
  have h2 : (-1 : Int32).toInt = -1 := rfl
  omega
theorem nI_mulc {a k : Nat} : nI a * nI k = nI (a * k) := by
  unfold nI
  exact (Int32.ofNat_mul a k).symm
theorem lX5_unlE {E : aR} {B A1 : Nat → Nat → Int32} (hG : aGS G) (hk1 : kpM A A1) (hj : jD A1 B) {s : Nat} (r x3 : Int32) (hE : ∀ A', jT A A' → E (some (.int r)) (A', R, G)) : ∃ (μ1 : aM), CX5_lays [.ref 48] (B, R, G) none μ1 ∧ aw tX5_unlike E 60 [some (.ref 48), some (.int (nI s)), some (.int r), some (.int x3)] [] μ1 := by
  obtain ⟨D, hl, hC⟩ := qX5_lays (A := B) (R := R) hG
  exact ⟨_, hC, sX5_unlike_60 _ _ _ (hE D (jT.of hk1 hj.T hl))⟩
theorem lX5_unlike {E : aR} {A1 : Nat → Nat → Int32} (hG : aGS G) (hL : LMA A Λ) (hk1 : kpM A A1) {n s z : Nat} (hn : A 48 0 = nI n) (hn6 : n ≤ 6) (hs : s < 4) (hz : z ≤ 40) (hz2 : A 59 s = nI z) (r : Int32) (hE : ∀ A', jT A A' → E (some (.int r)) (A', R, G)) :
    ∀ (i k : Nat) (B : Nat → Nat → Int32), k + i = z → jD A1 B → r = unlV Λ n (fun k => A 60 (40 * s + k)) i k (vM B) → aw tX5_unlike E 8 [some (.ref 48), some (.int (nI s)), some (.int (-1)), some (.int (nI k))] [] (B, R, G)
  | 0, k, B, hk, hj, hr => by
    have h59 : B 59 s = nI z := by rw [hj.1 59 (by decide) (by decide) (by decide) (by decide) (by decide), hk1.1 59 (by decide)]; exact hz2
    have hr : r = -1 := hr
    subst hr
    have he : z = k := by omega
    subst he
    refine sX5_unlike_8 hG _ _ _ ?_
    simp (disch := omega) only [nI_clamp]
    rw [h59]
    exact ⟨vp_in_nI (by omega) (by omega), fun _ => lX5_unlE hG hk1 hj _ _ hE, fun h => absurd (nI_le (a := z) (b := z) (by omega) (by omega)) h⟩
  | i + 1, k, B, hk, hj, hr => by
    have h48 : B 48 0 = nI n := by rw [hj.2 0 (by decide) (by decide), hk1.1 48 (by decide)]; exact hn
    have h59 : B 59 s = nI z := by rw [hj.1 59 (by decide) (by decide) (by decide) (by decide) (by decide), hk1.1 59 (by decide)]; exact hz2
    have h60 : B 60 = A 60 := by rw [hj.1 60 (by decide) (by decide) (by decide) (by decide) (by decide), hk1.1 60 (by decide)]
    obtain ⟨B1, ⟨hj1, hv1⟩, hC⟩ := qX5_dayOf (R := R) hG (hj.L (hk1.L hL)) h48 hn6
    have hj2 := hj.tr hj1
    have h59' : B1 59 s = nI z := by rw [hj1.1 59 (by decide) (by decide) (by decide) (by decide) (by decide)]; exact h59
    unfold unlV at hr
    refine sX5_unlike_8 hG _ _ _ ?_
    simp (disch := omega) only [nI_clamp, show (40 : Int32) = nI 40 from rfl, nI_mulc, nI_add]
    rw [h59]
    refine ⟨vp_in_nI (by omega) (by omega), fun h => absurd h (nI_ge (by omega) (by omega)), fun _ => ⟨fun _ => ⟨vp_in_nI (by omega) (by omega), _, _, hC, ?_⟩, fun h => absurd trivial h⟩⟩
    rw [h60]
    refine sX5_unlike_38 _ _ _ _ _ ⟨fun h => ?_, fun h => ?_⟩
    · rw [if_pos h, ← hv1] at hr
      rw [nI_1]
      exact lX5_unlike hG hL hk1 hn hn6 hs hz hz2 r hE i (k + 1) B1 (by omega) hj2 hr
    · rw [if_neg h] at hr
      rw [nI_1]
      refine sX5_unlike_8 hG _ _ _ ?_
      simp (disch := omega) only [nI_clamp]
      rw [h59', ← hr]
      refine ⟨vp_in_nI (by omega) (by omega), fun _ => lX5_unlE hG hk1 hj2 _ _ hE, fun _ => ⟨fun h => absurd h (by rw [hr]; exact nI_m1 (by omega)), fun _ => lX5_unlE hG hk1 hj2 _ _ hE⟩⟩
theorem qX5_unlike (hG : aGS G) (hL : LMA A Λ) {n s z : Nat} (hn : A 48 0 = nI n) (hn6 : n ≤ 6) (hs : s < 4) (hz : z ≤ 40) (hz2 : A 59 s = nI z) : ∃ A', jT A A' ∧ CX5_unlike [.ref 48, .int (nI s)] (A, R, G) (some (.int (unlV Λ n (fun k => A 60 (40 * s + k)) z 0 (vM A)))) (A', R, G) := by
  obtain ⟨A1, hk1, hC1⟩ := qX5_keeps (A := A) (R := R) hG
  refine aC_exA vX5_unlike (Nat.le_of_ble_eq_true rfl) fun E hE => ?_
  refine sX5_unlike_0 hG _ ⟨_, hC1, sX5_unlike_6 _ _ _ ?_⟩
  exact lX5_unlike hG hL hk1 hn hn6 hs hz hz2 _ hE z 0 A1 (by omega) jD.rf (by rw [hk1.v])
/-! burglars by lots: the bench, the lot, how many are heard -/
def lotP (l : Int64) : Int32 := (l - l / 6 * 6).toInt32
def lotT (l : Int64) : Int32 := (l - l / 10 * 10).toInt32
noncomputable def brg1 (Λ : aLm) (n : Nat) (s : aV × Int64 × Int32) : aV × Int64 × Int32 :=
  let l1 := lotF s.2.1
  let l2 := lotF l1
  let v := if nI n ≤ lotP l1 then s.1 else au s.1 2 (lotP l1).toNatClampNeg (s.1 2 (lotP l1).toNatClampNeg ^^^ ((1 : Int32) <<< (lotT l2 &&& 31)))
  ((dayV Λ n v).1, l2, s.2.2 + ones (dayV Λ n v).2)
noncomputable def brgV (Λ : aLm) (n : Nat) (v : aV) (l : Int64) : Nat → aV × Int64 × Int32
  | 0 => (v, l, 0)
  | k + 1 => brg1 Λ n (brgV Λ n v l k)
/-- a lot that stays one -/
def isLot (l : Int64) : Prop := 0 ≤ l.toInt ∧ l.toInt < 2147483647
theorem lot_mod {l : Int64} {m : Int64} {d : Int} (h : 0 ≤ l.toInt) (hd : m.toInt = d) (hd0 : 0 < d) (hd1 : d < 4294967296) (hl : l.toInt < 4294967296 * 65536) : (l - l / m * m).toInt = l.toInt % d := by
  have e1 : (l / m).toInt = l.toInt / d := by
    rw [Int64.toInt_div, hd, Int.tdiv_eq_ediv_of_nonneg h]
    refine Int.bmod_eq_of_le ?_ ?_
    · have := Int.ediv_nonneg h (by omega : 0 ≤ d); omega
    · have := Int.ediv_le_self d h; omega
  have h0 := Int.ediv_nonneg h (by omega : 0 ≤ d)
  have h1 : l.toInt / d * d ≤ l.toInt := Int.ediv_mul_le _ (by omega)
  have h2 := Int.emod_add_mul_ediv l.toInt d
  have h3 := Int.emod_nonneg l.toInt (by omega : d ≠ 0)
  have h5 : d * (l.toInt / d) = l.toInt / d * d := Int.mul_comm _ _
  have h6 : 0 ≤ l.toInt / d * d := Int.mul_nonneg h0 (by omega)
  have e2 : (l / m * m).toInt = l.toInt / d * d := by
    rw [Int64.toInt_mul, e1, hd]
    exact Int.bmod_eq_of_le (by omega) (by omega)
  rw [Int64.toInt_sub, e2, Int.bmod_eq_of_le (by omega) (by omega)]
  omega
theorem lotF_is {l : Int64} (h : isLot l) : isLot (lotF l) := by
  have e1 : (l * 48271).toInt = l.toInt * 48271 := by
    rw [Int64.toInt_mul, show (48271 : Int64).toInt = 48271 from rfl]
    have := h.1; have := h.2
    exact Int.bmod_eq_of_le (by omega) (by omega)
  have h1 := h.1; have h2 := h.2
  have e2 : (lotF l).toInt = (l.toInt * 48271) % 2147483647 := by
    unfold lotF
    rw [lot_mod (by rw [e1]; omega) (show (2147483647 : Int64).toInt = 2147483647 from rfl) (by decide) (by decide) (by rw [e1]; omega), e1]
  unfold isLot
  rw [e2]
  omega
theorem to32 {l : Int64} (h0 : 0 ≤ l.toInt) (h1 : l.toInt < 2147483648) : l.toInt32.toInt = l.toInt := by
  rw [Int64.toInt_toInt32]
  exact Int.bmod_eq_of_le (by omega) (by omega)
theorem i_nI {x : Int32} {m : Nat} (hm : m < 2147483648) (h : x.toInt = (m : Int)) : x = nI m := by
  refine Int32.toInt_inj.mp ?_
  rw [h, nI_toInt hm]
theorem lotP_is {l : Int64} (h : isLot l) : ∃ p, p < 6 ∧ lotP l = nI p := by
  have h1 := h.1; have h2 := h.2
  have e := lot_mod (l := l) (m := 6) (d := 6) h1 rfl (by decide) (by decide) (by omega)
  refine ⟨(l.toInt % 6).toNat, by omega, ?_⟩
  refine i_nI (by omega) ?_
  unfold lotP
  rw [to32 (by rw [e]; omega) (by rw [e]; omega), e]
  omega
theorem lotT_is {l : Int64} (h : isLot l) : ∃ p, p < 10 ∧ lotT l = nI p := by
  have h1 := h.1; have h2 := h.2
  have e := lot_mod (l := l) (m := 10) (d := 10) h1 rfl (by decide) (by decide) (by omega)
  refine ⟨(l.toInt % 10).toNat, by omega, ?_⟩
  refine i_nI (by omega) ?_
  unfold lotT
  rw [to32 (by rw [e]; omega) (by rw [e]; omega), e]
  omega
theorem lX5_burglars {E : aR} {A1 : Nat → Nat → Int32} (hG : aGS G) (hL : LMA A Λ) (hk1 : kpM A A1) {n : Nat} {l : Int64} (hn : A 48 0 = nI n) (hn6 : n ≤ 6) (hE : ∀ A', jT A A' → A' 48 34 = thereV (brgV Λ n (vM A) l 10).1 → E (some (.int (brgV Λ n (vM A) l 10).2.2)) (A', R, G)) :
    ∀ (i k : Nat) (B : Nat → Nat → Int32) (d1 d6 : Option Value), k + i = 10 → jD A1 B → vM B = (brgV Λ n (vM A) l k).1 → isLot (brgV Λ n (vM A) l k).2.1 → aw tX5_burglars E 15 [some (.ref 48), d1, some (.long (brgV Λ n (vM A) l k).2.1), none, some (.int (brgV Λ n (vM A) l k).2.2), some (.int (nI k)), d6] [] (B, R, G)
  | 0, k, B, d1, d6, hk, hj, hv, hl => by
    have hk2 : k = 10 := by omega
    subst hk2
    refine sX5_burglars_15 hG _ _ _ _ _ ⟨fun _ => ?_, fun h => absurd (nI_le (a := 10) (b := 10) (by omega) (by omega)) h⟩
    obtain ⟨D, hl, hC⟩ := qX5_lays (A := au B 48 34 (csM B)) (R := R) hG
    refine ⟨_, hC, sX5_burglars_109 _ _ _ _ _ (hE D (jT.of hk1 ⟨fun o h48 h51 h52 h64 h65 => ?_, fun k h5 h6 h34 => ?_⟩ hl) ?_)⟩
    · rw [au_o h48]; exact hj.1 o h48 h51 h52 h64 h65
    · rw [au_j h34]; exact hj.2 k h5 h6
    · rw [hl.2.1 34 (by decide) (by decide), au_k, csM_v, hv]
  | i + 1, k, B, d1, d6, hk, hj, hv, hl => by
    have h48 : B 48 0 = nI n := by rw [hj.2 0 (by decide) (by decide), hk1.1 48 (by decide)]; exact hn
    have hl1 := lotF_is hl
    have hl2 := lotF_is hl1
    obtain ⟨p, hp, hp2⟩ := lotP_is hl1
    have hs : brgV Λ n (vM A) l (k + 1) = brg1 Λ n (brgV Λ n (vM A) l k) := rfl
    unfold brg1 at hs
    simp only [] at hs
    rw [hp2, nI_clamp (by omega)] at hs
    refine sX5_burglars_15 hG _ _ _ _ _ ⟨fun h => absurd h (nI_ge (a := k) (b := 10) (by omega) (by omega)), fun _ => ?_⟩
    generalize hs0 : brgV Λ n (vM A) l k = s0 at *
    have q1 : s0.2.1 * 48271 - s0.2.1 * 48271 / 2147483647 * 2147483647 = lotF s0.2.1 := rfl
    rw [q1]
    have q2 : lotF s0.2.1 * 48271 - lotF s0.2.1 * 48271 / 2147483647 * 2147483647 = lotF (lotF s0.2.1) := rfl
    rw [q2]
    have q3 : (lotF s0.2.1 - lotF s0.2.1 / 6 * 6).toInt32 = nI p := hp2
    rw [q3, h48]
    refine ⟨fun h => ?_, fun h => ?_⟩
    · rw [if_pos h] at hs
      obtain ⟨B1, ⟨hj1, hv1⟩, hC⟩ := qX5_dayOf (R := R) hG (hj.L (hk1.L hL)) h48 hn6
      rw [hv] at hv1 hC
      refine ⟨_, _, hC, sX5_burglars_85 _ _ _ _ _ _ _ ?_⟩
      rw [nI_1]
      have ih := lX5_burglars hG hL hk1 hn hn6 hE i (k + 1) B1 none (some (.int (nI p))) (by omega) (hj.tr hj1) (by rw [hv1, hs]) (by rw [hs]; exact hl2)
      rw [hs] at ih
      exact ih
    · rw [if_neg h] at hs
      simp (disch := omega) only [nI_mul3, nI_clamp]
      refine ⟨vp_in_nI (by omega) (by omega), fun v4 h4 v5 h5 => sX5_burglars_79 hG _ _ _ _ _ ?_⟩
      have q4 : v4 = (1 : Int32) <<< (lotT (lotF (lotF s0.2.1)) &&& 31) := h4
      have e2 : B 51 (3 * p) = s0.1 2 p := by rw [← hv]; rfl
      rw [e2, q4] at h5
      have hj0 : jD B (au B 51 (3 * p) v5) := jD.a51
      obtain ⟨B1, ⟨hj1, hv1⟩, hC⟩ := qX5_dayOf (R := R) (A := au B 51 (3 * p) v5) hG ((hj.tr hj0).L (hk1.L hL)) (by rw [aua (by decide)]; exact h48) hn6
      rw [vM_2, hv, h5] at hv1 hC
      rw [← h5] at hC
      refine ⟨_, _, hC, sX5_burglars_85 _ _ _ _ _ _ _ ?_⟩
      rw [nI_1]
      have ih := lX5_burglars hG hL hk1 hn hn6 hE i (k + 1) B1 none (some (.int (nI p))) (by omega) ((hj.tr hj0).tr hj1) (by rw [hv1, hs]) (by rw [hs]; exact hl2)
      rw [hs, ← h5] at ih
      exact ih
theorem qX5_burglars (hG : aGS G) (hL : LMA A Λ) {n : Nat} {x : Int32} (hn : A 48 0 = nI n) (hn6 : n ≤ 6) (hl : isLot (x.toInt64 + 1)) : ∃ A', (jT A A' ∧ A' 48 34 = thereV (brgV Λ n (vM A) (x.toInt64 + 1) 10).1) ∧ CX5_burglars [.ref 48, .int x] (A, R, G) (some (.int (brgV Λ n (vM A) (x.toInt64 + 1) 10).2.2)) (A', R, G) := by
  obtain ⟨A1, hk1, hC1⟩ := qX5_keeps (A := A) (R := R) hG
  refine aC_exA vX5_burglars (Nat.le_of_ble_eq_true rfl) fun E hE => ?_
  refine sX5_burglars_0 hG _ ⟨_, hC1, sX5_burglars_12 _ _ _ _ _ ?_⟩
  exact lX5_burglars hG hL hk1 hn hn6 (fun A' h1 h2 => hE A' ⟨h1, h2⟩) 10 0 A1 _ _ (by omega) jD.rf hk1.v hl
end ME
