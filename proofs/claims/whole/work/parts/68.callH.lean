/-- how many of the first k hold -/
noncomputable def cntN (P : Nat → Prop) : Nat → Nat
  | 0 => 0
  | k + 1 => @ite _ (P k) (Classical.propDecidable _) (cntN P k + 1) (cntN P k)
/-- as A, but for the losses of judge p -/
def jWM (p : Nat) (A B : Nat → Nat → Int32) : Prop := (∀ o, ¬ o = 51 → ¬ o = 64 → ¬ o = 65 → B o = A o) ∧ ∀ j, ¬ j = 3 * p → B 51 j = A 51 j
section CH
variable {A A' B C D : Nat → Nat → Int32} {R R' R1 : Nat → Nat → Option Nat} {G : Nat → Nat × Nat} {n t T w t' : Nat} {W : Nat → Nat → List Nat} {Λ : aLm} {v u : aV}
theorem cntN_s {P : Nat → Prop} {k : Nat} : cntN P (k + 1) = @ite _ (P k) (Classical.propDecidable _) (cntN P k + 1) (cntN P k) := by
  conv => lhs; unfold cntN
theorem cntN_le {P : Nat → Prop} : ∀ k, cntN P k ≤ k
  | 0 => by unfold cntN; omega
  | k + 1 => by
    rw [cntN_s]
    have := cntN_le (P := P) k
    by_cases h : P k
    · rw [if_pos h]; omega
    · rw [if_neg h]; omega
theorem lot_n {k : Nat} (hk : k < 2147483646) : isLot ((nI k).toInt64 + 1) := by
  have e : ((nI k).toInt64 + 1).toInt = (k : Int) + 1 := by
    rw [Int64.toInt_add, nL_toInt (by omega), show (1 : Int64).toInt = 1 from rfl]
    exact Int.bmod_eq_of_le (by omega) (by omega)
  unfold isLot
  rw [e]
  omega
theorem c_drawn (hJ : sJ n t T W A R G) (x1 x2 : Int32) : bthI T W CX4_drawn CX5_drawn [.int x1, .int x2] A R G := by
  have hG := hJ.gs
  have hn6 := hJ.n6
  by_cases h1 : 0 ≤ x1 ∧ x1 ≤ 99999
  case neg => exact qry0 hJ _ (aC_of (Nat.le_of_ble_eq_true rfl) fun E hE => sX4_drawn_0 hG _ _ (br_f h1 hE)) (aC_of (Nat.le_of_ble_eq_true rfl) fun E hE => sX5_drawn_0 hG _ _ (br_f h1 hE))
  by_cases h2 : 0 ≤ x2 ∧ x2 ≤ 1
  case neg => exact qry0 hJ _ (aC_of (Nat.le_of_ble_eq_true rfl) fun E hE => sX4_drawn_0 hG _ _ (br_t h1 (br_f h2 hE))) (aC_of (Nat.le_of_ble_eq_true rfl) fun E hE => sX5_drawn_0 hG _ _ (br_t h1 (br_f h2 hE)))
  obtain ⟨k, hk, rfl⟩ := rngI 99999 (by omega) h1
  have hl := lot_n (k := k) (by omega)
  obtain ⟨A1, ⟨hj, h11⟩, hC⟩ := qX4_heardAmongBurglars hG hn6 tw80 hJ.bn hJ.hi hl
  refine qry hJ (if x2 = 0 then (brgV (LamW (W t)) n (vX A 1) ((nI k).toInt64 + 1) 10).2.2 else thereV (brgV (LamW (W t)) n (vX A 1) ((nI k).toInt64 + 1) 10).1) ⟨A1, ar R 11 14 (some (tw t)), ⟨hj.sc, scR.th⟩, aC_of (Nat.le_of_ble_eq_true rfl) fun E hE => sX4_drawn_0 hG _ _ (br_t h1 (br_t h2 ⟨_, _, hC, sX4_drawn_27 hG _ _ _ _ ⟨fun q => ?_, fun q => ?_⟩⟩))⟩ fun A' R' hJ' hs' hv' => ?_
  · rw [if_pos q] at hE; exact hE
  · rw [if_neg q] at hE; exact aE_e hE h11
  · obtain ⟨A2, ⟨hj2, h34⟩, hC2⟩ := qX5_burglars (R := R') hG hJ'.lm hJ'.m0 hn6 hl
    have hc := brgV_c (Λ := LamW (W t)) hJ.vv hl hn6 10
    rw [hv', ← hc.2] at hC2
    rw [hv', ← thereV_c hc.1] at h34
    refine ⟨A2, hj2.sc, aC_of (Nat.le_of_ble_eq_true rfl) fun E hE => sX5_drawn_0 hG _ _ (br_t h1 (br_t h2 ⟨_, _, hC2, sX5_drawn_27 hG _ _ _ _ ⟨fun q => ?_, fun q => ?_⟩⟩))⟩
    · rw [if_pos q] at hE; exact hE
    · rw [if_neg q] at hE; exact aE_e hE h34
theorem lX4_odd {E : aR} (hJ : sJ n t T W A R G) {k m part : Nat} {x3 : Int32} (hk : k < 100000) (hm : 0 < m ∧ m ≤ 40) (hp : part < 2) (hE : ∀ B R', scX A B → scR R R' → E (some (.long (nI (lowN (cntN (fun i => ¬ (brgV (LamW (W t)) n (vX A 1) ((nI (k + i)).toInt64 + 1) 10).2.2 < x3) m) m part)).toInt64)) (B, R', G)) :
    ∀ (i j : Nat) (B : Nat → Nat → Int32) (R' : Nat → Nat → Option Nat), j + i = m → scX A B → scR R R' → aw tX4_odds E 54 [some (.ref 0), some (.int (nI k)), some (.int (nI m)), some (.int x3), some (.int (nI part)), some (.int (nI (cntN (fun i => ¬ (brgV (LamW (W t)) n (vX A 1) ((nI (k + i)).toInt64 + 1) 10).2.2 < x3) j))), some (.int (nI j))] [] (B, R', G)
  | 0, j, B, R', hj, hs, hr => by
    have hj2 : j = m := by omega
    subst hj2
    have hle := cntN_le (P := fun i => ¬ (brgV (LamW (W t)) n (vX A 1) ((nI (k + i)).toInt64 + 1) 10).2.2 < x3) j
    exact sX4_odds_54 hJ.gs _ _ _ _ _ _ (br_t (nI_le (by omega) (by omega)) ⟨_, _, qX4_part (by omega) hm.1 (by omega) hp, sX4_odds_89 _ _ _ _ _ _ _ (hE B R' hs hr)⟩)
  | i + 1, j, B, R', hj, hs, hr => by
    have hJB := hJ.goX hs hr
    have hl := lot_n (k := k + j) (by omega)
    obtain ⟨A1, ⟨hj1, _⟩, hC⟩ := qX4_heardAmongBurglars hJ.gs hJ.n6 tw80 hJB.bn hJB.hi hl
    rw [hs.hX] at hC
    have ih := lX4_odd hJ hk hm hp hE i (j + 1) A1 (ar R' 11 14 (some (tw t))) (by omega) (hs.tr hj1.sc) (hr.tr scR.th)
    rw [cntN_s] at ih
    refine sX4_odds_54 hJ.gs _ _ _ _ _ _ (br_f (nI_ge (by omega) (by omega)) ?_)
    rw [nI_add]
    refine ⟨_, _, hC, sX4_odds_68 _ _ _ _ _ _ _ ⟨fun q => ?_, fun q => ?_⟩⟩
    · rw [if_neg (fun z => z q)] at ih
      rw [nI_1]
      exact ih
    · rw [if_pos q] at ih
      rw [nI_1, nI_1]
      exact ih
theorem lX5_odd {E : aR} (hJ : sJ n t T W A R G) {k m part : Nat} {x3 : Int32} (hk : k < 100000) (hm : 0 < m ∧ m ≤ 40) (hp : part < 2) (hE : ∀ B, scM A B → E (some (.long (nI (lowN (cntN (fun i => ¬ (brgV (LamW (W t)) n (vM A) ((nI (k + i)).toInt64 + 1) 10).2.2 < x3) m) m part)).toInt64)) (B, R, G)) :
    ∀ (i j : Nat) (B : Nat → Nat → Int32) (x5 : Int64), j + i = m → scM A B → x5.toInt = ((cntN (fun i => ¬ (brgV (LamW (W t)) n (vM A) ((nI (k + i)).toInt64 + 1) 10).2.2 < x3) j : Nat) : Int) → aw tX5_odds E 50 [some (.ref 48), some (.int (nI k)), some (.int (nI m)), some (.int x3), some (.int (nI part)), some (.long x5), none, some (.int (nI j))] [] (B, R, G)
  | 0, j, B, x5, hj, hs, hx => by
    have hj2 : j = m := by omega
    subst hj2
    have hle := cntN_le (P := fun i => ¬ (brgV (LamW (W t)) n (vM A) ((nI (k + i)).toInt64 + 1) 10).2.2 < x3) j
    exact sX5_odds_50 hJ.gs _ _ _ _ _ _ (br_t (nI_le (by omega) (by omega)) ⟨_, _, qX5_lowest hx (nL_toInt (by omega)) (by omega) hm.1 (by omega) hp, sX5_odds_93 _ _ _ _ _ _ _ (hE B hs)⟩)
  | i + 1, j, B, x5, hj, hs, hx => by
    have hJB := hJ.goM hs
    have hl := lot_n (k := k + j) (by omega)
    obtain ⟨A1, ⟨hj1, _⟩, hC⟩ := qX5_burglars (R := R) hJ.gs hJB.lm hJB.m0 hJ.n6 hl
    rw [← (brgV_c (Λ := LamW (W t)) (hs.2.2.le hJ.n6) hl hJ.n6 10).2] at hC
    have hle := cntN_le (P := fun i => ¬ (brgV (LamW (W t)) n (vM A) ((nI (k + i)).toInt64 + 1) 10).2.2 < x3) j
    have ih := fun x5 h => lX5_odd hJ hk hm hp hE i (j + 1) A1 x5 (by omega) (hs.tr hj1.sc) h
    rw [cntN_s] at ih
    refine sX5_odds_50 hJ.gs _ _ _ _ _ _ (br_f (nI_ge (by omega) (by omega)) ?_)
    rw [nI_add]
    refine ⟨_, _, hC, sX5_odds_66 _ _ _ _ _ _ _ _ ⟨fun q => ?_, fun q => ?_⟩⟩
    · rw [if_neg (fun z => z q)] at ih
      rw [nI_1, Int64.add_zero]
      exact ih x5 hx
    · rw [if_pos q] at ih
      rw [nI_1]
      refine ih _ ?_
      rw [Int64.toInt_add, hx, show (1 : Int64).toInt = 1 from rfl]
      exact Int.bmod_eq_of_le (by omega) (by omega)
theorem cntN_c {P Q : Nat → Prop} : ∀ m, (∀ k, k < m → (P k ↔ Q k)) → cntN P m = cntN Q m
  | 0, _ => by unfold cntN; rfl
  | m + 1, h => by
    rw [cntN_s, cntN_s, cntN_c m (fun k hk => h k (by omega))]
    by_cases q : P m
    · rw [if_pos q, if_pos ((h m (by omega)).mp q)]
    · rw [if_neg q, if_neg (fun z => q ((h m (by omega)).mpr z))]
theorem c_odds (hJ : sJ n t T W A R G) (x1 x2 x3 x4 : Int32) : bthL T W CX4_odds CX5_odds [.int x1, .int x2, .int x3, .int x4] A R G := by
  have hG := hJ.gs
  have hn6 := hJ.n6
  by_cases h1 : 0 ≤ x1 ∧ x1 ≤ 99999
  case neg => exact qry0L hJ _ (aC_of (Nat.le_of_ble_eq_true rfl) fun E hE => sX4_odds_0 _ _ _ _ (br_f h1 hE)) (aC_of (Nat.le_of_ble_eq_true rfl) fun E hE => sX5_odds_0 _ _ _ _ (br_f h1 hE))
  by_cases h2 : 1 ≤ x2 ∧ x2 ≤ 40
  case neg => exact qry0L hJ _ (aC_of (Nat.le_of_ble_eq_true rfl) fun E hE => sX4_odds_0 _ _ _ _ (br_t h1 (br_f h2 hE))) (aC_of (Nat.le_of_ble_eq_true rfl) fun E hE => sX5_odds_0 _ _ _ _ (br_t h1 (br_f h2 hE)))
  by_cases h3 : 0 ≤ x3 ∧ x3 ≤ 8
  case neg => exact qry0L hJ _ (aC_of (Nat.le_of_ble_eq_true rfl) fun E hE => sX4_odds_0 _ _ _ _ (br_t h1 (br_t h2 (br_f h3 hE)))) (aC_of (Nat.le_of_ble_eq_true rfl) fun E hE => sX5_odds_0 _ _ _ _ (br_t h1 (br_t h2 (br_f h3 hE))))
  by_cases h4 : 0 ≤ x4 ∧ x4 ≤ 1
  case neg => exact qry0L hJ _ (aC_of (Nat.le_of_ble_eq_true rfl) fun E hE => sX4_odds_0 _ _ _ _ (br_t h1 (br_t h2 (br_t h3 (br_f h4 hE))))) (aC_of (Nat.le_of_ble_eq_true rfl) fun E hE => sX5_odds_0 _ _ _ _ (br_t h1 (br_t h2 (br_t h3 (br_f h4 hE)))))
  obtain ⟨k, hk, rfl⟩ := rngI 99999 (by omega) h1
  obtain ⟨part, hp, rfl⟩ := rngI 1 (by omega) h4
  obtain ⟨m, hm1, hm, rfl⟩ := rgB (b := 1) (c := 40) (by omega) h2 (by omega)
  refine qryL hJ (nI (lowN (cntN (fun i => ¬ (brgV (LamW (W t)) n (vX A 1) ((nI (k + i)).toInt64 + 1) 10).2.2 < x3) m) m part)).toInt64 ?_ fun A' R' hJ' hs' hv' => ?_
  · refine aC_exM vX4_odds (Nat.le_of_ble_eq_true rfl) fun E hE => sX4_odds_0 _ _ _ _ (br_t h1 (br_t h2 (br_t h3 (br_t h4 ?_))))
    exact lX4_odd hJ (by omega) ⟨by omega, hm⟩ (by omega) (fun B R' h1 h2 => hE B R' ⟨h1, h2⟩) m 0 A R (by omega) scX.rf scR.rf
  · refine aC_exA vX5_odds (Nat.le_of_ble_eq_true rfl) fun E hE => sX5_odds_0 _ _ _ _ (br_t h1 (br_t h2 (br_t h3 (br_t h4 ?_))))
    refine lX5_odd hJ' (by omega) ⟨by omega, hm⟩ (by omega) (fun B h1 => ?_) m 0 A' 0 (by omega) scM.rf rfl
    have e : cntN (fun i => ¬ (brgV (LamW (W t)) n (vM A') ((nI (k + i)).toInt64 + 1) 10).2.2 < x3) m = cntN (fun i => ¬ (brgV (LamW (W t)) n (vX A 1) ((nI (k + i)).toInt64 + 1) 10).2.2 < x3) m := cntN_c m fun j hj => by
      rw [hv', (brgV_c (Λ := LamW (W t)) hJ.vv (lot_n (k := k + j) (by omega)) hn6 10).2]
    rw [e]
    exact hE B h1
/-! wants -/
theorem jWM.rf {p : Nat} : jWM p A A := ⟨fun _ _ _ _ => rfl, fun _ _ => rfl⟩
theorem jWM.a {p : Nat} {x : Int32} (h : jWM p A B) : jWM p A (au B 51 (3 * p) x) := ⟨fun o h1 h2 h3 => (au_o h1).trans (h.1 o h1 h2 h3), fun j hj => (au_j hj).trans (h.2 j hj)⟩
theorem jWM.m {p : Nat} (h : jWM p A B) (k : jM B C) : jWM p A C := ⟨fun o h1 h2 h3 => (k o h2 h3).trans (h.1 o h1 h2 h3), fun j hj => by rw [k 51 (by omega) (by omega)]; exact h.2 j hj⟩
theorem jWM.vv {p : Nat} (h : jWM p A B) {x : Int32} : vM (au B 51 (3 * p) x) = au (vM A) 2 p x := by
  have e : vM (au B 51 (3 * p) (A 51 (3 * p))) = vM A := by
    refine vM_go ((au_o (by omega)).trans (h.1 48 (by omega) (by omega) (by omega))) ((au_o (by omega)).trans (h.1 49 (by omega) (by omega) (by omega))) ((au_o (by omega)).trans (h.1 50 (by omega) (by omega) (by omega))) ?_ ((au_o (by omega)).trans (h.1 52 (by omega) (by omega) (by omega)))
    funext j
    by_cases q : j = 3 * p
    · subst q; exact au_k
    · exact (au_j q).trans (h.2 j q)
  rw [vM_2] at e ⊢
  rw [← e, au_au]
theorem jWM.L {p : Nat} (h : jWM p A B) (hL : LMA A Λ) : LMA B Λ := hL.go (h.1 54 (by omega) (by omega) (by omega)) (h.1 55 (by omega) (by omega) (by omega)) (by rw [h.1 48 (by omega) (by omega) (by omega)])
theorem jWM.sc {p : Nat} (h : jWM p A B) : scM A (au B 51 (3 * p) (A 51 (3 * p))) := by
  refine ⟨fun o h1 h2 => (au_o (by omega)).trans (h.1 o (by omega) (by omega) (by omega)), fun j _ _ _ => ?_, ?_⟩
  · rw [au_o (by omega), h.1 48 (by omega) (by omega) (by omega)]
  · rw [h.vv]
    exact eqV.of au_self.symm
theorem ones_11 : ∀ k, k < 1024 → ones (nI k) < 11 := by decide +kernel
theorem fewV_s {p c k : Nat} : fewV Λ v p c (k + 1) = @ite _ (nI k &&& v 2 p = 0 ∧ ones (nI k) < fsV (fewV Λ v p c k) ∧ mayV Λ (au v 2 p (v 2 p ||| nI k)) p c) (Classical.propDecidable _) (nI k) (fewV Λ v p c k) := by
  conv => lhs; unfold fewV
/-- how many the fewest are -/
def fmV (x : Int32) : Int32 := if x = -1 then -1 else ones x
theorem lX5_few {E : aR} (hJ : sJ n t T W A R G) {p c : Nat} {x3 : Int32} (hp : p < n) (hc : c < 8) (hE : ∀ B, scM A B → E (some (.int (if x3 = 0 then fewV (LamW (W t)) (vM A) p c 1024 else fmV (fewV (LamW (W t)) (vM A) p c 1024)))) (B, R, G)) :
    ∀ (i k : Nat) (B : Nat → Nat → Int32) (d8 : Option Value), k + i = 1024 → jWM p A B → aw tX5_wants E 53 [some (.ref 48), some (.int (nI p)), some (.int (nI c)), some (.int x3), some (.int (vM A 2 p)), some (.int (fewV (LamW (W t)) (vM A) p c k)), some (.int (fmV (fewV (LamW (W t)) (vM A) p c k))), some (.int (nI k)), d8] [] (B, R, G)
  | 0, k, B, d8, hk, hj => by
    have hn6 := hJ.n6
    have hk2 : k = 1024 := by omega
    subst hk2
    have h9 := hE _ hj.sc
    refine sX5_wants_53 hJ.gs _ _ _ _ _ _ _ _ (br_t (by decide) ?_)
    simp (disch := omega) only [nI_mul3, nI_clamp]
    refine ⟨vp_in_nI (by omega) (by omega), fun q => ?_, fun q => ?_⟩
    · rw [if_pos q] at h9; exact h9
    · rw [if_neg q] at h9; exact h9
  | i + 1, k, B, d8, hk, hj => by
    have hn6 := hJ.n6
    have ih := fun C d8 h => lX5_few hJ hp hc hE i (k + 1) C d8 (by omega) h
    rw [fewV_s] at ih
    refine sX5_wants_53 hJ.gs _ _ _ _ _ _ _ _ (br_f (nI_nlt (a := 1023) (b := k) (by omega) (by omega)) ?_)
    simp (disch := omega) only [nI_mul3, nI_clamp]
    have hx : vp_in (nI (3 * p)) 18 := vp_in_nI (by omega) (by omega)
    obtain ⟨C, hjm, hC⟩ := qX5_may (A := au B 51 (3 * p) (vM A 2 p ||| nI k)) (R := R) hJ.gs ((hj.a (x := vM A 2 p ||| nI k)).L hJ.lm) (p := p) (c := c) (by omega) hc
    rw [hj.vv] at hC
    have hj2 := (hj.a (x := vM A 2 p ||| nI k)).m hjm
    refine ⟨fun h0 => ?_, fun h0 => ?_⟩
    · have go : ones (nI k) < fsV (fewV (LamW (W t)) (vM A) p c k) → aw tX5_wants E 104 [some (.ref 48), some (.int (nI p)), some (.int (nI c)), some (.int x3), some (.int (vM A 2 p)), some (.int (fewV (LamW (W t)) (vM A) p c k)), some (.int (fmV (fewV (LamW (W t)) (vM A) p c k))), some (.int (nI k)), none] [.int (bI (mayV (LamW (W t)) (au (vM A) 2 p (vM A 2 p ||| nI k)) p c))] (C, R, G) := by
        intro hlt
        refine sX5_wants_104 _ _ _ _ _ _ _ _ _ ⟨fun q => ?_, fun q => ?_⟩
        · rw [if_neg (fun z => bI_ne z.2.2 q)] at ih
          rw [nI_1]
          exact ih C _ hj2
        · have hm : mayV (LamW (W t)) (au (vM A) 2 p (vM A 2 p ||| nI k)) p c := Classical.byContradiction fun z => q (bI_f z)
          rw [if_pos ⟨h0, hlt, hm⟩] at ih
          have e : fmV (nI k) = ones (nI k) := if_neg (nI_m1 (by omega))
          rw [e] at ih
          rw [nI_1]
          exact ih C _ hj2
      refine ⟨fun q => ⟨hx, _, _, hC, go ?_⟩, fun q => ⟨fun q2 => ?_, fun q2 => ⟨hx, _, _, hC, go ?_⟩⟩⟩
      · have e : fsV (fewV (LamW (W t)) (vM A) p c k) = 11 := if_pos q
        rw [e]
        exact ones_11 k (by omega)
      · have e : fsV (fewV (LamW (W t)) (vM A) p c k) = fmV (fewV (LamW (W t)) (vM A) p c k) := (if_neg q).trans (if_neg q).symm
        rw [if_neg (fun z => absurd z.2.1 (by rw [e]; exact Int32.not_lt.mpr q2))] at ih
        rw [nI_1]
        exact ih B _ hj
      · have e : fsV (fewV (LamW (W t)) (vM A) p c k) = fmV (fewV (LamW (W t)) (vM A) p c k) := (if_neg q).trans (if_neg q).symm
        rw [e]
        exact Int32.not_le.mp q2
    · rw [if_neg (fun z => h0 z.1)] at ih
      rw [nI_1]
      exact ih B _ hj
theorem fewV_S {p c : Nat} : ∀ k, k ≤ 1024 → fewV Λ v p c k = -1 ∨ isS (fewV Λ v p c k)
  | 0, _ => Or.inl rfl
  | k + 1, hk => by
    rw [fewV_s]
    by_cases h : nI k &&& v 2 p = 0 ∧ ones (nI k) < fsV (fewV Λ v p c k) ∧ mayV Λ (au v 2 p (v 2 p ||| nI k)) p c
    · rw [if_pos h]; exact Or.inr (isS_dec k (by omega))
    · rw [if_neg h]; exact fewV_S k (by omega)
theorem c_wants (hJ : sJ n t T W A R G) (x1 x2 x3 : Int32) : bthI T W CX4_wants CX5_wants [.int x1, .int x2, .int x3] A R G := by
  have hG := hJ.gs
  have hn6 := hJ.n6
  by_cases h1 : ∃ k, k < n ∧ x1 = nI k
  case neg => exact qry0 hJ _ (aC_of (Nat.le_of_ble_eq_true rfl) fun E hE => sX4_wants_0 hG _ _ _ (br_f (nPx hJ h1) hE)) (aC_of (Nat.le_of_ble_eq_true rfl) fun E hE => sX5_wants_0 hG _ _ _ (br_f (nPm hJ h1) hE))
  obtain ⟨p, hp, rfl⟩ := h1
  by_cases h2 : ∃ k, k < 8 ∧ x2 = nI k ∧ ¬ vX A 1 5 k = 0
  case neg => exact qry0 hJ _ (aC_of (Nat.le_of_ble_eq_true rfl) fun E hE => sX4_wants_0 hG _ _ _ (br_t (yPx hJ hp) (br_f (nCx hJ h2) hE))) (aC_of (Nat.le_of_ble_eq_true rfl) fun E hE => sX5_wants_0 hG _ _ _ (br_t (yPm hJ hp) (br_f (nCm hJ h2) hE)))
  obtain ⟨c, hc, rfl, h5⟩ := h2
  by_cases h3 : 0 ≤ x3 ∧ x3 ≤ 1
  case neg => exact qry0 hJ _ (aC_of (Nat.le_of_ble_eq_true rfl) fun E hE => sX4_wants_0 hG _ _ _ (br_t (yPx hJ hp) (br_t (yCx hJ hc h5) (br_f h3 hE)))) (aC_of (Nat.le_of_ble_eq_true rfl) fun E hE => sX5_wants_0 hG _ _ _ (br_t (yPm hJ hp) (br_t (yCm hJ hc h5) (br_f h3 hE))))
  refine qry hJ (if x3 = 0 then fewV (LamW (W t)) (vX A 1) p c 1024 else fmV (fewV (LamW (W t)) (vX A 1) p c 1024)) ?_ fun A' R' hJ' hs' hv' => ?_
  · obtain ⟨A1, hj, hC⟩ := qX4_fewestLosses hG hn6 tw80 hJ.bn hp hc h5
    refine ⟨A1, ar R 11 14 (some (tw t)), ⟨hj.sc, scR.th⟩, aC_of (Nat.le_of_ble_eq_true rfl) fun E hE => sX4_wants_0 hG _ _ _ (br_t (yPx hJ hp) (br_t (yCx hJ hc h5) (br_t h3 ⟨_, _, hC, sX4_wants_46 _ _ _ _ _ ⟨fun q => ?_, fun q => ⟨fun q2 => ?_, fun q2 => ?_⟩⟩⟩)))⟩
    · rw [if_pos q] at hE; exact hE
    · rw [if_neg q] at hE; exact aE_e hE (q2.trans (if_pos q2).symm)
    · rw [if_neg q] at hE
      exact aE_e hE ((popc_S ((fewV_S 1024 (by omega)).resolve_left q2)).trans (if_neg q2).symm)
  · refine aC_exA vX5_wants (Nat.le_of_ble_eq_true rfl) fun E hE => sX5_wants_0 hG _ _ _ (br_t (yPm hJ' hp) (br_t (yCm hJ' hc (by rw [hs'.hX]; exact h5)) (br_t h3 ?_)))
    simp (disch := omega) only [nI_mul3, nI_clamp]
    refine ⟨vp_in_nI (by omega) (by omega), ?_⟩
    refine lX5_few hJ' hp hc (fun B h => ?_) 1024 0 A' none (by omega) jWM.rf
    rw [hv', ← fewV_c hJ.vv hp hc 1024]
    exact hE B h
/-! taken -/
theorem tab_is : ∀ k, k < 6 → ∀ o, o < 7 → ((((aTab k) >>> (nI o &&& 31)) &&& 1) = 1 ↔ o < 6 ∧ (nI o = 0 ∨ nI k = nI o ∨ (nI o = 1 ∧ nI k = 3) ∨ (nI o = 2 ∧ nI k = 4))) := by decide +kernel
theorem c_taken (hJ : sJ n t T W A R G) (x1 x2 : Int32) : bthI T W CX4_taken CX5_taken [.int x1, .int x2] A R G := by
  have hG := hJ.gs
  have hn6 := hJ.n6
  by_cases h2 : 0 ≤ x2 ∧ x2 ≤ 6
  case neg => exact qry0 hJ _ (aC_of (Nat.le_of_ble_eq_true rfl) fun E hE => sX4_taken_0 hG _ _ (br_f h2 hE)) (aC_of (Nat.le_of_ble_eq_true rfl) fun E hE => sX5_taken_0 hG _ _ (br_f h2 hE))
  by_cases h1 : 0 ≤ x1 ∧ x1 ≤ 13
  case neg => exact qry0 hJ _ (aC_of (Nat.le_of_ble_eq_true rfl) fun E hE => sX4_taken_0 hG _ _ (br_t h2 (br_f h1 hE))) (aC_of (Nat.le_of_ble_eq_true rfl) fun E hE => sX5_taken_0 hG _ _ (br_t h2 (br_f h1 hE)))
  obtain ⟨i, hi, rfl⟩ := rngI 13 (by omega) h1
  obtain ⟨o, ho, rfl⟩ := rngI 6 (by omega) h2
  by_cases h6 : i < 6
  · have l6 : nI i < 6 := nI_lt (a := i) (b := 6) h6 (by omega)
    have g6 : ¬ (6 : Int32) ≤ nI i := nI_ge (a := i) (b := 6) h6 (by omega)
    by_cases hin : i < n
    · have hk := (hJ.inv.1.1 i hin).1
      obtain ⟨k, hk5, hke⟩ := rngI 5 (by omega) hk
      have ek : A 2 i = nI k := hke
      have em : A 49 i = nI k := (hJ.vv.1 0 (by omega) i hin).symm.trans hke
      have ht := tab_is k (by omega) o (by omega)
      have hx : vp_in (nI i) 6 := vp_in_nI (by omega) (by omega)
      have ln : nI i < A 48 0 := by rw [hJ.m0]; exact nI_lt hin (by omega)
      by_cases hP : o < 6 ∧ (nI o = 0 ∨ nI k = nI o ∨ (nI o = 1 ∧ nI k = 3) ∨ (nI o = 2 ∧ nI k = 4))
      · have hC : CX0_isOf [.ref 1, .int (nI i), .int (nI o)] (A, R, G) (some (.int 1)) (A, R, G) := aC_of (Nat.le_of_ble_eq_true rfl) fun E hE => sX0_isOf_0 (gB1 hG) _ _ (by
          rw [nI_clamp (by omega), ek, nI_clamp (by omega)]
          exact ⟨hx, vp_in_nI (by omega) (by omega), br_t (ht.mpr hP) hE⟩)
        refine qry0 hJ (nI i) (aC_of (Nat.le_of_ble_eq_true rfl) fun E hE => sX4_taken_0 hG _ _ (br_t h2 (br_t h1 (br_f g6 (br_t (yPx hJ hin) ⟨_, _, hC, sX4_taken_86 _ _ _ _ (br_f (by decide) hE)⟩))))) (aC_of (Nat.le_of_ble_eq_true rfl) fun E hE => sX5_taken_0 hG _ _ (br_t h2 (br_t h1 (br_t l6 (br_t ln (br_f (nI_ge (a := o) (b := 6) hP.1 (by omega)) ⟨hx, ?_⟩))))))
        rw [nI_clamp (by omega), em]
        exact br_t hP.2 hE
      · have hC : CX0_isOf [.ref 1, .int (nI i), .int (nI o)] (A, R, G) (some (.int 0)) (A, R, G) := aC_of (Nat.le_of_ble_eq_true rfl) fun E hE => sX0_isOf_0 (gB1 hG) _ _ (by
          rw [nI_clamp (by omega), ek, nI_clamp (by omega)]
          exact ⟨hx, vp_in_nI (by omega) (by omega), br_f (fun q => hP (ht.mp q)) hE⟩)
        refine qry0 hJ (-13) (aC_of (Nat.le_of_ble_eq_true rfl) fun E hE => sX4_taken_0 hG _ _ (br_t h2 (br_t h1 (br_f g6 (br_t (yPx hJ hin) ⟨_, _, hC, sX4_taken_86 _ _ _ _ (br_t rfl hE)⟩))))) (aC_of (Nat.le_of_ble_eq_true rfl) fun E hE => sX5_taken_0 hG _ _ (br_t h2 (br_t h1 (br_t l6 (br_t ln ?_)))))
        by_cases ho6 : o < 6
        · refine br_f (nI_ge (a := o) (b := 6) ho6 (by omega)) ⟨hx, ?_⟩
          rw [nI_clamp (by omega), em]
          exact br_f (fun q => hP ⟨ho6, q⟩) hE
        · exact br_t (nI_le (a := 6) (b := o) (by omega) (by omega)) hE
    · have nn : ¬ ∃ k, k < n ∧ nI i = nI k := by
        rintro ⟨k, hk, he⟩
        have := (nI_eq (a := i) (b := k) (by omega) (by omega)).mp he
        omega
      have ln : ¬ nI i < A 48 0 := by rw [hJ.m0]; exact nI_nlt (by omega) (by omega)
      exact qry0 hJ (-11) (aC_of (Nat.le_of_ble_eq_true rfl) fun E hE => sX4_taken_0 hG _ _ (br_t h2 (br_t h1 (br_f g6 (br_f (nPx hJ nn) hE))))) (aC_of (Nat.le_of_ble_eq_true rfl) fun E hE => sX5_taken_0 hG _ _ (br_t h2 (br_t h1 (br_t l6 (br_f ln hE)))))
  · have l6 : ¬ nI i < 6 := nI_nlt (a := i) (b := 6) (by omega) (by omega)
    have g6 : (6 : Int32) ≤ nI i := nI_le (a := 6) (b := i) (by omega) (by omega)
    have e6 : nI i - 6 = nI (i - 6) := pk_sub (a := i) (b := 6) (by omega)
    by_cases h5 : vX A 1 5 (i - 6) = 0
    · have nn : ¬ ∃ k, k < 8 ∧ nI (i - 6) = nI k ∧ ¬ vX A 1 5 k = 0 := by
        rintro ⟨k, hk, he, h7⟩
        have := (nI_eq (a := i - 6) (b := k) (by omega) (by omega)).mp he
        subst this
        exact h7 h5
      refine qry0 hJ (-11) (aC_of (Nat.le_of_ble_eq_true rfl) fun E hE => sX4_taken_0 hG _ _ (br_t h2 (br_t h1 (br_t g6 ?_)))) (aC_of (Nat.le_of_ble_eq_true rfl) fun E hE => sX5_taken_0 hG _ _ (br_t h2 (br_t h1 (br_f l6 ?_))))
      · rw [e6]; exact br_f (nCx hJ nn) hE
      · rw [e6]; exact br_f (nCm hJ nn) hE
    · have hx : vp_in (nI (i - 6)) 8 := vp_in_nI (by omega) (by omega)
      have e7 : A 7 (i - 6) = vX A 1 5 (i - 6) := (vX5_t (by omega) (hJ.bt1 (by omega) h5)).symm
      have e8 : A 52 (3 * (i - 6)) = vX A 1 5 (i - 6) := (hJ.vv.2.1 5 (by omega) (by omega) (i - 6) (by omega)).symm
      by_cases h7 : nI o = 6
      · refine qry0 hJ (vX A 1 5 (i - 6)) (aC_of (Nat.le_of_ble_eq_true rfl) fun E hE => sX4_taken_0 hG _ _ (br_t h2 (br_t h1 (br_t g6 ?_)))) (aC_of (Nat.le_of_ble_eq_true rfl) fun E hE => sX5_taken_0 hG _ _ (br_t h2 (br_t h1 (br_f l6 ?_))))
        · rw [e6, nI_clamp (by omega), e7]
          exact br_t (yCx hJ (by omega) h5) (br_t h7 ⟨hx, hE⟩)
        · rw [e6]
          refine br_t (yCm hJ (by omega) h5) (br_t h7 ?_)
          simp (disch := omega) only [nI_mul3, nI_clamp, e8]
          exact ⟨vp_in_nI (by omega) (by omega), hE⟩
      · refine qry0 hJ (-13) (aC_of (Nat.le_of_ble_eq_true rfl) fun E hE => sX4_taken_0 hG _ _ (br_t h2 (br_t h1 (br_t g6 ?_)))) (aC_of (Nat.le_of_ble_eq_true rfl) fun E hE => sX5_taken_0 hG _ _ (br_t h2 (br_t h1 (br_f l6 ?_))))
        · rw [e6]; exact br_t (yCx hJ (by omega) h5) (br_f h7 hE)
        · rw [e6]; exact br_t (yCm hJ (by omega) h5) (br_f h7 hE)
end CH
