/-- the first of m from k on -/
noncomputable def fsN (P : Nat → Prop) : Nat → Nat → Int32
  | 0, _ => -1
  | m + 1, k => @ite _ (P k) (Classical.propDecidable _) (nI k) (fsN P m (k + 1))
/-- what is awaited is heard -/
def donV (what : Nat) (v : aV) : Prop := (what = 8 ∧ thereV v = 0) ∨ (what < 8 ∧ v 5 what = 0)
section CG
variable {A A' B C D : Nat → Nat → Int32} {R R' R1 : Nat → Nat → Option Nat} {G : Nat → Nat × Nat} {n t T w t' : Nat} {W : Nat → Nat → List Nat} {Λ : aLm} {v u : aV}
theorem rgB {b c : Nat} {x : Int32} (hc : c < 2147483648) : (nI b ≤ x ∧ x ≤ nI c) → b < 2147483648 → ∃ k, b ≤ k ∧ k ≤ c ∧ x = nI k := by
  rintro ⟨h1, h2⟩ hb
  obtain ⟨k, hk, rfl⟩ := nI_of (Int32.not_lt.mpr (Int32.le_trans (nI_nn hb) h1))
  exact ⟨k, (nI_leI hb hk).mp h1, (nI_leI hk hc).mp h2, rfl⟩
theorem thereV_s (h : seV v u) : thereV v = thereV u := bits_c 8 fun c _ => by rw [h 5 (by omega)]
theorem waitV_s (h : seV v u) : ∀ k, waitV v k = waitV u k
  | 0 => rfl
  | k + 1 => by
    unfold waitV
    rw [waitV_s h k, h 5 (by omega), h 7 (by omega)]
theorem e10x (h : A 1 9 = nI n) : (10 + A 1 9) - 1 = nI (9 + n) := by
  rw [h]
  show nI 10 + nI n - 1 = _
  rw [nI_add, show 10 + n = 9 + n + 1 by omega, nI_pred]
theorem e20x (h : A 1 9 = nI n) : (20 + A 1 9) - 1 = nI (19 + n) := by
  rw [h]
  show nI 20 + nI n - 1 = _
  rw [nI_add, show 20 + n = 19 + n + 1 by omega, nI_pred]
theorem e9m (h : A 48 0 = nI n) : 9 + A 48 0 = nI (9 + n) := by
  rw [h]
  exact nI_add 9 n
theorem e19m (h : A 48 0 = nI n) : 19 + A 48 0 = nI (19 + n) := by
  rw [h]
  exact nI_add 19 n
theorem qX4_crt (hJ : sJ n t T W A R G) (x : Int32) : CX4_canRunTell [.ref 0, .int x] (A, R, G) (some (.int (bI ((0 ≤ x ∧ x ≤ 2) ∨ (10 ≤ x ∧ x ≤ nI (9 + n)) ∨ (20 ≤ x ∧ x ≤ nI (19 + n)))))) (A, R, G) := by
  refine aC_of (Nat.le_of_ble_eq_true rfl) fun E hE => sX4_canRunTell_0 hJ.gs _ ?_
  rw [e10x hJ.x9, e20x hJ.x9]
  refine ⟨fun q => aE_b hE (Or.inl q), fun q0 => ⟨fun q => aE_b hE (Or.inr (Or.inl q)), fun q1 => ⟨fun q => aE_b hE (Or.inr (Or.inr q)), fun q2 => aE_n hE (fun z => z.elim q0 (fun z => z.elim q1 q2))⟩⟩⟩
theorem c_run (hJ : sJ n t T W A R G) (x1 x2 : Int32) : bthI T W CX4_run CX5_run [.int x1, .int x2] A R G := by
  have hG := hJ.gs
  have hn6 := hJ.n6
  have m5 : ∀ {E : aR} {A' : Nat → Nat → Int32} {R' : Nat → Nat → Option Nat}, sJ n t T W A' R' G → ((¬ ((0 ≤ x2 ∧ x2 ≤ 2) ∨ (10 ≤ x2 ∧ x2 ≤ nI (9 + n)) ∨ (20 ≤ x2 ∧ x2 ≤ nI (19 + n))) ∨ ¬ (0 ≤ x1 ∧ x1 ≤ 40)) → E (some (.int (-2))) (A', R', G)) → (((0 ≤ x2 ∧ x2 ≤ 2) ∨ (10 ≤ x2 ∧ x2 ≤ nI (9 + n)) ∨ (20 ≤ x2 ∧ x2 ≤ nI (19 + n))) → (0 ≤ x1 ∧ x1 ≤ 40) → (∃ (μ1 : aM), CX5_keeps [.ref 48] (A', R', G) none μ1 ∧ aw tX5_run E 68 [some (.ref 48), some (.int x1), some (.int x2), some (.int 1), none] [] μ1)) → aw tX5_run E 0 [some (.ref 48), some (.int x1), some (.int x2), none, none] [] (A', R', G) := by
    intro E A' R' hJ' hB hK
    refine sX5_run_0 hG _ _ ?_
    rw [e9m hJ'.m0, e19m hJ'.m0]
    exact ⟨fun q => ⟨fun z => hK (Or.inl q) z, fun z => hB (Or.inr z)⟩, fun q0 => ⟨fun q => ⟨fun z => hK (Or.inr (Or.inl q)) z, fun z => hB (Or.inr z)⟩, fun q1 => ⟨fun q => ⟨fun z => hK (Or.inr (Or.inr q)) z, fun z => hB (Or.inr z)⟩, fun q2 => ⟨fun z => hB (Or.inl (fun w => w.elim q0 (fun w => w.elim q1 q2))), fun z => hB (Or.inr z)⟩⟩⟩⟩
  by_cases h1 : 0 ≤ x1 ∧ x1 ≤ 40
  case neg => exact qry0 hJ _ (aC_of (Nat.le_of_ble_eq_true rfl) fun E hE => sX4_run_0 hG _ _ (br_f h1 hE)) (aC_of (Nat.le_of_ble_eq_true rfl) fun E hE => m5 hJ (fun _ => hE) (fun _ z => absurd z h1))
  by_cases hg : (0 ≤ x2 ∧ x2 ≤ 2) ∨ (10 ≤ x2 ∧ x2 ≤ nI (9 + n)) ∨ (20 ≤ x2 ∧ x2 ≤ nI (19 + n))
  case neg => exact qry0 hJ _ (aC_of (Nat.le_of_ble_eq_true rfl) fun E hE => sX4_run_0 hG _ _ (br_t h1 ⟨_, _, qX4_crt hJ x2, sX4_run_15 hG _ _ _ _ (br_t (bI_f hg) hE)⟩)) (aC_of (Nat.le_of_ble_eq_true rfl) fun E hE => m5 hJ (fun _ => hE) (fun z _ => absurd z hg))
  obtain ⟨m, hm, rfl⟩ := rngI 40 (by omega) h1
  obtain ⟨A1, hC, h3, hB, hH, hv⟩ := thk hJ
  obtain ⟨A2, ⟨hj2, hse⟩, hC2⟩ := qX4_heardInThought hJ.gs hB.1 hB.2.1 hB.2.2.1 hn6 hB.2.2.2 hm
  have hgc := gosV_c (Λ := LamW (W t)) hv.sy m
  rw [hgc.2] at hC2
  have hs2 : scX A A2 := h3.tr hj2.j.sc
  have hT2 : tI A2 11 := hj2.t (by unfold tw; omega) hB.2.2.2
  have hx0 : ∀ {E : aR} {v : Int32}, (∀ d1 d3, aw tX4_run E 30 [some (.ref 0), d1, some (.int x2), d3] [.int (gosV (LamW (W t)) n (vX A 1) m).2] (A2, ar R 11 14 (some (tw t)), G)) → aw tX4_run E 0 [some (.ref 0), some (.int (nI m)), some (.int x2), none] [] (A, R, G) := by
    intro E v h
    exact sX4_run_0 hG _ _ (br_t h1 ⟨_, _, qX4_crt hJ x2, sX4_run_15 hG _ _ _ _ (br_f (bI_ne hg) ⟨_, hC, sX4_run_25 hG _ _ _ ⟨_, _, hC2, h _ _⟩⟩)⟩)
  have hm0 : ∀ {A' : Nat → Nat → Int32} {R' : Nat → Nat → Option Nat}, sJ n t T W A' R' G → vM A' = vM A → ∃ B, kqM A' B ∧ vM B = (gosV (LamW (W t)) n (vM A) m).1 ∧ ∀ {E : aR}, (∀ d1 d3 d4, aw tX5_run E 73 [some (.ref 48), d1, some (.int x2), d3, d4] [.int (gosV (LamW (W t)) n (vX A 1) m).2] (B, R', G)) → aw tX5_run E 0 [some (.ref 48), some (.int (nI m)), some (.int x2), none, none] [] (A', R', G) := by
    intro A' R' hJ' hv'
    obtain ⟨B1, hk1, hC1⟩ := qX5_keeps (A := A') (R := R') hG
    obtain ⟨B2, ⟨hj2, hv2⟩, hC2⟩ := qX5_goes (R := R') hG (hk1.kq.L hJ'.lm) (n := n) (by rw [hk1.1 48 (by omega)]; exact hJ'.m0) hn6 hm
    rw [hk1.v, hv'] at hC2 hv2
    rw [← (gosV_c hJ.vv m).2] at hC2
    refine ⟨B2, hk1.kq.d hj2, hv2, fun {E} h => m5 hJ' (fun z => z.elim (fun z => absurd hg z) (fun z => absurd h1 z)) (fun _ _ => ⟨_, hC1, sX5_run_68 hG _ _ _ _ ⟨_, _, hC2, h _ _ _⟩⟩)⟩
  have hgm := gosV_c (Λ := LamW (W t)) hJ.vv m
  by_cases q0 : x2 = 0
  · subst q0
    have e0 : A2 11 10 = thereV (gosV (LamW (W t)) n (vX A 1) m).1 := by
      rw [there_v hT2 (hj2.h hH), thereV_s hse, thereV_c hgc.1]
    refine qry hJ (thereV (gosV (LamW (W t)) n (vX A 1) m).1) ⟨A2, ar R 11 14 (some (tw t)), ⟨hs2, scR.th⟩, aC_of (Nat.le_of_ble_eq_true rfl) fun E hE => hx0 (v := 0) fun d1 d3 => sX4_run_30 hG _ _ _ _ (br_t (by decide) (br_t (by decide) (br_t rfl (sX4_run_99 _ _ _ _ (aE_e hE e0)))))⟩ fun A' R' hJ' hs' hv' => ?_
    obtain ⟨B, hq, hvB, hnav⟩ := hm0 hJ' hv'
    obtain ⟨D, hl, hC5⟩ := qX5_lays (A := B) (R := R') hG
    have e1 : csM B = thereV (gosV (LamW (W t)) n (vX A 1) m).1 := by rw [csM_v, hvB, thereV_c hgm.1]
    exact ⟨D, (hq.ly hl).2, aC_of (Nat.le_of_ble_eq_true rfl) fun E hE => hnav fun d1 d3 d4 => sX5_run_73 hG _ _ _ _ _ (br_t rfl ⟨_, hC5, sX5_run_164 _ _ _ _ (aE_e hE e1)⟩)⟩
  by_cases q1 : x2 = 1
  · subst q1
    refine qry hJ (gosV (LamW (W t)) n (vX A 1) m).2 ⟨A2, ar R 11 14 (some (tw t)), ⟨hs2, scR.th⟩, aC_of (Nat.le_of_ble_eq_true rfl) fun E hE => hx0 (v := 0) fun d1 d3 => sX4_run_30 hG _ _ _ _ (br_t (by decide) (br_t (by decide) (br_f q0 (br_t rfl (sX4_run_99 _ _ _ _ hE)))))⟩ fun A' R' hJ' hs' hv' => ?_
    obtain ⟨B, hq, hvB, hnav⟩ := hm0 hJ' hv'
    obtain ⟨D, hl, hC5⟩ := qX5_lays (A := B) (R := R') hG
    exact ⟨D, (hq.ly hl).2, aC_of (Nat.le_of_ble_eq_true rfl) fun E hE => hnav fun d1 d3 d4 => sX5_run_73 hG _ _ _ _ _ (br_f q0 (br_t rfl ⟨_, hC5, sX5_run_164 _ _ _ _ hE⟩))⟩
  by_cases q2 : x2 = 2
  · subst q2
    have hCw := qX0_allWaited (R := ar R 11 14 (some (tw t))) (gB11 hG) hT2
    have e0 : waitV (vX A2 11) 8 = waitV (gosV (LamW (W t)) n (vX A 1) m).1 8 := by rw [waitV_s hse, waitV_c hgc.1 8 (by omega)]
    rw [e0] at hCw
    refine qry hJ (waitV (gosV (LamW (W t)) n (vX A 1) m).1 8) ⟨A2, ar R 11 14 (some (tw t)), ⟨hs2, scR.th⟩, aC_of (Nat.le_of_ble_eq_true rfl) fun E hE => hx0 (v := 0) fun d1 d3 => sX4_run_30 hG _ _ _ _ (br_t (by decide) (br_t (by decide) (br_f q0 (br_f q1 ⟨_, _, hCw, sX4_run_99 _ _ _ _ hE⟩))))⟩ fun A' R' hJ' hs' hv' => ?_
    obtain ⟨B, hq, hvB, hnav⟩ := hm0 hJ' hv'
    obtain ⟨D, hl, hC5⟩ := qX5_lays (A := B) (R := R') hG
    have hCm := qX5_waitedAll (A := B) (R := R') hG
    rw [hvB, ← waitV_c hgm.1 8 (by omega)] at hCm
    exact ⟨D, (hq.ly hl).2, aC_of (Nat.le_of_ble_eq_true rfl) fun E hE => hnav fun d1 d3 d4 => sX5_run_73 hG _ _ _ _ _ (br_f q0 (br_f q1 (br_t rfl ⟨_, _, hCm, sX5_run_120 hG _ _ _ _ _ ⟨_, hC5, sX5_run_164 _ _ _ _ hE⟩⟩)))⟩
  have hg2 : (∃ p, p < n ∧ x2 = nI (10 + p)) ∨ (∃ p, p < n ∧ x2 = nI (20 + p)) := by
    rcases hg with h | h | h
    · obtain ⟨k, hk, rfl⟩ := rngI 2 (by omega) h
      match k, hk with
      | 0, _ => exact absurd rfl q0
      | 1, _ => exact absurd rfl q1
      | 2, _ => exact absurd rfl q2
    · obtain ⟨k, h4, h5, rfl⟩ := rgB (b := 10) (by omega) h (by omega)
      exact Or.inl ⟨k - 10, by omega, by rw [show 10 + (k - 10) = k by omega]⟩
    · obtain ⟨k, h4, h5, rfl⟩ := rgB (b := 20) (by omega) h (by omega)
      exact Or.inr ⟨k - 20, by omega, by rw [show 20 + (k - 20) = k by omega]⟩
  rcases hg2 with ⟨p, hp, rfl⟩ | ⟨p, hp, rfl⟩
  · have e5 : nI (10 + p) - 10 = nI p := by
      have := pk_sub (a := 10 + p) (b := 10) (by omega)
      rw [show 10 + p - 10 = p by omega] at this
      exact this
    have e0 : A2 15 p = (gosV (LamW (W t)) n (vX A 1) m).1 3 p := (hse 3 (by omega) p).trans (hgc.1.1 3 (by omega) p hp)
    refine qry hJ ((gosV (LamW (W t)) n (vX A 1) m).1 3 p) ⟨A2, ar R 11 14 (some (tw t)), ⟨hs2, scR.th⟩, aC_of (Nat.le_of_ble_eq_true rfl) fun E hE => hx0 (v := 0) fun d1 d3 => sX4_run_30 hG _ _ _ _ (br_t (nI_lt (a := 10 + p) (b := 20) (by omega) (by omega)) (br_f (nI_nlt (a := 10 + p) (b := 10) (by omega) (by omega)) ?_))⟩ fun A' R' hJ' hs' hv' => ?_
    · rw [e5, nI_clamp (by omega)]
      exact ⟨vp_in_nI (by omega) (by omega), aE_e hE e0⟩
    · obtain ⟨B, hq, hvB, hnav⟩ := hm0 hJ' hv'
      obtain ⟨D, hl, hC5⟩ := qX5_lays (A := B) (R := R') hG
      have e1 : B 51 (3 * p + 1) = (gosV (LamW (W t)) n (vX A 1) m).1 3 p := by
        have : B 51 (3 * p + 1) = vM B 3 p := rfl
        rw [this, hvB, hgm.1.1 3 (by omega) p hp]
      refine ⟨D, (hq.ly hl).2, aC_of (Nat.le_of_ble_eq_true rfl) fun E hE => hnav fun d1 d3 d4 => sX5_run_73 hG _ _ _ _ _ (br_f q0 (br_f q1 (br_f q2 (br_f (nI_ge (a := 10 + p) (b := 20) (by omega) (by omega)) ?_))))⟩
      rw [e5]
      simp (disch := omega) only [nI_mul3, nI_1, nI_clamp]
      exact ⟨vp_in_nI (by omega) (by omega), _, hC5, sX5_run_164 _ _ _ _ (aE_e hE e1)⟩
  · have e5 : nI (20 + p) - 20 = nI p := by
      have := pk_sub (a := 20 + p) (b := 20) (by omega)
      rw [show 20 + p - 20 = p by omega] at this
      exact this
    have e0 : A2 14 p = (gosV (LamW (W t)) n (vX A 1) m).1 2 p := (hse 2 (by omega) p).trans (hgc.1.1 2 (by omega) p hp)
    refine qry hJ ((gosV (LamW (W t)) n (vX A 1) m).1 2 p) ⟨A2, ar R 11 14 (some (tw t)), ⟨hs2, scR.th⟩, aC_of (Nat.le_of_ble_eq_true rfl) fun E hE => hx0 (v := 0) fun d1 d3 => sX4_run_30 hG _ _ _ _ (br_f (nI_nlt (a := 20 + p) (b := 20) (by omega) (by omega)) ?_)⟩ fun A' R' hJ' hs' hv' => ?_
    · rw [e5, nI_clamp (by omega)]
      exact ⟨vp_in_nI (by omega) (by omega), aE_e hE e0⟩
    · obtain ⟨B, hq, hvB, hnav⟩ := hm0 hJ' hv'
      obtain ⟨D, hl, hC5⟩ := qX5_lays (A := B) (R := R') hG
      have e1 : B 51 (3 * p) = (gosV (LamW (W t)) n (vX A 1) m).1 2 p := by
        have : B 51 (3 * p) = vM B 2 p := rfl
        rw [this, hvB, hgm.1.1 2 (by omega) p hp]
      refine ⟨D, (hq.ly hl).2, aC_of (Nat.le_of_ble_eq_true rfl) fun E hE => hnav fun d1 d3 d4 => sX5_run_73 hG _ _ _ _ _ (br_f q0 (br_f q1 (br_f q2 (br_t (nI_le (a := 20) (b := 20 + p) (by omega) (by omega)) ?_))))⟩
      rw [e5]
      simp (disch := omega) only [nI_mul3, nI_clamp]
      exact ⟨vp_in_nI (by omega) (by omega), _, hC5, sX5_run_164 _ _ _ _ (aE_e hE e1)⟩
/-! when -/
theorem fsN_s {P : Nat → Prop} {m k : Nat} : fsN P (m + 1) k = @ite _ (P k) (Classical.propDecidable _) (nI k) (fsN P m (k + 1)) := by
  conv => lhs; unfold fsN
theorem fsN_c {P Q : Nat → Prop} (h : ∀ k, P k ↔ Q k) : ∀ m k, fsN P m k = fsN Q m k
  | 0, k => by unfold fsN; rfl
  | m + 1, k => by
    rw [fsN_s, fsN_s, fsN_c h m (k + 1)]
    by_cases q : P k
    · rw [if_pos q, if_pos ((h k).mp q)]
    · rw [if_neg q, if_neg (fun z => q ((h k).mpr z))]
theorem donV_c (h : eqV n v u) {what : Nat} (hw : what ≤ 8) : donV what v ↔ donV what u := by
  unfold donV
  rw [thereV_c h]
  constructor
  · rintro (q | q)
    · exact Or.inl q
    · exact Or.inr ⟨q.1, by rw [← h.2.1 5 (by omega) (by omega) what q.1]; exact q.2⟩
  · rintro (q | q)
    · exact Or.inl q
    · exact Or.inr ⟨q.1, by rw [h.2.1 5 (by omega) (by omega) what q.1]; exact q.2⟩
theorem and255 {x : Int32} (h : ∀ i, 8 ≤ i → bt x i = false) : x &&& 255 = x := by
  refine b_ext fun i hi => ?_
  rw [b_and, b_255]
  by_cases e : i < 8
  · rw [decide_eq_true e, Bool.and_true]
  · rw [h i (by omega), Bool.false_and]
theorem don_x (hT : tI A 11) (hH : hiB A 11) {what : Nat} (hw : what ≤ 8) {x : Int32} (hx : (what = 8 ∧ x = 255) ∨ (what < 8 ∧ x = (1 : Int32) <<< (nI what &&& 31))) : (A 11 10) &&& x = 0 ↔ donV what (vX A 11) := by
  rcases hx with ⟨h1, rfl⟩ | ⟨h1, rfl⟩
  · rw [and255 hH, there_v hT hH]
    unfold donV
    constructor
    · intro h; exact Or.inl ⟨h1, h⟩
    · rintro (q | q)
      · exact q.2
      · omega
  · have h2 := bit_at (x := A 11 10) (p := what) (by omega)
    have h3 := bt_v5 hT h1
    unfold donV
    constructor
    · intro h
      refine Or.inr ⟨h1, Classical.byContradiction fun q => ?_⟩
      exact h2.mpr (h3.mpr q) h
    · rintro (q | q)
      · omega
      · exact Classical.byContradiction fun z => (h3.mp (h2.mp z)) q.2
theorem lX4_when {E : aR} {v0 : aV} {what : Nat} (hG : aGS G) (hn6 : n ≤ 6) (hB : bnA 11 w n Λ A R G) (hH : hiB A 11) (hi : invD n v0) (hw : what ≤ 8) {x : Int32} (hx : (what = 8 ∧ x = 255) ∨ (what < 8 ∧ x = (1 : Int32) <<< (nI what &&& 31))) (r : Int32) (hE : ∀ B, jDX 11 w A B → E (some (.int r)) (B, R, G)) :
    ∀ (i k : Nat) (B : Nat → Nat → Int32) (d1 : Option Value), k + i = 61 → jDX 11 w A B → vX B 11 = (gosV Λ n v0 k).1 → fsN (fun k => donV what (gosV Λ n v0 k).1) i k = r → aw tX4_when E 55 [some (.ref 0), d1, some (.int x), some (.int (nI k))] [] (B, R, G)
  | 0, k, B, d1, hk, hj, hv, hr => by
    have hk2 : k = 61 := by omega
    subst hk2
    have h9 := hE B hj
    have hr2 : -1 = r := hr
    rw [← hr2] at h9
    exact sX4_when_55 hG _ _ _ (br_t (by decide) h9)
  | i + 1, k, B, d1, hk, hj, hv, hr => by
    have hL := hB.1.1
    rw [fsN_s] at hr
    have hd := don_x (hj.t hL hB.2.2.2) (hj.h hH) hw hx
    rw [hv] at hd
    refine sX4_when_55 hG _ _ _ (br_f (nI_nlt (a := 60) (b := k) (by omega) (by omega)) ⟨fun q => ?_, fun q => ?_⟩)
    · rw [if_pos (hd.mp q)] at hr
      have h9 := hE B hj
      rw [← hr] at h9
      exact h9
    · rw [if_neg (fun z => q (hd.mpr z))] at hr
      obtain ⟨B1, ⟨hj1, hv1⟩, hC⟩ := qX0_passDay (gB11 hG) (hj.L hB.1) (by rw [hj.n]; exact hB.2.1) (by rw [hv]; exact inv_gos hi k) hn6 (hj.t hL hB.2.2.2)
      refine ⟨_, _, hC, sX4_when_82 _ _ _ _ ?_⟩
      rw [nI_1]
      exact lX4_when hG hn6 hB hH hi hw hx r hE i (k + 1) B1 _ (by omega) (hj.tr hj1) (by rw [hv1, hv, gosV_1]) hr
theorem lX5_when {E : aR} {what : Nat} (hJ : sJ n t T W A R G) (hw : what ≤ 8) {A1 : Nat → Nat → Int32} (hk1 : kqM A A1) (hv0 : vM A1 = vM A) (r : Int32) (hE : ∀ B, scM A B → E (some (.int r)) (B, R, G)) :
    ∀ (i k : Nat) (B : Nat → Nat → Int32) (d4 : Option Value), k + i = 61 → jD A1 B → vM B = (gosV (LamW (W t)) n (vM A) k).1 → fsN (fun k => donV what (gosV (LamW (W t)) n (vM A) k).1) i k = r → aw tX5_when E 38 [some (.ref 48), some (.int (nI what)), some (.int (-1)), some (.int (nI k)), d4] [] (B, R, G)
  | 0, k, B, d4, hk, hj, hv, hr => by
    have hk2 : k = 61 := by omega
    subst hk2
    obtain ⟨D, hl, hC⟩ := qX5_lays (A := B) (R := R) hJ.gs
    have h9 := hE D ((hk1.d hj).ly hl).2
    have hr2 : -1 = r := hr
    rw [← hr2] at h9
    exact sX5_when_38 hJ.gs _ _ _ _ (br_t (by decide) ⟨_, hC, sX5_when_111 _ _ _ _ h9⟩)
  | i + 1, k, B, d4, hk, hj, hv, hr => by
    rw [fsN_s] at hr
    have hG := hJ.gs
    have hn6 := hJ.n6
    obtain ⟨B1, ⟨hj1, hv1⟩, hC⟩ := qX5_dayOf (R := R) hG (hj.L (hk1.L hJ.lm)) (n := n) (by rw [hj.2 0 (by omega) (by omega), hk1.2.1 0 (by omega) (by omega) (by omega)]; exact hJ.m0) hn6
    have hj2 := hj.tr hj1
    have hv2 : vM B1 = (gosV (LamW (W t)) n (vM A) (k + 1)).1 := by rw [hv1, hv, gosV_1]
    have hth : ∀ c, c < 8 → (thM B (nI c) ↔ ¬ (gosV (LamW (W t)) n (vM A) k).1 5 c = 0) := fun c hc => by rw [← hv]; exact thM_iff hc
    have hcs : csM B = thereV (gosV (LamW (W t)) n (vM A) k).1 := by rw [csM_v, hv]
    have yes : donV what (gosV (LamW (W t)) n (vM A) k).1 → aw tX5_when E 100 [some (.ref 48), some (.int (nI what)), some (.int (nI k)), some (.int (nI k)), some (.int 1)] [.int (dayV (LamW (W t)) n (vM B)).2] (B1, R, G) := by
      intro hd
      rw [if_pos hd] at hr
      obtain ⟨D, hl, hC2⟩ := qX5_lays (A := B1) (R := R) hG
      have h9 := hE D ((hk1.d hj2).ly hl).2
      rw [← hr] at h9
      refine sX5_when_100 _ _ _ _ _ (sX5_when_38 hG _ _ _ _ ⟨fun _ => ⟨_, hC2, sX5_when_111 _ _ _ _ h9⟩, fun _ => br_f (nI_m1 (by omega)) ⟨_, hC2, sX5_when_111 _ _ _ _ h9⟩⟩)
    have no : ¬ donV what (gosV (LamW (W t)) n (vM A) k).1 → aw tX5_when E 100 [some (.ref 48), some (.int (nI what)), some (.int (-1)), some (.int (nI k)), some (.int 0)] [.int (dayV (LamW (W t)) n (vM B)).2] (B1, R, G) := by
      intro hd
      rw [if_neg hd] at hr
      refine sX5_when_100 _ _ _ _ _ ?_
      rw [nI_1]
      exact lX5_when hJ hw hk1 hv0 r hE i (k + 1) B1 _ (by omega) hj2 hv2 hr
    refine sX5_when_38 hG _ _ _ _ (br_f (nI_nlt (a := 60) (b := k) (by omega) (by omega)) (br_t rfl ?_))
    by_cases h8 : what = 8
    · refine br_t (by rw [h8]; rfl) ⟨fun q => ⟨_, _, hC, yes (Or.inl ⟨h8, by rw [← hcs]; exact q⟩)⟩, fun q => ⟨_, _, hC, no ?_⟩⟩
      rintro (z | z)
      · exact q (by rw [hcs]; exact z.2)
      · omega
    · refine br_f (fun q => h8 ((nI_eq (a := what) (b := 8) (by omega) (by omega)).mp q)) ⟨fun q => ⟨_, _, hC, no ?_⟩, fun q => ⟨_, _, hC, yes (Or.inr ⟨by omega, Classical.byContradiction fun z => q ((hth what (by omega)).mpr z)⟩)⟩⟩
      rintro (z | z)
      · exact h8 z.1
      · exact (hth what z.1).mp q z.2
theorem c_when (hJ : sJ n t T W A R G) (x1 : Int32) : bthI T W CX4_when CX5_when [.int x1] A R G := by
  have hG := hJ.gs
  have hn6 := hJ.n6
  by_cases h1 : 0 ≤ x1 ∧ x1 ≤ 8
  case neg => exact qry0 hJ _ (aC_of (Nat.le_of_ble_eq_true rfl) fun E hE => sX4_when_0 hG _ (br_f h1 hE)) (aC_of (Nat.le_of_ble_eq_true rfl) fun E hE => sX5_when_0 hG _ (br_f h1 hE))
  obtain ⟨what, hw, rfl⟩ := rngI 8 (by omega) h1
  by_cases h2 : what < 8 ∧ vX A 1 5 what = 0
  · have q8 : ¬ (8 : Int32) ≤ nI what := nI_ge (a := what) (b := 8) (by omega) (by omega)
    have nx : ¬ ∃ k, k < 8 ∧ nI what = nI k ∧ ¬ vX A 1 5 k = 0 := by
      rintro ⟨k, hk, he, h5⟩
      have he2 := (nI_eq (a := what) (b := k) (by omega) (by omega)).mp he
      subst he2
      exact h5 h2.2
    exact qry0 hJ _ (aC_of (Nat.le_of_ble_eq_true rfl) fun E hE => sX4_when_0 hG _ (br_t h1 (br_f q8 (br_f (nCx hJ nx) hE)))) (aC_of (Nat.le_of_ble_eq_true rfl) fun E hE => sX5_when_0 hG _ (br_t h1 (br_f q8 (br_f (nCm hJ nx) hE))))
  refine qry hJ (fsN (fun k => donV what (gosV (LamW (W t)) n (vX A 1) k).1) 61 0) ?_ fun A' R' hJ' hs' hv' => ?_
  · obtain ⟨A1, hC, h3, hB, hH, hv⟩ := thk hJ
    have hr : fsN (fun k => donV what (gosV (LamW (W t)) n (vX A1 11) k).1) 61 0 = fsN (fun k => donV what (gosV (LamW (W t)) n (vX A 1) k).1) 61 0 := fsN_c (fun k => donV_c (gosV_c hv.sy k).1 hw) 61 0
    obtain ⟨B, hj, hC2⟩ : ∃ B, jDX 11 (tw t) A1 B ∧ CX4_when [.ref 0, .int (nI what)] (A, R, G) (some (.int (fsN (fun k => donV what (gosV (LamW (W t)) n (vX A 1) k).1) 61 0))) (B, ar R 11 14 (some (tw t)), G) := by
      refine aC_exR vX4_when (Nat.le_of_ble_eq_true rfl) fun E hE => sX4_when_0 hG _ (br_t h1 ?_)
      have go : ∀ x : Int32, ((what = 8 ∧ x = 255) ∨ (what < 8 ∧ x = (1 : Int32) <<< (nI what &&& 31))) → ∀ d1 d3, aw tX4_when E 53 [some (.ref 0), d1, some (.int x), d3] [] (A1, ar R 11 14 (some (tw t)), G) := fun x hx d1 d3 => sX4_when_53 _ _ _ (lX4_when hG hn6 hB hH hB.2.2.1 hw hx _ (fun B h => hE B h) 61 0 A1 _ (by omega) jDX.rf rfl hr)
      by_cases h8 : what = 8
      · exact br_t (by rw [h8]; decide) ⟨_, hC, go 255 (Or.inl ⟨h8, rfl⟩) _ _⟩
      · exact br_f (nI_ge (a := what) (b := 8) (by omega) (by omega)) (br_t (yCx hJ (by omega) (fun z => h2 ⟨by omega, z⟩)) ⟨_, hC, go _ (Or.inr ⟨by omega, rfl⟩) _ _⟩)
    exact ⟨B, _, ⟨h3.tr hj.j.sc, scR.th⟩, hC2⟩
  · obtain ⟨A1, hk1, hC⟩ := qX5_keeps (A := A') (R := R') hG
    have hr : fsN (fun k => donV what (gosV (LamW (W t)) n (vM A') k).1) 61 0 = fsN (fun k => donV what (gosV (LamW (W t)) n (vX A 1) k).1) 61 0 := by
      rw [hv']
      exact fsN_c (fun k => donV_c (gosV_c hJ.vv.sy k).1 hw) 61 0
    refine aC_exA vX5_when (Nat.le_of_ble_eq_true rfl) fun E hE => sX5_when_0 hG _ (br_t h1 ?_)
    have go : ∀ d3 d4, aw tX5_when E 36 [some (.ref 48), some (.int (nI what)), some (.int (-1)), d3, d4] [] (A1, R', G) := fun d3 d4 => sX5_when_36 _ _ _ _ (lX5_when hJ' hw hk1.kq hk1.v _ (fun B h => hE B h) 61 0 A1 _ (by omega) jD.rf hk1.v hr)
    by_cases h8 : what = 8
    · exact br_t (by rw [h8]; decide) ⟨_, hC, go _ _⟩
    · exact br_f (nI_ge (a := what) (b := 8) (by omega) (by omega)) (br_t (yCm hJ' (by omega) (fun z => h2 ⟨by omega, by rw [hs'.hX] at z; exact z⟩)) ⟨_, hC, go _ _⟩)
end CG
