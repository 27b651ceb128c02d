/-! ===== thinking, by class and model, and what is told of it ===== -/
/-- the model's memory B stands as A does, but with the view v -/
def mdM (v : aV) (A B : Nat → Nat → Int32) : Prop := (∀ o, (o < 48 ∨ 52 < o) → (o < 64 ∨ 68 < o) → B o = A o) ∧ (∀ k, ¬ k = 5 → ¬ k = 6 → ¬ k = 34 → B 48 k = A 48 k) ∧ eqV 6 v (vM B)
/-- why a sheet can't be told days by -/
noncomputable def wrgV (A : Nat → Nat → Int32) (x : Int32) : Int32 := @ite _ (0 ≤ x ∧ x ≤ 3) (Classical.propDecidable _) (if A 58 x.toNatClampNeg = -1 then -11 else if A 59 x.toNatClampNeg ≤ 20 then 0 else -2) (-2)
section TH
variable {A A' B C : Nat → Nat → Int32} {R R' R1 : Nat → Nat → Option Nat} {G : Nat → Nat × Nat} {n t T w t' : Nat} {W : Nat → Nat → List Nat} {Λ : aLm} {v u : aV}
theorem thk (hJ : sJ n t T W A R G) : ∃ A1, CX4_think [.ref 0] (A, R, G) none (A1, ar R 11 14 (some (tw t)), G) ∧ scX A A1 ∧ bnA 11 (tw t) n (LamW (W t)) A1 (ar R 11 14 (some (tw t))) G ∧ hiB A1 11 ∧ eqV n (vX A 1) (vX A1 11) := by
  obtain ⟨A1, hb, hC⟩ := qX4_think (A := A) hJ.gs hJ.bn.1.2.1
  obtain ⟨hB, hv⟩ := hJ.bn.th hJ.n6 tw80 hb
  exact ⟨A1, hC, (hb.j (w := tw t)).sc, hB, hb.h hJ.hi, hv⟩
theorem inv_au (h : invD n v) {f p : Nat} {x : Int32} (hf : f < 5) (h0 : f = 0 → 0 ≤ x ∧ x ≤ 5) (h2 : f = 2 → isS x) (h4 : f = 4 → 0 ≤ x) : invD n (au v f p x) := by
  refine ⟨⟨fun q hq => ⟨?_, ?_, ?_⟩, fun d hd => ?_⟩, fun d hd => ?_, ?_⟩
  · by_cases e : 0 = f ∧ q = p
    · rw [au_eq, if_pos e]; exact h0 e.1.symm
    · rw [au_eq, if_neg e]; exact (h.1.1 q hq).1
  · by_cases e : 2 = f ∧ q = p
    · rw [au_eq, if_pos e]; exact h2 e.1.symm
    · rw [au_eq, if_neg e]; exact (h.1.1 q hq).2.1
  · by_cases e : 4 = f ∧ q = p
    · rw [au_eq, if_pos e]; exact h4 e.1.symm
    · rw [au_eq, if_neg e]; exact (h.1.1 q hq).2.2
  · rw [au_v (by omega)]; exact h.1.2 d hd
  · rw [au_v (by omega)]; exact h.2.1 d hd
  · rw [au_v (by omega)]; exact h.2.2
theorem bnA.m (h : bnA 11 w n Λ A R G) {f p : Nat} {x : Int32} (hf : f < 5) (hi : invD n (au (vX A 11) f p x)) : bnA 11 w n Λ (au A (11 + (f + 1)) p x) R G ∧ vX (au A (11 + (f + 1)) p x) 11 = au (vX A 11) f p x := by
  have hv : vX (au A (11 + (f + 1)) p x) 11 = au (vX A 11) f p x := vX_u hf
  have hw := h.1.1
  refine ⟨⟨h.1.go (au_o (by omega)) (au_o (by omega)), ?_, by rw [hv]; exact hi, h.2.2.2.go ?_ (au_o (by omega))⟩, hv⟩
  · rw [au_o (by omega)]; exact h.2.1
  · rw [au_o (by omega)]
theorem sc11 {o k : Nat} {x : Int32} (h : 11 ≤ o ∧ o < 21) : scX A (au A o k x) := fun q h1 _ _ => au_o (by omega)
theorem sJ.sz (hJ : sJ n t T W A R G) {s : Nat} (hs : s < 4) : R 38 s = some (40 + 2 * s) := (hJ.2.2.2.2.2.2.1 s hs).1
theorem sJ.cel (hJ : sJ n t T W A R G) {s k : Nat} (hs : s < 4) (hk : k < 40) : A (41 + 2 * s) k = A 60 (40 * s + k) := (hJ.2.2.2.2.2.2.1 s hs).2.2.2 k hk
theorem fo_x (hJ : sJ n t T W A R G) (hs : scX A B) (hr : scR R R1) (hB : bnA 11 (tw t') n Λ B R1 G) (hv : eqV n (vX B 11) u) {s z : Nat} (hs4 : s < 4) (hz : A (40 + 2 * s) 2 = nI z) (hz40 : z ≤ 40) : ∃ A2, scX A A2 ∧ CX4_firstOther [.ref 0, .int (nI s)] (B, R1, G) (some (.int (unlV Λ n (fun k => A (41 + 2 * s) k) z 0 u))) (A2, R1, G) := by
  have h1 : B (40 + 2 * s) = A (40 + 2 * s) := hs _ (by omega) (by omega) (by omega)
  have h2 : B (41 + 2 * s) = A (41 + 2 * s) := hs _ (by omega) (by omega) (by omega)
  obtain ⟨A2, hj, hC⟩ := qX4_firstOther hJ.gs tw80 hB.1 hB.2.1 hB.2.2.1 hJ.n6 hB.2.2.2 hs4 hz40 (by rw [h1]; exact hz) (by rw [hr 38 (by omega)]; exact hJ.sz hs4)
  rw [h2, unlV_c z 0 hv (fun _ _ _ => rfl)] at hC
  exact ⟨A2, hs.tr hj.j.sc, hC⟩
theorem scM.md (h : scM A B) : mdM (vM A) A B := h
theorem mdM.sc (h : mdM v A B) (e : eqV 6 (vM A) v) : scM A B := ⟨h.1, h.2.1, e.tr h.2.2⟩
theorem mdM.tr (h : mdM v A B) (k : scM B C) : mdM v A C := ⟨fun o h1 h2 => (k.1 o h1 h2).trans (h.1 o h1 h2), fun j h1 h2 h3 => (k.2.1 j h1 h2 h3).trans (h.2.1 j h1 h2 h3), h.2.2.tr k.2.2⟩
theorem vM_0 {p : Nat} {x : Int32} : vM (au A 49 p x) = au (vM A) 0 p x := by
  funext f i
  rw [au_eq]
  rcases f with _ | _ | _ | _ | _ | _ | _ | _ | _ | f
  · show au A 49 p x 49 i = _
    rw [au_eq]
    by_cases e : i = p
    · rw [if_pos ⟨rfl, e⟩, if_pos ⟨rfl, e⟩]
    · rw [if_neg (fun q => e q.2), if_neg (fun q => e q.2)]; rfl
  · show au A 49 p x 50 i = _
    rw [au_o (by omega), if_neg (by omega)]; rfl
  · show au A 49 p x 51 _ = _
    rw [au_o (by omega), if_neg (by omega)]; rfl
  · show au A 49 p x 51 _ = _
    rw [au_o (by omega), if_neg (by omega)]; rfl
  · show au A 49 p x 51 _ = _
    rw [au_o (by omega), if_neg (by omega)]; rfl
  · show au A 49 p x 52 _ = _
    rw [au_o (by omega), if_neg (by omega)]; rfl
  · show au A 49 p x 52 _ = _
    rw [au_o (by omega), if_neg (by omega)]; rfl
  · show au A 49 p x 52 _ = _
    rw [au_o (by omega), if_neg (by omega)]; rfl
  · rw [if_neg (by omega)]
    rcases i with _ | _ | _ | i
    · show au A 49 p x 48 _ = _
      rw [au_o (by omega)]; rfl
    · show au A 49 p x 48 _ = _
      rw [au_o (by omega)]; rfl
    · show au A 49 p x 48 _ = _
      rw [au_o (by omega)]; rfl
    · rfl
  · rw [if_neg (by omega)]; rfl
theorem vM_1 {p : Nat} {x : Int32} : vM (au A 50 p x) = au (vM A) 1 p x := by
  funext f i
  rw [au_eq]
  rcases f with _ | _ | _ | _ | _ | _ | _ | _ | _ | f
  · show au A 50 p x 49 i = _
    rw [au_o (by omega), if_neg (by omega)]; rfl
  · show au A 50 p x 50 i = _
    rw [au_eq]
    by_cases e : i = p
    · rw [if_pos ⟨rfl, e⟩, if_pos ⟨rfl, e⟩]
    · rw [if_neg (fun q => e q.2), if_neg (fun q => e q.2)]; rfl
  · show au A 50 p x 51 _ = _
    rw [au_o (by omega), if_neg (by omega)]; rfl
  · show au A 50 p x 51 _ = _
    rw [au_o (by omega), if_neg (by omega)]; rfl
  · show au A 50 p x 51 _ = _
    rw [au_o (by omega), if_neg (by omega)]; rfl
  · show au A 50 p x 52 _ = _
    rw [au_o (by omega), if_neg (by omega)]; rfl
  · show au A 50 p x 52 _ = _
    rw [au_o (by omega), if_neg (by omega)]; rfl
  · show au A 50 p x 52 _ = _
    rw [au_o (by omega), if_neg (by omega)]; rfl
  · rw [if_neg (by omega)]
    rcases i with _ | _ | _ | i
    · show au A 50 p x 48 _ = _
      rw [au_o (by omega)]; rfl
    · show au A 50 p x 48 _ = _
      rw [au_o (by omega)]; rfl
    · show au A 50 p x 48 _ = _
      rw [au_o (by omega)]; rfl
    · rfl
  · rw [if_neg (by omega)]; rfl
theorem mdM.set {o k f p : Nat} {x : Int32} (h : mdM v A B) (ho : 49 ≤ o ∧ o ≤ 52) (he : vM (au B o k x) = au (vM B) f p x) : mdM (au v f p x) A (au B o k x) := by
  refine ⟨fun q h1 h2 => ?_, fun j h1 h2 h3 => ?_, ?_⟩
  · rw [au_o (by omega)]; exact h.1 q h1 h2
  · rw [au_o (by omega)]; exact h.2.1 j h1 h2 h3
  · rw [he]; exact h.2.2.au rfl
theorem mdM.L (h : mdM v A B) (hL : LMA A Λ) : LMA B Λ := hL.go (h.1 54 (by omega) (by omega)) (h.1 55 (by omega) (by omega)) (h.2.1 12 (by omega) (by omega) (by omega))
theorem un_m (hJ : sJ n t T W A R G) (h : mdM v A B) {s z : Nat} (hs4 : s < 4) (hz : A 59 s = nI z) (hz40 : z ≤ 40) : ∃ B', mdM v A B' ∧ CX5_unlike [.ref 48, .int (nI s)] (B, R1, G) (some (.int (unlV (LamW (W t)) n (fun k => A (41 + 2 * s) k) z 0 v))) (B', R1, G) := by
  obtain ⟨B', hj, hC⟩ := qX5_unlike (R := R1) hJ.gs (h.L hJ.lm) (n := n) (by rw [h.2.1 0 (by omega) (by omega) (by omega)]; exact hJ.m0) hJ.n6 hs4 hz40 (by rw [h.1 59 (by omega) (by omega)]; exact hz)
  have e : unlV (LamW (W t)) n (fun k => B 60 (40 * s + k)) z 0 (vM B) = unlV (LamW (W t)) n (fun k => A (41 + 2 * s) k) z 0 v := by
    refine unlV_c z 0 (h.2.2.le hJ.n6).sy fun j _ hj => ?_
    show B 60 _ = A _ j
    rw [h.1 60 (by omega) (by omega), hJ.cel hs4 (by omega)]
  rw [e] at hC
  exact ⟨B', h.tr hj.sc, hC⟩
theorem qX4_refusal (hJ : sJ n t T W A R G) (x : Int32) : CX4_refusalOfTold [.ref 0, .int x] (A, R, G) (some (.int (wrgV A x))) (A, R, G) := by
  have hG := hJ.gs
  by_cases h1 : 0 ≤ x ∧ x ≤ 3
  case neg =>
    have e : wrgV A x = -2 := if_neg h1
    rw [e]
    exact aC_of (Nat.le_of_ble_eq_true rfl) fun E hE => sX4_refusalOfTold_0 hG _ (br_f h1 hE)
  have e : wrgV A x = if A 58 x.toNatClampNeg = -1 then -11 else if A 59 x.toNatClampNeg ≤ 20 then 0 else -2 := if_pos h1
  rw [e]
  obtain ⟨s, hs, rfl⟩ := rngI 3 (by omega) h1
  obtain ⟨q1, q2, ⟨z, q3, q4, q5⟩, q6⟩ := hJ.2.2.2.2.2.2.1 s (by omega)
  have hg : aGs G (40 + 2 * s) := by
    unfold aGs
    rw [hG _ (by omega), hG _ (by omega)]
    exact (by decide : ∀ s, s < 4 → gtb (40 + 2 * s) = (6, 0) ∧ gtb (40 + 2 * s + 1) = (1, 40)) s (by omega)
  have hcl : (nI s).toNatClampNeg = s := nI_clamp (by omega)
  refine aC_of (Nat.le_of_ble_eq_true rfl) fun E hE => sX4_refusalOfTold_0 hG _ (br_t h1 ⟨vp_in_nI (by omega) (by omega), _, by rw [hcl]; exact q1, hg, gs0 hg, ?_⟩)
  rw [hcl] at hE ⊢
  rw [q2]
  rw [q5] at hE
  by_cases h2 : A 58 s = -1
  · rw [if_pos h2] at hE
    exact br_t h2 hE
  · rw [if_neg h2] at hE
    refine br_f h2 ⟨_, q1, gs0 hg, ?_⟩
    rw [q4]
    by_cases h3 : nI z ≤ 20
    · rw [if_pos h3] at hE
      exact br_t h3 hE
    · rw [if_neg h3] at hE
      exact br_f h3 hE
theorem qX5_wrong (hG : aGS G) (x : Int32) : CX5_sheetWrong [.ref 48, .int x] (A, R, G) (some (.int (wrgV A x))) (A, R, G) := by
  by_cases h1 : 0 ≤ x ∧ x ≤ 3
  case neg =>
    have e : wrgV A x = -2 := if_neg h1
    rw [e]
    exact aC_of (Nat.le_of_ble_eq_true rfl) fun E hE => sX5_sheetWrong_0 hG _ (br_f h1 hE)
  have e : wrgV A x = if A 58 x.toNatClampNeg = -1 then -11 else if A 59 x.toNatClampNeg ≤ 20 then 0 else -2 := if_pos h1
  rw [e]
  obtain ⟨s, hs, rfl⟩ := rngI 3 (by omega) h1
  refine aC_of (Nat.le_of_ble_eq_true rfl) fun E hE => sX5_sheetWrong_0 hG _ (br_t h1 ⟨vp_in_nI (by omega) (by omega), ?_⟩)
  by_cases h2 : A 58 (nI s).toNatClampNeg = -1
  · rw [if_pos h2] at hE
    exact br_t h2 hE
  · rw [if_neg h2] at hE
    by_cases h3 : A 59 (nI s).toNatClampNeg ≤ 20
    · rw [if_pos h3] at hE
      exact br_f h2 (br_t h3 hE)
    · rw [if_neg h3] at hE
      exact br_f h2 (br_f h3 hE)
theorem wrg_0 (hJ : sJ n t T W A R G) {x : Int32} (h : wrgV A x = 0) : ∃ s z, s < 4 ∧ x = nI s ∧ z ≤ 20 ∧ A (40 + 2 * s) 2 = nI z ∧ A 59 s = nI z := by
  by_cases h1 : 0 ≤ x ∧ x ≤ 3
  case neg =>
    have e : wrgV A x = -2 := if_neg h1
    rw [e] at h
    exact absurd h (by decide)
  have e : wrgV A x = if A 58 x.toNatClampNeg = -1 then -11 else if A 59 x.toNatClampNeg ≤ 20 then 0 else -2 := if_pos h1
  rw [e] at h
  obtain ⟨s, hs, rfl⟩ := rngI 3 (by omega) h1
  obtain ⟨q1, q2, ⟨z, q3, q4, q5⟩, q6⟩ := hJ.2.2.2.2.2.2.1 s (by omega)
  rw [nI_clamp (by omega), q5] at h
  by_cases h2 : A 58 s = -1
  · rw [if_pos h2] at h; exact absurd h (by decide)
  rw [if_neg h2] at h
  by_cases h3 : nI z ≤ 20
  · exact ⟨s, z, by omega, rfl, (nI_leI (a := z) (b := 20) (by omega) (by omega)).mp h3, q4, q5⟩
  · rw [if_neg h3] at h; exact absurd h (by decide)
theorem wrg_c (h : scX A A') (x : Int32) : wrgV A' x = wrgV A x := by
  unfold wrgV
  rw [h 58 (by omega) (by omega) (by omega), h 59 (by omega) (by omega) (by omega)]
theorem qX4_refusal2 (hJ : sJ n t T W A R G) (x y : Int32) (r : Int32) (hr : (¬ wrgV A x = 0 ∧ r = wrgV A x) ∨ (wrgV A x = 0 ∧ (∃ k, k < n ∧ y = nI k) ∧ r = 0) ∨ (wrgV A x = 0 ∧ (¬ ∃ k, k < n ∧ y = nI k) ∧ r = -5)) : CX4_refusalOfTold_ [.ref 0, .int x, .int y] (A, R, G) (some (.int r)) (A, R, G) := by
  have hG := hJ.gs
  refine aC_of (Nat.le_of_ble_eq_true rfl) fun E hE => sX4_refusalOfTold__0 hG _ _ ⟨_, _, qX4_refusal hJ x, sX4_refusalOfTold__5 hG _ _ _ _ ?_⟩
  rcases hr with ⟨h1, h2⟩ | ⟨h1, ⟨k, hk, rfl⟩, h3⟩ | ⟨h1, h2, h3⟩
  · exact br_f h1 (aE_e hE h2.symm)
  · exact br_t h1 (br_t (yPx hJ hk) (aE_e hE h3.symm))
  · exact br_t h1 (br_f (nPx hJ h2) (aE_e hE h3.symm))
theorem c_tells (hJ : sJ n t T W A R G) (x : Int32) : bthI T W CX4_tells CX5_tells [.int x] A R G := by
  have hG := hJ.gs
  by_cases h0 : wrgV A x = 0
  case neg => exact qry0 hJ _ (aC_of (Nat.le_of_ble_eq_true rfl) fun E hE => sX4_tells_0 hG _ ⟨_, _, qX4_refusal hJ x, sX4_tells_5 hG _ _ _ (br_f h0 hE)⟩) (aC_of (Nat.le_of_ble_eq_true rfl) fun E hE => sX5_tells_0 hG _ ⟨_, _, qX5_wrong hG x, sX5_tells_5 hG _ _ _ (br_f h0 hE)⟩)
  obtain ⟨s, z, hs, rfl, hz, hz1, hz2⟩ := wrg_0 hJ h0
  refine qry hJ (unlV (LamW (W t)) n (fun k => A (41 + 2 * s) k) z 0 (vX A 1)) ?_ fun A' R' hJ' hs' hv => ?_
  · obtain ⟨A1, hC, h1, hB, _, hv⟩ := thk hJ
    obtain ⟨A2, h2, hC2⟩ := fo_x hJ h1 scR.th hB hv.sy hs hz1 (by omega)
    exact ⟨A2, _, ⟨h2, scR.th⟩, aC_of (Nat.le_of_ble_eq_true rfl) fun E hE => sX4_tells_0 hG _ ⟨_, _, qX4_refusal hJ _, sX4_tells_5 hG _ _ _ (br_t h0 ⟨_, hC, sX4_tells_16 hG _ _ ⟨_, _, hC2, sX4_tells_21 _ _ _ hE⟩⟩)⟩⟩
  · obtain ⟨B', h1, hC⟩ := un_m (v := vM A') (R1 := R') hJ' (B := A') scM.rf (s := s) hs (z := z) (by rw [hs' 59 (by omega) (by omega) (by omega)]; exact hz2) (by omega)
    have e : unlV (LamW (W t)) n (fun k => A' (41 + 2 * s) k) z 0 (vM A') = unlV (LamW (W t)) n (fun k => A (41 + 2 * s) k) z 0 (vX A 1) := by
      rw [hv, hs' (41 + 2 * s) (by omega) (by omega) (by omega)]
      exact unlV_c z 0 hJ.vv.sy fun _ _ _ => rfl
    rw [e] at hC
    exact ⟨B', h1, aC_of (Nat.le_of_ble_eq_true rfl) fun E hE => sX5_tells_0 hG _ ⟨_, _, qX5_wrong hG _, sX5_tells_5 hG _ _ _ (br_t (by rw [wrg_c hs']; exact h0) ⟨_, _, hC, sX5_tells_15 _ _ _ hE⟩)⟩⟩
end TH
