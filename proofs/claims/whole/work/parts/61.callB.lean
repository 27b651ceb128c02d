theorem au_self {v : aV} {f p : Nat} : au v f p (v f p) = v := by
  funext g i
  rw [au_eq]
  by_cases e : g = f ∧ i = p
  · rw [if_pos e, e.1, e.2]
  · rw [if_neg e]
theorem au_au {v : aV} {f p : Nat} {x y : Int32} : au (au v f p x) f p y = au v f p y := by
  funext g i
  rw [au_eq, au_eq, au_eq]
  by_cases e : g = f ∧ i = p
  · rw [if_pos e, if_pos e]
  · rw [if_neg e, if_neg e, if_neg e]
theorem mostV_c {who who' : Nat → Int32} (h : ∀ c, c < 8 → who c = who' c) : ∀ d, mostV who d = mostV who' d
  | 0 => by funext m; unfold mostV; rfl
  | d + 1 => by
    funext m
    unfold mostV
    rw [h (7 - d) (by omega), mostV_c h d]
theorem sitN_c {who who' : Nat → Int32} (h : ∀ c, c < 8 → who c = who' c) : ∀ c, c ≤ 8 → sitN who c = sitN who' c
  | 0, _ => by unfold sitN; rfl
  | c + 1, hc => by
    have ih := sitN_c h c (by omega)
    have hd : ∀ m, dig1 who c m = dig1 who' c m := fun m => by
      unfold dig1
      rw [mostV_c h, mostV_c h, h c (by omega)]
    unfold sitN
    rw [ih, hd]
theorem whoC_c {n : Nat} {v u : aV} {Λ : aLm} (h : eqV n v u) {c : Nat} (hc : c < 8) : whoC Λ n v c = whoC Λ n u c := by
  unfold whoC
  rw [h.2.1 5 (by omega) (by omega) c hc, whoV_c h hc]
/-- the fullest so far -/
noncomputable def fulV (Λ : aLm) (v : aV) : Nat → Int32 × Int32 × Int32
  | 0 => (-1, 0, 0)
  | p + 1 => @ite _ ((fulV Λ v p).1 = -1 ∨ (fulV Λ v p).2.1 < ones (casesV Λ v p) ∨ (ones (casesV Λ v p) = (fulV Λ v p).2.1 ∧ ¬ ones (v 2 p) ≤ (fulV Λ v p).2.2)) (Classical.propDecidable _) (nI p, ones (casesV Λ v p), ones (v 2 p)) (fulV Λ v p)
noncomputable def cruV (Λ : aLm) (n : Nat) (v : aV) : Int32 := bitsV (fun c => ¬ v 5 c = 0 ∧ judgesV Λ n v c = 0) 8
def ruiV (v : aV) : Nat → Int32
  | 0 => 0
  | p + 1 => ruiV v p + ones (v 2 p)
section CB
variable {A A' : Nat → Nat → Int32} {R R' : Nat → Nat → Option Nat} {G : Nat → Nat × Nat} {n t T w : Nat} {W : Nat → Nat → List Nat} {Λ : aLm}
theorem fulV_s {v : aV} {p : Nat} : fulV Λ v (p + 1) = @ite _ ((fulV Λ v p).1 = -1 ∨ (fulV Λ v p).2.1 < ones (casesV Λ v p) ∨ (ones (casesV Λ v p) = (fulV Λ v p).2.1 ∧ ¬ ones (v 2 p) ≤ (fulV Λ v p).2.2)) (Classical.propDecidable _) (nI p, ones (casesV Λ v p), ones (v 2 p)) (fulV Λ v p) := by
  conv => lhs; unfold fulV
theorem fulV_c {v u : aV} (h : eqV n v u) : ∀ p, p ≤ n → fulV Λ v p = fulV Λ u p
  | 0, _ => rfl
  | p + 1, hp => by
    rw [fulV_s, fulV_s, fulV_c h p (by omega), casesV_c h (by omega), h.1 2 (by omega) p (by omega)]
theorem lX4_sit {E : aR} (hG : aGS G) (hn6 : n ≤ 6) (h80 : 80 ≤ w) (hB : bnA 1 w n Λ A R G) (hr : rwA (whoC Λ n (vX A 1)) 39 A) (hE : ∀ B, jX 1 w A B → E (some (.int (sitN (whoC Λ n (vX A 1)) 8).1)) (B, R, G)) :
    ∀ (i c : Nat) (B : Nat → Nat → Int32) (d1 d5 : Option Value), c + i = 8 → jX 1 w A B → aw tX4_sitting E 34 [some (.ref 0), d1, some (.int (sitN (whoC Λ n (vX A 1)) c).1), some (.int (nI (sitN (whoC Λ n (vX A 1)) c).2)), some (.int (nI c)), d5] [] (B, R, G)
  | 0, c, B, d1, d5, hc, hj => by
    have hc2 : c = 8 := by omega
    subst hc2
    exact sX4_sitting_34 hG _ _ _ _ _ (br_t (by decide) (hE B hj))
  | i + 1, c, B, d1, d5, hc, hj => by
    have hlt := sitN_lt (who := whoC Λ n (vX A 1)) c
    have hvB : vX B 1 = vX A 1 := hj.v hB.1.1
    have hB2 : bnA 1 w n Λ B R G := hB.d (hj.d hB.1.1) (by rw [hvB]; exact hB.2.2.1)
    have h39 : B 39 = A 39 := hj 39 (by omega) (by omega)
    have hr2 : rwA (whoC Λ n (vX B 1)) 39 B := by
      rw [hvB]
      intro d hd j hj2
      rw [h39]
      exact hr d hd j hj2
    obtain ⟨B1, hj1, hC⟩ := qX4_leastDigit (c := c) hG hn6 hB2 h80 (by omega) hlt hr2
    rw [hvB] at hC
    have ih := lX4_sit hG hn6 h80 hB hr hE i (c + 1) B1 none (some (.int (nI (dig1 (whoC Λ n (vX A 1)) c (sitN (whoC Λ n (vX A 1)) c).2)))) (by omega) (hj.tr hj1)
    rw [sitN_1, sitN_2] at ih
    have hd := dig1_le (who := whoC Λ n (vX A 1)) (c := c) (m := (sitN (whoC Λ n (vX A 1)) c).2)
    refine sX4_sitting_34 hG _ _ _ _ _ (br_f (nI_ge (a := c) (b := 8) (by omega) (by omega)) ⟨_, _, hC, sX4_sitting_48 _ _ _ _ _ _ ?_⟩)
    rw [nI_1]
    by_cases h0 : dig1 (whoC Λ n (vX A 1)) c (sitN (whoC Λ n (vX A 1)) c).2 = 0
    · rw [if_pos h0] at ih
      refine br_t ?_ ih
      rw [h0]
      decide
    · rw [if_neg h0] at ih
      obtain ⟨e, he⟩ : ∃ e, dig1 (whoC Λ n (vX A 1)) c (sitN (whoC Λ n (vX A 1)) c).2 = e + 1 := ⟨_, (Nat.succ_pred_eq_of_ne_zero h0).symm⟩
      rw [he] at ih hd ⊢
      refine br_f (nI_nle (by omega) (by omega)) ?_
      rw [nI_pre2 e (by omega), setb_nI _ hlt e (by omega)]
      exact ih
theorem c_sitting (hJ : sJ n t T W A R G) (x : Int32) : bthI T W CX4_sitting CX5_sitting [.int x] A R G := by
  have hG := hJ.gs
  have hn6 := hJ.n6
  by_cases h1 : 0 ≤ x ∧ x ≤ 1
  case neg => exact qry0 hJ _ (aC_of (Nat.le_of_ble_eq_true rfl) fun E hE => sX4_sitting_0 hG _ (br_f h1 hE)) (aC_of (Nat.le_of_ble_eq_true rfl) fun E hE => sX5_sitting_0 hG _ (br_f h1 hE))
  obtain ⟨A1, ⟨hj, hr⟩, hC⟩ := qX4_fillMost hG hn6 (tw80 (t := t)) hJ.bn
  have hv1 := hj.v (tw80 (t := t))
  have hB1 := hj.b (tw80 (t := t)) hJ.bn
  have hw : ∀ c, c < 8 → whoC (LamW (W t)) n (vX A 1) c = whoC (LamW (W t)) n (vM A) c := fun c hc => whoC_c hJ.vv hc
  by_cases h0 : x = 0
  · refine qry hJ (mostV (whoC (LamW (W t)) n (vX A 1)) 8 0) ?_ fun A' R' hJ' hs hv => ?_
    · exact ⟨A1, R, ⟨hj.sc, scR.rf⟩, aC_of (Nat.le_of_ble_eq_true rfl) fun E hE => sX4_sitting_0 hG _ (br_t h1 ⟨_, hC, sX4_sitting_16 hG _ _ _ _ _ (br_t h0 (aE_e hE (hr 0 (by omega) 0 (by omega))))⟩)⟩
    · obtain ⟨A2, ⟨hj2, hr2, hw2⟩, hC2⟩ := qX5_tellsSittings (R := R') hG hn6 hJ'.m0 hJ'.lm
      have e := hr2 0 (by omega) 0 (by omega)
      rw [hv, ← mostV_c hw] at e
      exact ⟨A2, hj2.sc, aC_of (Nat.le_of_ble_eq_true rfl) fun E hE => sX5_sitting_0 hG _ (br_t h1 ⟨_, hC2, sX5_sitting_16 hG _ (br_t h0 (sX5_sitting_33 _ _ (aE_e hE e)))⟩)⟩
  · refine qry hJ (sitN (whoC (LamW (W t)) n (vX A 1)) 8).1 ?_ fun A' R' hJ' hs hv => ?_
    · obtain ⟨B, hB, hCB⟩ : ∃ B, jX 1 (tw t) A1 B ∧ CX4_sitting [.ref 0, .int x] (A, R, G) (some (.int (sitN (whoC (LamW (W t)) n (vX A 1)) 8).1)) (B, R, G) := by
        refine aC_exA vX4_sitting (Nat.le_of_ble_eq_true rfl) fun E hE => ?_
        refine sX4_sitting_0 hG _ (br_t h1 ⟨_, hC, sX4_sitting_16 hG _ _ _ _ _ (br_f h0 ?_)⟩)
        have key := lX4_sit (E := E) hG hn6 (tw80 (t := t)) hB1 (by rw [hv1]; exact hr) ?_ 8 0 A1 (some (.int x)) none rfl jX.rf
        · rw [hv1] at key
          exact key
        · rw [hv1]
          intro B hB
          exact hE B hB
      exact ⟨B, R, ⟨hj.sc.tr hB.sc, scR.rf⟩, hCB⟩
    · obtain ⟨A2, ⟨hj2, hr2, hw2⟩, hC2⟩ := qX5_tellsSittings (R := R') hG hn6 hJ'.m0 hJ'.lm
      have hC3 := qX5_leastSitting (R := R') hG hr2 hw2
      rw [hv, ← sitN_c hw 8 (by omega)] at hC3
      exact ⟨A2, hj2.sc, aC_of (Nat.le_of_ble_eq_true rfl) fun E hE => sX5_sitting_0 hG _ (br_t h1 ⟨_, hC2, sX5_sitting_16 hG _ (br_f h0 ⟨_, _, hC3, sX5_sitting_33 _ _ hE⟩)⟩)⟩
theorem lX4_ful {E : aR} (hG : aGS G) (hJ : sJ n t T W A R G) (x : Int32) (hE : ∀ B, jX 1 (tw t) A B → E (some (.int (if x = 0 then (fulV (LamW (W t)) (vX A 1) n).1 else (fulV (LamW (W t)) (vX A 1) n).2.1))) (B, R, G)) :
    ∀ (i p : Nat) (B : Nat → Nat → Int32) (d6 d7 : Option Value), p + i = n → jX 1 (tw t) A B → aw tX4_fullest E 22 [some (.ref 0), some (.int x), some (.int (fulV (LamW (W t)) (vX A 1) p).1), some (.int (fulV (LamW (W t)) (vX A 1) p).2.1), some (.int (fulV (LamW (W t)) (vX A 1) p).2.2), some (.int (nI p)), d6, d7] [] (B, R, G)
  | 0, p, B, d6, d7, hp, hj => by
    have hp2 : p = n := by omega
    subst hp2
    have h9 := hE B hj
    have hn6 := hJ.n6
    refine sX4_fullest_22 hG _ _ _ _ _ _ _ (br_t ?_ ⟨fun h => ?_, fun h => ?_⟩)
    · rw [show B 1 = A 1 from hj 1 (by omega) (by unfold tw; omega), hJ.x9]; exact nI_le (by omega) (by omega)
    · rw [if_pos h] at h9; exact h9
    · rw [if_neg h] at h9; exact h9
  | i + 1, p, B, d6, d7, hp, hj => by
    have hn6 := hJ.n6
    have hJB := hJ.goX hj.sc scR.rf
    have hvB : vX B 1 = vX A 1 := hj.sc.hX
    obtain ⟨B1, hj1, hC⟩ := qX0_casesFor (p := p) (gB1 hG) hJB.lx hJB.inv.1 hn6 hJB.ti (by omega)
    rw [hvB] at hC
    have hj2 := hj.tr hj1
    have h4 : B1 4 = A 4 := hj2 4 (by omega) (by unfold tw; omega)
    have e1 : popc (A 4 p) = ones (vX A 1 2 p) := popc_S (hJ.inv.1.1 p (by omega)).2.1
    have e2 : popc (casesV (LamW (W t)) (vX A 1) p) = ones (casesV (LamW (W t)) (vX A 1) p) := popc_S (isS_bits 8 (by omega))
    have ih := fun d6 d7 => lX4_ful hG hJ x hE i (p + 1) B1 d6 d7 (by omega) hj2
    rw [fulV_s] at ih
    refine sX4_fullest_22 hG _ _ _ _ _ _ _ (br_f ?_ ⟨_, _, hC, sX4_fullest_43 hG _ _ _ _ _ _ _ _ ⟨vp_in_nI (by omega) (by omega), ?_⟩⟩)
    · rw [show B 1 = A 1 from hj 1 (by omega) (by unfold tw; omega), hJ.x9]; exact nI_ge (by omega) (by omega)
    rw [nI_clamp (by omega), h4, e1, e2, nI_1]
    generalize fulV (LamW (W t)) (vX A 1) p = f at ih ⊢
    generalize ones (casesV (LamW (W t)) (vX A 1) p) = m at ih ⊢
    generalize ones (vX A 1 2 p) = g at ih ⊢
    refine ⟨fun q1 => ?_, fun q1 => ⟨fun q2 => ?_, fun q2 => ⟨fun q3 => ⟨fun q4 => ?_, fun q4 => ?_⟩, fun q3 => ?_⟩⟩⟩
    · rw [if_pos (Or.inl q1)] at ih; exact ih _ _
    · rw [if_pos (Or.inr (Or.inl q2))] at ih; exact ih _ _
    · rw [if_neg (fun z => z.elim q1 (fun z => z.elim q2 (fun z => z.2 q4)))] at ih; exact ih _ _
    · rw [if_pos (Or.inr (Or.inr ⟨q3, q4⟩))] at ih; exact ih _ _
    · rw [if_neg (fun z => z.elim q1 (fun z => z.elim q2 (fun z => q3 z.1)))] at ih; exact ih _ _
theorem lX5_ful {E : aR} (hG : aGS G) (hn6 : n ≤ 6) (hn : A 48 0 = nI n) (hL : LMA A Λ) (x : Int32) (hE : ∀ B, jM A B → E (some (.int (if x = 0 then (fulV Λ (vM A) n).1 else (fulV Λ (vM A) n).2.1))) (B, R, G)) :
    ∀ (i p : Nat) (B : Nat → Nat → Int32) (d6 d7 d8 : Option Value), p + i = n → jM A B → aw tX5_fullest E 22 [some (.ref 48), some (.int x), some (.int (fulV Λ (vM A) p).1), some (.int (fulV Λ (vM A) p).2.1), some (.int (fulV Λ (vM A) p).2.2), some (.int (nI p)), d6, d7, d8] [] (B, R, G)
  | 0, p, B, d6, d7, d8, hp, hj => by
    have hp2 : p = n := by omega
    subst hp2
    have h9 := hE B hj
    refine sX5_fullest_22 hG _ _ _ _ _ _ _ _ (br_t ?_ ⟨fun h => ?_, fun h => ?_⟩)
    · rw [hj 48 (by omega) (by omega), hn]; exact nI_le (by omega) (by omega)
    · rw [if_pos h] at h9; exact h9
    · rw [if_neg h] at h9; exact h9
  | i + 1, p, B, d6, d7, d8, hp, hj => by
    obtain ⟨B1, hj1, hC⟩ := qX5_mayHear (R := R) (p := p) hG (hj.L hL) (by omega)
    rw [hj.v] at hC
    have hj2 := hj.tr hj1
    have h51 : B1 51 = A 51 := hj2 51 (by omega) (by omega)
    have ih := fun d6 d7 d8 => lX5_ful hG hn6 hn hL x hE i (p + 1) B1 d6 d7 d8 (by omega) hj2
    rw [fulV_s] at ih
    refine sX5_fullest_22 hG _ _ _ _ _ _ _ _ (br_f ?_ ⟨_, _, hC, sX5_fullest_37 hG _ _ _ _ _ _ _ _ _ ?_⟩)
    · rw [hj 48 (by omega) (by omega), hn]; exact nI_ge (by omega) (by omega)
    simp (disch := omega) only [nI_mul3, nI_clamp, h51, nI_1]
    refine ⟨vp_in_nI (by omega) (by omega), ?_⟩
    have e1 : A 51 (3 * p) = vM A 2 p := rfl
    rw [e1]
    generalize fulV Λ (vM A) p = f at ih ⊢
    generalize ones (casesV Λ (vM A) p) = m at ih ⊢
    generalize ones (vM A 2 p) = g at ih ⊢
    refine ⟨fun q1 => ?_, fun q1 => ⟨fun q2 => ?_, fun q2 => ⟨fun q3 => ⟨fun q4 => ?_, fun q4 => ?_⟩, fun q3 => ?_⟩⟩⟩
    · rw [if_pos (Or.inl q1)] at ih; exact ih _ _ _
    · rw [if_pos (Or.inr (Or.inl q2))] at ih; exact ih _ _ _
    · rw [if_neg (fun z => z.elim q1 (fun z => z.elim q2 (fun z => z.2 q4)))] at ih; exact ih _ _ _
    · rw [if_pos (Or.inr (Or.inr ⟨q3, q4⟩))] at ih; exact ih _ _ _
    · rw [if_neg (fun z => z.elim q1 (fun z => z.elim q2 (fun z => q3 z.1)))] at ih; exact ih _ _ _
theorem c_fullest (hJ : sJ n t T W A R G) (x : Int32) : bthI T W CX4_fullest CX5_fullest [.int x] A R G := by
  have hG := hJ.gs
  have hn6 := hJ.n6
  by_cases h1 : 0 ≤ x ∧ x ≤ 1
  case neg => exact qry0 hJ _ (aC_of (Nat.le_of_ble_eq_true rfl) fun E hE => sX4_fullest_0 _ (br_f h1 hE)) (aC_of (Nat.le_of_ble_eq_true rfl) fun E hE => sX5_fullest_0 _ (br_f h1 hE))
  refine qry hJ (if x = 0 then (fulV (LamW (W t)) (vX A 1) n).1 else (fulV (LamW (W t)) (vX A 1) n).2.1) ?_ fun A' R' hJ' hs hv => ?_
  · obtain ⟨B, hB, hCB⟩ : ∃ B, jX 1 (tw t) A B ∧ CX4_fullest [.ref 0, .int x] (A, R, G) (some (.int (if x = 0 then (fulV (LamW (W t)) (vX A 1) n).1 else (fulV (LamW (W t)) (vX A 1) n).2.1))) (B, R, G) := by
      refine aC_exA vX4_fullest (Nat.le_of_ble_eq_true rfl) fun E hE => ?_
      exact sX4_fullest_0 _ (br_t h1 (lX4_ful hG hJ x (fun B hB => hE B hB) n 0 A none none (by omega) jX.rf))
    exact ⟨B, R, ⟨hB.sc, scR.rf⟩, hCB⟩
  · obtain ⟨B, hB, hCB⟩ : ∃ B, jM A' B ∧ CX5_fullest [.ref 48, .int x] (A', R', G) (some (.int (if x = 0 then (fulV (LamW (W t)) (vM A') n).1 else (fulV (LamW (W t)) (vM A') n).2.1))) (B, R', G) := by
      refine aC_exA vX5_fullest (Nat.le_of_ble_eq_true rfl) fun E hE => ?_
      exact sX5_fullest_0 _ (br_t h1 (lX5_ful hG hn6 hJ'.m0 hJ'.lm x (fun B hB => hE B hB) n 0 A' none none none (by omega) jM.rf))
    rw [hv, ← fulV_c hJ.vv n (by omega)] at hCB
    exact ⟨B, hB.sc, hCB⟩
theorem lX4_cru {E : aR} (hG : aGS G) (hJ : sJ n t T W A R G) (hE : ∀ B, jX 1 (tw t) A B → E (some (.int (cruV (LamW (W t)) n (vX A 1)))) (B, R, G)) :
    ∀ (i c : Nat) (B : Nat → Nat → Int32), c + i = 8 → jX 1 (tw t) A B → aw tX4_cruel E 4 [some (.ref 0), some (.int (bitsV (fun c => ¬ vX A 1 5 c = 0 ∧ judgesV (LamW (W t)) n (vX A 1) c = 0) c)), some (.int (nI c))] [] (B, R, G)
  | 0, c, B, hc, hj => by
    have hc2 : c = 8 := by omega
    subst hc2
    exact sX4_cruel_4 hG _ _ (br_t (by decide) (hE B hj))
  | i + 1, c, B, hc, hj => by
    have hn6 := hJ.n6
    have hJB := hJ.goX hj.sc scR.rf
    have hvB : vX B 1 = vX A 1 := hj.sc.hX
    have ih := fun B h => lX4_cru hG hJ hE i (c + 1) B (by omega) h
    unfold bitsV at ih
    refine sX4_cruel_4 hG _ _ (br_f (nI_ge (a := c) (b := 8) (by omega) (by omega)) ?_)
    by_cases h5 : vX A 1 5 c = 0
    · refine br_f (fun q => ?_) ?_
      · obtain ⟨k, hk, he, hk5⟩ := (thX_x hJB).mp q
        have he2 := (nI_eq (a := c) (b := k) (by omega) (by omega)).mp he
        subst he2
        rw [hvB] at hk5
        exact hk5 h5
      · rw [nI_1]
        rw [if_neg (fun q => q.1 h5)] at ih
        exact ih B hj
    · refine br_t (yCx hJB (by omega) (by rw [hvB]; exact h5)) ?_
      obtain ⟨B1, hj1, hC⟩ := qX0_judgesFor (c := c) (gB1 hG) hJB.lx hJB.x9 hJB.inv.1 hn6 (by omega) (hJB.bt1 (by omega) (by rw [hvB]; exact h5))
      rw [hvB] at hC
      refine ⟨_, _, hC, sX4_cruel_29 _ _ _ ⟨fun q => ?_, fun q => ?_⟩⟩
      · rw [nI_1]
        rw [if_pos ⟨h5, q⟩] at ih
        exact ih B1 (hj.tr hj1)
      · rw [nI_1]
        rw [if_neg (fun z => q z.2)] at ih
        exact ih B1 (hj.tr hj1)
theorem lX5_cru {E : aR} (hG : aGS G) (hn6 : n ≤ 6) (hn : A 48 0 = nI n) (hL : LMA A Λ) (hE : ∀ B, jM A B → E (some (.int (cruV Λ n (vM A)))) (B, R, G)) :
    ∀ (i c : Nat) (B : Nat → Nat → Int32), c + i = 8 → jM A B → aw tX5_cruel E 4 [some (.ref 48), some (.int (bitsV (fun c => ¬ vM A 5 c = 0 ∧ judgesV Λ n (vM A) c = 0) c)), some (.int (nI c))] [] (B, R, G)
  | 0, c, B, hc, hj => by
    have hc2 : c = 8 := by omega
    subst hc2
    exact sX5_cruel_4 hG _ _ (br_t (by decide) (hE B hj))
  | i + 1, c, B, hc, hj => by
    have ih := fun B h => lX5_cru hG hn6 hn hL hE i (c + 1) B (by omega) h
    unfold bitsV at ih
    have hth : thM B (nI c) ↔ ¬ vM A 5 c = 0 := by rw [← hj.v]; exact thM_iff (by omega)
    refine sX5_cruel_4 hG _ _ (br_f (nI_ge (a := c) (b := 8) (by omega) (by omega)) ?_)
    by_cases h5 : vM A 5 c = 0
    · refine br_f (fun q => hth.mp q h5) ?_
      rw [nI_1]
      rw [if_neg (fun q => q.1 h5)] at ih
      exact ih B hj
    · refine br_t (hth.mpr h5) ?_
      obtain ⟨B1, hj1, hC⟩ := qX5_whoMay (R := R) (c := c) hG (hj.L hL) (n := n) (by rw [hj 48 (by omega) (by omega)]; exact hn) hn6 (by omega)
      rw [hj.v] at hC
      refine ⟨_, _, hC, sX5_cruel_24 _ _ _ _ ⟨fun q => ?_, fun q => ?_⟩⟩
      · rw [nI_1]
        rw [if_pos ⟨h5, q⟩] at ih
        exact ih B1 (hj.tr hj1)
      · rw [nI_1, or0]
        rw [if_neg (fun z => q z.2)] at ih
        exact ih B1 (hj.tr hj1)
theorem c_cruel (hJ : sJ n t T W A R G) : bthI T W CX4_cruel CX5_cruel [] A R G := by
  have hG := hJ.gs
  have hn6 := hJ.n6
  refine qry hJ (cruV (LamW (W t)) n (vX A 1)) ?_ fun A' R' hJ' hs hv => ?_
  · obtain ⟨B, hB, hCB⟩ : ∃ B, jX 1 (tw t) A B ∧ CX4_cruel [.ref 0] (A, R, G) (some (.int (cruV (LamW (W t)) n (vX A 1)))) (B, R, G) := by
      refine aC_exA vX4_cruel (Nat.le_of_ble_eq_true rfl) fun E hE => ?_
      exact sX4_cruel_0 (lX4_cru hG hJ (fun B hB => hE B hB) 8 0 A (by omega) jX.rf)
    exact ⟨B, R, ⟨hB.sc, scR.rf⟩, hCB⟩
  · obtain ⟨B, hB, hCB⟩ : ∃ B, jM A' B ∧ CX5_cruel [.ref 48] (A', R', G) (some (.int (cruV (LamW (W t)) n (vM A')))) (B, R', G) := by
      refine aC_exA vX5_cruel (Nat.le_of_ble_eq_true rfl) fun E hE => ?_
      exact sX5_cruel_0 (lX5_cru hG hn6 hJ'.m0 hJ'.lm (fun B hB => hE B hB) 8 0 A' (by omega) jM.rf)
    have e : cruV (LamW (W t)) n (vM A') = cruV (LamW (W t)) n (vX A 1) := by
      rw [hv]
      unfold cruV
      exact bits_c 8 fun c hc => by rw [hJ.vv.2.1 5 (by omega) (by omega) c hc, judgesV_c hJ.vv hc]
    rw [e] at hCB
    exact ⟨B, hB.sc, hCB⟩
theorem ones_10 : ∀ k, k < 1024 → 0 ≤ ones (nI k) ∧ ones (nI k) ≤ nI 10 := by decide +kernel
theorem ones_nI {x : Int32} (h : isS x) : ∃ j, j ≤ 10 ∧ ones x = nI j := by
  obtain ⟨k, hk, rfl⟩ := isS_nI h
  exact rngI 10 (by omega) (ones_10 k hk)
theorem ruiV_n {v : aV} (h : ∀ p, p < n → isS (v 2 p)) : ∀ k, k ≤ n → ∃ j, j ≤ 10 * k ∧ ruiV v k = nI j
  | 0, _ => ⟨0, by omega, rfl⟩
  | k + 1, hk => by
    obtain ⟨j, h1, h2⟩ := ruiV_n h k (by omega)
    obtain ⟨i, h3, h4⟩ := ones_nI (h k (by omega))
    refine ⟨j + i, by omega, ?_⟩
    unfold ruiV
    rw [h2, h4, nI_add]
theorem ruiV_c {v u : aV} (h : eqV n v u) : ∀ k, k ≤ n → ruiV v k = ruiV u k
  | 0, _ => rfl
  | k + 1, hk => by
    unfold ruiV
    rw [ruiV_c h k (by omega), h.1 2 (by omega) k (by omega)]
theorem c_ruin (hJ : sJ n t T W A R G) (x : Int32) : bthL T W CX4_ruin CX5_ruin [.int x] A R G := by
  have hG := hJ.gs
  have hn6 := hJ.n6
  have lx : ∀ (E : aR), ∀ (i p : Nat), p + i = n → (aw tX4_ruin E 27 [some (.ref 0), some (.int x), some (.int (ruiV (vX A 1) n)), some (.int (nI n))] [] (A, R, G)) → aw tX4_ruin E 27 [some (.ref 0), some (.int x), some (.int (ruiV (vX A 1) p)), some (.int (nI p))] [] (A, R, G) := by
    intro E i
    induction i with
    | zero => intro p hp h; have : p = n := by omega
              rw [this]; exact h
    | succ i ih =>
      intro p hp h
      have h2 := ih (p + 1) (by omega) h
      unfold ruiV at h2
      refine sX4_ruin_27 hG _ _ _ (br_f (by rw [hJ.x9]; exact nI_ge (by omega) (by omega)) ⟨vp_in_nI (by omega) (by omega), ?_⟩)
      have e1 : popc (A 4 p) = ones (vX A 1 2 p) := popc_S (hJ.inv.1.1 p (by omega)).2.1
      rw [nI_clamp (by omega), nI_1, e1]
      exact h2
  have lm : ∀ (E : aR), ∀ (i p : Nat), p + i = n → (aw tX5_ruin E 4 [some (.ref 48), some (.int x), some (.int (ruiV (vM A) n)), some (.int (nI n))] [] (A, R, G)) → aw tX5_ruin E 4 [some (.ref 48), some (.int x), some (.int (ruiV (vM A) p)), some (.int (nI p))] [] (A, R, G) := by
    intro E i
    induction i with
    | zero => intro p hp h; have : p = n := by omega
              rw [this]; exact h
    | succ i ih =>
      intro p hp h
      have h2 := ih (p + 1) (by omega) h
      unfold ruiV at h2
      refine sX5_ruin_4 hG _ _ _ (br_f (by rw [hJ.m0]; exact nI_ge (by omega) (by omega)) ?_)
      simp (disch := omega) only [nI_mul3, nI_clamp, nI_1]
      exact ⟨vp_in_nI (by omega) (by omega), h2⟩
  have hmn : A 48 0 ≤ nI n := by rw [hJ.m0]; exact nI_le (by omega) (by omega)
  by_cases h1 : 0 ≤ x ∧ x ≤ 1
  case neg => exact qry0L hJ _ (aC_of (Nat.le_of_ble_eq_true rfl) fun E hE => sX4_ruin_0 hG _ (br_f h1 hE)) (aC_of (Nat.le_of_ble_eq_true rfl) fun E hE => sX5_ruin_0 _ (lm E n 0 (by omega) (sX5_ruin_4 hG _ _ _ (br_t hmn (br_f h1 hE)))))
  by_cases h0 : n = 0
  · have e1 : A 1 9 = 0 := by rw [hJ.x9, h0]; rfl
    exact qry0L hJ _ (aC_of (Nat.le_of_ble_eq_true rfl) fun E hE => sX4_ruin_0 hG _ (br_t h1 (br_t e1 hE))) (aC_of (Nat.le_of_ble_eq_true rfl) fun E hE => sX5_ruin_0 _ (lm E n 0 (by omega) (sX5_ruin_4 hG _ _ _ (br_t hmn (br_t h1 (br_t (by rw [hJ.m0, h0]; decide) hE))))))
  obtain ⟨part, hpt, rfl⟩ := rngI 1 (by omega) h1
  obtain ⟨j, hj, hs⟩ := ruiV_n (v := vX A 1) (fun p hp => (hJ.inv.1.1 p hp).2.1) n (by omega)
  have hs2 : ruiV (vM A) n = nI j := by rw [← ruiV_c hJ.vv n (by omega)]; exact hs
  have hC := qX4_part (A := A) (R := R) (G := G) (a := j) (b := n) (part := part) (by omega) (by omega) (by omega) (by omega)
  have hC2 := qX5_lowest (A := A) (R := R) (G := G) (a := j) (b := n) (part := part) (x0 := (nI j).toInt64) (x2 := (nI n).toInt64) (nL_toInt (by omega)) (nL_toInt (by omega)) (by omega) (by omega) (by omega) (by omega)
  refine qry0L hJ (nI (lowN j n part)).toInt64 (aC_of (Nat.le_of_ble_eq_true rfl) fun E hE => sX4_ruin_0 hG _ (br_t h1 (br_f (by rw [hJ.x9]; exact nI_ne0 (by omega) (by omega)) (lx E n 0 (by omega) (sX4_ruin_27 hG _ _ _ (br_t (by rw [hJ.x9]; exact nI_le (by omega) (by omega)) ?_)))))) (aC_of (Nat.le_of_ble_eq_true rfl) fun E hE => sX5_ruin_0 _ (lm E n 0 (by omega) (sX5_ruin_4 hG _ _ _ (br_t hmn (br_t h1 (br_f (by rw [hJ.m0]; exact nI_nle (by omega) (by omega)) ?_))))))
  · rw [hs, hJ.x9]
    exact ⟨_, _, hC, sX4_ruin_71 _ _ _ _ hE⟩
  · rw [hs2, hJ.m0]
    exact ⟨_, _, hC2, sX5_ruin_59 _ _ _ _ hE⟩
end CB
