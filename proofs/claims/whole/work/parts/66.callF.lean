/-- what is kept at 66 is A's; the rest stands as in A -/
def kqM (A B : Nat → Nat → Int32) : Prop := (∀ o, (o < 48 ∨ (48 < o ∧ ¬ o = 51 ∧ ¬ o = 52)) → (o < 64 ∨ 66 < o) → B o = A o) ∧ (∀ k, ¬ k = 5 → ¬ k = 6 → ¬ k = 34 → B 48 k = A 48 k) ∧ (∀ k, k < 18 → B 66 k = A 51 k) ∧ (∀ k, k < 24 → B 66 (18 + k) = A 52 k) ∧ B 66 42 = A 48 5 ∧ B 66 43 = A 48 6
/-- the best burglary of judge p so far -/
noncomputable def bInV (Λ : aLm) (n : Nat) (v : aV) (m p : Nat) (st : Int32 × Int32) : Nat → Int32 × Int32
  | 0 => st
  | t + 1 => @ite _ (((v 2 p >>> (nI t &&& 31)) &&& 1) = 0 ∧ ¬ (gosV Λ n (au v 2 p (v 2 p ||| ((1 : Int32) <<< (nI t &&& 31)))) m).2 ≤ (bInV Λ n v m p st t).2) (Classical.propDecidable _) (10 * nI p + nI t, (gosV Λ n (au v 2 p (v 2 p ||| ((1 : Int32) <<< (nI t &&& 31)))) m).2) (bInV Λ n v m p st t)
noncomputable def bOuV (Λ : aLm) (n : Nat) (v : aV) (m : Nat) : Nat → Int32 × Int32
  | 0 => (-1, (gosV Λ n v m).2)
  | p + 1 => bInV Λ n v m p (bOuV Λ n v m p) 10
section CF
variable {A A' B C D : Nat → Nat → Int32} {R R' R1 : Nat → Nat → Option Nat} {G : Nat → Nat × Nat} {n t T w t' : Nat} {W : Nat → Nat → List Nat} {Λ : aLm} {v u : aV}
theorem kpM.kq (h : kpM A B) : kqM A B := ⟨fun o _ h2 => h.1 o (by omega), fun k _ _ _ => by rw [h.1 48 (by omega)], h.2.1, h.2.2.1, h.2.2.2.1, h.2.2.2.2⟩
theorem kqM.d (h : kqM A B) (k : jD B C) : kqM A C := by
  have e : C 66 = B 66 := k.1 66 (by omega) (by omega) (by omega) (by omega) (by omega)
  exact ⟨fun o h1 h2 => (k.1 o (by omega) (by omega) (by omega) (by omega) (by omega)).trans (h.1 o h1 h2), fun j h1 h2 h3 => (k.2 j h1 h2).trans (h.2.1 j h1 h2 h3), by rw [e]; exact h.2.2⟩
theorem kqM.a {o k : Nat} {x : Int32} (h : kqM A B) (ho : o = 51 ∨ o = 52) : kqM A (au B o k x) := by
  have e : au B o k x 66 = B 66 := au_o (by omega)
  exact ⟨fun q h1 h2 => (au_o (by omega)).trans (h.1 q h1 h2), fun j h1 h2 h3 => (aua (by omega)).trans (h.2.1 j h1 h2 h3), by rw [e]; exact h.2.2⟩
theorem kqM.L (h : kqM A B) (hL : LMA A Λ) : LMA B Λ := hL.go (h.1 54 (by omega) (by omega)) (h.1 55 (by omega) (by omega)) (h.2.1 12 (by omega) (by omega) (by omega))
theorem kqM.ly (h : kqM A B) (k : lyM B C) : kqM A C ∧ scM A C := by
  have e66 : C 66 = B 66 := k.1 66 (by omega) (by omega) (by omega)
  have e51 : ∀ j, j < 18 → A 51 j = C 51 j := fun j hj => by rw [k.2.2.1 j hj, h.2.2.1 j hj]
  have e52 : ∀ j, j < 24 → A 52 j = C 52 j := fun j hj => by rw [k.2.2.2.1 j hj, h.2.2.2.1 j hj]
  have e49 : A 49 = C 49 := by rw [k.1 49 (by omega) (by omega) (by omega), h.1 49 (by omega) (by omega)]
  have e50 : A 50 = C 50 := by rw [k.1 50 (by omega) (by omega) (by omega), h.1 50 (by omega) (by omega)]
  have e0 : A 48 0 = C 48 0 := by rw [k.2.1 0 (by omega) (by omega), h.2.1 0 (by omega) (by omega) (by omega)]
  have e5 : A 48 5 = C 48 5 := by rw [k.2.2.2.2.1, h.2.2.2.2.1]
  have e6 : A 48 6 = C 48 6 := by rw [k.2.2.2.2.2, h.2.2.2.2.2]
  refine ⟨⟨fun o h1 h2 => (k.1 o (by omega) (by omega) (by omega)).trans (h.1 o h1 h2), fun j h1 h2 h3 => (k.2.1 j h1 h2).trans (h.2.1 j h1 h2 h3), by rw [e66]; exact h.2.2⟩, fun o h1 h2 => (k.1 o (by omega) (by omega) (by omega)).trans (h.1 o (by omega) (by omega)), fun j h1 h2 h3 => (k.2.1 j h1 h2).trans (h.2.1 j h1 h2 h3), fun f hf p hp => ?_, fun f h5 h8 c hc => ?_, fun j => ?_⟩
  · rcases f with _ | _ | _ | _ | _ | f
    · exact congrFun e49 p
    · exact congrFun e50 p
    · exact e51 (3 * p) (by omega)
    · exact e51 (3 * p + 1) (by omega)
    · exact e51 (3 * p + 2) (by omega)
    · omega
  · have hf : f = 5 ∨ f = 6 ∨ f = 7 := by omega
    rcases hf with rfl | rfl | rfl
    · exact e52 (3 * c) (by omega)
    · exact e52 (3 * c + 1) (by omega)
    · exact e52 (3 * c + 2) (by omega)
  · rcases j with _ | _ | _ | j
    · exact e0
    · exact e5
    · exact e6
    · rfl
theorem bInV_s {m p t : Nat} {st : Int32 × Int32} : bInV Λ n v m p st (t + 1) = @ite _ (((v 2 p >>> (nI t &&& 31)) &&& 1) = 0 ∧ ¬ (gosV Λ n (au v 2 p (v 2 p ||| ((1 : Int32) <<< (nI t &&& 31)))) m).2 ≤ (bInV Λ n v m p st t).2) (Classical.propDecidable _) (10 * nI p + nI t, (gosV Λ n (au v 2 p (v 2 p ||| ((1 : Int32) <<< (nI t &&& 31)))) m).2) (bInV Λ n v m p st t) := by
  conv => lhs; unfold bInV
theorem bInV_c (h : eqV n v u) {m p : Nat} (hp : p < n) {st : Int32 × Int32} : ∀ t, bInV Λ n v m p st t = bInV Λ n u m p st t
  | 0 => by unfold bInV; rfl
  | t + 1 => by
    rw [bInV_s, bInV_s, bInV_c h hp t, h.1 2 (by omega) p hp, (gosV_c (h.au (Eq.refl _)) m).2]
theorem bOuV_c (h : eqV n v u) {m : Nat} : ∀ p, p ≤ n → bOuV Λ n v m p = bOuV Λ n u m p
  | 0, _ => by unfold bOuV; rw [(gosV_c h m).2]
  | p + 1, hp => by
    unfold bOuV
    rw [bOuV_c h p (by omega), bInV_c h (by omega)]
theorem lX4_bin {E : aR} (hJ : sJ n t T W A R G) {m p : Nat} {x2 : Int32} (hp : p < n) (hm : m ≤ 40) (st : Int32 × Int32) (hE : ∀ B R' d6 d7, scX A B → scR R R' → aw tX4_burglary E 38 [some (.ref 0), some (.int (nI m)), some (.int x2), some (.int (bInV (LamW (W t)) n (vX A 1) m p st 10).2), some (.int (bInV (LamW (W t)) n (vX A 1) m p st 10).1), some (.int (nI (p + 1))), d6, d7] [] (B, R', G)) :
    ∀ (i k : Nat) (B : Nat → Nat → Int32) (R' : Nat → Nat → Option Nat) (d7 : Option Value), k + i = 10 → scX A B → scR R R' → aw tX4_burglary E 53 [some (.ref 0), some (.int (nI m)), some (.int x2), some (.int (bInV (LamW (W t)) n (vX A 1) m p st k).2), some (.int (bInV (LamW (W t)) n (vX A 1) m p st k).1), some (.int (nI p)), some (.int (nI k)), d7] [] (B, R', G)
  | 0, k, B, R', d7, hk, hj, hr => by
    have hk2 : k = 10 := by omega
    subst hk2
    refine sX4_burglary_53 hJ.gs _ _ _ _ _ _ _ (br_t (by decide) ?_)
    rw [nI_1]
    exact hE B R' _ _ hj hr
  | i + 1, k, B, R', d7, hk, hj, hr => by
    have hn6 := hJ.n6
    have hJB := hJ.goX hj hr
    have e4 : B 4 p = vX A 1 2 p := congrFun (hj 4 (by omega) (by omega) (by omega)) p
    refine sX4_burglary_53 hJ.gs _ _ _ _ _ _ _ (br_f (nI_ge (a := k) (b := 10) (by omega) (by omega)) ⟨vp_in_nI (by omega) (by omega), ?_⟩)
    rw [nI_clamp (by omega), e4]
    by_cases hb : ((vX A 1 2 p >>> (nI k &&& 31)) &&& 1) = 0
    · obtain ⟨A1, hC, h1, hB, _, hv⟩ := thk hJB
      rw [hj.hX] at hv
      have e2 : A1 14 p = vX A 1 2 p := (hv.1 2 (by omega) p hp).symm
      have hi : invD n (au (vX A1 11) 2 p (vX A 1 2 p ||| ((1 : Int32) <<< (nI k &&& 31)))) := inv_au hB.2.2.1 (by omega) (fun q => absurd q (by decide)) (fun _ => isS_or (hJ.inv.1.1 p hp).2.1 (isS_bit k (by omega))) (fun q => absurd q (by decide))
      obtain ⟨hB2, hv2⟩ := hB.m (f := 2) (by omega) hi
      have hv3 : eqV n (vX (au A1 (11 + (2 + 1)) p (vX A 1 2 p ||| ((1 : Int32) <<< (nI k &&& 31)))) 11) (au (vX A 1) 2 p (vX A 1 2 p ||| ((1 : Int32) <<< (nI k &&& 31)))) := by rw [hv2]; exact hv.sy.au rfl
      obtain ⟨A2, ⟨hj2, _⟩, hC2⟩ := qX4_heardInThought hJ.gs hB2.1 hB2.2.1 hB2.2.2.1 hn6 hB2.2.2.2 hm
      rw [(gosV_c hv3 m).2] at hC2
      have h2 : scX A A2 := ((hj.tr h1).tr (sc11 (by omega))).tr hj2.j.sc
      have ih := fun d7 => lX4_bin hJ hp hm st hE i (k + 1) A2 (ar R' 11 14 (some (tw t))) d7 (by omega) h2 (hr.tr scR.th)
      rw [bInV_s] at ih
      refine br_t hb ⟨_, hC, sX4_burglary_82 hJ.gs _ _ _ _ _ _ _ ⟨vp_in_nI (by omega) (by omega), ?_⟩⟩
      rw [nI_clamp (by omega), e2]
      refine ⟨_, _, hC2, sX4_burglary_104 _ _ _ _ _ _ _ _ ⟨fun q => ?_, fun q => ?_⟩⟩
      · rw [if_neg (fun z => z.2 q)] at ih
        rw [nI_1]
        exact ih _
      · rw [if_pos ⟨hb, q⟩] at ih
        rw [nI_1]
        exact ih _
    · have ih := fun d7 => lX4_bin hJ hp hm st hE i (k + 1) B R' d7 (by omega) hj hr
      rw [bInV_s, if_neg (fun z => hb z.1)] at ih
      refine br_f hb ?_
      rw [nI_1]
      exact ih _
theorem lX4_bou {E : aR} (hJ : sJ n t T W A R G) {m : Nat} {x2 : Int32} (hm : m ≤ 40) (hE : ∀ B R', scX A B → scR R R' → E (some (.int (if x2 = 0 then (bOuV (LamW (W t)) n (vX A 1) m n).1 else (bOuV (LamW (W t)) n (vX A 1) m n).2))) (B, R', G)) :
    ∀ (i p : Nat) (B : Nat → Nat → Int32) (R' : Nat → Nat → Option Nat) (d6 d7 : Option Value), p + i = n → scX A B → scR R R' → aw tX4_burglary E 38 [some (.ref 0), some (.int (nI m)), some (.int x2), some (.int (bOuV (LamW (W t)) n (vX A 1) m p).2), some (.int (bOuV (LamW (W t)) n (vX A 1) m p).1), some (.int (nI p)), d6, d7] [] (B, R', G)
  | 0, p, B, R', d6, d7, hp, hj, hr => by
    have hn6 := hJ.n6
    have hp2 : p = n := by omega
    subst hp2
    have h9 := hE B R' hj hr
    refine sX4_burglary_38 hJ.gs _ _ _ _ _ _ _ (br_t (by rw [(hJ.goX hj hr).x9]; exact nI_le (by omega) (by omega)) ⟨fun q => ?_, fun q => ?_⟩)
    · rw [if_pos q] at h9; exact h9
    · rw [if_neg q] at h9; exact h9
  | i + 1, p, B, R', d6, d7, hp, hj, hr => by
    have hn6 := hJ.n6
    refine sX4_burglary_38 hJ.gs _ _ _ _ _ _ _ (br_f (by rw [(hJ.goX hj hr).x9]; exact nI_ge (by omega) (by omega)) ?_)
    exact lX4_bin hJ (by omega) hm (bOuV (LamW (W t)) n (vX A 1) m p) (fun B2 R2 d6 d7 h1 h2 => lX4_bou hJ hm hE i (p + 1) B2 R2 d6 d7 (by omega) h1 h2) 10 0 B R' none (by omega) hj hr
theorem lX5_bin {E : aR} (hJ : sJ n t T W A R G) {m p : Nat} {x2 : Int32} (hp : p < n) (hm : m ≤ 40) (st : Int32 × Int32) (hE : ∀ B d6 d7, kqM A B → scM A B → aw tX5_burglary E 42 [some (.ref 48), some (.int (nI m)), some (.int x2), some (.int (bInV (LamW (W t)) n (vM A) m p st 10).1), some (.int (bInV (LamW (W t)) n (vM A) m p st 10).2), some (.int (nI (p + 1))), d6, d7] [] (B, R, G)) :
    ∀ (i k : Nat) (B : Nat → Nat → Int32) (d7 : Option Value), k + i = 10 → kqM A B → scM A B → aw tX5_burglary E 54 [some (.ref 48), some (.int (nI m)), some (.int x2), some (.int (bInV (LamW (W t)) n (vM A) m p st k).1), some (.int (bInV (LamW (W t)) n (vM A) m p st k).2), some (.int (nI p)), some (.int (nI k)), d7] [] (B, R, G)
  | 0, k, B, d7, hk, hq, hj => by
    have hk2 : k = 10 := by omega
    subst hk2
    refine sX5_burglary_54 hJ.gs _ _ _ _ _ _ _ (br_t (by decide) ?_)
    rw [nI_1]
    exact hE B _ _ hq hj
  | i + 1, k, B, d7, hk, hq, hj => by
    have hn6 := hJ.n6
    have e4 : B 51 (3 * p) = vM A 2 p := (hj.2.2.1 2 (by omega) p (by omega)).symm
    refine sX5_burglary_54 hJ.gs _ _ _ _ _ _ _ (br_f (nI_ge (a := k) (b := 10) (by omega) (by omega)) ?_)
    simp (disch := omega) only [nI_mul3, nI_clamp, e4]
    refine ⟨vp_in_nI (by omega) (by omega), ?_⟩
    by_cases hb : ((vM A 2 p >>> (nI k &&& 31)) &&& 1) = 0
    · have hq2 := hq.a (o := 51) (k := 3 * p) (x := vM A 2 p ||| ((1 : Int32) <<< (nI k &&& 31))) (by omega)
      obtain ⟨B1, ⟨hj1, hv1⟩, hC⟩ := qX5_goes (R := R) hJ.gs (hq2.L hJ.lm) (n := n) (by rw [hq2.2.1 0 (by omega) (by omega) (by omega)]; exact hJ.m0) hn6 hm
      rw [vM_2, (gosV_c ((hj.2.2.sy.le hn6).au (Eq.refl _)) m).2] at hC
      obtain ⟨B2, hl, hC2⟩ := qX5_lays (A := B1) (R := R) hJ.gs
      obtain ⟨hq3, hj3⟩ := (hq2.d hj1).ly hl
      have ih := fun d7 => lX5_bin hJ hp hm st hE i (k + 1) B2 d7 (by omega) hq3 hj3
      rw [bInV_s] at ih
      refine br_t hb ⟨_, _, hC, sX5_burglary_99 hJ.gs _ _ _ _ _ _ _ _ ⟨_, hC2, sX5_burglary_105 _ _ _ _ _ _ _ ⟨fun q => ?_, fun q => ?_⟩⟩⟩
      · rw [if_neg (fun z => z.2 q)] at ih
        rw [nI_1]
        exact ih _
      · rw [if_pos ⟨hb, q⟩] at ih
        rw [nI_1]
        exact ih _
    · have ih := fun d7 => lX5_bin hJ hp hm st hE i (k + 1) B d7 (by omega) hq hj
      rw [bInV_s, if_neg (fun z => hb z.1)] at ih
      refine br_f hb ?_
      rw [nI_1]
      exact ih _
theorem lX5_bou {E : aR} (hJ : sJ n t T W A R G) {m : Nat} {x2 : Int32} (hm : m ≤ 40) (hE : ∀ B, scM A B → E (some (.int (if x2 = 0 then (bOuV (LamW (W t)) n (vM A) m n).1 else (bOuV (LamW (W t)) n (vM A) m n).2))) (B, R, G)) :
    ∀ (i p : Nat) (B : Nat → Nat → Int32) (d6 d7 : Option Value), p + i = n → kqM A B → scM A B → aw tX5_burglary E 42 [some (.ref 48), some (.int (nI m)), some (.int x2), some (.int (bOuV (LamW (W t)) n (vM A) m p).1), some (.int (bOuV (LamW (W t)) n (vM A) m p).2), some (.int (nI p)), d6, d7] [] (B, R, G)
  | 0, p, B, d6, d7, hp, hq, hj => by
    have hn6 := hJ.n6
    have hp2 : p = n := by omega
    subst hp2
    have h9 := hE B hj
    refine sX5_burglary_42 hJ.gs _ _ _ _ _ _ _ (br_t (by rw [(hJ.goM hj).m0]; exact nI_le (by omega) (by omega)) ⟨fun q => ?_, fun q => ?_⟩)
    · rw [if_pos q] at h9; exact h9
    · rw [if_neg q] at h9; exact h9
  | i + 1, p, B, d6, d7, hp, hq, hj => by
    have hn6 := hJ.n6
    refine sX5_burglary_42 hJ.gs _ _ _ _ _ _ _ (br_f (by rw [(hJ.goM hj).m0]; exact nI_ge (by omega) (by omega)) ?_)
    exact lX5_bin hJ (by omega) hm (bOuV (LamW (W t)) n (vM A) m p) (fun B2 d6 d7 h1 h2 => lX5_bou hJ hm hE i (p + 1) B2 d6 d7 (by omega) h1 h2) 10 0 B none (by omega) hq hj
theorem c_burglary (hJ : sJ n t T W A R G) (x1 x2 : Int32) : bthI T W CX4_burglary CX5_burglary [.int x1, .int x2] A R G := by
  have hG := hJ.gs
  have hn6 := hJ.n6
  by_cases h1 : 0 ≤ x1 ∧ x1 ≤ 40
  case neg => exact qry0 hJ _ (aC_of (Nat.le_of_ble_eq_true rfl) fun E hE => sX4_burglary_0 hG _ _ (br_f h1 hE)) (aC_of (Nat.le_of_ble_eq_true rfl) fun E hE => sX5_burglary_0 hG _ _ (br_f h1 hE))
  by_cases h2 : 0 ≤ x2 ∧ x2 ≤ 1
  case neg => exact qry0 hJ _ (aC_of (Nat.le_of_ble_eq_true rfl) fun E hE => sX4_burglary_0 hG _ _ (br_t h1 (br_f h2 hE))) (aC_of (Nat.le_of_ble_eq_true rfl) fun E hE => sX5_burglary_0 hG _ _ (br_t h1 (br_f h2 hE)))
  obtain ⟨m, hm, rfl⟩ := rngI 40 (by omega) h1
  refine qry hJ (if x2 = 0 then (bOuV (LamW (W t)) n (vX A 1) m n).1 else (bOuV (LamW (W t)) n (vX A 1) m n).2) ?_ fun A' R' hJ' hs' hv => ?_
  · obtain ⟨A1, hC, h3, hB, _, hv⟩ := thk hJ
    obtain ⟨A2, ⟨hj2, _⟩, hC2⟩ := qX4_heardInThought hJ.gs hB.1 hB.2.1 hB.2.2.1 hn6 hB.2.2.2 hm
    rw [(gosV_c hv.sy m).2] at hC2
    refine aC_exM vX4_burglary (Nat.le_of_ble_eq_true rfl) fun E hE => ?_
    exact sX4_burglary_0 hG _ _ (br_t h1 (br_t h2 ⟨_, hC, sX4_burglary_26 hG _ _ _ _ _ _ _ ⟨_, _, hC2, sX4_burglary_31 _ _ _ _ _ _ _ _ (lX4_bou hJ hm (fun B R' h1 h2 => hE B R' ⟨h1, h2⟩) n 0 A2 _ _ _ (by omega) (h3.tr hj2.j.sc) scR.th)⟩⟩))
  · obtain ⟨A1, hk1, hC1⟩ := qX5_keeps (A := A') (R := R') hG
    obtain ⟨A2, ⟨hj2, _⟩, hC2⟩ := qX5_goes (R := R') hG (hk1.kq.L hJ'.lm) (n := n) (by rw [hk1.1 48 (by omega)]; exact hJ'.m0) hn6 hm
    rw [hk1.v] at hC2
    obtain ⟨A3, hl, hC3⟩ := qX5_lays (A := A2) (R := R') hG
    obtain ⟨hq3, hj3⟩ := (hk1.kq.d hj2).ly hl
    refine aC_exA vX5_burglary (Nat.le_of_ble_eq_true rfl) fun E hE => ?_
    rw [hv] at hC2
    have key := lX5_bou (E := E) (x2 := x2) hJ' hm (fun B h1 => by
      rw [hv, ← bOuV_c hJ.vv n (by omega)]
      exact hE B h1) n 0 A3 none none (by omega) hq3 hj3
    rw [hv] at key
    exact sX5_burglary_0 hG _ _ (br_t h1 (br_t h2 ⟨_, hC1, sX5_burglary_28 hG _ _ _ _ _ _ _ ⟨_, _, hC2, sX5_burglary_33 hG _ _ _ _ _ _ _ _ ⟨_, hC3, sX5_burglary_39 _ _ _ _ _ _ _ key⟩⟩⟩))
end CF
