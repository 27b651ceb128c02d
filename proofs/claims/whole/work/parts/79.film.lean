section FI
variable {A A' A0 A1 A2 B B0 C D : Nat → Nat → Int32} {R R' R1 R2 : Nat → Nat → Option Nat} {G : Nat → Nat × Nat} {n n' t T w t' : Nat} {W : Nat → Nat → List Nat} {Λ : aLm} {v u v0 vx vm : aV}
theorem bnA.go (h : bnA 11 w n Λ A R G) (hA : ∀ o, 11 ≤ o → o < 21 → B o = A o) (h1 : B (w + 1) = A (w + 1)) (h2 : B (w + 2) = A (w + 2)) : bnA 11 w n Λ B R G ∧ vX B 11 = vX A 11 := by
  have hv : vX B 11 = vX A 11 := vX_go fun k hk => hA _ (by omega) (by omega)
  exact ⟨⟨h.1.go h1 h2, by rw [hA 11 (by omega) (by omega)]; exact h.2.1, by rw [hv]; exact h.2.2.1, h.2.2.2.go (by rw [hA 11 (by omega) (by omega)]) (hA _ (by omega) (by omega))⟩, hv⟩
/-- how many are heard on a day k days on -/
noncomputable def filC (Λ : aLm) (n : Nat) (v : aV) (k : Nat) : Int32 := ones (dayV Λ n (gosV Λ n v k).1).2
theorem filC_c (h : eqV n v u) (k : Nat) : filC Λ n v k = filC Λ n u k := by
  unfold filC
  rw [(dayV_c (gosV_c h k).1).2]
def fiX (s m : Nat) (w : Nat) (c : Nat → Int32) (k : Nat) (A B : Nat → Nat → Int32) : Prop := (∀ o, (o < 11 ∨ 21 ≤ o) → ¬ o = w + 3 → ¬ o = 41 + 2 * s → B o = A o) ∧ ∀ j, B (41 + 2 * s) j = if j < k then c j else A (41 + 2 * s) j
theorem lX4_fim {E : aR} (hG : aGS G) (hn6 : n ≤ 6) {s m : Nat} (h80 : 80 ≤ w) (hs : s < 4) (hR : R 38 s = some (40 + 2 * s)) (hm : m ≤ 20) (hE : ∀ B, fiX s m w (filC Λ n v0) m A B → E (some (.int (nI m))) (B, R, G)) :
    ∀ (i k : Nat) (B : Nat → Nat → Int32), k + i = m → fiX s m w (filC Λ n v0) k A B → bnA 11 w n Λ B R G → vX B 11 = (gosV Λ n v0 k).1 → aw tX4_film E 42 [some (.ref 0), some (.int (nI s)), some (.int (nI m)), some (.int (nI k))] [] (B, R, G)
  | 0, k, B, hk, hf, hB, hv => by
    have hk2 : k = m := by omega
    subst hk2
    exact sX4_film_42 hG _ _ _ (br_t (nI_le (by omega) (by omega)) (hE B hf))
  | i + 1, k, B, hk, hf, hB, hv => by
    have hg := gsS hG hs
    obtain ⟨B1, ⟨hj, hv1⟩, hC⟩ := qX0_passDay (gB11 hG) hB.1 hB.2.1 hB.2.2.1 hn6 hB.2.2.2
    have hB1 := hB.d hj (by rw [hv1]; exact inv_day hB.2.2.1)
    obtain ⟨hB2, hv2⟩ := hB1.go (B := au B1 (40 + 2 * s + 1) k (popc (dayV Λ n (vX B 11)).2)) (fun o a b => au_o (by omega)) (au_o (by omega)) (au_o (by omega))
    refine sX4_film_42 hG _ _ _ (br_f (nI_ge (by omega) (by omega)) ⟨vp_in_nI (by omega) (by omega), 40 + 2 * s, by rw [nI_clamp (by omega)]; exact hR, gs0 hg, _, _, hC, sX4_film_64 _ _ _ _ _ _ ⟨gs1 hg, by rw [gsl1 hg]; exact vp_in_nI (by omega) (by omega), ?_⟩⟩)
    rw [nI_clamp (by omega), nI_1]
    refine lX4_fim hG hn6 h80 hs hR hm hE i (k + 1) _ (by omega) ⟨fun o a b c => ?_, fun j => ?_⟩ hB2 (by rw [hv2, hv1, hv, gosV_1])
    · rw [au_o (by omega), hj.1 o (by omega) (by omega) (by omega) (by omega) (by omega) (by omega) b]; exact hf.1 o a b c
    · rw [show 40 + 2 * s + 1 = 41 + 2 * s by omega, au_eq]
      by_cases e : j = k
      · subst e
        rw [if_pos ⟨rfl, rfl⟩, if_pos (by omega), popc_S isS_day, hv]
        rfl
      · rw [if_neg (fun q => e q.2), hj.1 _ (by omega) (by omega) (by omega) (by omega) (by omega) (by omega) (by omega), hf.2]
        by_cases e2 : j < k
        · rw [if_pos e2, if_pos (by omega)]
        · rw [if_neg e2, if_neg (by omega)]
def fiM (s : Nat) (c : Nat → Int32) (m k : Nat) (A B : Nat → Nat → Int32) : Prop := kqM A (ap B 60 (A 60)) ∧ (∀ j, (j < 40 * s ∨ 40 * s + 40 ≤ j) → B 60 j = A 60 j) ∧ ∀ j, j < k → B 60 (40 * s + j) = if j < m then c j else 0
theorem ap_o {o q : Nat} {f : Nat → Int32} (h : ¬ q = o) : ap A o f q = A q := ap_ne h
theorem kq60 {f : Nat → Int32} (h : kqM A (ap B 60 (A 60))) (h2 : ∀ o, ¬ o = 60 → C o = B o) : kqM A (ap C 60 (A 60)) := by
  have e : ap C 60 (A 60) = ap B 60 (A 60) := by
    funext o
    by_cases q : o = 60
    · subst q; rw [ap_at, ap_at]
    · rw [ap_ne q, ap_ne q, h2 o q]
  rw [e]
  exact h
theorem kq60d (h : kqM A (ap B 60 (A 60))) (hj : jD B C) : kqM A (ap C 60 (A 60)) := by
  refine h.d ⟨fun o a b c d e => ?_, fun k a b => ?_⟩
  · by_cases q : o = 60
    · subst q; rw [ap_at, ap_at]
    · rw [ap_ne q, ap_ne q]; exact hj.1 o a b c d e
  · rw [ap_ne (by omega), ap_ne (by omega)]; exact hj.2 k a b
theorem kq60l (h : kqM A (ap B 60 (A 60))) (hl : lyM B C) : scM A (ap C 60 (A 60)) := by
  refine (h.ly ⟨fun o a b c => ?_, fun k a b => ?_, fun k hk => ?_, fun k hk => ?_, ?_, ?_⟩).2
  · by_cases q : o = 60
    · subst q; rw [ap_at, ap_at]
    · rw [ap_ne q, ap_ne q]; exact hl.1 o a b c
  · rw [ap_ne (by omega), ap_ne (by omega)]; exact hl.2.1 k a b
  · rw [ap_ne (by omega), ap_ne (by omega)]; exact hl.2.2.1 k hk
  · rw [ap_ne (by omega), ap_ne (by omega)]; exact hl.2.2.2.1 k hk
  · rw [ap_ne (by omega), ap_ne (by omega)]; exact hl.2.2.2.2.1
  · rw [ap_ne (by omega), ap_ne (by omega)]; exact hl.2.2.2.2.2
theorem lX5_fi2 {E : aR} (hG : aGS G) {s m : Nat} {c : Nat → Int32} (hs : s < 4) (hm : m ≤ 20) (hE : ∀ B C, fiM s c m 40 A B → lyM B C → E (some (.int (nI m))) (C, R, G)) :
    ∀ (i k : Nat) (B : Nat → Nat → Int32), k + i = 40 → m ≤ k → fiM s c m k A B → aw tX5_film E 45 [some (.ref 48), some (.int (nI s)), some (.int (nI m)), some (.int (nI k))] [] (B, R, G)
  | 0, k, B, hk, hmk, hf => by
    have hk2 : k = 40 := by omega
    subst hk2
    obtain ⟨C, hl, hC⟩ := qX5_lays (A := B) (R := R) hG
    exact sX5_film_45 hG _ _ _ (br_t (by decide) ⟨_, hC, sX5_film_88 _ _ _ (hE B C hf hl)⟩)
  | i + 1, k, B, hk, hmk, hf => by
    have e40 : (40 : Int32) * nI s = nI (40 * s) := pk_mul 40 s
    refine sX5_film_45 hG _ _ _ (br_f (nI_ge (a := k) (b := 40) (by omega) (by omega)) (br_t (nI_le hmk (by omega)) ?_))
    simp (disch := omega) only [e40, nI_add, nI_clamp, nI_1]
    refine ⟨vp_in_nI (by omega) (by omega), lX5_fi2 hG hs hm hE i (k + 1) _ (by omega) (by omega) ⟨kq60 (f := A 60) hf.1 (fun o ho => au_o ho), fun j hj => (au_j (by omega)).trans (hf.2.1 j hj), fun j hj => ?_⟩⟩
    by_cases e : j = k
    · subst e; rw [au_k, if_neg (by omega)]
    · rw [au_j (by omega)]; exact hf.2.2 j (by omega)
theorem lX5_fi1 {E : aR} (hG : aGS G) (hL : LMA A Λ) (hn6 : n ≤ 6) (hn : A 48 0 = nI n) {s m : Nat} (hs : s < 4) (hm : m ≤ 20) (hE : ∀ B C, fiM s (filC Λ n (vM A)) m 40 A B → lyM B C → E (some (.int (nI m))) (C, R, G)) :
    ∀ (i k : Nat) (B : Nat → Nat → Int32), k + i = m → fiM s (filC Λ n (vM A)) m k A B → vM B = (gosV Λ n (vM A) k).1 → aw tX5_film E 45 [some (.ref 48), some (.int (nI s)), some (.int (nI m)), some (.int (nI k))] [] (B, R, G)
  | 0, k, B, hk, hf, hv => lX5_fi2 hG hs hm hE (40 - k) k B (by omega) (by omega) hf
  | i + 1, k, B, hk, hf, hv => by
    have e40 : (40 : Int32) * nI s = nI (40 * s) := pk_mul 40 s
    have hkL : LMA B Λ := hL.go (by have := hf.1.1 54 (by omega) (by omega); rwa [ap_ne (by omega)] at this) (by have := hf.1.1 55 (by omega) (by omega); rwa [ap_ne (by omega)] at this) (by have := hf.1.2.1 12 (by omega) (by omega) (by omega); rwa [ap_ne (by omega)] at this)
    have hkn : B 48 0 = nI n := by have := hf.1.2.1 0 (by omega) (by omega) (by omega); rw [ap_ne (by omega)] at this; exact this.trans hn
    obtain ⟨B1, ⟨hj, hv1⟩, hC⟩ := qX5_dayOf (R := R) hG hkL hkn hn6
    have h60 : B1 60 = B 60 := hj.1 60 (by omega) (by omega) (by omega) (by omega) (by omega)
    refine sX5_film_45 hG _ _ _ (br_f (nI_ge (a := k) (b := 40) (by omega) (by omega)) (br_f (nI_ge (by omega) (by omega)) ⟨_, _, hC, sX5_film_70 _ _ _ _ _ _ ?_⟩))
    rw [gl60 hG]
    simp (disch := omega) only [e40, nI_add, nI_clamp, nI_1]
    refine ⟨gt60 hG, vp_in_nI (by omega) (by omega), lX5_fi1 hG hL hn6 hn hs hm hE i (k + 1) _ (by omega) ⟨kq60 (f := A 60) (kq60d hf.1 hj) (fun o ho => au_o ho), fun j hj2 => ?_, fun j hj2 => ?_⟩ ?_⟩
    · rw [au_j (by omega), h60]; exact hf.2.1 j hj2
    · by_cases e : j = k
      · subst e; rw [au_k, if_pos (by omega), hv]; rfl
      · rw [au_j (by omega), h60]; exact hf.2.2 j (by omega)
    · rw [vM_go (A := B1) (au_o (by omega)) (au_o (by omega)) (au_o (by omega)) (au_o (by omega)) (au_o (by omega)), hv1, hv, gosV_1]
theorem c_film (hJ : sJ n t T W A R G) (x1 x2 : Int32) : bthI T W CX4_film CX5_film [.int x1, .int x2] A R G := by
  have hG := hJ.gs
  have hn6 := hJ.n6
  by_cases h1 : 0 ≤ x1 ∧ x1 ≤ 3
  case neg => exact qry0 hJ _ (aC_of (Nat.le_of_ble_eq_true rfl) fun E hE => sX4_film_0 hG _ _ (br_f h1 hE)) (aC_of (Nat.le_of_ble_eq_true rfl) fun E hE => sX5_film_0 hG _ _ (br_f h1 hE))
  by_cases h2 : 0 ≤ x2 ∧ x2 ≤ 20
  case neg => exact qry0 hJ _ (aC_of (Nat.le_of_ble_eq_true rfl) fun E hE => sX4_film_0 hG _ _ (br_t h1 (br_f h2 hE))) (aC_of (Nat.le_of_ble_eq_true rfl) fun E hE => sX5_film_0 hG _ _ (br_t h1 (br_f h2 hE)))
  obtain ⟨s, hs, rfl⟩ := rngI 3 (by omega) h1
  obtain ⟨m, hm, rfl⟩ := rngI 20 (by omega) h2
  have hg := gsS hG (s := s) (by omega)
  have hcl : (nI s).toNatClampNeg = s := nI_clamp (by omega)
  have hx : vp_in (nI s) 4 := vp_in_nI (by omega) (by omega)
  obtain ⟨A1, hC, hs1, hB, hH, hv⟩ := thk hJ
  obtain ⟨B0, ⟨r1, r2, r3, r4⟩, hCr⟩ := qX2_renew (A := A1) (R := ar R 11 14 (some (tw t))) hg (x := 0) (z := m) (by omega)
  obtain ⟨hB0, hvB0⟩ := hB.go (B := B0) (fun o a b => r1 o (by omega) (by omega)) (r1 _ (by unfold tw; omega) (by unfold tw; omega)) (r1 _ (by unfold tw; omega) (by unfold tw; omega))
  have hR38 : ar R 11 14 (some (tw t)) 38 s = some (40 + 2 * s) := by rw [ar_ne (by omega)]; exact hJ.sz (by omega)
  obtain ⟨A2, ⟨f1, f2⟩, hC2⟩ : ∃ A2, fiX s m (tw t) (filC (LamW (W t)) n (vX A1 11)) m B0 A2 ∧ CX4_film [.ref 0, .int (nI s), .int (nI m)] (A, R, G) (some (.int (nI m))) (A2, ar R 11 14 (some (tw t)), G) := by
    refine aC_exR vX4_film (Nat.le_of_ble_eq_true rfl) fun E hE => sX4_film_0 hG _ _ (br_t h1 (br_t h2 ⟨_, hC, sX4_film_29 hG _ _ _ ⟨hx, 40 + 2 * s, by rw [hcl]; exact hR38, gs0 hg, _, hCr, sX4_film_40 _ _ _ ?_⟩⟩))
    exact lX4_fim hG hn6 tw80 (by omega) hR38 hm (fun B hB => hE B hB) m 0 B0 (by omega) ⟨fun _ _ _ _ => rfl, fun j => (if_neg (by omega)).symm⟩ hB0 hvB0
  have hallX : ∀ o, (o < 10 ∨ 21 ≤ o) → ¬ o = 39 → (o < 80 ∨ ¬ o % 4 = 3) → ¬ o = 40 + 2 * s → ¬ o = 41 + 2 * s → A2 o = A o := fun o a b c d e => by
    rw [f1 o (by omega) (by unfold tw; omega) e, r1 o d (by omega)]
    exact hs1 o a b c
  have k48 : A2 48 = A 48 := hallX 48 (by omega) (by omega) (by omega) (by omega) (by omega)
  have hvm : vM A2 = vM A := vM_go k48 (hallX _ (by omega) (by omega) (by omega) (by omega) (by omega)) (hallX _ (by omega) (by omega) (by omega) (by omega) (by omega)) (hallX _ (by omega) (by omega) (by omega) (by omega) (by omega)) (hallX _ (by omega) (by omega) (by omega) (by omega) (by omega))
  have hA0 : ∀ o, ¬ o = 58 → ¬ o = 59 → au (au A2 58 s 0) 59 s (nI m) o = A2 o := fun o a b => by rw [au_o b, au_o a]
  have hL0 : LMA (au (au A2 58 s 0) 59 s (nI m)) (LamW (W t)) := hJ.lm.go ((hA0 _ (by omega) (by omega)).trans (hallX _ (by omega) (by omega) (by omega) (by omega) (by omega))) ((hA0 _ (by omega) (by omega)).trans (hallX _ (by omega) (by omega) (by omega) (by omega) (by omega))) (by rw [hA0 48 (by omega) (by omega), k48])
  have hvm0 : vM (au (au A2 58 s 0) 59 s (nI m)) = vM A := by
    rw [vM_go (A := A2) (hA0 _ (by omega) (by omega)) (hA0 _ (by omega) (by omega)) (hA0 _ (by omega) (by omega)) (hA0 _ (by omega) (by omega)) (hA0 _ (by omega) (by omega))]
    exact hvm
  obtain ⟨K, hk, hCk⟩ := qX5_keeps (A := au (au A2 58 s 0) 59 s (nI m)) (R := ar R 11 14 (some (tw t))) hG
  obtain ⟨A4, ⟨B3, g1, g2⟩, hC4⟩ : ∃ A4, (∃ B3, fiM s (filC (LamW (W t)) n (vM (au (au A2 58 s 0) 59 s (nI m)))) m 40 (au (au A2 58 s 0) 59 s (nI m)) B3 ∧ lyM B3 A4) ∧ CX5_film [.ref 48, .int (nI s), .int (nI m)] (A2, ar R 11 14 (some (tw t)), G) (some (.int (nI m))) (A4, ar R 11 14 (some (tw t)), G) := by
    refine aC_exA vX5_film (Nat.le_of_ble_eq_true rfl) fun E hE => sX5_film_0 hG _ _ (br_t h1 (br_t h2 ⟨hx, ?_⟩))
    rw [hcl]
    have e60 : ap K 60 (au (au A2 58 s 0) 59 s (nI m) 60) = K := by
      funext o
      by_cases q : o = 60
      · subst q; rw [ap_at, hk.1 60 (by omega)]
      · exact ap_ne q
    refine ⟨_, hCk, sX5_film_43 _ _ _ (lX5_fi1 hG hL0 hn6 (by rw [hA0 48 (by omega) (by omega), k48]; exact hJ.m0) (by omega) hm (fun B C hB hC => hE C ⟨B, hB, hC⟩) m 0 K (by omega) ⟨by rw [e60]; exact hk.kq, fun j hj => by rw [hk.1 60 (by omega)], fun j hj => absurd hj (by omega)⟩ hk.v)⟩
  have hsc := kq60l g1.1 g2
  have e4 : ∀ o, ¬ o = 60 → ap A4 60 (au (au A2 58 s 0) 59 s (nI m) 60) o = A4 o := fun o h => ap_ne h
  have hall4 : ∀ o, (o < 48 ∨ 52 < o) → (o < 64 ∨ 68 < o) → ¬ o = 60 → ¬ o = 58 → ¬ o = 59 → A4 o = A2 o := fun o a b c d e => by
    rw [← e4 o c, hsc.1 o a b, hA0 o d e]
  have h60 : A4 60 = B3 60 := g2.1 60 (by omega) (by omega) (by omega)
  have e58 : ∀ j, A4 58 j = if j = s then 0 else A 58 j := fun j => by
    rw [← e4 58 (by omega), hsc.1 58 (by omega) (by omega), au_o (by omega), au_eq, hallX 58 (by omega) (by omega) (by omega) (by omega) (by omega)]
    by_cases e : j = s
    · rw [if_pos ⟨rfl, e⟩, if_pos e]
    · rw [if_neg (fun q => e q.2), if_neg e]
  have e59 : ∀ j, A4 59 j = if j = s then nI m else A 59 j := fun j => by
    rw [← e4 59 (by omega), hsc.1 59 (by omega) (by omega), au_eq, au_o (by omega), hallX 59 (by omega) (by omega) (by omega) (by omega) (by omega)]
    by_cases e : j = s
    · rw [if_pos ⟨rfl, e⟩, if_pos e]
    · rw [if_neg (fun q => e q.2), if_neg e]
  have hfc : ∀ j, filC (LamW (W t)) n (vM (au (au A2 58 s 0) 59 s (nI m))) j = filC (LamW (W t)) n (vX A1 11) j := fun j => by
    rw [hvm0, filC_c hJ.vv.sy, filC_c hv]
  refine fin hC2 hC4 (hJ.shF (fun o a b c d e f g => ?_) (fun k a b c => ?_) ?_ (hJ.sh.set (s := s) (by omega) (ar_ne (by omega)) (fun o a b c d => ?_) (fun j hj => by rw [e58, if_neg hj]) (fun j hj => by rw [e59, if_neg hj]) (fun j hj => ?_) ?_ ⟨m, by omega, ?_, by rw [e59, if_pos rfl]⟩ (fun k hk => ?_)) scR.th)
  · rw [hall4 o (by omega) (by omega) (by omega) (by omega) (by omega)]
    exact hallX o a b g (by omega) (by omega)
  · rw [← e4 48 (by omega), hsc.2.1 k a b c, hA0 48 (by omega) (by omega), k48]
  · have := hsc.2.2
    rw [hvm0, vM_go (A := A4) (e4 _ (by omega)) (e4 _ (by omega)) (e4 _ (by omega)) (e4 _ (by omega)) (e4 _ (by omega))] at this
    exact this
  · rw [hall4 o (by omega) (by omega) (by omega) (by omega) (by omega)]
    exact hallX o (by omega) (by omega) (by omega) c d
  · rw [h60, g1.2.1 j hj, hA0 60 (by omega) (by omega), hallX 60 (by omega) (by omega) (by omega) (by omega) (by omega)]
  · rw [hall4 _ (by omega) (by omega) (by omega) (by omega) (by omega), f1 _ (by omega) (by unfold tw; omega) (by omega), r2, e58, if_pos rfl]
  · rw [hall4 _ (by omega) (by omega) (by omega) (by omega) (by omega), f1 _ (by omega) (by unfold tw; omega) (by omega)]
    exact r3
  · rw [hall4 _ (by omega) (by omega) (by omega) (by omega) (by omega), f2, h60, g1.2.2 k hk, hfc]
    by_cases e : k < m
    · rw [if_pos e, if_pos e]
    · rw [if_neg e, if_neg e, show 41 + 2 * s = 40 + 2 * s + 1 by omega]
      exact r4 k hk
end FI
