/-! the model's next token -/
def nxS (A B : Nat → Nat → Int32) : Prop := (∀ o, ¬ o = 48 → B o = A o) ∧ ∀ k, (k < 20 ∨ 23 < k) → B 48 k = A 48 k
section NX
variable {E : aR} {A B C : Nat → Nat → Int32} {R : Nat → Nat → Option Nat} {G : Nat → Nat × Nat} {t u : Nat → Int32} {z : Nat}
theorem nxS.rfl' : nxS A A := ⟨fun _ _ => rfl, fun _ _ => rfl⟩
theorem nxS.au (h : nxS A B) {k : Nat} (h1 : 20 ≤ k) (h2 : k ≤ 23) (v : Int32) : nxS A (au B 48 k v) :=
  ⟨fun o ho => by rw [au_o ho]; exact h.1 o ho, fun j hj => by rw [au_j (by omega)]; exact h.2 j hj⟩
theorem nxS.tp (h : nxS A B) : B 53 = A 53 := h.1 53 (by decide)
theorem nxS.zz (h : nxS A B) : B 48 8 = A 48 8 := h.2 8 (by omega)
theorem nxS.to (h : nxS A B) {p e : Nat} {tok val : Int32} (h0 : B 48 20 = nI e) (h1 : B 48 21 = nI p) (h2 : B 48 22 = tok) (h3 : (tok = 1 ∨ tok = 2 ∨ tok = 3) → B 48 23 = val) : nxM A B p e tok val := ⟨h.1, h.2, h0, h1, h2, h3⟩
theorem lX5_sk (hG : aGS G) (hz : z ≤ 160) (hA : A 48 8 = nI z) {r : Nat} (K : ∀ B, nxS A B → B 48 20 = nI r → aw tX5_next E 52 [some (.ref 48), none, none] [] (B, R, G)) :
    ∀ (m q : Nat) (B : Nat → Nat → Int32), q + m = z → runN (isBk (A 53) z) m q = r → nxS A B → B 48 20 = nI q → aw tX5_next E 0 [some (.ref 48), none, none] [] (B, R, G)
  | 0, q, B, hq, hr, hS, h20 => by
    have : q = r := hr
    subst this
    exact sX5_next_0 hG (br_t (by rw [hS.zz, hA, h20]; exact nI_le (by omega) (by omega)) (K B hS h20))
  | m + 1, q, B, hq, hr, hS, h20 => by
    rw [runN_s] at hr
    have go : isBk (A 53) z q → aw tX5_next E 39 [some (.ref 48), none, none] [] (B, R, G) := fun c => by
      rw [if_pos c] at hr
      refine sX5_next_39 hG _ _ (lX5_sk hG hz hA K m (q + 1) _ (by omega) hr (hS.au (by omega) (by omega) _) ?_)
      rw [au_k, h20, nI_1]
    refine sX5_next_0 hG (br_f (by rw [hS.zz, hA, h20]; exact nI_ge (by omega) (by omega)) ?_)
    rw [h20, nI_clamp (by omega), hS.tp]
    refine ⟨vp_in_nI (by omega) (by omega), fun c => go ⟨by omega, Or.inl c⟩, fun c1 => ⟨fun c => go ⟨by omega, Or.inr c⟩, fun c2 => ?_⟩⟩
    rw [if_neg (fun w => w.2.elim c1 c2)] at hr
    subst hr
    exact K B hS h20
theorem lX5_let (hG : aGS G) (hz : z ≤ 160) (hA : A 48 8 = nI z) {r p : Nat} (K : ∀ B, nxS A B → B 48 20 = nI r → B 48 21 = nI p → aw tX5_next E 146 [some (.ref 48), none, none] [] (B, R, G)) :
    ∀ (m q : Nat) (B : Nat → Nat → Int32) (d1 d2 : Option Value), q + m = z → runN (isL (A 53) z) m q = r → nxS A B → B 48 20 = nI q → B 48 21 = nI p → aw tX5_next E 103 [some (.ref 48), d1, d2] [] (B, R, G)
  | 0, q, B, d1, d2, hq, hr, hS, h20, h21 => by
    have : q = r := hr
    subst this
    exact sX5_next_103 hG _ _ (br_t (by rw [hS.zz, hA, h20]; exact nI_le (by omega) (by omega)) (K B hS h20 h21))
  | m + 1, q, B, d1, d2, hq, hr, hS, h20, h21 => by
    rw [runN_s] at hr
    refine sX5_next_103 hG _ _ (br_f (by rw [hS.zz, hA, h20]; exact nI_ge (by omega) (by omega)) ?_)
    rw [h20, nI_clamp (by omega), hS.tp]
    refine ⟨vp_in_nI (by omega) (by omega), fun c => ?_, fun c => ?_⟩
    · rw [if_pos ⟨by omega, c⟩] at hr
      refine lX5_let hG hz hA K m (q + 1) _ _ _ (by omega) hr (hS.au (by omega) (by omega) _) ?_ ?_
      · rw [au_k, nI_1]
      · rw [au_j (by decide)]; exact h21
    · rw [if_neg (fun w => c w.2)] at hr
      subst hr
      exact K B hS h20 h21
theorem numR_s {m q : Nat} {a : Int32} : numR t (m + 1) q a = numR t m (q + 1) (((10 * a) + t q) - 48) := by
  conv => lhs; unfold numR
theorem lX5_dig (hG : aGS G) (hz : z ≤ 160) (hA : A 48 8 = nI z) {r p : Nat} {V : Int32} (K : ∀ B, nxS A B → B 48 20 = nI r → B 48 21 = nI p → (r - p ≤ 4 → B 48 23 = V) → aw tX5_next E 309 [some (.ref 48), none, some (.int (nI (r - p)))] [] (B, R, G)) :
    ∀ (m q : Nat) (B : Nat → Nat → Int32) (d1 : Option Value), q + m = z → p ≤ q → runN (isD (A 53) z) m q = r → nxS A B → B 48 20 = nI q → B 48 21 = nI p → (r - p ≤ 4 → numR (A 53) (r - q) q (B 48 23) = V) → aw tX5_next E 230 [some (.ref 48), d1, some (.int (nI (q - p)))] [] (B, R, G)
  | 0, q, B, d1, hq, hp, hr, hS, h20, h21, hv => by
    have : q = r := hr
    subst this
    rw [Nat.sub_self] at hv
    exact sX5_next_230 hG _ _ (br_t (by rw [hS.zz, hA, h20]; exact nI_le (by omega) (by omega)) (K B hS h20 h21 hv))
  | m + 1, q, B, d1, hq, hp, hr, hS, h20, h21, hv => by
    rw [runN_s] at hr
    refine sX5_next_230 hG _ _ (br_f (by rw [hS.zz, hA, h20]; exact nI_ge (by omega) (by omega)) ?_)
    rw [h20, nI_clamp (by omega), hS.tp]
    have en : nI (q - p) + 1 = nI (q + 1 - p) := by rw [nI_1, show q - p + 1 = q + 1 - p by omega]
    refine ⟨vp_in_nI (by omega) (by omega), fun c => ?_, fun c => ?_⟩
    · rw [if_pos ⟨by omega, c⟩] at hr
      have hlt : q + 1 ≤ r := by have := (runN_le (P := isD (A 53) z) m (q + 1)).1; omega
      rw [en]
      refine ⟨fun c4 => ?_, fun c4 => ?_⟩
      · have h4 : 4 ≤ q - p := Nat.le_of_not_lt fun w => nI_ge (a := q - p) (b := 4) w (by omega) c4
        refine lX5_dig hG hz hA K m (q + 1) _ _ (by omega) (by omega) hr ((hS.au (by omega) (by omega) _).au (by omega) (by omega) _) ?_ ?_ (fun w => absurd w (by omega))
        · rw [au_k, au_j (by decide), h20, nI_1]
        · rw [au_j (by decide), au_j (by decide)]; exact h21
      · refine sX5_next_306 _ _ (lX5_dig hG hz hA K m (q + 1) _ _ (by omega) (by omega) hr ((hS.au (by omega) (by omega) _).au (by omega) (by omega) _) ?_ ?_ (fun w => ?_))
        · rw [au_k, au_j (by decide), h20, nI_1]
        · rw [au_j (by decide), au_j (by decide)]; exact h21
        · rw [au_j (by decide), au_k, ← numR_s, show r - (q + 1) + 1 = r - q by omega]
          exact hv w
    · rw [if_neg (fun w => c w.2)] at hr
      subst hr
      rw [Nat.sub_self] at hv
      exact K B hS h20 h21 hv
theorem pk_dig {c : Int32} (h0 : 48 ≤ c) (h1 : c ≤ 57) : ∃ d, d < 10 ∧ c = nI (48 + d) := by
  obtain ⟨k, hk, e⟩ : ∃ k, k < 58 ∧ c = nI k := by
    rcases pk_ix c (n := 58) (by omega) with q | q | h
    · exact absurd (Int32.lt_of_le_of_lt h0 q) (by decide)
    · have q : (58 : Int32) ≤ c := q
      exact absurd (Int32.le_trans q h1) (by decide)
    · exact h
  subst e
  have : 48 ≤ k := Nat.le_of_not_lt fun w => nI_ge (a := k) (b := 48) w (by omega) h0
  exact ⟨k - 48, by omega, by rw [show 48 + (k - 48) = k by omega]⟩
/-- the worth of a number's digits -/
theorem numR_v : ∀ (m q a : Nat), (∀ i, i < m → 48 ≤ t (q + i) ∧ t (q + i) ≤ 57) → (a + 1) * 10 ^ m ≤ 10000 → ∃ v, numR t m q (nI a) = nI v ∧ v < 10000
  | 0, q, a, h, hb => ⟨a, by unfold numR; rfl, by omega⟩
  | m + 1, q, a, h, hb => by
    obtain ⟨d, hd, e⟩ := pk_dig (h 0 (by omega)).1 (h 0 (by omega)).2
    rw [Nat.add_zero] at e
    have e1 : (((10 : Int32) * nI a) + t q) - 48 = nI (10 * a + d) := by
      have e10 : (10 : Int32) * nI a = nI (10 * a) := pk_mul 10 a
      have e48 : (nI (10 * a + (48 + d))) - nI 48 = nI (10 * a + (48 + d) - 48) := pk_sub (by omega)
      rw [e, e10, nI_add, show (48 : Int32) = nI 48 from rfl, e48, show 10 * a + (48 + d) - 48 = 10 * a + d by omega]
    rw [numR_s, e1]
    refine numR_v m (q + 1) (10 * a + d) (fun i hi => ?_) ?_
    · have := h (i + 1) (by omega)
      rw [show q + (i + 1) = q + 1 + i by omega] at this
      exact this
    · rw [Nat.pow_succ] at hb
      have : (10 * a + d + 1) * 10 ^ m ≤ (a + 1) * (10 ^ m * 10) := by
        rw [Nat.mul_comm (10 ^ m) 10, ← Nat.mul_assoc]
        exact Nat.mul_le_mul_right _ (by omega)
      omega
theorem mtk_k3 : ∀ k, k < 3 → mtk (wcode (sgk k)) = 3 ∧ mvl (wcode (sgk k)) = nI k := by decide
theorem mtk_k9 : ∀ k, k < 9 → 3 ≤ k → mtk (wcode (sgk k)) = 2 ∧ mvl (wcode (sgk k)) = nI k - 3 := by decide
theorem mtk_k12 : ∀ k, k < 12 → 9 ≤ k → mtk (wcode (sgk k)) = (4 + nI k) - 9 ∧ ¬ (mtk (wcode (sgk k)) = 1 ∨ mtk (wcode (sgk k)) = 2 ∨ mtk (wcode (sgk k)) = 3) := by decide
theorem mtk_num {v : Nat} (h : v < 10000) : mtk (nI v) = 1 ∧ mvl (nI v) = nI v := by
  have h0 : (0 : Int32) ≤ nI v := nI_nn (by omega)
  have h1 : ¬ nI v = -26 := fun w => absurd (w ▸ h0) (by decide)
  unfold mtk mvl
  rw [if_neg h1, if_pos h0, if_pos h0]
  exact ⟨rfl, rfl⟩
theorem nx_end (hG : aGS G) (hz : z ≤ 160) (hA : A 48 8 = nI z) {p : Nat} (hp : p ≤ z) (hw : ∀ i, i < 96 → A 62 i = mWd.getD i 0)
    (K : ∀ B, nxM A B p (tkEnd (A 53) z p) (mtk (tkCode (A 53) z p)) (mvl (tkCode (A 53) z p)) → E none (B, R, G)) (hS : nxS A B) (h20 : B 48 20 = nI p) : aw tX5_next E 52 [some (.ref 48), none, none] [] (B, R, G) := by
  have hpe := tkEnd_le (t := A 53) hp
  refine sX5_next_52 hG _ _ ?_
  obtain ⟨C, hC⟩ : ∃ C, C = au (au (au B 48 21 (B 48 20)) 48 22 0) 48 23 0 := ⟨_, rfl⟩
  have cS : nxS A C := hC ▸ ((hS.au (by omega) (by omega) _).au (by omega) (by omega) _).au (by omega) (by omega) _
  have c20 : C 48 20 = nI p := by rw [hC, au_j (by decide), au_j (by decide), au_j (by decide)]; exact h20
  have c21 : C 48 21 = nI p := by rw [hC, au_j (by decide), au_j (by decide), au_k]; exact h20
  have c22 : C 48 22 = 0 := by rw [hC, au_j (by decide), au_k]
  have c23 : C 48 23 = 0 := by rw [hC, au_k]
  rw [← hC]
  clear hC hS h20
  rw [c20, cS.zz, hA, cS.tp, nI_clamp (by omega)]
  unfold tkCode at K
  by_cases e : p < z
  case neg =>
    rw [if_neg e] at K
    refine br_t (by rw [show p = z by omega]) (K C (cS.to ?_ c21 c22 (fun w => absurd w (by decide))))
    rw [c20, show tkEnd (A 53) z p = p by omega]
  rw [if_pos e] at K
  refine br_f (fun w => by rw [nI_eq (by omega) (by omega)] at w; omega) ⟨vp_in_nI (by omega) (by omega), ?_⟩
  by_cases c : isL (A 53) z p
  · rw [if_pos c] at K
    have ee : tkEnd (A 53) z p = runN (isL (A 53) z) (z - p) p := by unfold tkEnd; rw [if_pos c]
    refine br_t c.2 (lX5_let hG hz hA (fun D dS d20 d21 => ?_) (z - p) p C _ _ (by omega) ee.symm cS c20 c21)
    have hW := qX5_wordFrom (A := D) (R := R) hG (by rw [dS.1 62 (by decide)]; exact hw) (Nat.le_trans hpe.2.1 hz) hpe.1
    refine sX5_next_146 hG _ _ ?_
    rw [d20, d21]
    rw [dS.tp] at hW
    refine ⟨_, _, hW, ?_⟩
    rcases wd_both (t := A 53) hpe.1 (fun q h1 h2 w => by
      have := (runN_in (z - p) p q h1 (ee ▸ h2) : isL (A 53) z q).2.1
      rw [w] at this; exact absurd this (by decide)) with ⟨k, hk, e1, e2⟩ | ⟨e1, e2⟩
    · rw [e1]
      rw [e2] at K
      by_cases k3 : k < 3
      · obtain ⟨g1, g2⟩ := mtk_k3 k k3
        rw [g1, g2] at K
        refine sX5_next_158 hG _ _ _ (br_f (nI_ge (a := k) (b := 3) k3 (by omega)) (sX5_next_403 _ _ (K _ (((dS.au (by omega) (by omega) _).au (by omega) (by omega) _).to ?_ ?_ ?_ (fun _ => au_k)))))
        · rw [au_j (by decide), au_j (by decide)]; exact d20
        · rw [au_j (by decide), au_j (by decide)]; exact d21
        · rw [au_j (by decide), au_k]
      refine sX5_next_158 hG _ _ _ (br_t (nI_le (a := 3) (b := k) (by omega) (by omega)) ?_)
      by_cases k9 : k < 9
      · obtain ⟨g1, g2⟩ := mtk_k9 k k9 (by omega)
        rw [g1, g2] at K
        refine br_f (nI_ge (a := k) (b := 9) k9 (by omega)) (sX5_next_403 _ _ (K _ (((dS.au (by omega) (by omega) _).au (by omega) (by omega) _).to ?_ ?_ ?_ (fun _ => au_k))))
        · rw [au_j (by decide), au_j (by decide)]; exact d20
        · rw [au_j (by decide), au_j (by decide)]; exact d21
        · rw [au_j (by decide), au_k]
      obtain ⟨g1, g2⟩ := mtk_k12 k hk (by omega)
      refine br_t (nI_le (a := 9) (b := k) (by omega) (by omega)) (br_f (fun w => ?_) ?_)
      · have w : nI k = nI 12 := w
        rw [nI_eq (by omega) (by omega)] at w
        omega
      · refine sX5_next_403 _ _ (K _ (((dS.au (by omega) (by omega) _).au (by omega) (by omega) _).to ?_ ?_ ?_ (fun w => absurd w g2)))
        · rw [au_j (by decide), au_j (by decide)]; exact d20
        · rw [au_j (by decide), au_j (by decide)]; exact d21
        · rw [au_j (by decide), au_k, g1]
    · rw [e1]
      rw [e2] at K
      refine sX5_next_158 hG _ _ _ (br_t (by decide) (br_t (by decide) (br_t (by decide) ?_)))
      refine sX5_next_403 _ _ (K _ (((dS.au (by omega) (by omega) _).au (by omega) (by omega) _).to ?_ ?_ ?_ (fun w => absurd w (by decide))))
      · rw [au_j (by decide), au_j (by decide)]; exact d20
      · rw [au_j (by decide), au_j (by decide)]; exact d21
      · rw [au_j (by decide), au_k]; decide
  rw [if_neg c] at K
  refine br_f (fun w => c ⟨e, w⟩) ?_
  by_cases d : isD (A 53) z p
  · rw [if_pos d] at K
    have ee : tkEnd (A 53) z p = runN (isD (A 53) z) (z - p) p := by unfold tkEnd; rw [if_neg c, if_pos d]
    have hL := lX5_dig (E := E) (R := R) hG hz hA (r := tkEnd (A 53) z p) (p := p) (V := numR (A 53) (tkEnd (A 53) z p - p) p 0) (fun D dS d20 d21 d23 => ?_) (z - p) p C (some (.int (A 53 p))) (by omega) (by omega) ee.symm cS c20 c21 (fun _ => by rw [c23])
    · rw [Nat.sub_self] at hL
      exact br_t d.2 hL
    · refine sX5_next_309 hG _ _ ?_
      by_cases k4 : tkEnd (A 53) z p - p ≤ 4
      · rw [if_pos k4] at K
        obtain ⟨v, hv, hb⟩ := numR_v (t := A 53) (tkEnd (A 53) z p - p) p 0 (fun i hi => (runN_in (z - p) p (p + i) (by omega) (by rw [← ee]; omega) : isD (A 53) z (p + i)).2) (by
          have : 10 ^ (tkEnd (A 53) z p - p) ≤ 10 ^ 4 := Nat.pow_le_pow_right (by omega) k4
          omega)
        have d23' := d23 k4
        rw [show (0 : Int32) = nI 0 from rfl, hv] at d23'
        rw [show (0 : Int32) = nI 0 from rfl, hv, (mtk_num hb).1, (mtk_num hb).2] at K
        refine br_t (nI_le (b := 4) k4 (by omega)) (sX5_next_403 _ _ (K _ ((dS.au (by omega) (by omega) _).to ?_ ?_ au_k (fun _ => ?_))))
        · rw [au_j (by decide)]; exact d20
        · rw [au_j (by decide)]; exact d21
        · rw [au_j (by decide)]; exact d23'
      · rw [if_neg k4] at K
        refine br_f (nI_ge (a := 4) (by omega) (by omega)) (sX5_next_403 _ _ (K _ ((dS.au (by omega) (by omega) _).to ?_ ?_ ?_ (fun w => absurd w (by decide)))))
        · rw [au_j (by decide)]; exact d20
        · rw [au_j (by decide)]; exact d21
        · rw [au_k]; decide
  rw [if_neg d] at K
  refine br_f (fun w => d ⟨e, w⟩) ?_
  have ee : tkEnd (A 53) z p = p + 1 := by unfold tkEnd; rw [if_neg c, if_neg d, if_pos e]
  rw [ee] at K
  have go : ∀ x : Int32, A 53 p = x → mtk (sgX x) = x → ¬ (x = 1 ∨ x = 2 ∨ x = 3) → aw tX5_next E 374 [some (.ref 48), some (.int (A 53 p)), none] [] (C, R, G) := fun x hx hm hn => by
    rw [hx, hm] at K
    rw [hx]
    refine sX5_next_374 hG _ _ (sX5_next_403 _ _ (K _ (((cS.au (by omega) (by omega) _).au (by omega) (by omega) _).to ?_ ?_ ?_ (fun w => absurd w hn))))
    · rw [au_k, au_j (by decide), c20, nI_1]
    · rw [au_j (by decide), au_j (by decide)]; exact c21
    · rw [au_j (by decide), au_k]
  refine ⟨fun x => go 40 x (by decide) (by decide), fun x1 => ⟨fun x => go 41 x (by decide) (by decide), fun x2 => ⟨fun x => go 59 x (by decide) (by decide), fun x3 => ⟨fun x => go 43 x (by decide) (by decide), fun x4 => ⟨fun x => go 45 x (by decide) (by decide), fun x5 => ⟨fun x => go 42 x (by decide) (by decide), fun x6 => ⟨fun x => go 60 x (by decide) (by decide), fun x7 => ⟨fun x => go 61 x (by decide) (by decide), fun x8 => ?_⟩⟩⟩⟩⟩⟩⟩⟩
  have hs : sgX (A 53 p) = -27 := by
    unfold sgX
    rw [if_neg x1, if_neg x2, if_neg x3, if_neg x4, if_neg x5, if_neg x6, if_neg x7, if_neg x8]
  rw [hs] at K
  refine sX5_next_403 _ _ (K _ (((cS.au (by omega) (by omega) _).au (by omega) (by omega) _).to ?_ ?_ ?_ (fun w => absurd w (by decide))))
  · rw [au_k, au_j (by decide), c20, nI_1]
  · rw [au_j (by decide), au_j (by decide)]; exact c21
  · rw [au_j (by decide), au_k]; decide
/-- next: from behind what was read on to the token that follows -/
theorem qX5_next (hG : aGS G) (hz : z ≤ 160) (hA : A 48 8 = nI z) {q : Nat} (hq : q ≤ z) (h20 : A 48 20 = nI q) (hw : ∀ i, i < 96 → A 62 i = mWd.getD i 0) :
    ∃ B, nxM A B (skipN (A 53) z q) (tkEnd (A 53) z (skipN (A 53) z q)) (mtk (tkCode (A 53) z (skipN (A 53) z q))) (mvl (tkCode (A 53) z (skipN (A 53) z q))) ∧ CX5_next [.ref 48] (A, R, G) none (B, R, G) := by
  refine aC_exA vX5_next (Nat.le_of_ble_eq_true rfl) fun E hE => ?_
  exact lX5_sk hG hz hA (fun B hS hB => nx_end hG hz hA (skip_le hq).2 hw (fun D hD => hE D hD) hS hB) (z - q) q A (by omega) rfl nxS.rfl' h20
end NX
