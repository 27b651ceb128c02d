section MI
variable {A A' A1 A2 B B0 C D : Nat → Nat → Int32} {R R' R1 R2 : Nat → Nat → Option Nat} {G : Nat → Nat × Nat} {n n' t T w t' : Nat} {W : Nat → Nat → List Nat} {Λ : aLm} {v u vx vm : aV}
/-- n numbers from place a come to place b of the model's cells -/
def cpM (a b m : Nat) (A B : Nat → Nat → Int32) : Prop := (∀ o, ¬ o = 60 → B o = A o) ∧ ∀ j, B 60 j = if b ≤ j ∧ j < b + m then A 60 (a + (j - b)) else A 60 j
theorem lX5_cpU {E : aR} (hG : aGS G) {a b m : Nat} (hm : m ≤ 40) (hab : b ≤ a) (ha : a + m ≤ 160) (hb : b + m ≤ 160) (hE : ∀ B, cpM a b m A B → E (some (.int (nI m))) (B, R, G)) :
    ∀ (i k : Nat) (B : Nat → Nat → Int32) (d1 d2 d3 d4 d9 : Option Value), k + i = m → cpM a b k A B → aw tX5_copy E 147 [some (.ref 48), d1, d2, d3, d4, some (.int (nI m)), some (.int (nI a)), some (.int (nI b)), some (.int (nI k)), d9] [] (B, R, G)
  | 0, k, B, d1, d2, d3, d4, d9, hk, h => by
    have hk2 : k = m := by omega
    subst hk2
    exact sX5_copy_147 hG _ _ _ _ _ _ _ _ _ (br_t (nI_le (by omega) (by omega)) (hE B h))
  | i + 1, k, B, d1, d2, d3, d4, d9, hk, h => by
    refine sX5_copy_147 hG _ _ _ _ _ _ _ _ _ (br_f (nI_ge (by omega) (by omega)) (br_t (nI_le hab (by omega)) ?_))
    simp (disch := omega) only [nI_add, nI_clamp, nI_1]
    refine ⟨vp_in_nI (by omega) (by omega), vp_in_nI (by omega) (by omega), lX5_cpU hG hm hab ha hb hE i (k + 1) _ _ _ _ _ _ (by omega) ⟨fun o ho => (au_o ho).trans (h.1 o ho), fun j => ?_⟩⟩
    rw [au_eq]
    by_cases e : j = b + k
    · subst e
      rw [if_pos ⟨rfl, rfl⟩, h.2, if_neg (by omega), if_pos (by omega), show b + k - b = k by omega]
    · rw [if_neg (fun q => e q.2), h.2]
      by_cases e2 : b ≤ j ∧ j < b + k
      · rw [if_pos e2, if_pos (by omega)]
      · rw [if_neg e2, if_neg (by omega)]
/-- the last k of them have come -/
def cpD (a b m k : Nat) (A B : Nat → Nat → Int32) : Prop := (∀ o, ¬ o = 60 → B o = A o) ∧ ∀ j, B 60 j = if b + m ≤ j + k ∧ j < b + m then A 60 (a + (j - b)) else A 60 j
theorem lX5_cpD {E : aR} (hG : aGS G) {a b m : Nat} (hm : m ≤ 40) (hab : a < b) (ha : a + m ≤ 160) (hb : b + m ≤ 160) (hE : ∀ B, cpM a b m A B → E (some (.int (nI m))) (B, R, G)) :
    ∀ (i k : Nat) (B : Nat → Nat → Int32) (d1 d2 d3 d4 d9 : Option Value), k + i = m → cpD a b m k A B → aw tX5_copy E 147 [some (.ref 48), d1, d2, d3, d4, some (.int (nI m)), some (.int (nI a)), some (.int (nI b)), some (.int (nI k)), d9] [] (B, R, G)
  | 0, k, B, d1, d2, d3, d4, d9, hk, h => by
    have hk2 : k = m := by omega
    subst hk2
    refine sX5_copy_147 hG _ _ _ _ _ _ _ _ _ (br_t (nI_le (by omega) (by omega)) (hE B ⟨h.1, fun j => ?_⟩))
    rw [h.2]
    by_cases e2 : b ≤ j ∧ j < b + k
    · rw [if_pos e2, if_pos (by omega)]
    · rw [if_neg e2, if_neg (by omega)]
  | i + 1, k, B, d1, d2, d3, d4, d9, hk, h => by
    have e1 : nI m - 1 - nI k = nI (m - 1 - k) := by
      rw [show nI m - 1 = nI (m - 1) from pk_sub (a := m) (b := 1) (by omega)]
      exact pk_sub (a := m - 1) (b := k) (by omega)
    refine sX5_copy_147 hG _ _ _ _ _ _ _ _ _ (br_f (nI_ge (by omega) (by omega)) (br_f (nI_ge hab (by omega)) ?_))
    simp (disch := omega) only [e1, nI_add, nI_clamp, nI_1]
    refine ⟨vp_in_nI (by omega) (by omega), vp_in_nI (by omega) (by omega), lX5_cpD hG hm hab ha hb hE i (k + 1) _ _ _ _ _ _ (by omega) ⟨fun o ho => (au_o ho).trans (h.1 o ho), fun j => ?_⟩⟩
    rw [au_eq]
    by_cases e : j = b + (m - 1 - k)
    · subst e
      rw [if_pos ⟨rfl, rfl⟩, h.2, if_neg (by omega), if_pos (by omega), show b + (m - 1 - k) - b = m - 1 - k by omega]
    · rw [if_neg (fun q => e q.2), h.2]
      by_cases e2 : b + m ≤ j + k ∧ j < b + m
      · rw [if_pos e2, if_pos (by omega)]
      · rw [if_neg e2, if_neg (by omega)]
theorem hd_iff {z : Nat} (hz : z ≤ 40) {f m : Int32} : hdX (nI z) f m ↔ ∃ i k, f = nI i ∧ m = nI k ∧ i + k ≤ z := by
  unfold hdX
  constructor
  · rintro ⟨h1, h2, h3, h4⟩
    obtain ⟨k, hk, rfl⟩ := rngI z (by omega) ⟨h2, h3⟩
    rw [show nI z - nI k = nI (z - k) from pk_sub hk] at h4
    obtain ⟨i, hi, rfl⟩ := rngI (z - k) (by omega) ⟨h1, h4⟩
    exact ⟨i, k, rfl, rfl, by omega⟩
  · rintro ⟨i, k, rfl, rfl, h⟩
    refine ⟨nI_nn (by omega), nI_nn (by omega), nI_le (by omega) (by omega), ?_⟩
    rw [show nI z - nI k = nI (z - k) from pk_sub (by omega)]
    exact nI_le (by omega) (by omega)
theorem c_copy (hJ : sJ n t T W A R G) (x1 x2 x3 x4 x5 : Int32) : bthI T W CX4_copy CX5_copy [.int x1, .int x2, .int x3, .int x4, .int x5] A R G := by
  have hG := hJ.gs
  by_cases h1 : 0 ≤ x1 ∧ x1 ≤ 3
  case neg => exact qry0 hJ _ (aC_of (Nat.le_of_ble_eq_true rfl) fun E hE => sX4_copy_0 hG _ _ _ _ _ (br_f h1 hE)) (aC_of (Nat.le_of_ble_eq_true rfl) fun E hE => sX5_copy_0 hG _ _ _ _ _ (br_f h1 hE))
  by_cases h3 : 0 ≤ x3 ∧ x3 ≤ 3
  case neg => exact qry0 hJ _ (aC_of (Nat.le_of_ble_eq_true rfl) fun E hE => sX4_copy_0 hG _ _ _ _ _ (br_t h1 (br_f h3 hE))) (aC_of (Nat.le_of_ble_eq_true rfl) fun E hE => sX5_copy_0 hG _ _ _ _ _ (br_t h1 (br_f h3 hE)))
  obtain ⟨s, hs, rfl⟩ := rngI 3 (by omega) h1
  obtain ⟨o, ho, rfl⟩ := rngI 3 (by omega) h3
  have hgs := gsS hG (s := s) (by omega)
  have hgo := gsS hG (s := o) (by omega)
  have hcs : (nI s).toNatClampNeg = s := nI_clamp (by omega)
  have hco : (nI o).toNatClampNeg = o := nI_clamp (by omega)
  have hxs : vp_in (nI s) 4 := vp_in_nI (by omega) (by omega)
  have hxo : vp_in (nI o) 4 := vp_in_nI (by omega) (by omega)
  obtain ⟨p1, p2, ⟨z, p3, p4, p5⟩, p6⟩ := hJ.sh s (by omega)
  obtain ⟨r1, r2, ⟨y, r3, r4, r5⟩, r6⟩ := hJ.sh o (by omega)
  have nx : ∀ {E : aR}, ((A 58 s = -1 → E (some (.int (-11))) (A, R, G)) ∧ (¬ A 58 s = -1 → ((A 58 o = -1 → E (some (.int (-11))) (A, R, G)) ∧ (¬ A 58 o = -1 → ((A 58 s = A 58 o → ((hdX (nI z) x2 x5 → ((hdX (nI y) x4 x5 → ((¬ x2 < 0) ∧ (¬ x4 < 0) ∧ (¬ x5 < 0) ∧ (x2.toNatClampNeg + x5.toNatClampNeg ≤ 40) ∧ (x4.toNatClampNeg + x5.toNatClampNeg ≤ 40) ∧ E (some (.int x5)) (ap A (40 + 2 * o + 1) (va_cpy (A (40 + 2 * s + 1)) (A (40 + 2 * o + 1)) x2.toNatClampNeg x4.toNatClampNeg x5.toNatClampNeg), R, G))) ∧ (¬ hdX (nI y) x4 x5 → E (some (.int (-12))) (A, R, G)))) ∧ (¬ hdX (nI z) x2 x5 → E (some (.int (-12))) (A, R, G)))) ∧ (¬ A 58 s = A 58 o → E (some (.int (-13))) (A, R, G))))))) → aw tX4_copy E 0 [some (.ref 0), some (.int (nI s)), some (.int x2), some (.int (nI o)), some (.int x4), some (.int x5), none, none] [] (A, R, G) := by
    intro E h
    refine sX4_copy_0 hG _ _ _ _ _ (br_t h1 (br_t h3 ⟨hxs, 40 + 2 * s, by rw [hcs]; exact p1, hxo, 40 + 2 * o, by rw [hco]; exact r1, hgs, gs0 hgs, ?_⟩))
    rw [p2, r2, p4, r4]
    refine ⟨h.1, fun q => ⟨hgo, gs0 hgo, (h.2 q).1, fun q2 => ⟨fun q3 => ⟨fun q4 => ⟨fun q5 => ?_, (((h.2 q).2 q2).1 q3).1 q4 |>.2⟩, (((h.2 q).2 q2).1 q3).2⟩, ((h.2 q).2 q2).2⟩⟩⟩
    obtain ⟨u1, u2, u3, u4, u5, u6⟩ := ((((h.2 q).2 q2).1 q3).1 q4).1 q5
    exact ⟨gs1 hgs, gs1 hgo, u1, u2, u3, by rw [gsl1 hgs]; exact u4, by rw [gsl1 hgo]; exact u5, sX4_copy_116 _ _ _ _ _ _ _ u6⟩
  have nm : ∀ {E : aR} {B : Nat → Nat → Int32}, B 58 = A 58 → B 59 = A 59 → ((A 58 s = -1 → E (some (.int (-11))) (B, R, G)) ∧ (¬ A 58 s = -1 → ((A 58 o = -1 → E (some (.int (-11))) (B, R, G)) ∧ (¬ A 58 o = -1 → ((A 58 s = A 58 o → ((hdX (nI z) x2 x5 ∧ hdX (nI y) x4 x5 → aw tX5_copy E 147 [some (.ref 48), some (.int (nI s)), some (.int x2), some (.int (nI o)), some (.int x4), some (.int x5), some (.int (40 * nI s + x2)), some (.int (40 * nI o + x4)), some (.int 0), none] [] (B, R, G)) ∧ (¬ (hdX (nI z) x2 x5 ∧ hdX (nI y) x4 x5) → E (some (.int (-12))) (B, R, G)))) ∧ (¬ A 58 s = A 58 o → E (some (.int (-13))) (B, R, G))))))) → aw tX5_copy E 0 [some (.ref 48), some (.int (nI s)), some (.int x2), some (.int (nI o)), some (.int x4), some (.int x5), none, none, none, none] [] (B, R, G) := by
    intro E B h58 h59 h
    refine sX5_copy_0 hG _ _ _ _ _ (br_t h1 (br_t h3 ⟨hxs, ?_⟩))
    rw [hcs, hco, h58, h59, p5, r5]
    refine ⟨h.1, fun q => ⟨hxo, (h.2 q).1, fun q2 => ⟨fun q3 => ?_, ((h.2 q).2 q2).2⟩⟩⟩
    obtain ⟨h4, h5⟩ := ((h.2 q).2 q2).1 q3
    refine ⟨fun a => h5 (fun k => absurd a (Int32.not_lt.mpr k.1.2.1)), fun a => ⟨fun b => h5 (fun k => absurd b (Int32.not_lt.mpr k.1.1)), fun b => ⟨fun c => h5 (fun k => absurd c (Int32.not_lt.mpr k.2.1)), fun c => ?_⟩⟩⟩
    obtain ⟨k, hk, rfl⟩ := nI_of a
    obtain ⟨i, hi, rfl⟩ := nI_of b
    obtain ⟨j, hj, rfl⟩ := nI_of c
    have hA : hdX (nI z) (nI i) (nI k) → i + k ≤ z := fun h => by
      obtain ⟨i', k', e1, e2, h6⟩ := (hd_iff p3).mp h
      have e3 := (nI_eq hi (by omega)).mp e1
      have e4 := (nI_eq hk (by omega)).mp e2
      omega
    have hB : hdX (nI y) (nI j) (nI k) → j + k ≤ y := fun h => by
      obtain ⟨i', k', e1, e2, h6⟩ := (hd_iff r3).mp h
      have e3 := (nI_eq hj (by omega)).mp e1
      have e4 := (nI_eq hk (by omega)).mp e2
      omega
    refine ⟨fun d => h5 (fun w => ?_), fun d => ⟨fun e => h5 (fun w => ?_), fun e => ?_⟩⟩
    · have := hA w.1
      have := (nI_ltI (by omega) hi).mp d
      omega
    · have := hB w.2
      have := (nI_ltI (by omega) hj).mp e
      omega
    have d2 : i ≤ z := Nat.le_of_not_lt fun w => d (nI_lt w hi)
    have e2 : j ≤ y := Nat.le_of_not_lt fun w => e (nI_lt w hj)
    rw [show nI z - nI i = nI (z - i) from pk_sub d2, show nI y - nI j = nI (y - j) from pk_sub e2]
    refine ⟨fun f => h5 (fun w => ?_), fun f => ⟨fun g => h4 ⟨(hd_iff p3).mpr ⟨i, k, rfl, rfl, ?_⟩, (hd_iff r3).mpr ⟨j, k, rfl, rfl, ?_⟩⟩, fun g => h5 (fun w => g ?_)⟩⟩
    · have := hA w.1
      have := (nI_ltI (by omega) hk).mp f
      omega
    · have : ¬ z - i < k := fun w => f (nI_lt w hk)
      omega
    · have := (nI_leI hk (by omega)).mp g
      omega
    · have := hB w.2
      exact nI_le (by omega) (by omega)
  by_cases q0 : A 58 s = -1
  · exact qry0 hJ _ (aC_of (Nat.le_of_ble_eq_true rfl) fun E hE => nx (br_t q0 hE)) (aC_of (Nat.le_of_ble_eq_true rfl) fun E hE => nm rfl rfl (br_t q0 hE))
  by_cases q1 : A 58 o = -1
  · exact qry0 hJ _ (aC_of (Nat.le_of_ble_eq_true rfl) fun E hE => nx (br_f q0 (br_t q1 hE))) (aC_of (Nat.le_of_ble_eq_true rfl) fun E hE => nm rfl rfl (br_f q0 (br_t q1 hE)))
  by_cases q2 : A 58 s = A 58 o
  case neg => exact qry0 hJ _ (aC_of (Nat.le_of_ble_eq_true rfl) fun E hE => nx (br_f q0 (br_f q1 (br_f q2 hE)))) (aC_of (Nat.le_of_ble_eq_true rfl) fun E hE => nm rfl rfl (br_f q0 (br_f q1 (br_f q2 hE))))
  by_cases q3 : hdX (nI z) x2 x5 ∧ hdX (nI y) x4 x5
  case neg =>
    refine qry0 hJ (-12) (aC_of (Nat.le_of_ble_eq_true rfl) fun E hE => nx (br_f q0 (br_f q1 (br_t q2 ⟨fun w1 => ⟨fun w2 => absurd ⟨w1, w2⟩ q3, fun _ => hE⟩, fun _ => hE⟩)))) (aC_of (Nat.le_of_ble_eq_true rfl) fun E hE => nm rfl rfl (br_f q0 (br_f q1 (br_t q2 (br_f q3 hE)))))
  obtain ⟨i, m, e2, e5, him⟩ := (hd_iff p3).mp q3.1
  obtain ⟨j, m', e4, e5', hjm⟩ := (hd_iff r3).mp q3.2
  have emm : m = m' := (nI_eq (by omega) (by omega)).mp (e5.symm.trans e5')
  subst emm
  subst e2
  subst e4
  subst e5
  have hci : (nI i).toNatClampNeg = i := nI_clamp (by omega)
  have hcj : (nI j).toNatClampNeg = j := nI_clamp (by omega)
  have hcm : (nI m).toNatClampNeg = m := nI_clamp (by omega)
  have ea : (40 : Int32) * nI s + nI i = nI (40 * s + i) := by rw [show (40 : Int32) * nI s = nI (40 * s) from pk_mul 40 s, nI_add]
  have eb : (40 : Int32) * nI o + nI j = nI (40 * o + j) := by rw [show (40 : Int32) * nI o = nI (40 * o) from pk_mul 40 o, nI_add]
  obtain ⟨A1, hA1, hC1⟩ : ∃ A1, A1 = ap A (40 + 2 * o + 1) (va_cpy (A (40 + 2 * s + 1)) (A (40 + 2 * o + 1)) i j m) ∧ CX4_copy [.ref 0, .int (nI s), .int (nI i), .int (nI o), .int (nI j), .int (nI m)] (A, R, G) (some (.int (nI m))) (A1, R, G) := ⟨_, rfl, aC_of (Nat.le_of_ble_eq_true rfl) fun E hE => nx (br_f q0 (br_f q1 (br_t q2 (br_t q3.1 (br_t q3.2 ⟨nI_pos (by omega), nI_pos (by omega), nI_pos (by omega), by rw [hci, hcm]; omega, by rw [hcj, hcm]; omega, by rw [hci, hcj, hcm]; exact hE⟩)))))⟩
  have hall1 : ∀ q, ¬ q = 40 + 2 * o + 1 → A1 q = A q := fun q hq => by rw [hA1]; exact ap_ne hq
  obtain ⟨A2, ⟨k1, k2⟩, hC2⟩ : ∃ A2, cpM (40 * s + i) (40 * o + j) m A1 A2 ∧ CX5_copy [.ref 48, .int (nI s), .int (nI i), .int (nI o), .int (nI j), .int (nI m)] (A1, R, G) (some (.int (nI m))) (A2, R, G) := by
    refine aC_exA vX5_copy (Nat.le_of_ble_eq_true rfl) fun E hE => nm (hall1 58 (by omega)) (hall1 59 (by omega)) (br_f q0 (br_f q1 (br_t q2 (br_t q3 ?_))))
    rw [ea, eb]
    by_cases hab : 40 * o + j ≤ 40 * s + i
    · exact lX5_cpU hG (by omega) hab (by omega) (by omega) (fun B hB => hE B hB) m 0 A1 _ _ _ _ _ (by omega) ⟨fun _ _ => rfl, fun q => (if_neg (by omega)).symm⟩
    · exact lX5_cpD hG (by omega) (by omega) (by omega) (by omega) (fun B hB => hE B hB) m 0 A1 _ _ _ _ _ (by omega) ⟨fun _ _ => rfl, fun q => (if_neg (by omega)).symm⟩
  have hall : ∀ q, ¬ q = 40 + 2 * o + 1 → ¬ q = 60 → A2 q = A q := fun q a b => by rw [k1 q b]; exact hall1 q a
  have h60 : A1 60 = A 60 := hall1 60 (by omega)
  refine fin hC1 hC2 (hJ.shF (fun q a b c d e f g => hall q (by omega) (by omega)) (fun k _ _ _ => by rw [hall 48 (by omega) (by omega)]) (eqV.of (vM_go (hall _ (by omega) (by omega)) (hall _ (by omega) (by omega)) (hall _ (by omega) (by omega)) (hall _ (by omega) (by omega)) (hall _ (by omega) (by omega))).symm) (fun q hq => ?_) scR.rf)
  obtain ⟨g1, g2, g3, g4⟩ := hJ.sh q hq
  refine ⟨g1, by rw [hall _ (by omega) (by omega), hall 58 (by omega) (by omega)]; exact g2, by rw [hall (40 + 2 * q) (by omega) (by omega), hall 59 (by omega) (by omega)]; exact g3, fun k hk => ?_⟩
  rw [k2, h60]
  by_cases e : q = o
  · subst e
    have e41 : A2 (41 + 2 * q) = va_cpy (A (40 + 2 * s + 1)) (A (40 + 2 * q + 1)) i j m := by
      rw [k1 _ (by omega), hA1, show 41 + 2 * q = 40 + 2 * q + 1 by omega, ap_at]
    rw [e41]
    unfold va_cpy
    by_cases w : j ≤ k ∧ k < j + m
    · rw [if_pos w, if_pos (by omega), show 40 * s + i + (40 * q + k - (40 * q + j)) = 40 * s + (i + (k - j)) by omega, show 40 + 2 * s + 1 = 41 + 2 * s by omega]
      exact p6 _ (by omega)
    · rw [if_neg w, if_neg (by omega), show 40 + 2 * q + 1 = 41 + 2 * q by omega]
      exact g4 k hk
  · rw [if_neg (by omega), hall _ (by omega) (by omega)]
    exact g4 k hk
end MI
