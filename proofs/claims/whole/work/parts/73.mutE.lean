noncomputable def stpJ (s : aV × Nat × Nat) (a b c : Int32) : aV × Nat × Nat := @ite _ (jdgOk s.2.1 a b c) (Classical.propDecidable _) (jdgV s.1 s.2.1 a b c, s.2.1 + 1, s.2.2 + 1) s
noncomputable def jbV (v : aV) (n : Nat) (x : Nat → Int32) (f : Nat) : Nat → aV × Nat × Nat
  | 0 => (v, n, 0)
  | k + 1 => stpJ (jbV v n x f k) (x (f + 3 * k)) (x (f + 3 * k + 1)) (x (f + 3 * k + 2))
def okB (fr : Int32) (z i : Nat) : Prop := ∃ f, f ≤ 40 ∧ fr = nI f ∧ f + 3 * i + 3 ≤ z
noncomputable def resJ (jb : Nat → aV × Nat × Nat) (fr : Int32) (z : Nat) : Nat → Nat → Int32 × (aV × Nat × Nat)
  | 0, i => (nI (jb i).2.2, jb i)
  | m + 1, i => @ite _ (okB fr z i) (Classical.propDecidable _) (resJ jb fr z m (i + 1)) (-12, jb i)
section ME
variable {A A' A1 A2 B C D : Nat → Nat → Int32} {R R' R1 : Nat → Nat → Option Nat} {G : Nat → Nat × Nat} {n n' t T w t' : Nat} {W : Nat → Nat → List Nat} {Λ : aLm} {v u vx vm : aV}
theorem ovf {f k : Nat} (hf : f < 2147483648) (hk : k ≤ 18) (h : ¬ nI f + nI k < nI f) : f + k < 2147483648 := by
  refine Classical.byContradiction fun q => h ?_
  refine Int32.lt_iff_toInt_lt.mpr ?_
  rw [Int32.toInt_add, nI_toInt hf, nI_toInt (by omega), Int.bmod_def]
  split <;> omega
theorem resJ_s {jb : Nat → aV × Nat × Nat} {fr : Int32} {z m i : Nat} : resJ jb fr z (m + 1) i = @ite _ (okB fr z i) (Classical.propDecidable _) (resJ jb fr z m (i + 1)) (-12, jb i) := by
  conv => lhs; unfold resJ
theorem jdgR_neg {x1 x2 x3 : Int32} : jdgR x1 x2 x3 < 0 := by
  unfold jdgR
  by_cases h : (0 ≤ x1 ∧ x1 ≤ 59) ∧ (0 ≤ x2 ∧ x2 ≤ 1023) ∧ (0 ≤ x3 ∧ x3 ≤ 99)
  · rw [if_pos h]; decide
  · rw [if_neg h]; decide
/-- what holds of the judges that have come -/
def jbOk (n : Nat) (v : aV) (k : Nat) (s : aV × Nat × Nat) : Prop := n ≤ s.2.1 ∧ s.2.1 ≤ 6 ∧ s.2.2 ≤ k ∧ (∀ f, f < 2 → ∀ p, p < n → s.1 f p = v f p)
theorem jb_ok (hn6 : n ≤ 6) {x : Nat → Int32} {f : Nat} : ∀ k, jbOk n v k (jbV v n x f k)
  | 0 => ⟨Nat.le_refl _, hn6, Nat.le_refl _, fun _ _ _ _ => rfl⟩
  | k + 1 => by
    obtain ⟨h1, h2, h3, h4⟩ := jb_ok hn6 (x := x) (f := f) k
    show jbOk n v (k + 1) (stpJ (jbV v n x f k) _ _ _)
    unfold stpJ
    by_cases ho : jdgOk (jbV v n x f k).2.1 (x (f + 3 * k)) (x (f + 3 * k + 1)) (x (f + 3 * k + 2))
    · rw [if_pos ho]
      have := ho.2.2.2
      exact ⟨by show n ≤ _ + 1; omega, by show _ + 1 ≤ 6; omega, by show _ + 1 ≤ k + 1; omega, fun g hg p hp => (jdg_at (by omega) (by omega)).trans (h4 g hg p hp)⟩
    · rw [if_neg ho]
      exact ⟨h1, h2, by omega, h4⟩
theorem jb_inv (hi : invD n v) {x : Nat → Int32} {f : Nat} : ∀ k, invD (jbV v n x f k).2.1 (jbV v n x f k).1
  | 0 => hi
  | k + 1 => by
    have ih := jb_inv hi (x := x) (f := f) k
    show invD (stpJ (jbV v n x f k) _ _ _).2.1 (stpJ (jbV v n x f k) _ _ _).1
    unfold stpJ
    by_cases ho : jdgOk (jbV v n x f k).2.1 (x (f + 3 * k)) (x (f + 3 * k + 1)) (x (f + 3 * k + 2))
    · rw [if_pos ho]
      exact inv_jdg ih ho
    · rw [if_neg ho]
      exact ih
theorem jb_c (h : eqV n v u) {x : Nat → Int32} {f : Nat} : ∀ k, eqV (jbV v n x f k).2.1 (jbV v n x f k).1 (jbV u n x f k).1 ∧ (jbV v n x f k).2 = (jbV u n x f k).2
  | 0 => ⟨h, rfl⟩
  | k + 1 => by
    obtain ⟨h1, h2⟩ := jb_c h (x := x) (f := f) k
    show eqV (stpJ (jbV v n x f k) _ _ _).2.1 (stpJ (jbV v n x f k) _ _ _).1 (stpJ (jbV u n x f k) _ _ _).1 ∧ (stpJ (jbV v n x f k) _ _ _).2 = (stpJ (jbV u n x f k) _ _ _).2
    unfold stpJ
    by_cases ho : jdgOk (jbV v n x f k).2.1 (x (f + 3 * k)) (x (f + 3 * k + 1)) (x (f + 3 * k + 2))
    · have ho2 := ho
      rw [h2] at ho2
      rw [if_pos ho, if_pos ho2, ← h2]
      exact ⟨eq_jdg h1, rfl⟩
    · have ho2 := ho
      rw [h2] at ho2
      rw [if_neg ho, if_neg ho2]
      exact ⟨h1, h2⟩
theorem jbV_s {x : Nat → Int32} {f k : Nat} : jbV v n x f (k + 1) = stpJ (jbV v n x f k) (x (f + 3 * k)) (x (f + 3 * k + 1)) (x (f + 3 * k + 2)) := rfl
theorem lX4_jby {E : aR} (hJ : sJ n t T W A R G) {s z m F : Nat} {fr : Int32} (hs : s < 4) (hz : A (40 + 2 * s) 2 = nI z) (hz40 : z ≤ 40) (hm : m ≤ 6) (hF : ∀ f, f ≤ 40 → fr = nI f → F = f) (r : Int32 × (aV × Nat × Nat)) (hE : ∀ B, jJX A B → vX B 1 = r.2.1 → B 1 9 = nI r.2.2.1 → E (some (.int r.1)) (B, R, G)) :
    ∀ (i k : Nat) (B : Nat → Nat → Int32) (d1 d2 d8 : Option Value), k + i = m → jJX A B → vX B 1 = (jbV (vX A 1) n (A (41 + 2 * s)) F k).1 → B 1 9 = nI (jbV (vX A 1) n (A (41 + 2 * s)) F k).2.1 → resJ (jbV (vX A 1) n (A (41 + 2 * s)) F) fr z i k = r → aw tX4_judgesBy E 69 [some (.ref 0), d1, d2, some (.int fr), some (.int (nI m)), some (.ref (40 + 2 * s)), some (.int (nI (jbV (vX A 1) n (A (41 + 2 * s)) F k).2.2)), some (.int (nI k)), d8] [] (B, R, G)
  | 0, k, B, d1, d2, d8, hk, hj, hv, h9, hr => by
    have hk2 : k = m := by omega
    subst hk2
    have h := hE B hj
    have hr2 : (nI (jbV (vX A 1) n (A (41 + 2 * s)) F k).2.2, jbV (vX A 1) n (A (41 + 2 * s)) F k) = r := hr
    rw [← hr2] at h
    exact sX4_judgesBy_69 hJ.gs _ _ _ _ _ _ _ _ (br_t (nI_le (by omega) (by omega)) (h hv h9))
  | i + 1, k, B, d1, d2, d8, hk, hj, hv, h9, hr => by
    have hG := hJ.gs
    have hn6 := hJ.n6
    have hs1 : B (40 + 2 * s) = A (40 + 2 * s) := hj.1 _ (by omega)
    have hs2 : B (40 + 2 * s + 1) = A (41 + 2 * s) := by rw [show 40 + 2 * s + 1 = 41 + 2 * s by omega]; exact hj.1 _ (by omega)
    have hg : aGs G (40 + 2 * s) := by
      unfold aGs
      rw [hG _ (by omega), hG _ (by omega)]
      exact (by decide : ∀ s, s < 4 → gtb (40 + 2 * s) = (6, 0) ∧ gtb (40 + 2 * s + 1) = (1, 40)) s (by omega)
    obtain ⟨q1, q2, q3, q4⟩ := jb_ok (v := vX A 1) hn6 (x := A (41 + 2 * s)) (f := F) k
    rw [resJ_s] at hr
    refine sX4_judgesBy_69 hG _ _ _ _ _ _ _ _ (br_f (nI_ge (by omega) (by omega)) ⟨gs0 hg, ?_⟩)
    rw [hs1, hz]
    have hno : ¬ okB fr z k → E (some (.int (-12))) (B, R, G) := fun h => by
      rw [if_neg h] at hr
      have h2 := hE B hj
      rw [← hr] at h2
      exact h2 hv h9
    by_cases c1 : 0 ≤ fr ∧ fr ≤ nI z
    case neg =>
      refine br_f c1 (hno ?_)
      rintro ⟨f, hf0, rfl, hf⟩
      exact c1 ⟨nI_nn (by omega), nI_le (by omega) (by omega)⟩
    obtain ⟨f, hf, rfl⟩ := rngI z (by omega) c1
    have hFf := hF f (by omega) rfl
    subst hFf
    refine br_t c1 ⟨hg, ?_⟩
    simp (disch := omega) only [nI_mul3, nI_add, nI_clamp, nI_1, nI_2]
    by_cases hb : F + 3 * k + 3 ≤ z
    · have hd : hdX (nI z) (nI (F + 3 * k)) 3 := ⟨nI_nn (by omega), by decide, nI_le (a := 3) (b := z) (by omega) (by omega), by
        rw [show nI z - 3 = nI (z - 3) from pk_sub (a := z) (b := 3) (by omega)]
        exact nI_le (by omega) (by omega)⟩
      rw [if_pos (show okB (nI F) z k from ⟨F, by omega, rfl, hb⟩)] at hr
      refine br_t hd ⟨gs1 hg, ?_⟩
      rw [gsl1 hg, hs2]
      refine ⟨vp_in_nI (by omega) (by omega), vp_in_nI (by omega) (by omega), vp_in_nI (by omega) (by omega), ?_⟩
      have ih := fun B d1 d2 d8 h1 => lX4_jby hJ hs hz hz40 hm hF r hE i (k + 1) B d1 d2 d8 (by omega) h1
      rw [jbV_s] at ih
      unfold stpJ at ih
      by_cases ho : jdgOk (jbV (vX A 1) n (A (41 + 2 * s)) F k).2.1 (A (41 + 2 * s) (F + 3 * k)) (A (41 + 2 * s) (F + 3 * k + 1)) (A (41 + 2 * s) (F + 3 * k + 2))
      · rw [if_pos ho] at ih
        obtain ⟨B1, ⟨h1, hv1, h91⟩, hC⟩ := qX4_judge (R := R) hG h9 q2 ho
        rw [hv] at hv1
        refine ⟨_, _, hC, sX4_judgesBy_147 _ _ _ _ _ _ _ _ _ (br_f (nI_pos (by omega)) ?_)⟩
        rw [nI_1, nI_1]
        exact ih B1 _ _ _ (hj.tr h1) hv1 h91 hr
      · rw [if_neg ho] at ih
        refine ⟨_, _, qX4_judgeN hG h9 q2 ho, sX4_judgesBy_147 _ _ _ _ _ _ _ _ _ (br_t jdgR_neg ?_)⟩
        rw [nI_1]
        exact ih B _ _ _ hj hv h9 hr
    · have hd : ¬ hdX (nI z) (nI (F + 3 * k)) 3 := by
        rintro ⟨_, _, h3, h4⟩
        have h3z : 3 ≤ z := (nI_leI (a := 3) (b := z) (by omega) (by omega)).mp h3
        rw [show nI z - 3 = nI (z - 3) from pk_sub (a := z) (b := 3) (by omega)] at h4
        have := (nI_leI (by omega) (by omega)).mp h4
        omega
      refine br_f hd (hno ?_)
      rintro ⟨f, hf0, he, hf⟩
      have := (nI_eq (a := F) (b := f) (by omega) (by omega)).mp he
      omega
theorem lX5_jby {E : aR} (hG : aGS G) (hn6 : n ≤ 6) {s z m F : Nat} {x : Nat → Int32} (hxc : ∀ j, j < 40 → A 60 (40 * s + j) = x j) {fr : Int32} (hs : s < 4) (hz : A 59 s = nI z) (hz40 : z ≤ 40) (hm : m ≤ 6) (hF : ∀ f, f ≤ 40 → fr = nI f → F = f) (r : Int32 × (aV × Nat × Nat)) (hE : ∀ B, jJM A B → vM B = r.2.1 → B 48 0 = nI r.2.2.1 → E (some (.int r.1)) (B, R, G)) :
    ∀ (i k : Nat) (B : Nat → Nat → Int32) (d2 d7 d8 : Option Value), k + i = m → jJM A B → vM B = (jbV (vM A) n x F k).1 → B 48 0 = nI (jbV (vM A) n x F k).2.1 → resJ (jbV (vM A) n x F) fr z i k = r → aw tX5_judgesBy E 64 [some (.ref 48), some (.int (nI s)), d2, some (.int fr), some (.int (nI m)), some (.int (nI (jbV (vM A) n x F k).2.2)), some (.int (nI k)), d7, d8] [] (B, R, G)
  | 0, k, B, d2, d7, d8, hk, hj, hv, h9, hr => by
    have hk2 : k = m := by omega
    subst hk2
    have h := hE B hj
    have hr2 : (nI (jbV (vM A) n x F k).2.2, jbV (vM A) n x F k) = r := hr
    rw [← hr2] at h
    exact sX5_judgesBy_64 hG _ _ _ _ _ _ _ _ (br_t (nI_le (by omega) (by omega)) (h hv h9))
  | i + 1, k, B, d2, d7, d8, hk, hj, hv, h9, hr => by
    have h60 : B 60 = A 60 := hj.1 _ (by omega)
    have h59 : B 59 = A 59 := hj.1 _ (by omega)
    obtain ⟨q1, q2, q3, q4⟩ := jb_ok (v := vM A) hn6 (x := x) (f := F) k
    rw [resJ_s] at hr
    have hno : ¬ okB fr z k → E (some (.int (-12))) (B, R, G) := fun h => by
      rw [if_neg h] at hr
      have h2 := hE B hj
      rw [← hr] at h2
      exact h2 hv h9
    refine sX5_judgesBy_64 hG _ _ _ _ _ _ _ _ (br_f (nI_ge (by omega) (by omega)) ?_)
    simp (disch := omega) only [nI_mul3, h59, h60, nI_clamp, hz]
    by_cases c0 : fr < 0
    case pos =>
      refine br_t c0 (hno ?_)
      rintro ⟨f, hf0, rfl, hf⟩
      exact nI_pos (by omega) c0
    obtain ⟨f, hf, rfl⟩ := nI_of c0
    refine br_f c0 ?_
    by_cases c1 : nI f + nI (3 * k) < nI f
    case pos =>
      refine br_t c1 (hno ?_)
      rintro ⟨g, hg0, he, hg⟩
      have := (nI_eq (a := f) (b := g) (by omega) (by omega)).mp he
      rw [nI_add] at c1
      exact absurd ((nI_ltI (by omega) (by omega)).mp c1) (by omega)
    have hov := ovf hf (by omega) c1
    refine br_f c1 ⟨vp_in_nI (by omega) (by omega), ?_⟩
    rw [nI_add]
    by_cases hb : f + 3 * k + 3 ≤ z
    · have hFf := hF f (by omega) rfl
      subst hFf
      rw [if_pos (show okB (nI F) z k from ⟨F, by omega, rfl, hb⟩)] at hr
      refine br_t ?_ ?_
      · rw [show nI z - 3 = nI (z - 3) from pk_sub (a := z) (b := 3) (by omega)]
        exact nI_le (by omega) (by omega)
      have e40 : (40 : Int32) * nI s = nI (40 * s) := pk_mul 40 s
      simp (disch := omega) only [e40, nI_add, nI_clamp, nI_1, nI_2]
      refine ⟨vp_in_nI (by omega) (by omega), vp_in_nI (by omega) (by omega), vp_in_nI (by omega) (by omega), ?_⟩
      rw [show 40 * s + (F + 3 * k) + 1 = 40 * s + (F + 3 * k + 1) by omega, show 40 * s + (F + 3 * k) + 2 = 40 * s + (F + 3 * k + 2) by omega, hxc _ (by omega), hxc _ (by omega), hxc _ (by omega)]
      have ih := fun B d2 d7 d8 h1 => lX5_jby hG hn6 hxc hs hz hz40 hm hF r hE i (k + 1) B d2 d7 d8 (by omega) h1
      rw [jbV_s] at ih
      unfold stpJ at ih
      by_cases ho : jdgOk (jbV (vM A) n x F k).2.1 (x (F + 3 * k)) (x (F + 3 * k + 1)) (x (F + 3 * k + 2))
      · rw [if_pos (show jdgOk (jbV (vM A) n x F k).2.1 (x (F + 3 * k)) (x (F + 3 * k + 1)) (x (F + 3 * k + 2)) from ho)] at ih
        obtain ⟨B1, ⟨h1, hv1, h91⟩, hC⟩ := qX5_judge (R := R) hG h9 q2 ho
        rw [hv] at hv1
        refine ⟨_, _, hC, sX5_judgesBy_145 _ _ _ _ _ _ _ _ _ _ (br_f (nI_pos (by omega)) ?_)⟩
        rw [nI_1, nI_1]
        exact ih B1 _ _ _ (hj.tr h1) hv1 h91 hr
      · rw [if_neg (show ¬ jdgOk (jbV (vM A) n x F k).2.1 (x (F + 3 * k)) (x (F + 3 * k + 1)) (x (F + 3 * k + 2)) from ho)] at ih
        refine ⟨_, _, qX5_judgeN hG h9 q2 ho, sX5_judgesBy_145 _ _ _ _ _ _ _ _ _ _ (br_t jdgR_neg ?_)⟩
        rw [nI_1, Int32.add_zero]
        exact ih B _ _ _ hj hv h9 hr
    · refine br_f (fun h4 => ?_) (hno ?_)
      · have h5 := Int32.le_iff_toInt_le.mp h4
        rw [nI_toInt (by omega), Int32.toInt_sub, nI_toInt (by omega), show (3 : Int32).toInt = 3 from rfl, Int.bmod_eq_of_le (by omega) (by omega)] at h5
        omega
      · rintro ⟨g, hg0, he, hg⟩
        have := (nI_eq (a := f) (b := g) (by omega) (by omega)).mp he
        omega
theorem resJ_c {ja jb : Nat → aV × Nat × Nat} {fr : Int32} {z : Nat} (h : ∀ k, eqV (ja k).2.1 (ja k).1 (jb k).1 ∧ (ja k).2 = (jb k).2) : ∀ m i, (resJ ja fr z m i).1 = (resJ jb fr z m i).1 ∧ ∃ k, i ≤ k ∧ k ≤ i + m ∧ (resJ ja fr z m i).2 = ja k ∧ (resJ jb fr z m i).2 = jb k
  | 0, i => ⟨by show nI (ja i).2.2 = nI (jb i).2.2; rw [(h i).2], i, by omega, by omega, rfl, rfl⟩
  | m + 1, i => by
    rw [resJ_s, resJ_s]
    by_cases hb : okB fr z i
    · rw [if_pos hb, if_pos hb]
      obtain ⟨h1, k, h2, h3, h4, h5⟩ := resJ_c h m (i + 1)
      exact ⟨h1, k, by omega, by omega, h4, h5⟩
    · rw [if_neg hb, if_neg hb]
      exact ⟨rfl, i, by omega, by omega, rfl, rfl⟩
theorem c_judgesBy (hJ : sJ n t T W A R G) (x1 x2 x3 x4 : Int32) : bthI T W CX4_judgesBy CX5_judgesBy [.int x1, .int x2, .int x3, .int x4] A R G := by
  have hG := hJ.gs
  have hn6 := hJ.n6
  by_cases h1 : 0 ≤ x1 ∧ x1 ≤ 3
  case neg => exact qry0 hJ _ (aC_of (Nat.le_of_ble_eq_true rfl) fun E hE => sX4_judgesBy_0 hG _ _ _ _ (br_f h1 hE)) (aC_of (Nat.le_of_ble_eq_true rfl) fun E hE => sX5_judgesBy_0 hG _ _ _ _ (br_f h1 hE))
  by_cases h2 : 0 ≤ x2 ∧ x2 ≤ 2
  case neg => exact qry0 hJ _ (aC_of (Nat.le_of_ble_eq_true rfl) fun E hE => sX4_judgesBy_0 hG _ _ _ _ (br_t h1 (br_f h2 hE))) (aC_of (Nat.le_of_ble_eq_true rfl) fun E hE => sX5_judgesBy_0 hG _ _ _ _ (br_t h1 (br_f h2 hE)))
  by_cases h4 : 0 ≤ x4 ∧ x4 ≤ 6
  case neg => exact qry0 hJ _ (aC_of (Nat.le_of_ble_eq_true rfl) fun E hE => sX4_judgesBy_0 hG _ _ _ _ (br_t h1 (br_t h2 (br_f h4 hE)))) (aC_of (Nat.le_of_ble_eq_true rfl) fun E hE => sX5_judgesBy_0 hG _ _ _ _ (br_t h1 (br_t h2 (br_f h4 hE))))
  obtain ⟨s, hs, rfl⟩ := rngI 3 (by omega) h1
  obtain ⟨m, hm, rfl⟩ := rngI 6 (by omega) h4
  obtain ⟨e1, e2, ⟨z, hz40, hz1, hz2⟩, e3⟩ := hJ.2.2.2.2.2.2.1 s (by omega)
  have hg : aGs G (40 + 2 * s) := by
    unfold aGs
    rw [hG _ (by omega), hG _ (by omega)]
    exact (by decide : ∀ s, s < 4 → gtb (40 + 2 * s) = (6, 0) ∧ gtb (40 + 2 * s + 1) = (1, 40)) s (by omega)
  have hcl : (nI s).toNatClampNeg = s := nI_clamp (by omega)
  have hx : vp_in (nI s) 4 := vp_in_nI (by omega) (by omega)
  have nx : ∀ {E : aR}, ((A 58 s = -1 → E (some (.int (-11))) (A, R, G)) ∧ (¬ A 58 s = -1 → ((A 58 s = x2 → aw tX4_judgesBy E 69 [some (.ref 0), some (.int (nI s)), some (.int x2), some (.int x3), some (.int (nI m)), some (.ref (40 + 2 * s)), some (.int 0), some (.int 0), none] [] (A, R, G)) ∧ (¬ A 58 s = x2 → E (some (.int (-13))) (A, R, G))))) → aw tX4_judgesBy E 0 [some (.ref 0), some (.int (nI s)), some (.int x2), some (.int x3), some (.int (nI m)), none, none, none, none] [] (A, R, G) := by
    intro E h
    refine sX4_judgesBy_0 hG _ _ _ _ (br_t h1 (br_t h2 (br_t h4 ⟨hx, 40 + 2 * s, by rw [hcl]; exact e1, hg, gs0 hg, ?_⟩)))
    rw [e2]
    exact h
  have nm : ∀ {E : aR} {B : Nat → Nat → Int32}, B 58 = A 58 → ((A 58 s = -1 → E (some (.int (-11))) (B, R, G)) ∧ (¬ A 58 s = -1 → ((A 58 s = x2 → aw tX5_judgesBy E 64 [some (.ref 48), some (.int (nI s)), some (.int x2), some (.int x3), some (.int (nI m)), some (.int 0), some (.int 0), none, none] [] (B, R, G)) ∧ (¬ A 58 s = x2 → E (some (.int (-13))) (B, R, G))))) → aw tX5_judgesBy E 0 [some (.ref 48), some (.int (nI s)), some (.int x2), some (.int x3), some (.int (nI m)), none, none, none, none] [] (B, R, G) := by
    intro E B hB h
    refine sX5_judgesBy_0 hG _ _ _ _ (br_t h1 (br_t h2 (br_t h4 ⟨hx, ?_⟩)))
    rw [hcl, hB]
    exact h
  by_cases q0 : A 58 s = -1
  · exact qry0 hJ _ (aC_of (Nat.le_of_ble_eq_true rfl) fun E hE => nx (br_t q0 hE)) (aC_of (Nat.le_of_ble_eq_true rfl) fun E hE => nm rfl (br_t q0 hE))
  by_cases q1 : A 58 s = x2
  case neg => exact qry0 hJ _ (aC_of (Nat.le_of_ble_eq_true rfl) fun E hE => nx (br_f q0 (br_f q1 hE))) (aC_of (Nat.le_of_ble_eq_true rfl) fun E hE => nm rfl (br_f q0 (br_f q1 hE)))
  have hF : ∀ f, f ≤ 40 → x3 = nI f → x3.toNatClampNeg = f := fun f hf he => by rw [he]; exact nI_clamp (by omega)
  have hjc := fun k => jb_c (x := A (41 + 2 * s)) (f := x3.toNatClampNeg) hJ.vv k
  obtain ⟨g1, k, g2, g3, g4, g5⟩ := resJ_c (fr := x3) (z := z) hjc m 0
  obtain ⟨A1, ⟨hj1, hv1, h91⟩, hC1⟩ : ∃ A1, (jJX A A1 ∧ vX A1 1 = (jbV (vX A 1) n (A (41 + 2 * s)) x3.toNatClampNeg k).1 ∧ A1 1 9 = nI (jbV (vX A 1) n (A (41 + 2 * s)) x3.toNatClampNeg k).2.1) ∧ CX4_judgesBy [.ref 0, .int (nI s), .int x2, .int x3, .int (nI m)] (A, R, G) (some (.int (resJ (jbV (vX A 1) n (A (41 + 2 * s)) x3.toNatClampNeg) x3 z m 0).1)) (A1, R, G) := by
    refine aC_exA vX4_judgesBy (Nat.le_of_ble_eq_true rfl) fun E hE => nx (br_f q0 (br_t q1 ?_))
    exact lX4_jby hJ (by omega) hz1 hz40 hm hF _ (fun B h1 h2 h3 => hE B ⟨h1, by rw [h2, g4], by rw [h3, g4]⟩) m 0 A _ _ _ (by omega) jJX.rf rfl hJ.x9 rfl
  have hxc : ∀ j, j < 40 → A1 60 (40 * s + j) = A (41 + 2 * s) j := fun j hj => by rw [hj1.1 60 (by omega)]; exact (e3 j hj).symm
  obtain ⟨A2, ⟨hj2, hv2, h02⟩, hC2⟩ : ∃ A2, (jJM A1 A2 ∧ vM A2 = (jbV (vM A) n (A (41 + 2 * s)) x3.toNatClampNeg k).1 ∧ A2 48 0 = nI (jbV (vM A) n (A (41 + 2 * s)) x3.toNatClampNeg k).2.1) ∧ CX5_judgesBy [.ref 48, .int (nI s), .int x2, .int x3, .int (nI m)] (A1, R, G) (some (.int (resJ (jbV (vX A 1) n (A (41 + 2 * s)) x3.toNatClampNeg) x3 z m 0).1)) (A2, R, G) := by
    rw [g1]
    refine aC_exA vX5_judgesBy (Nat.le_of_ble_eq_true rfl) fun E hE => nm (hj1.1 58 (by omega)) (br_f q0 (br_t q1 ?_))
    have key := lX5_jby (E := E) (A := A1) (R := R) hG hn6 hxc (by omega) (by rw [hj1.1 59 (by omega)]; exact hz2) hz40 hm hF (resJ (jbV (vM A) n (A (41 + 2 * s)) x3.toNatClampNeg) x3 z m 0) (fun B h1 h2 h3 => hE B ⟨h1, by rw [h2, g5], by rw [h3, g5]⟩) m 0 A1 (some (.int x2)) none none (by omega) jJM.rf rfl (by rw [hj1.1 48 (by omega)]; exact hJ.m0)
    rw [hj1.m] at key
    exact key rfl
  obtain ⟨p1, p2, p3, p4⟩ := jb_ok (v := vX A 1) hn6 (x := A (41 + 2 * s)) (f := x3.toNatClampNeg) k
  obtain ⟨_, _, _, p5⟩ := jb_ok (v := vM A) hn6 (x := A (41 + 2 * s)) (f := x3.toNatClampNeg) k
  exact fin hC1 hC2 (hJ.jdg hj1 hj2 hv1 hv2 p1 p2 h91 (by rw [h02, (hjc k).2]) (jb_inv hJ.inv k) (hjc k).1 p5)
end ME
