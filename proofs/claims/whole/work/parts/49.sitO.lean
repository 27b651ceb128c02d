section SO
variable {A : Nat → Nat → Int32} {R : Nat → Nat → Option Nat} {G : Nat → Nat × Nat} {n : Nat} {Λ : aLm}
theorem nI_pre : ∀ k, k < 10 → nI (k + 1) - 1 = nI k := by decide +kernel
theorem sitN_1 {who : Nat → Int32} {c : Nat} : (sitN who (c + 1)).1 = 10 * (sitN who c).1 + nI (dig1 who c (sitN who c).2) := by
  conv => lhs; unfold sitN
theorem sitN_2 {who : Nat → Int32} {c : Nat} : (sitN who (c + 1)).2 = if dig1 who c (sitN who c).2 = 0 then (sitN who c).2 else setb (sitN who c).2 (dig1 who c (sitN who c).2 - 1) := by
  conv => lhs; unfold sitN
/-- a digit is taken -/
theorem lX5_fin {E : aR} (hG : aGS G) {c m d : Nat} {num want : Int32} (hc : c < 8) (hm : m < 64) (hd : d ≤ 6) (hE : ∀ d4 d5 d6, aw tX5_leastSitting E 6 [some (.ref 48), some (.int (10 * num + nI d)), some (.int (nI (if d = 0 then m else setb m (d - 1)))), some (.int (nI (c + 1))), d4, d5, d6] [] (A, R, G)) (x6 : Int32) : aw tX5_leastSitting E 54 [some (.ref 48), some (.int num), some (.int (nI m)), some (.int (nI c)), some (.int want), some (.int (nI d)), some (.int x6)] [] (A, R, G) := by
  have h0 : nI d ≤ 0 → aw tX5_leastSitting E 6 [some (.ref 48), some (.int (10 * num + nI d)), some (.int (nI m ||| 0)), some (.int (nI c + 1)), some (.int want), some (.int (nI d)), some (.int x6)] [] (A, R, G) := by
    intro h
    have hd0 : d = 0 := Classical.byContradiction fun q => absurd h (Int32.not_le.mpr (Int32.not_le.mp (nI_ge (a := 0) (b := d) (by omega) (by omega))))
    have h9 := hE (some (.int want)) (some (.int (nI d))) (some (.int x6))
    rw [if_pos hd0] at h9
    rw [or0, nI_1]
    exact h9
  have h1 : ¬ nI d ≤ 0 → aw tX5_leastSitting E 6 [some (.ref 48), some (.int (10 * num + nI d)), some (.int (nI m ||| ((1 : Int32) <<< ((nI d - 1) &&& 31)))), some (.int (nI c + 1)), some (.int want), some (.int (nI d)), some (.int x6)] [] (A, R, G) := by
    intro h
    have hd0 : ¬ d = 0 := fun q => h (by rw [q]; decide)
    have h9 := hE (some (.int want)) (some (.int (nI d))) (some (.int x6))
    rw [if_neg hd0] at h9
    have e : nI d - 1 = nI (d - 1) := by
      have := nI_pre (d - 1) (by omega)
      rw [show d - 1 + 1 = d by omega] at this
      exact this
    rw [e, setb_nI m hm _ (by omega), nI_1]
    exact h9
  refine sX5_leastSitting_54 hG _ _ _ _ _ _ ⟨fun _ => ⟨h0, h1⟩, fun _ => ⟨fun h => absurd h (nI_m1 (by omega)), fun _ => ⟨h0, h1⟩⟩⟩
theorem lX5_d {E : aR} (hG : aGS G) {c m : Nat} {who : Nat → Int32} {num : Int32} (hc : c < 8) (hm : m < 64) (hr : rwA who 67 A) (hw : A 68 c = who c) (D : Nat) (hD : 0 < D ∧ D ≤ 6) (hE : ∀ d4 d5 d6, aw tX5_leastSitting E 6 [some (.ref 48), some (.int (10 * num + nI D)), some (.int (nI (if D = 0 then m else setb m (D - 1)))), some (.int (nI (c + 1))), d4, d5, d6] [] (A, R, G)) :
    ∀ i p, p + i = 6 → digM (who c) (mostV who (7 - c)) m (mostV who (8 - c) m) i p = D → aw tX5_leastSitting E 54 [some (.ref 48), some (.int num), some (.int (nI m)), some (.int (nI c)), some (.int (mostV who (8 - c) m)), some (.int (-1)), some (.int (nI p))] [] (A, R, G)
  | 0, p, hp, he => by
    have he : (0 : Nat) = D := he
    omega
  | i + 1, p, hp, he => by
    have ih := lX5_d hG hc hm hr hw D hD hE i (p + 1) (by omega)
    have hlt := setb_lt m hm p (by omega)
    unfold digM at he
    refine sX5_leastSitting_54 hG _ _ _ _ _ _ ⟨fun h => absurd h (nI_ge (a := p) (b := 6) (by omega) (by omega)), fun _ => ⟨fun _ => ⟨vp_in_nI (by omega) (by omega), ?_⟩, fun h => absurd rfl h⟩⟩
    rw [setb_nI m hm p (by omega), ix1, nI_clamp (by omega), nI_clamp (by omega), hw, nI_1, b_tst1 _ (by omega), b_tst0 _ (by omega), hr (c + 1) (by omega) _ hlt, show 8 - (c + 1) = 7 - c by omega]
    refine ⟨fun h1 => ⟨fun h2 => ⟨vp_in_nI (by omega) (by omega), fun h3 => ?_, fun h3 => ?_⟩, fun h2 => ?_⟩, fun h1 => ?_⟩
    · rw [if_pos ⟨⟨h1, h2⟩, h3⟩] at he
      rw [he]
      exact lX5_fin hG hc hm hD.2 hE _
    · rw [if_neg (fun q => h3 q.2)] at he
      exact ih he
    · rw [if_neg (fun q => h2 q.1.2)] at he
      exact ih he
    · rw [if_neg (fun q => h1 q.1.1)] at he
      exact ih he
theorem lX5_s {E : aR} (hG : aGS G) {who : Nat → Int32} (hr : rwA who 67 A) (hw : ∀ c, c < 8 → A 68 c = who c) (hE : E (some (.int (sitN who 8).1)) (A, R, G)) :
    ∀ (i c : Nat) (d4 d5 d6 : Option Value), c + i = 8 → aw tX5_leastSitting E 6 [some (.ref 48), some (.int (sitN who c).1), some (.int (nI (sitN who c).2)), some (.int (nI c)), d4, d5, d6] [] (A, R, G)
  | 0, c, _, _, _, hi => by
    have hc : c = 8 := by omega
    subst hc
    exact sX5_leastSitting_6 hG _ _ _ _ _ _ ⟨fun _ => hE, fun h => absurd (nI_le (a := 8) (b := 8) (by omega) (by omega)) h⟩
  | i + 1, c, _, _, _, hi => by
    have ih := fun d4 d5 d6 => lX5_s hG hr hw hE i (c + 1) d4 d5 d6 (by omega)
    have hm := sitN_lt (who := who) c
    rw [sitN_1, sitN_2] at ih
    generalize hs : sitN who c = s at *
    refine sX5_leastSitting_6 hG _ _ _ _ _ _ ⟨fun h => absurd h (nI_ge (a := c) (b := 8) (by omega) (by omega)), fun _ => ?_⟩
    rw [ix0, ix1, nI_clamp (by omega), nI_clamp (by omega), hr c (by omega) _ hm, hr (c + 1) (by omega) _ hm, show 8 - (c + 1) = 7 - c by omega]
    refine ⟨vp_in_nI (by omega) (by omega), vp_in_nI (by omega) (by omega), fun h => ?_, fun h => ?_⟩
    · have hd : dig1 who c s.2 = 0 := by unfold dig1; rw [if_pos h]
      rw [hd] at ih
      exact lX5_fin hG (d := 0) (by omega) hm (by omega) ih 0
    · have hd : dig1 who c s.2 = digM (who c) (mostV who (7 - c)) s.2 (mostV who (8 - c) s.2) 6 0 := by unfold dig1; rw [if_neg h]
      have hp := dig1_pos (who := who) (c := c) (m := s.2) (by omega) h
      have hl := digM_le (who := who c) (x := mostV who (7 - c)) (m := s.2) (want := mostV who (8 - c) s.2) 6 0
      rw [hd] at ih
      exact lX5_d hG (by omega) hm hr (hw c (by omega)) _ ⟨hp, by omega⟩ ih 6 0 (by omega) rfl
theorem qX5_leastSitting (hG : aGS G) {who : Nat → Int32} (hr : rwA who 67 A) (hw : ∀ c, c < 8 → A 68 c = who c) : CX5_leastSitting [.ref 48] (A, R, G) (some (.int (sitN who 8).1)) (A, R, G) :=
  aC_of (Nat.le_of_ble_eq_true rfl) fun E hE => sX5_leastSitting_0 (lX5_s hG hr hw hE 8 0 _ _ _ (by omega))
end SO
