/-- how many of the first k hold, and the least -/
noncomputable def staV (P : Nat → Prop) : Nat → Int32 × Int32
  | 0 => (0, -1)
  | k + 1 => @ite _ (P k) (Classical.propDecidable _) ((staV P k).1 + 1, if (staV P k).2 = -1 then nI k else (staV P k).2) (staV P k)
section CD
variable {A A' B C : Nat → Nat → Int32} {R R' R1 : Nat → Nat → Option Nat} {G : Nat → Nat × Nat} {n t T w t' : Nat} {W : Nat → Nat → List Nat} {Λ : aLm} {v u : aV}
theorem staV_s {P : Nat → Prop} {k : Nat} : staV P (k + 1) = @ite _ (P k) (Classical.propDecidable _) ((staV P k).1 + 1, if (staV P k).2 = -1 then nI k else (staV P k).2) (staV P k) := by
  conv => lhs; unfold staV
theorem lX4_sta {E : aR} (hJ : sJ n t T W A R G) {s z p f : Nat} {x3 x4 : Int32} (hf : (x3 = 1 ∧ f = 3) ∨ (¬ x3 = 1 ∧ f = 4)) (hs : s < 4) (hz : A (40 + 2 * s) 2 = nI z) (hz40 : z ≤ 40) (hp : p < n) (P : Nat → Prop) (hP : ∀ k, P k ↔ unlV (LamW (W t)) n (fun k => A (41 + 2 * s) k) z 0 (au (vX A 1) f p (nI k)) = -1) (hE : ∀ B R', scX A B → scR R R' → E (some (.int (if x4 = 0 then (staV P 100).1 else (staV P 100).2))) (B, R', G)) :
    ∀ (i k : Nat) (B : Nat → Nat → Int32) (R' : Nat → Nat → Option Nat) (d5 : Option Value), k + i = 100 → scX A B → scR R R' → aw tX4_states E 47 [some (.ref 0), some (.int (nI s)), some (.int (nI p)), some (.int x3), some (.int x4), d5, some (.int (staV P k).1), some (.int (staV P k).2), some (.int (nI k))] [] (B, R', G)
  | 0, k, B, R', d3, hk, hj, hr => by
    have hk2 : k = 100 := by omega
    subst hk2
    have h9 := hE B R' hj hr
    refine sX4_states_47 hJ.gs _ _ _ _ _ _ _ _ (br_t (by decide) ⟨fun q => ?_, fun q => ?_⟩)
    · rw [if_pos q] at h9; exact h9
    · rw [if_neg q] at h9; exact h9
  | i + 1, k, B, R', d3, hk, hj, hr => by
    have hn6 := hJ.n6
    obtain ⟨A1, hC, h1, hB, _, hv⟩ := thk (hJ.goX hj hr)
    rw [hj.hX] at hv
    have hi : invD n (au (vX A1 11) f p (nI k)) := inv_au hB.2.2.1 (by omega) (fun q => by omega) (fun q => by omega) (fun q => nI_nn (by omega))
    obtain ⟨hB2, hv2⟩ := hB.m (f := f) (by omega) hi
    have hv3 : eqV n (vX (au A1 (11 + (f + 1)) p (nI k)) 11) (au (vX A 1) f p (nI k)) := by rw [hv2]; exact hv.sy.au rfl
    obtain ⟨A2, h2, hC2⟩ := fo_x hJ ((hj.tr h1).tr (sc11 (by omega))) (hr.tr scR.th) hB2 hv3 hs hz hz40
    have ih := fun d3 => lX4_sta hJ hf hs hz hz40 hp P hP hE i (k + 1) A2 (ar R' 11 14 (some (tw t))) d3 (by omega) h2 (hr.tr scR.th)
    rw [staV_s] at ih
    have hx : vp_in (nI p) 6 := vp_in_nI (by omega) (by omega)
    have h88 : ∀ d4 : Option Value, aw tX4_states E 93 [some (.ref 0), some (.int (nI s)), some (.int (nI p)), some (.int x3), some (.int x4), d4, some (.int (staV P k).1), some (.int (staV P k).2), some (.int (nI k))] [.int (unlV (LamW (W t)) n (fun k => A (41 + 2 * s) k) z 0 (au (vX A 1) f p (nI k)))] (A2, ar R' 11 14 (some (tw t)), G) := by
      intro d4
      refine sX4_states_93 _ _ _ _ _ _ _ _ _ ⟨fun q => ⟨fun q2 => ?_, fun q2 => ?_⟩, fun q => ?_⟩
      · rw [if_pos ((hP k).mpr q), if_pos q2] at ih
        rw [nI_1]
        exact ih _
      · rw [if_pos ((hP k).mpr q), if_neg q2] at ih
        rw [nI_1]
        exact ih _
      · rw [if_neg (fun z => q ((hP k).mp z))] at ih
        rw [nI_1]
        exact ih _
    rcases hf with ⟨h3, rfl⟩ | ⟨h3, rfl⟩
    · refine sX4_states_47 hJ.gs _ _ _ _ _ _ _ _ (br_f (nI_nlt (a := 99) (b := k) (by omega) (by omega)) ⟨_, hC, sX4_states_58 hJ.gs _ _ _ _ _ _ _ _ (br_t h3 ⟨hx, ?_⟩)⟩)
      rw [nI_clamp (by omega)]
      exact ⟨_, _, hC2, h88 _⟩
    · refine sX4_states_47 hJ.gs _ _ _ _ _ _ _ _ (br_f (nI_nlt (a := 99) (b := k) (by omega) (by omega)) ⟨_, hC, sX4_states_58 hJ.gs _ _ _ _ _ _ _ _ (br_f h3 ⟨hx, ?_⟩)⟩)
      rw [nI_clamp (by omega)]
      exact ⟨_, _, hC2, h88 _⟩
theorem vM_34 {f p e : Nat} {x : Int32} (h : (f = 3 ∧ e = 1) ∨ (f = 4 ∧ e = 2)) : vM (au A 51 (3 * p + e) x) = au (vM A) f p x := by
  rcases h with ⟨rfl, rfl⟩ | ⟨rfl, rfl⟩
  · exact vM_3
  · exact vM_4
theorem lX5_sta {E : aR} (hJ : sJ n t T W A R G) {s z p f e : Nat} {x4 : Int32} (hf : (f = 3 ∧ e = 1) ∨ (f = 4 ∧ e = 2)) (hs : s < 4) (hz : A 59 s = nI z) (hz40 : z ≤ 40) (hp : p < n) (P : Nat → Prop) (hP : ∀ k, P k ↔ unlV (LamW (W t)) n (fun k => A (41 + 2 * s) k) z 0 (au (vM A) f p (nI k)) = -1) (hE : ∀ B, scM A B → E (some (.int (if x4 = 0 then (staV P 100).1 else (staV P 100).2))) (B, R, G)) :
    ∀ (i k : Nat) (B : Nat → Nat → Int32) (d5 d10 : Option Value) (y : Int32), k + i = 100 → mdM (au (vM A) f p y) A B → aw tX5_states E 69 [some (.ref 48), some (.int (nI s)), some (.int (nI p)), some (.int (nI e)), some (.int x4), d5, some (.int (vM A f p)), some (.int (staV P k).1), some (.int (staV P k).2), some (.int (nI k)), d10] [] (B, R, G)
  | 0, k, B, d5, d10, y, hk, hj => by
    have hn6 := hJ.n6
    have hk2 : k = 100 := by omega
    subst hk2
    have h1 := hj.set (o := 51) (k := 3 * p + e) (x := vM A f p) (by omega) (vM_34 hf)
    rw [au_au, au_self] at h1
    have h9 := hE _ h1
    refine sX5_states_69 hJ.gs _ _ _ _ _ _ _ _ _ _ (br_t (by decide) ?_)
    simp (disch := omega) only [nI_mul3, nI_add, nI_clamp]
    refine ⟨vp_in_nI (by omega) (by omega), fun q => ?_, fun q => ?_⟩
    · rw [if_pos q] at h9; exact h9
    · rw [if_neg q] at h9; exact h9
  | i + 1, k, B, d5, d10, y, hk, hj => by
    have hn6 := hJ.n6
    have h1 := hj.set (o := 51) (k := 3 * p + e) (x := nI k) (by omega) (vM_34 hf)
    rw [au_au] at h1
    obtain ⟨C, h2, hC⟩ := un_m (R1 := R) hJ h1 hs hz hz40
    have ih := fun d5 d10 => lX5_sta hJ hf hs hz hz40 hp P hP hE i (k + 1) C d5 d10 _ (by omega) h2
    rw [staV_s] at ih
    refine sX5_states_69 hJ.gs _ _ _ _ _ _ _ _ _ _ (br_f (nI_nlt (a := 99) (b := k) (by omega) (by omega)) ?_)
    simp (disch := omega) only [nI_mul3, nI_add, nI_clamp]
    refine ⟨vp_in_nI (by omega) (by omega), _, _, hC, sX5_states_93 _ _ _ _ _ _ _ _ _ _ _ ⟨fun q => ⟨fun q2 => ?_, fun q2 => ?_⟩, fun q => ?_⟩⟩
    · rw [if_pos ((hP k).mpr q), if_pos q2] at ih
      rw [nI_1]
      exact ih _ _
    · rw [if_pos ((hP k).mpr q), if_neg q2] at ih
      rw [nI_1]
      exact ih _ _
    · rw [if_neg (fun z => q ((hP k).mp z))] at ih
      rw [nI_1, Int32.add_zero]
      exact ih _ _
theorem c_states (hJ : sJ n t T W A R G) (x1 x2 x3 x4 : Int32) : bthI T W CX4_states CX5_states [.int x1, .int x2, .int x3, .int x4] A R G := by
  have hG := hJ.gs
  have hn6 := hJ.n6
  by_cases h0 : wrgV A x1 = 0
  case neg => exact qry0 hJ _ (aC_of (Nat.le_of_ble_eq_true rfl) fun E hE => sX4_states_0 hG _ _ _ _ ⟨_, _, qX4_refusal2 hJ x1 x2 _ (Or.inl ⟨h0, rfl⟩), sX4_states_6 _ _ _ _ _ _ _ _ _ (br_f h0 hE)⟩) (aC_of (Nat.le_of_ble_eq_true rfl) fun E hE => sX5_states_0 hG _ _ _ _ ⟨_, _, qX5_wrong hG x1, sX5_states_5 hG _ _ _ _ _ _ _ _ _ _ _ (br_f h0 hE)⟩)
  by_cases h1 : ∃ k, k < n ∧ x2 = nI k
  case neg => exact qry0 hJ _ (aC_of (Nat.le_of_ble_eq_true rfl) fun E hE => sX4_states_0 hG _ _ _ _ ⟨_, _, qX4_refusal2 hJ x1 x2 _ (Or.inr (Or.inr ⟨h0, h1, rfl⟩)), sX4_states_6 _ _ _ _ _ _ _ _ _ (br_f (by decide) hE)⟩) (aC_of (Nat.le_of_ble_eq_true rfl) fun E hE => sX5_states_0 hG _ _ _ _ ⟨_, _, qX5_wrong hG x1, sX5_states_5 hG _ _ _ _ _ _ _ _ _ _ _ (br_t h0 (br_f (nPm hJ h1) hE))⟩)
  obtain ⟨p, hp, rfl⟩ := h1
  have hr := Or.inr (a := ¬ wrgV A x1 = 0 ∧ (0 : Int32) = wrgV A x1) (Or.inl (b := wrgV A x1 = 0 ∧ (¬ ∃ k, k < n ∧ nI p = nI k) ∧ (0 : Int32) = -5) (⟨h0, ⟨p, hp, rfl⟩, rfl⟩ : wrgV A x1 = 0 ∧ (∃ k, k < n ∧ nI p = nI k) ∧ (0 : Int32) = 0))
  by_cases h3 : 1 ≤ x3 ∧ x3 ≤ 2
  case neg => exact qry0 hJ _ (aC_of (Nat.le_of_ble_eq_true rfl) fun E hE => sX4_states_0 hG _ _ _ _ ⟨_, _, qX4_refusal2 hJ x1 _ _ hr, sX4_states_6 _ _ _ _ _ _ _ _ _ (br_t rfl (br_f h3 hE))⟩) (aC_of (Nat.le_of_ble_eq_true rfl) fun E hE => sX5_states_0 hG _ _ _ _ ⟨_, _, qX5_wrong hG x1, sX5_states_5 hG _ _ _ _ _ _ _ _ _ _ _ (br_t h0 (br_t (yPm hJ hp) (br_f h3 hE)))⟩)
  by_cases h4 : 0 ≤ x4 ∧ x4 ≤ 1
  case neg => exact qry0 hJ _ (aC_of (Nat.le_of_ble_eq_true rfl) fun E hE => sX4_states_0 hG _ _ _ _ ⟨_, _, qX4_refusal2 hJ x1 _ _ hr, sX4_states_6 _ _ _ _ _ _ _ _ _ (br_t rfl (br_t h3 (br_f h4 hE)))⟩) (aC_of (Nat.le_of_ble_eq_true rfl) fun E hE => sX5_states_0 hG _ _ _ _ ⟨_, _, qX5_wrong hG x1, sX5_states_5 hG _ _ _ _ _ _ _ _ _ _ _ (br_t h0 (br_t (yPm hJ hp) (br_t h3 (br_f h4 hE))))⟩)
  obtain ⟨s, z, hs, rfl, hz, hz1, hz2⟩ := wrg_0 hJ h0
  obtain ⟨f, e, he, hf, hf'⟩ : ∃ f e, x3 = nI e ∧ ((f = 3 ∧ e = 1) ∨ (f = 4 ∧ e = 2)) ∧ ((x3 = 1 ∧ f = 3) ∨ (¬ x3 = 1 ∧ f = 4)) := by
    obtain ⟨k, hk, rfl⟩ := rngI 2 (by omega) ⟨Int32.le_trans (by decide) h3.1, h3.2⟩
    match k, hk with
    | 0, _ => exact absurd h3.1 (by decide)
    | 1, _ => exact ⟨3, 1, rfl, Or.inl ⟨rfl, rfl⟩, Or.inl ⟨rfl, rfl⟩⟩
    | 2, _ => exact ⟨4, 2, rfl, Or.inr ⟨rfl, rfl⟩, Or.inr ⟨by decide, rfl⟩⟩
  subst he
  refine qry hJ (if x4 = 0 then (staV (fun k => unlV (LamW (W t)) n (fun k => A (41 + 2 * s) k) z 0 (au (vX A 1) f p (nI k)) = -1) 100).1 else (staV (fun k => unlV (LamW (W t)) n (fun k => A (41 + 2 * s) k) z 0 (au (vX A 1) f p (nI k)) = -1) 100).2) ?_ fun A' R' hJ' hs' hv => ?_
  · refine aC_exM vX4_states (Nat.le_of_ble_eq_true rfl) fun E hE => ?_
    exact sX4_states_0 hG _ _ _ _ ⟨_, _, qX4_refusal2 hJ _ _ _ hr, sX4_states_6 _ _ _ _ _ _ _ _ _ (br_t rfl (br_t h3 (br_t h4 (lX4_sta hJ hf' hs hz1 (by omega) hp _ (fun k => Iff.rfl) (fun B R' h1 h2 => hE B R' ⟨h1, h2⟩) 100 0 A R _ (by omega) scX.rf scR.rf))))⟩
  · have e4 : A' (41 + 2 * s) = A (41 + 2 * s) := hs' _ (by omega) (by omega) (by omega)
    refine aC_exA vX5_states (Nat.le_of_ble_eq_true rfl) fun E hE => ?_
    refine sX5_states_0 hG _ _ _ _ ⟨_, _, qX5_wrong hG _, sX5_states_5 hG _ _ _ _ _ _ _ _ _ _ _ (br_t (by rw [wrg_c hs']; exact h0) (br_t (yPm hJ' hp) (br_t h3 (br_t h4 ?_))))⟩
    simp (disch := omega) only [nI_mul3, nI_add, nI_clamp]
    refine ⟨vp_in_nI (by omega) (by omega), ?_⟩
    have e5 : A' 51 (3 * p + e) = vM A' f p := by
      rcases hf with ⟨rfl, rfl⟩ | ⟨rfl, rfl⟩
      · rfl
      · rfl
    rw [e5]
    refine lX5_sta (E := E) hJ' hf hs (z := z) (by rw [hs' 59 (by omega) (by omega) (by omega)]; exact hz2) (by omega) hp _ (fun k => ?_) (fun B h1 => hE B h1) 100 0 A' _ _ (vM A' f p) (by omega) ?_
    · rw [hv, e4, unlV_c z 0 (hJ.vv.au (Eq.refl _)) (fun _ _ _ => rfl)]
    · rw [au_self]; exact scM.rf
/-! dropped -/
theorem inv_5 (h : invD n v) {c : Nat} : invD n (au v 5 c 0) := by
  refine ⟨⟨fun q hq => ⟨?_, ?_, ?_⟩, fun d hd => ?_⟩, fun d hd => ?_, ?_⟩
  · rw [au_v (by omega)]; exact (h.1.1 q hq).1
  · rw [au_v (by omega)]; exact (h.1.1 q hq).2.1
  · rw [au_v (by omega)]; exact (h.1.1 q hq).2.2
  · by_cases e : d = c
    · subst e; rw [au_k]; exact isS_0
    · rw [au_j e]; exact h.1.2 d hd
  · rw [au_v (by omega)]; exact h.2.1 d hd
  · rw [au_v (by omega)]; exact h.2.2
theorem lX4_dro {E : aR} (hJ : sJ n t T W A R G) {s z : Nat} (hs : s < 4) (hz : A (40 + 2 * s) 2 = nI z) (hz40 : z ≤ 40) (P : Nat → Prop) (hP : ∀ k, P k ↔ ¬ vX A 1 5 k = 0 ∧ unlV (LamW (W t)) n (fun k => A (41 + 2 * s) k) z 0 (au (vX A 1) 5 k 0) = -1) (hE : ∀ B R', scX A B → scR R R' → E (some (.int (bitsV P 8))) (B, R', G)) :
    ∀ (i k : Nat) (B : Nat → Nat → Int32) (R' : Nat → Nat → Option Nat) (d2 : Option Value), k + i = 8 → scX A B → scR R R' → aw tX4_dropped E 17 [some (.ref 0), some (.int (nI s)), d2, some (.int (bitsV P k)), some (.int (nI k))] [] (B, R', G)
  | 0, k, B, R', d2, hk, hj, hr => by
    have hk2 : k = 8 := by omega
    subst hk2
    exact sX4_dropped_17 hJ.gs _ _ _ _ (br_t (by decide) (hE B R' hj hr))
  | i + 1, k, B, R', d2, hk, hj, hr => by
    have hn6 := hJ.n6
    have hJB := hJ.goX hj hr
    refine sX4_dropped_17 hJ.gs _ _ _ _ (br_f (nI_ge (a := k) (b := 8) (by omega) (by omega)) ?_)
    by_cases h5 : vX A 1 5 k = 0
    · have ih := fun d2 => lX4_dro hJ hs hz hz40 P hP hE i (k + 1) B R' d2 (by omega) hj hr
      rw [bitsV_s, if_neg (fun q => ((hP k).mp q).1 h5)] at ih
      refine br_f (fun q => ?_) ?_
      · obtain ⟨j, hj2, he, hj5⟩ := (thX_x hJB).mp q
        have he2 := (nI_eq (a := k) (b := j) (by omega) (by omega)).mp he
        subst he2
        rw [hj.hX] at hj5
        exact hj5 h5
      · rw [nI_1]; exact ih _
    · obtain ⟨A1, hC, h1, hB, _, hv⟩ := thk hJB
      rw [hj.hX] at hv
      have hg : vX (au A1 11 10 (A1 11 10 &&& ((1 <<< (nI k &&& 31)) ^^^ (-1)))) 11 = au (vX A1 11) 5 k 0 := vX_gone (by omega)
      have hB2 : bnA 11 (tw t) n (LamW (W t)) (au A1 11 10 (A1 11 10 &&& ((1 <<< (nI k &&& 31)) ^^^ (-1)))) (ar R' 11 14 (some (tw t))) G := hB.d jDX.g (by rw [hg]; exact inv_5 hB.2.2.1)
      have hv3 : eqV n (vX (au A1 11 10 (A1 11 10 &&& ((1 <<< (nI k &&& 31)) ^^^ (-1)))) 11) (au (vX A 1) 5 k 0) := by rw [hg]; exact hv.sy.au rfl
      obtain ⟨A2, h2, hC2⟩ := fo_x hJ ((hj.tr h1).tr (sc11 (by omega))) (hr.tr scR.th) hB2 hv3 hs hz hz40
      have ih := fun d2 => lX4_dro hJ hs hz hz40 P hP hE i (k + 1) A2 (ar R' 11 14 (some (tw t))) d2 (by omega) h2 (hr.tr scR.th)
      rw [bitsV_s] at ih
      refine br_t (yCx hJB (by omega) (by rw [hj.hX]; exact h5)) ⟨_, hC, sX4_dropped_40 hJ.gs _ _ _ _ ⟨_, _, hC2, sX4_dropped_63 _ _ _ _ _ ⟨fun q => ?_, fun q => ?_⟩⟩⟩
      · rw [if_pos ((hP k).mpr ⟨h5, q⟩)] at ih
        rw [nI_1]
        exact ih _
      · rw [if_neg (fun z => q ((hP k).mp z).2)] at ih
        rw [nI_1]
        exact ih _
theorem lX5_dro {E : aR} (hJ : sJ n t T W A R G) {s z : Nat} (hs : s < 4) (hz : A 59 s = nI z) (hz40 : z ≤ 40) (P : Nat → Prop) (hP : ∀ k, P k ↔ ¬ vM A 5 k = 0 ∧ unlV (LamW (W t)) n (fun k => A (41 + 2 * s) k) z 0 (au (vM A) 5 k 0) = -1) (hE : ∀ B, scM A B → E (some (.int (bitsV P 8))) (B, R, G)) :
    ∀ (i k : Nat) (B : Nat → Nat → Int32) (d2 d5 : Option Value), k + i = 8 → scM A B → aw tX5_dropped E 17 [some (.ref 48), some (.int (nI s)), d2, some (.int (bitsV P k)), some (.int (nI k)), d5] [] (B, R, G)
  | 0, k, B, d2, d5, hk, hj => by
    have hk2 : k = 8 := by omega
    subst hk2
    exact sX5_dropped_17 hJ.gs _ _ _ _ _ (br_t (by decide) (hE B hj))
  | i + 1, k, B, d2, d5, hk, hj => by
    have hn6 := hJ.n6
    have e2 : B 52 (3 * k) = vM A 5 k := (hj.2.2.2.1 5 (by omega) (by omega) k (by omega)).symm
    refine sX5_dropped_17 hJ.gs _ _ _ _ _ (br_f (nI_ge (a := k) (b := 8) (by omega) (by omega)) ?_)
    simp (disch := omega) only [nI_mul3, nI_clamp, e2]
    refine ⟨vp_in_nI (by omega) (by omega), fun h5 => ?_, fun h5 => ?_⟩
    · have ih := fun d2 d5 => lX5_dro hJ hs hz hz40 P hP hE i (k + 1) B d2 d5 (by omega) hj
      rw [bitsV_s, if_neg (fun q => ((hP k).mp q).1 h5)] at ih
      rw [nI_1]
      exact ih _ _
    · have h1 := hj.md.set (o := 52) (k := 3 * k) (x := 0) (by omega) vM_5
      obtain ⟨C, h2, hC⟩ := un_m (R1 := R) hJ h1 hs hz hz40
      have h3 := h2.set (o := 52) (k := 3 * k) (x := vM A 5 k) (by omega) vM_5
      rw [au_au, au_self] at h3
      have ih := fun d2 d5 => lX5_dro hJ hs hz hz40 P hP hE i (k + 1) _ d2 d5 (by omega) h3
      rw [bitsV_s] at ih
      refine ⟨_, _, hC, sX5_dropped_56 hJ.gs _ _ _ _ _ _ _ ?_⟩
      simp (disch := omega) only [nI_mul3, nI_clamp, nI_1, or0]
      refine ⟨fun q => ⟨vp_in_nI (by omega) (by omega), ?_⟩, fun q => ⟨vp_in_nI (by omega) (by omega), ?_⟩⟩
      · rw [if_pos ((hP k).mpr ⟨h5, q⟩)] at ih
        exact ih _ _
      · rw [if_neg (fun z => q ((hP k).mp z).2)] at ih
        exact ih _ _
theorem c_dropped (hJ : sJ n t T W A R G) (x1 : Int32) : bthI T W CX4_dropped CX5_dropped [.int x1] A R G := by
  have hG := hJ.gs
  have hn6 := hJ.n6
  by_cases h0 : wrgV A x1 = 0
  case neg => exact qry0 hJ _ (aC_of (Nat.le_of_ble_eq_true rfl) fun E hE => sX4_dropped_0 hG _ ⟨_, _, qX4_refusal hJ x1, sX4_dropped_5 _ _ _ _ _ (br_f h0 hE)⟩) (aC_of (Nat.le_of_ble_eq_true rfl) fun E hE => sX5_dropped_0 hG _ ⟨_, _, qX5_wrong hG x1, sX5_dropped_5 _ _ _ _ _ _ (br_f h0 hE)⟩)
  obtain ⟨s, z, hs, rfl, hz, hz1, hz2⟩ := wrg_0 hJ h0
  have hb : ∀ u : aV, eqV n (vX A 1) u → bitsV (fun k => ¬ u 5 k = 0 ∧ unlV (LamW (W t)) n (fun k => A (41 + 2 * s) k) z 0 (au u 5 k 0) = -1) 8 = bitsV (fun k => ¬ vX A 1 5 k = 0 ∧ unlV (LamW (W t)) n (fun k => A (41 + 2 * s) k) z 0 (au (vX A 1) 5 k 0) = -1) 8 := fun u hu => bits_c 8 fun k hk => by rw [hu.2.1 5 (by omega) (by omega) k hk, unlV_c z 0 (hu.au (Eq.refl _)) (fun _ _ _ => rfl)]
  refine qry hJ (bitsV (fun k => ¬ vX A 1 5 k = 0 ∧ unlV (LamW (W t)) n (fun k => A (41 + 2 * s) k) z 0 (au (vX A 1) 5 k 0) = -1) 8) ?_ fun A' R' hJ' hs' hv => ?_
  · refine aC_exM vX4_dropped (Nat.le_of_ble_eq_true rfl) fun E hE => ?_
    exact sX4_dropped_0 hG _ ⟨_, _, qX4_refusal hJ _, sX4_dropped_5 _ _ _ _ _ (br_t h0 (lX4_dro hJ hs hz1 (by omega) _ (fun k => Iff.rfl) (fun B R' h1 h2 => hE B R' ⟨h1, h2⟩) 8 0 A R _ (by omega) scX.rf scR.rf))⟩
  · have e4 : A' (41 + 2 * s) = A (41 + 2 * s) := hs' _ (by omega) (by omega) (by omega)
    refine aC_exA vX5_dropped (Nat.le_of_ble_eq_true rfl) fun E hE => ?_
    refine sX5_dropped_0 hG _ ⟨_, _, qX5_wrong hG _, sX5_dropped_5 _ _ _ _ _ _ (br_t (by rw [wrg_c hs']; exact h0) ?_)⟩
    have key := lX5_dro (E := E) (R := R') hJ' hs (z := z) (by rw [hs' 59 (by omega) (by omega) (by omega)]; exact hz2) (by omega) (fun k => ¬ vM A' 5 k = 0 ∧ unlV (LamW (W t)) n (fun k => A' (41 + 2 * s) k) z 0 (au (vM A') 5 k 0) = -1) (fun k => Iff.rfl) (fun B h1 => ?_) 8 0 A' (some (.int (wrgV A' (nI s)))) none (by omega) scM.rf
    · exact key
    · rw [e4, hv, hb (vM A) hJ.vv]
      exact hE B h1
end CD
