section CC
variable {A A' B C : Nat → Nat → Int32} {R R' R1 : Nat → Nat → Option Nat} {G : Nat → Nat × Nat} {n t T w t' : Nat} {W : Nat → Nat → List Nat} {Λ : aLm} {v u : aV}
theorem xx (x b : Int32) : x ^^^ b ^^^ b = x := by
  refine b_ext fun i hi => ?_
  rw [b_xor, b_xor]
  cases bt x i <;> cases bt b i <;> rfl
theorem au_same {f p : Nat} {x : Int32} (h : v f p = x) : au v f p x = v := by rw [← h]; exact au_self
theorem bitsV_s {P : Nat → Prop} {k : Nat} : bitsV P (k + 1) = @ite _ (P k) (Classical.propDecidable _) (bitsV P k ||| ((1 : Int32) <<< (nI k &&& 31))) (bitsV P k) := by
  conv => lhs; unfold bitsV
theorem m1_0 {x : Int32} (h : x ||| 0 = x) : x ||| 0 = x := h
theorem lX4_tur {E : aR} (hJ : sJ n t T W A R G) {s z p : Nat} (hs : s < 4) (hz : A (40 + 2 * s) 2 = nI z) (hz40 : z ≤ 40) (hp : p < n) (P : Nat → Prop) (hP : ∀ k, P k ↔ unlV (LamW (W t)) n (fun k => A (41 + 2 * s) k) z 0 (au (vX A 1) 2 p (vX A 1 2 p ^^^ ((1 : Int32) <<< (nI k &&& 31)))) = -1) (hE : ∀ B R', scX A B → scR R R' → E (some (.int (bitsV P 10))) (B, R', G)) :
    ∀ (i k : Nat) (B : Nat → Nat → Int32) (R' : Nat → Nat → Option Nat) (d3 : Option Value), k + i = 10 → scX A B → scR R R' → aw tX4_turned E 19 [some (.ref 0), some (.int (nI s)), some (.int (nI p)), d3, some (.int (bitsV P k)), some (.int (nI k))] [] (B, R', G)
  | 0, k, B, R', d3, hk, hj, hr => by
    have hk2 : k = 10 := by omega
    subst hk2
    exact sX4_turned_19 hJ.gs _ _ _ _ _ (br_t (by decide) (hE B R' hj hr))
  | i + 1, k, B, R', d3, hk, hj, hr => by
    have hn6 := hJ.n6
    obtain ⟨A1, hC, h1, hB, _, hv⟩ := thk (hJ.goX hj hr)
    rw [hj.hX] at hv
    have e2 : A1 14 p = vX A 1 2 p := (hv.1 2 (by omega) p hp).symm
    have hi : invD n (au (vX A1 11) 2 p (vX A 1 2 p ^^^ ((1 : Int32) <<< (nI k &&& 31)))) := inv_au hB.2.2.1 (by omega) (fun q => absurd q (by decide)) (fun _ => isS_xor (hJ.inv.1.1 p hp).2.1 (isS_bit k (by omega))) (fun q => absurd q (by decide))
    obtain ⟨hB2, hv2⟩ := hB.m (f := 2) (by omega) hi
    have hv3 : eqV n (vX (au A1 (11 + (2 + 1)) p (vX A 1 2 p ^^^ ((1 : Int32) <<< (nI k &&& 31)))) 11) (au (vX A 1) 2 p (vX A 1 2 p ^^^ ((1 : Int32) <<< (nI k &&& 31)))) := by rw [hv2]; exact hv.sy.au rfl
    obtain ⟨A2, h2, hC2⟩ := fo_x hJ ((hj.tr h1).tr (sc11 (by omega))) (hr.tr scR.th) hB2 hv3 hs hz hz40
    have ih := fun d3 => lX4_tur hJ hs hz hz40 hp P hP hE i (k + 1) A2 (ar R' 11 14 (some (tw t))) d3 (by omega) h2 (hr.tr scR.th)
    rw [bitsV_s] at ih
    refine sX4_turned_19 hJ.gs _ _ _ _ _ (br_f (nI_ge (a := k) (b := 10) (by omega) (by omega)) ⟨_, hC, sX4_turned_30 hJ.gs _ _ _ _ _ ⟨vp_in_nI (by omega) (by omega), ?_⟩⟩)
    rw [nI_clamp (by omega), e2]
    refine ⟨_, _, hC2, sX4_turned_51 _ _ _ _ _ _ ⟨fun q => ?_, fun q => ?_⟩⟩
    · rw [if_pos ((hP k).mpr q)] at ih
      rw [nI_1]
      exact ih _
    · rw [if_neg (fun z => q ((hP k).mp z))] at ih
      rw [nI_1]
      exact ih _
theorem lX5_tur {E : aR} (hJ : sJ n t T W A R G) {s z p : Nat} (hs : s < 4) (hz : A 59 s = nI z) (hz40 : z ≤ 40) (hp : p < n) (P : Nat → Prop) (hP : ∀ k, P k ↔ unlV (LamW (W t)) n (fun k => A (41 + 2 * s) k) z 0 (au (vM A) 2 p (vM A 2 p ^^^ ((1 : Int32) <<< (nI k &&& 31)))) = -1) (hE : ∀ B, scM A B → E (some (.int (bitsV P 10))) (B, R, G)) :
    ∀ (i k : Nat) (B : Nat → Nat → Int32) (d3 : Option Value), k + i = 10 → scM A B → aw tX5_turned E 29 [some (.ref 48), some (.int (nI s)), some (.int (nI p)), d3, some (.int (bitsV P k)), some (.int (nI k))] [] (B, R, G)
  | 0, k, B, d3, hk, hj => by
    have hk2 : k = 10 := by omega
    subst hk2
    exact sX5_turned_29 hJ.gs _ _ _ _ _ (br_t (by decide) (hE B hj))
  | i + 1, k, B, d3, hk, hj => by
    have hn6 := hJ.n6
    have e2 : B 51 (3 * p) = vM A 2 p := (hj.2.2.1 2 (by omega) p (by omega)).symm
    have h1 := hj.md.set (o := 51) (k := 3 * p) (x := vM A 2 p ^^^ ((1 : Int32) <<< (nI k &&& 31))) (by omega) vM_2
    obtain ⟨C, h2, hC⟩ := un_m (R1 := R) hJ h1 hs hz hz40
    have e3 : C 51 (3 * p) = vM A 2 p ^^^ ((1 : Int32) <<< (nI k &&& 31)) := by
      have := h2.2.2.1 2 (by omega) p (by omega)
      rw [au_k] at this
      exact this.symm
    have h3 := h2.set (o := 51) (k := 3 * p) (x := vM A 2 p) (by omega) vM_2
    rw [au_au, au_self] at h3
    have ih := fun d3 => lX5_tur hJ hs hz hz40 hp P hP hE i (k + 1) _ d3 (by omega) h3
    rw [bitsV_s] at ih
    refine sX5_turned_29 hJ.gs _ _ _ _ _ (br_f (nI_ge (a := k) (b := 10) (by omega) (by omega)) ?_)
    simp (disch := omega) only [nI_mul3, nI_clamp, e2]
    refine ⟨vp_in_nI (by omega) (by omega), _, _, hC, sX5_turned_58 hJ.gs _ _ _ _ _ _ _ ?_⟩
    simp (disch := omega) only [nI_mul3, nI_clamp, e3, xx, nI_1, or0]
    refine ⟨fun q => ⟨vp_in_nI (by omega) (by omega), ?_⟩, fun q => ⟨vp_in_nI (by omega) (by omega), ?_⟩⟩
    · rw [if_pos ((hP k).mpr q)] at ih
      exact ih _
    · rw [if_neg (fun z => q ((hP k).mp z))] at ih
      exact ih _
theorem c_turned (hJ : sJ n t T W A R G) (x1 x2 : Int32) : bthI T W CX4_turned CX5_turned [.int x1, .int x2] A R G := by
  have hG := hJ.gs
  have hn6 := hJ.n6
  by_cases h0 : wrgV A x1 = 0
  case neg => exact qry0 hJ _ (aC_of (Nat.le_of_ble_eq_true rfl) fun E hE => sX4_turned_0 hG _ _ ⟨_, _, qX4_refusal2 hJ x1 x2 _ (Or.inl ⟨h0, rfl⟩), sX4_turned_6 _ _ _ _ _ _ (br_f h0 hE)⟩) (aC_of (Nat.le_of_ble_eq_true rfl) fun E hE => sX5_turned_0 hG _ _ ⟨_, _, qX5_wrong hG x1, sX5_turned_5 hG _ _ _ _ _ _ (br_f h0 hE)⟩)
  by_cases h1 : ∃ k, k < n ∧ x2 = nI k
  case neg => exact qry0 hJ _ (aC_of (Nat.le_of_ble_eq_true rfl) fun E hE => sX4_turned_0 hG _ _ ⟨_, _, qX4_refusal2 hJ x1 x2 _ (Or.inr (Or.inr ⟨h0, h1, rfl⟩)), sX4_turned_6 _ _ _ _ _ _ (br_f (by decide) hE)⟩) (aC_of (Nat.le_of_ble_eq_true rfl) fun E hE => sX5_turned_0 hG _ _ ⟨_, _, qX5_wrong hG x1, sX5_turned_5 hG _ _ _ _ _ _ (br_t h0 (br_f (nPm hJ h1) hE))⟩)
  obtain ⟨p, hp, rfl⟩ := h1
  obtain ⟨s, z, hs, rfl, hz, hz1, hz2⟩ := wrg_0 hJ h0
  refine qry hJ (bitsV (fun k => unlV (LamW (W t)) n (fun k => A (41 + 2 * s) k) z 0 (au (vX A 1) 2 p (vX A 1 2 p ^^^ ((1 : Int32) <<< (nI k &&& 31)))) = -1) 10) ?_ fun A' R' hJ' hs' hv => ?_
  · obtain ⟨B, R1, hB, hC⟩ : ∃ B R1, (scX A B ∧ scR R R1) ∧ CX4_turned [.ref 0, .int (nI s), .int (nI p)] (A, R, G) (some (.int (bitsV (fun k => unlV (LamW (W t)) n (fun k => A (41 + 2 * s) k) z 0 (au (vX A 1) 2 p (vX A 1 2 p ^^^ ((1 : Int32) <<< (nI k &&& 31)))) = -1) 10))) (B, R1, G) := by
      refine aC_exM vX4_turned (Nat.le_of_ble_eq_true rfl) fun E hE => ?_
      exact sX4_turned_0 hG _ _ ⟨_, _, qX4_refusal2 hJ _ _ _ (Or.inr (Or.inl ⟨h0, ⟨p, hp, rfl⟩, rfl⟩)), sX4_turned_6 _ _ _ _ _ _ (br_t rfl (lX4_tur hJ hs hz1 (by omega) hp _ (fun k => Iff.rfl) (fun B R' h1 h2 => hE B R' ⟨h1, h2⟩) 10 0 A R _ (by omega) scX.rf scR.rf))⟩
    exact ⟨B, R1, hB, hC⟩
  · have e4 : A' (41 + 2 * s) = A (41 + 2 * s) := hs' _ (by omega) (by omega) (by omega)
    refine aC_exA vX5_turned (Nat.le_of_ble_eq_true rfl) fun E hE => ?_
    refine sX5_turned_0 hG _ _ ⟨_, _, qX5_wrong hG _, sX5_turned_5 hG _ _ _ _ _ _ (br_t (by rw [wrg_c hs']; exact h0) (br_t (yPm hJ' hp) ?_))⟩
    refine lX5_tur (E := E) hJ' hs (z := z) (by rw [hs' 59 (by omega) (by omega) (by omega)]; exact hz2) (by omega) hp _ (fun k => ?_) (fun B h1 => hE B h1) 10 0 A' _ (by omega) scM.rf
    rw [hv, e4, ← hJ.vv.1 2 (by omega) p hp, unlV_c z 0 (hJ.vv.au (Eq.refl _)) (fun _ _ _ => rfl)]
/-! kinds -/
theorem lX4_kin {E : aR} (hJ : sJ n t T W A R G) {s z p f m : Nat} {x3 : Int32} (hf : (x3 = 0 ∧ f = 0 ∧ m = 6) ∨ (¬ x3 = 0 ∧ f = 1 ∧ m = 10)) (hs : s < 4) (hz : A (40 + 2 * s) 2 = nI z) (hz40 : z ≤ 40) (hp : p < n) (P : Nat → Prop) (hP : ∀ k, P k ↔ unlV (LamW (W t)) n (fun k => A (41 + 2 * s) k) z 0 (au (vX A 1) f p (nI k)) = -1) (hE : ∀ B R', scX A B → scR R R' → E (some (.int (bitsV P m))) (B, R', G)) :
    ∀ (i k : Nat) (B : Nat → Nat → Int32) (R' : Nat → Nat → Option Nat) (d3 : Option Value), k + i = m → scX A B → scR R R' → aw tX4_kinds E 34 [some (.ref 0), some (.int (nI s)), some (.int (nI p)), some (.int x3), d3, some (.int (bitsV P k)), some (.int (nI k))] [] (B, R', G)
  | 0, k, B, R', d3, hk, hj, hr => by
    have hk2 : k = m := by omega
    subst hk2
    rcases hf with ⟨h1, _, rfl⟩ | ⟨h1, _, rfl⟩
    · exact sX4_kinds_34 hJ.gs _ _ _ _ _ _ (br_t h1 (br_t (by decide) (hE B R' hj hr)))
    · exact sX4_kinds_34 hJ.gs _ _ _ _ _ _ (br_f h1 (br_t (by decide) (hE B R' hj hr)))
  | i + 1, k, B, R', d3, hk, hj, hr => by
    have hn6 := hJ.n6
    obtain ⟨A1, hC, h1, hB, _, hv⟩ := thk (hJ.goX hj hr)
    rw [hj.hX] at hv
    have hi : invD n (au (vX A1 11) f p (nI k)) := inv_au hB.2.2.1 (by omega) (fun q => ⟨nI_nn (by omega), nI_le (a := k) (b := 5) (by omega) (by omega)⟩) (fun q => by omega) (fun q => by omega)
    obtain ⟨hB2, hv2⟩ := hB.m (f := f) (by omega) hi
    have hv3 : eqV n (vX (au A1 (11 + (f + 1)) p (nI k)) 11) (au (vX A 1) f p (nI k)) := by rw [hv2]; exact hv.sy.au rfl
    obtain ⟨A2, h2, hC2⟩ := fo_x hJ ((hj.tr h1).tr (sc11 (by omega))) (hr.tr scR.th) hB2 hv3 hs hz hz40
    have ih := fun d3 => lX4_kin hJ hf hs hz hz40 hp P hP hE i (k + 1) A2 (ar R' 11 14 (some (tw t))) d3 (by omega) h2 (hr.tr scR.th)
    rw [bitsV_s] at ih
    have hx : vp_in (nI p) 6 := vp_in_nI (by omega) (by omega)
    have h88 : ∀ d4 : Option Value, aw tX4_kinds E 88 [some (.ref 0), some (.int (nI s)), some (.int (nI p)), some (.int x3), d4, some (.int (bitsV P k)), some (.int (nI k))] [.int (unlV (LamW (W t)) n (fun k => A (41 + 2 * s) k) z 0 (au (vX A 1) f p (nI k)))] (A2, ar R' 11 14 (some (tw t)), G) := by
      intro d4
      refine sX4_kinds_88 _ _ _ _ _ _ _ ⟨fun q => ?_, fun q => ?_⟩
      · rw [if_pos ((hP k).mpr q)] at ih
        rw [nI_1]
        exact ih _
      · rw [if_neg (fun z => q ((hP k).mp z))] at ih
        rw [nI_1]
        exact ih _
    rcases hf with ⟨h3, rfl, rfl⟩ | ⟨h3, rfl, rfl⟩
    · refine sX4_kinds_34 hJ.gs _ _ _ _ _ _ (br_t h3 (br_f (nI_ge (a := k) (b := 6) (by omega) (by omega)) ⟨_, hC, sX4_kinds_54 hJ.gs _ _ _ _ _ _ (br_t h3 ⟨hx, ?_⟩)⟩))
      rw [nI_clamp (by omega)]
      exact ⟨_, _, hC2, h88 _⟩
    · refine sX4_kinds_34 hJ.gs _ _ _ _ _ _ (br_f h3 (br_f (nI_ge (a := k) (b := 10) (by omega) (by omega)) ⟨_, hC, sX4_kinds_54 hJ.gs _ _ _ _ _ _ (br_f h3 ⟨hx, ?_⟩)⟩))
      rw [nI_clamp (by omega)]
      exact ⟨_, _, hC2, h88 _⟩
theorem lX5_kin {E : aR} (hJ : sJ n t T W A R G) {s z p f m : Nat} {x3 : Int32} (hf : (x3 = 0 ∧ f = 0 ∧ m = 6) ∨ (x3 = 1 ∧ f = 1 ∧ m = 10)) (hs : s < 4) (hz : A 59 s = nI z) (hz40 : z ≤ 40) (hp : p < n) (P : Nat → Prop) (hP : ∀ k, P k ↔ unlV (LamW (W t)) n (fun k => A (41 + 2 * s) k) z 0 (au (vM A) f p (nI k)) = -1) (hE : ∀ B, scM A B → E (some (.int (bitsV P m))) (B, R, G)) :
    ∀ (i k : Nat) (B : Nat → Nat → Int32) (d4 : Option Value) (y : Int32), k + i = m → mdM (au (vM A) f p y) A B → aw tX5_kinds E 60 [some (.ref 48), some (.int (nI s)), some (.int (nI p)), some (.int x3), d4, some (.int (vM A 0 p)), some (.int (vM A 1 p)), some (.int (bitsV P k)), some (.int (nI k))] [] (B, R, G)
  | 0, k, B, d4, y, hk, hj => by
    have hn6 := hJ.n6
    have hk2 : k = m := by omega
    subst hk2
    have h1 := (hj.set (o := 49) (k := p) (x := vM A 0 p) (by omega) vM_0).set (o := 50) (k := p) (x := vM A 1 p) (by omega) vM_1
    have hx : vp_in (nI p) 6 := vp_in_nI (by omega) (by omega)
    have h2 : scM A (au (au B 49 p (vM A 0 p)) 50 p (vM A 1 p)) := by
      rcases hf with ⟨_, rfl, _⟩ | ⟨_, rfl, _⟩
      · rw [au_au, au_self, au_self] at h1
        exact h1
      · rw [au_same (show au (vM A) 1 p y 0 p = vM A 0 p from au_v (by omega)), au_au, au_self] at h1
        exact h1
    have h9 := hE _ h2
    rcases hf with ⟨h3, _, rfl⟩ | ⟨h3, _, rfl⟩
    · refine sX5_kinds_60 hJ.gs _ _ _ _ _ _ _ _ (br_t h3 (br_t (by decide) ⟨hx, ?_⟩))
      rw [nI_clamp (by omega)]
      exact h9
    · refine sX5_kinds_60 hJ.gs _ _ _ _ _ _ _ _ (br_f (by rw [h3]; decide) (br_t (by decide) ⟨hx, ?_⟩))
      rw [nI_clamp (by omega)]
      exact h9
  | i + 1, k, B, d4, y, hk, hj => by
    have hn6 := hJ.n6
    have hx : vp_in (nI p) 6 := vp_in_nI (by omega) (by omega)
    have go : ∀ D, mdM (au (vM A) f p (nI k)) A D → ∃ (v1 : Int32) (μ1 : aM), CX5_unlike [.ref 48, .int (nI s)] (D, R, G) (some (.int v1)) μ1 ∧ aw tX5_kinds E 118 [some (.ref 48), some (.int (nI s)), some (.int (nI p)), some (.int x3), none, some (.int (vM A 0 p)), some (.int (vM A 1 p)), some (.int (bitsV P k)), some (.int (nI k))] [.int v1, .int (bitsV P k)] μ1 := by
      intro D hD
      obtain ⟨C, h2, hC⟩ := un_m (R1 := R) hJ hD hs hz hz40
      have ih := fun d4 => lX5_kin hJ hf hs hz hz40 hp P hP hE i (k + 1) C d4 _ (by omega) h2
      rw [bitsV_s] at ih
      refine ⟨_, _, hC, sX5_kinds_118 _ _ _ _ _ _ _ _ _ _ ⟨fun q => ?_, fun q => ?_⟩⟩
      · rw [if_pos ((hP k).mpr q)] at ih
        rw [nI_1]
        exact ih _
      · rw [if_neg (fun z => q ((hP k).mp z))] at ih
        rw [nI_1, or0]
        exact ih _
    rcases hf with ⟨h3, rfl, rfl⟩ | ⟨h3, rfl, rfl⟩
    · refine sX5_kinds_60 hJ.gs _ _ _ _ _ _ _ _ (br_t h3 (br_f (nI_ge (a := k) (b := 6) (by omega) (by omega)) ⟨hx, br_f (by rw [h3]; decide) ?_⟩))
      rw [nI_clamp (by omega)]
      refine go _ ?_
      have h1 := (hj.set (o := 49) (k := p) (x := nI k) (by omega) vM_0).set (o := 50) (k := p) (x := vM A 1 p) (by omega) vM_1
      rw [au_au, au_same (show au (vM A) 0 p (nI k) 1 p = vM A 1 p from au_v (by omega))] at h1
      exact h1
    · refine sX5_kinds_60 hJ.gs _ _ _ _ _ _ _ _ (br_f (by rw [h3]; decide) (br_f (nI_ge (a := k) (b := 10) (by omega) (by omega)) ⟨hx, br_t h3 ?_⟩))
      rw [nI_clamp (by omega)]
      refine go _ ?_
      have h1 := (hj.set (o := 49) (k := p) (x := vM A 0 p) (by omega) vM_0).set (o := 50) (k := p) (x := nI k) (by omega) vM_1
      rw [au_same (show au (vM A) 1 p y 0 p = vM A 0 p from au_v (by omega)), au_au] at h1
      exact h1
theorem c_kinds (hJ : sJ n t T W A R G) (x1 x2 x3 : Int32) : bthI T W CX4_kinds CX5_kinds [.int x1, .int x2, .int x3] A R G := by
  have hG := hJ.gs
  have hn6 := hJ.n6
  by_cases h0 : wrgV A x1 = 0
  case neg => exact qry0 hJ _ (aC_of (Nat.le_of_ble_eq_true rfl) fun E hE => sX4_kinds_0 hG _ _ _ ⟨_, _, qX4_refusal2 hJ x1 x2 _ (Or.inl ⟨h0, rfl⟩), sX4_kinds_6 _ _ _ _ _ _ _ (br_f h0 hE)⟩) (aC_of (Nat.le_of_ble_eq_true rfl) fun E hE => sX5_kinds_0 hG _ _ _ ⟨_, _, qX5_wrong hG x1, sX5_kinds_5 hG _ _ _ _ _ _ _ _ _ (br_f h0 hE)⟩)
  by_cases h1 : ∃ k, k < n ∧ x2 = nI k
  case neg => exact qry0 hJ _ (aC_of (Nat.le_of_ble_eq_true rfl) fun E hE => sX4_kinds_0 hG _ _ _ ⟨_, _, qX4_refusal2 hJ x1 x2 _ (Or.inr (Or.inr ⟨h0, h1, rfl⟩)), sX4_kinds_6 _ _ _ _ _ _ _ (br_f (by decide) hE)⟩) (aC_of (Nat.le_of_ble_eq_true rfl) fun E hE => sX5_kinds_0 hG _ _ _ ⟨_, _, qX5_wrong hG x1, sX5_kinds_5 hG _ _ _ _ _ _ _ _ _ (br_t h0 (br_f (nPm hJ h1) hE))⟩)
  obtain ⟨p, hp, rfl⟩ := h1
  have hx : vp_in (nI p) 6 := vp_in_nI (by omega) (by omega)
  have hr := Or.inr (a := ¬ wrgV A x1 = 0 ∧ (0 : Int32) = wrgV A x1) (Or.inl (b := wrgV A x1 = 0 ∧ (¬ ∃ k, k < n ∧ nI p = nI k) ∧ (0 : Int32) = -5) (⟨h0, ⟨p, hp, rfl⟩, rfl⟩ : wrgV A x1 = 0 ∧ (∃ k, k < n ∧ nI p = nI k) ∧ (0 : Int32) = 0))
  by_cases h3 : 0 ≤ x3 ∧ x3 ≤ 1
  case neg => exact qry0 hJ _ (aC_of (Nat.le_of_ble_eq_true rfl) fun E hE => sX4_kinds_0 hG _ _ _ ⟨_, _, qX4_refusal2 hJ x1 _ _ hr, sX4_kinds_6 _ _ _ _ _ _ _ (br_t rfl (br_f h3 hE))⟩) (aC_of (Nat.le_of_ble_eq_true rfl) fun E hE => sX5_kinds_0 hG _ _ _ ⟨_, _, qX5_wrong hG x1, sX5_kinds_5 hG _ _ _ _ _ _ _ _ _ (br_t h0 (br_t (yPm hJ hp) (br_f h3 hE)))⟩)
  obtain ⟨s, z, hs, rfl, hz, hz1, hz2⟩ := wrg_0 hJ h0
  obtain ⟨f, m, hf⟩ : ∃ f m, (x3 = 0 ∧ f = 0 ∧ m = 6) ∨ (x3 = 1 ∧ f = 1 ∧ m = 10) := by
    obtain ⟨k, hk, rfl⟩ := rngI 1 (by omega) h3
    match k, hk with
    | 0, _ => exact ⟨0, 6, Or.inl ⟨rfl, rfl, rfl⟩⟩
    | 1, _ => exact ⟨1, 10, Or.inr ⟨rfl, rfl, rfl⟩⟩
  have hf' : (x3 = 0 ∧ f = 0 ∧ m = 6) ∨ (¬ x3 = 0 ∧ f = 1 ∧ m = 10) := hf.imp id fun q => ⟨by rw [q.1]; decide, q.2⟩
  refine qry hJ (bitsV (fun k => unlV (LamW (W t)) n (fun k => A (41 + 2 * s) k) z 0 (au (vX A 1) f p (nI k)) = -1) m) ?_ fun A' R' hJ' hs' hv => ?_
  · refine aC_exM vX4_kinds (Nat.le_of_ble_eq_true rfl) fun E hE => ?_
    exact sX4_kinds_0 hG _ _ _ ⟨_, _, qX4_refusal2 hJ _ _ _ hr, sX4_kinds_6 _ _ _ _ _ _ _ (br_t rfl (br_t h3 (lX4_kin hJ hf' hs hz1 (by omega) hp _ (fun k => Iff.rfl) (fun B R' h1 h2 => hE B R' ⟨h1, h2⟩) m 0 A R _ (by omega) scX.rf scR.rf)))⟩
  · have e4 : A' (41 + 2 * s) = A (41 + 2 * s) := hs' _ (by omega) (by omega) (by omega)
    refine aC_exA vX5_kinds (Nat.le_of_ble_eq_true rfl) fun E hE => ?_
    refine sX5_kinds_0 hG _ _ _ ⟨_, _, qX5_wrong hG _, sX5_kinds_5 hG _ _ _ _ _ _ _ _ _ (br_t (by rw [wrg_c hs']; exact h0) (br_t (yPm hJ' hp) (br_t h3 ⟨hx, ?_⟩)))⟩
    rw [nI_clamp (by omega)]
    refine lX5_kin (E := E) hJ' hf hs (z := z) (by rw [hs' 59 (by omega) (by omega) (by omega)]; exact hz2) (by omega) hp _ (fun k => ?_) (fun B h1 => hE B h1) m 0 A' _ (vM A' f p) (by omega) ?_
    · rw [hv, e4, unlV_c z 0 (hJ.vv.au (Eq.refl _)) (fun _ _ _ => rfl)]
    · rw [au_self]; exact scM.rf
end CC
