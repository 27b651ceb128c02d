/-- the model's memory B stands as A does, but for the law in force -/
def mdL (A B : Nat → Nat → Int32) : Prop := (∀ o, (o < 48 ∨ 52 < o) → (o < 64 ∨ 68 < o) → B o = A o) ∧ (∀ k, ¬ k = 5 → ¬ k = 6 → ¬ k = 12 → ¬ k = 34 → B 48 k = A 48 k) ∧ eqV 6 (vM A) (vM B)
section CE
variable {A A' B C : Nat → Nat → Int32} {R R' R1 : Nat → Nat → Option Nat} {G : Nat → Nat × Nat} {n t T w t' : Nat} {W : Nat → Nat → List Nat} {Λ : aLm} {v u : aV}
theorem vX_no {b k : Nat} {x : Int32} (h9 : ¬ k = 9) (h10 : ¬ k = 10) (h11 : ¬ k = 11) (h12 : ¬ k = 12) : vX (au A b k x) b = vX A b := by
  funext f i
  have e1 : ∀ j, au A b k x (b + (j + 1)) = A (b + (j + 1)) := fun j => au_o (by omega)
  have e9 : au A b k x b 9 = A b 9 := au_j (by omega)
  have e10 : au A b k x b 10 = A b 10 := au_j (by omega)
  have e11 : au A b k x b 11 = A b 11 := au_j (by omega)
  have e12 : au A b k x b 12 = A b 12 := au_j (by omega)
  rcases f with _ | _ | _ | _ | _ | _ | _ | _ | _ | f
  · exact congrFun (e1 0) i
  · exact congrFun (e1 1) i
  · exact congrFun (e1 2) i
  · exact congrFun (e1 3) i
  · exact congrFun (e1 4) i
  · show (if i < 8 ∧ bt (au A b k x b 10) i = true then au A b k x (b + (5 + 1)) i else 0) = _
    rw [e10, e1 5]; rfl
  · exact congrFun (e1 6) i
  · exact congrFun (e1 7) i
  · rcases i with _ | _ | _ | i
    · exact e9
    · exact e11
    · exact e12
    · rfl
  · rfl
theorem qX0_obey {b : Nat} (hb : aGb G b) (x1 : Nat) (x2 : Int32) : CX0_obey [.ref b, .ref x1, .int x2] (A, R, G) none (au A b 13 x2, ar R b 14 (some x1), G) := aC_of (Nat.le_of_ble_eq_true rfl) fun E hE => sX0_obey_0 hb _ _ hE
theorem ar_at {o k : Nat} {x : Option Nat} : ar R o k x o k = x := if_pos ⟨rfl, rfl⟩
theorem sJ.txt (hJ : sJ n t T W A R G) {k : Nat} (hk : k < T) : R 37 k = some (tw k) := (hJ.2.2.1.2.2.2.2 k hk).1
theorem sJ.T6 (hJ : sJ n t T W A R G) : T ≤ 6 := hJ.2.2.1.2.1
theorem sJ.tX (hJ : sJ n t T W A R G) : A 0 5 = nI T := hJ.2.2.1.2.2.1
theorem sJ.tM (hJ : sJ n t T W A R G) : A 48 11 = nI T := hJ.2.2.1.2.2.2.1
theorem sJ.lxk (hJ : sJ n t T W A R G) {k : Nat} (hk : k < T) (hs : scX A B) (hR : R1 11 14 = some (tw k)) : LXA B R1 G 11 (tw k) (LamW (W k)) := by
  obtain ⟨n1, h1, h2⟩ := (hJ.2.2.1.2.2.2.2 k hk).2.1
  refine ⟨by unfold tw; omega, hR, n1, h1, ?_⟩
  rw [hs (tw k + 1) (by unfold tw; omega) (by unfold tw; omega) (by unfold tw; omega), hs (tw k + 2) (by unfold tw; omega) (by unfold tw; omega) (by unfold tw; omega)]
  exact h2.L
theorem lX4_law {E : aR} (hJ : sJ n t T W A R G) {s z : Nat} (hs : s < 4) (hz : A (40 + 2 * s) 2 = nI z) (hz40 : z ≤ 40) (P : Nat → Prop) (hP : ∀ k, P k ↔ unlV (LamW (W k)) n (fun k => A (41 + 2 * s) k) z 0 (vX A 1) = -1) (hE : ∀ B R', scX A B → scR R R' → E (some (.int (bitsV P T))) (B, R', G)) :
    ∀ (i k : Nat) (B : Nat → Nat → Int32) (R' : Nat → Nat → Option Nat) (d2 : Option Value), k + i = T → scX A B → scR R R' → aw tX4_laws E 17 [some (.ref 0), some (.int (nI s)), d2, some (.int (bitsV P k)), some (.int (nI k))] [] (B, R', G)
  | 0, k, B, R', d2, hk, hj, hr => by
    have hT := hJ.T6
    have hk2 : k = T := by omega
    subst hk2
    refine sX4_laws_17 hJ.gs _ _ _ _ (br_t ?_ (hE B R' hj hr))
    rw [(hJ.goX hj hr).tX]; exact nI_le (by omega) (by omega)
  | i + 1, k, B, R', d2, hk, hj, hr => by
    have hn6 := hJ.n6
    have hT := hJ.T6
    have hJB := hJ.goX hj hr
    obtain ⟨A1, hC, h1, hB, _, hv⟩ := thk hJB
    rw [hj.hX] at hv
    have h13 : vX (au A1 11 13 (nI k)) 11 = vX A1 11 := vX_no (by omega) (by omega) (by omega) (by omega)
    have hs2 : scX A (au A1 11 13 (nI k)) := (hj.tr h1).tr (sc11 (by omega))
    have hr1 : scR R (ar R' 11 14 (some (tw t))) := hr.tr scR.th
    have hB2 : bnA 11 (tw k) n (LamW (W k)) (au A1 11 13 (nI k)) (ar (ar R' 11 14 (some (tw t))) 11 14 (some (tw k))) G := ⟨hJ.lxk (by omega) hs2 ar_at, (au_j (by omega)).trans hB.2.1, by rw [h13]; exact hB.2.2.1, hB.2.2.2.go (au_j (by omega)) (au_o (by omega))⟩
    obtain ⟨A2, h2, hC2⟩ := fo_x hJ hs2 (hr1.tr scR.th) hB2 (by rw [h13]; exact hv.sy) hs hz hz40
    have ih := fun d2 => lX4_law hJ hs hz hz40 P hP hE i (k + 1) A2 _ d2 (by omega) h2 (hr1.tr (scR.th (x := some (tw k))))
    rw [bitsV_s] at ih
    refine sX4_laws_17 hJ.gs _ _ _ _ (br_f ?_ ⟨_, hC, sX4_laws_30 hJ.gs _ _ _ _ ⟨vp_in_nI (by omega) (by omega), tw k, ?_, _, qX0_obey (gB11 hJ.gs) _ _, sX4_laws_46 hJ.gs _ _ _ _ ⟨_, _, hC2, sX4_laws_51 _ _ _ _ _ ⟨fun q => ?_, fun q => ?_⟩⟩⟩⟩)
    · rw [hJB.tX]; exact nI_ge (by omega) (by omega)
    · rw [nI_clamp (by omega), hr1 37 (by omega)]; exact hJ.txt (by omega)
    · rw [if_pos ((hP k).mpr q)] at ih
      rw [nI_1]
      exact ih _
    · rw [if_neg (fun z => q ((hP k).mp z))] at ih
      rw [nI_1]
      exact ih _
theorem mdL.set {x : Int32} (h : mdL A B) : mdL A (au B 48 12 x) := by
  refine ⟨fun q h1 h2 => ?_, fun j h1 h2 h3 h4 => ?_, ?_⟩
  · rw [au_o (by omega)]; exact h.1 q h1 h2
  · rw [au_j (by omega)]; exact h.2.1 j h1 h2 h3 h4
  · rw [vM_no (by omega) (by omega) (by omega)]; exact h.2.2
theorem mdL.tr (h : mdL A B) (k : scM B C) : mdL A C := ⟨fun o h1 h2 => (k.1 o h1 h2).trans (h.1 o h1 h2), fun j h1 h2 h3 h4 => (k.2.1 j h1 h2 h4).trans (h.2.1 j h1 h2 h3 h4), h.2.2.tr k.2.2⟩
theorem lX5_law {E : aR} (hJ : sJ n t T W A R G) {s z : Nat} (hs : s < 4) (hz : A 59 s = nI z) (hz40 : z ≤ 40) (P : Nat → Prop) (hP : ∀ k, P k ↔ unlV (LamW (W k)) n (fun k => A (41 + 2 * s) k) z 0 (vM A) = -1) (hE : ∀ B, scM A B → E (some (.int (bitsV P T))) (B, R, G)) :
    ∀ (i k : Nat) (B : Nat → Nat → Int32) (d2 : Option Value), k + i = T → mdL A B → aw tX5_laws E 23 [some (.ref 48), some (.int (nI s)), d2, some (.int (A 48 12)), some (.int (bitsV P k)), some (.int (nI k))] [] (B, R, G)
  | 0, k, B, d2, hk, hj => by
    have hT := hJ.T6
    have hk2 : k = T := by omega
    subst hk2
    refine sX5_laws_23 hJ.gs _ _ _ _ _ (br_t ?_ (hE _ ?_))
    · rw [hj.2.1 11 (by omega) (by omega) (by omega) (by omega), hJ.tM]; exact nI_le (by omega) (by omega)
    · have h1 := hj.set (x := A 48 12)
      refine ⟨h1.1, fun j h5 h6 h34 => ?_, h1.2.2⟩
      by_cases e : j = 12
      · subst e; exact au_k
      · exact h1.2.1 j h5 h6 e h34
  | i + 1, k, B, d2, hk, hj => by
    have hn6 := hJ.n6
    have hT := hJ.T6
    have h1 := hj.set (x := nI k)
    have hL : LMA (au B 48 12 (nI k)) (LamW (W k)) := by
      refine ⟨k, au_k, ?_⟩
      rw [h1.1 54 (by omega) (by omega), h1.1 55 (by omega) (by omega)]
      exact (hJ.2.2.1.2.2.2.2 k (by omega)).2.2.L (by omega)
    obtain ⟨C, hj2, hC⟩ := qX5_unlike (R := R) hJ.gs hL (n := n) (by rw [h1.2.1 0 (by omega) (by omega) (by omega) (by omega)]; exact hJ.m0) hn6 hs hz40 (by rw [h1.1 59 (by omega) (by omega)]; exact hz)
    have e : unlV (LamW (W k)) n (fun j => au B 48 12 (nI k) 60 (40 * s + j)) z 0 (vM (au B 48 12 (nI k))) = unlV (LamW (W k)) n (fun k => A (41 + 2 * s) k) z 0 (vM A) := by
      refine unlV_c z 0 (h1.2.2.le hn6).sy fun j _ hj => ?_
      show au B 48 12 (nI k) 60 _ = A _ j
      rw [h1.1 60 (by omega) (by omega), hJ.cel hs (by omega)]
    rw [e] at hC
    have ih := fun d2 => lX5_law hJ hs hz hz40 P hP hE i (k + 1) C d2 (by omega) (h1.tr hj2.sc)
    rw [bitsV_s] at ih
    refine sX5_laws_23 hJ.gs _ _ _ _ _ (br_f ?_ ⟨_, _, hC, sX5_laws_45 _ _ _ _ _ _ _ ⟨fun q => ?_, fun q => ?_⟩⟩)
    · rw [hj.2.1 11 (by omega) (by omega) (by omega) (by omega), hJ.tM]; exact nI_ge (by omega) (by omega)
    · rw [if_pos ((hP k).mpr q)] at ih
      rw [nI_1]
      exact ih _
    · rw [if_neg (fun z => q ((hP k).mp z))] at ih
      rw [nI_1, or0]
      exact ih _
theorem c_laws (hJ : sJ n t T W A R G) (x1 : Int32) : bthI T W CX4_laws CX5_laws [.int x1] A R G := by
  have hG := hJ.gs
  have hn6 := hJ.n6
  by_cases h0 : wrgV A x1 = 0
  case neg => exact qry0 hJ _ (aC_of (Nat.le_of_ble_eq_true rfl) fun E hE => sX4_laws_0 hG _ ⟨_, _, qX4_refusal hJ x1, sX4_laws_5 _ _ _ _ _ (br_f h0 hE)⟩) (aC_of (Nat.le_of_ble_eq_true rfl) fun E hE => sX5_laws_0 hG _ ⟨_, _, qX5_wrong hG x1, sX5_laws_5 hG _ _ _ _ _ _ (br_f h0 hE)⟩)
  obtain ⟨s, z, hs, rfl, hz, hz1, hz2⟩ := wrg_0 hJ h0
  refine qry hJ (bitsV (fun k => unlV (LamW (W k)) n (fun k => A (41 + 2 * s) k) z 0 (vX A 1) = -1) T) ?_ fun A' R' hJ' hs' hv => ?_
  · refine aC_exM vX4_laws (Nat.le_of_ble_eq_true rfl) fun E hE => ?_
    exact sX4_laws_0 hG _ ⟨_, _, qX4_refusal hJ _, sX4_laws_5 _ _ _ _ _ (br_t h0 (lX4_law hJ hs hz1 (by omega) _ (fun k => Iff.rfl) (fun B R' h1 h2 => hE B R' ⟨h1, h2⟩) T 0 A R _ (by omega) scX.rf scR.rf))⟩
  · have e4 : A' (41 + 2 * s) = A (41 + 2 * s) := hs' _ (by omega) (by omega) (by omega)
    refine aC_exA vX5_laws (Nat.le_of_ble_eq_true rfl) fun E hE => ?_
    refine sX5_laws_0 hG _ ⟨_, _, qX5_wrong hG _, sX5_laws_5 hG _ _ _ _ _ _ (br_t (by rw [wrg_c hs']; exact h0) ?_)⟩
    refine lX5_law (E := E) hJ' hs (z := z) (by rw [hs' 59 (by omega) (by omega) (by omega)]; exact hz2) (by omega) _ (fun k => ?_) (fun B h1 => hE B h1) T 0 A' _ (by omega) ⟨fun _ _ _ => rfl, fun _ _ _ _ _ => rfl, eqV.rf⟩
    rw [hv, e4, unlV_c z 0 hJ.vv (fun _ _ _ => rfl)]
end CE
