section XC
variable {A : Nat → Nat → Int32} {R : Nat → Nat → Option Nat} {G : Nat → Nat × Nat} {b w n : Nat} {Λ : aLm}
theorem lX0_casesFor {E : aR} (hb : aGb G b) (hL : LXA A R G b w Λ) (hi : invV n (vX A b)) (hn6 : n ≤ 6) (hT : tI A b) {p : Nat} (hp : p < n) (hE : ∀ A', jX b w A A' → E (some (.int (casesV Λ (vX A b) p))) (A', R, G)) :
    ∀ (m k : Nat) (B : Nat → Nat → Int32), k + m = 8 → jX b w A B → aw tX0_casesFor E 4 [some (.ref b), some (.int (nI p)), some (.int (bitsV (fun c => ¬ vX A b 5 c = 0 ∧ mayV Λ (vX A b) p c) k)), some (.int (nI k))] [] (B, R, G)
  | 0, k, B, hk, hj => by
    have hk2 : k = 8 := by omega
    subst hk2
    exact sX0_casesFor_4 hb _ _ _ ⟨fun _ => hE B hj, fun h => absurd (nI_le (a := 8) (b := 8) (by omega) (by omega)) h⟩
  | m + 1, k, B, hk, hj => by
    have hw := hL.1
    have hT2 : tI B b := (hj.d hw).t hw hT
    have ih := fun C hC => lX0_casesFor hb hL hi hn6 hT hp hE m (k + 1) C (by omega) hC
    refine sX0_casesFor_4 hb _ _ _ ⟨fun h => absurd h (nI_ge (a := k) (b := 8) (by omega) (by omega)), fun _ => ⟨fun ht => ?_, fun ht => ?_⟩⟩
    · rw [thX_bt (by omega)] at ht
      have ht5 := (bt_v5 hT2 (by omega)).mp ht
      rw [hj.v hw] at ht5
      obtain ⟨B1, hj1, hC⟩ := qX0_may hb (hj.L hL) (by rw [hj.v hw]; exact hi) hp hn6 (c := k) (by omega) ht
      rw [hj.v hw] at hC
      have ih := ih B1 (hj.tr hj1)
      unfold bitsV at ih
      refine ⟨_, _, hC, sX0_casesFor_24 hb _ _ _ _ ⟨fun h => ?_, fun h => ?_⟩⟩
      · rw [nI_1]
        rw [if_neg (fun q => bI_ne q.2 h)] at ih
        exact ih
      · rw [nI_1]
        have hm : mayV Λ (vX A b) p k := Classical.byContradiction fun q => h (bI_f q)
        rw [if_pos ⟨ht5, hm⟩] at ih
        exact ih
    · rw [thX_bt (by omega), bt_v5 hT2 (by omega), hj.v hw] at ht
      have ih := ih B hj
      unfold bitsV at ih
      rw [if_neg (fun q => ht q.1)] at ih
      rw [nI_1]
      exact ih
theorem qX0_casesFor (hb : aGb G b) (hL : LXA A R G b w Λ) (hi : invV n (vX A b)) (hn6 : n ≤ 6) (hT : tI A b) {p : Nat} (hp : p < n) : ∃ A', jX b w A A' ∧ CX0_casesFor [.ref b, .int (nI p)] (A, R, G) (some (.int (casesV Λ (vX A b) p))) (A', R, G) := by
  refine aC_exA vX0_casesFor (Nat.le_of_ble_eq_true rfl) fun E hE => ?_
  exact sX0_casesFor_0 hb _ (lX0_casesFor hb hL hi hn6 hT hp hE 8 0 A (by omega) jX.rf)
theorem lX0_judgesFor {E : aR} (hb : aGb G b) (hL : LXA A R G b w Λ) (hn : A b 9 = nI n) (hi : invV n (vX A b)) (hn6 : n ≤ 6) {c : Nat} (hc : c < 8) (ht : bt (A b 10) c = true) (hE : ∀ A', jX b w A A' → E (some (.int (judgesV Λ n (vX A b) c))) (A', R, G)) :
    ∀ (m k : Nat) (B : Nat → Nat → Int32), k + m = n → jX b w A B → aw tX0_judgesFor E 4 [some (.ref b), some (.int (nI c)), some (.int (bitsV (fun p => mayV Λ (vX A b) p c) k)), some (.int (nI k))] [] (B, R, G)
  | 0, k, B, hk, hj => by
    have h0 : B b = A b := hj.e hL.1 (k := 0) (by omega)
    have hk2 : k = n := by omega
    subst hk2
    exact sX0_judgesFor_4 hb _ _ _ ⟨fun _ => hE B hj, fun h => absurd (by rw [h0, hn]; exact nI_le (by omega) (by omega)) h⟩
  | m + 1, k, B, hk, hj => by
    have hw := hL.1
    have h0 : B b = A b := hj.e hw (k := 0) (by omega)
    refine sX0_judgesFor_4 hb _ _ _ ⟨fun h => absurd h (by rw [h0, hn]; exact nI_ge (by omega) (by omega)), fun _ => ?_⟩
    obtain ⟨B1, hj1, hC⟩ := qX0_may (n := n) hb (hj.L hL) (by rw [hj.v hw]; exact hi) (p := k) (by omega) hn6 hc (by rw [h0]; exact ht)
    rw [hj.v hw] at hC
    have ih := lX0_judgesFor hb hL hn hi hn6 hc ht hE m (k + 1) B1 (by omega) (hj.tr hj1)
    unfold bitsV at ih
    refine ⟨_, _, hC, sX0_judgesFor_18 hb _ _ _ _ ⟨fun h => ?_, fun h => ?_⟩⟩
    · rw [nI_1]
      rw [if_neg (fun q => bI_ne q h)] at ih
      exact ih
    · rw [nI_1]
      have hm : mayV Λ (vX A b) k c := Classical.byContradiction fun q => h (bI_f q)
      rw [if_pos hm] at ih
      exact ih
theorem qX0_judgesFor (hb : aGb G b) (hL : LXA A R G b w Λ) (hn : A b 9 = nI n) (hi : invV n (vX A b)) (hn6 : n ≤ 6) {c : Nat} (hc : c < 8) (ht : bt (A b 10) c = true) : ∃ A', jX b w A A' ∧ CX0_judgesFor [.ref b, .int (nI c)] (A, R, G) (some (.int (judgesV Λ n (vX A b) c))) (A', R, G) := by
  refine aC_exA vX0_judgesFor (Nat.le_of_ble_eq_true rfl) fun E hE => ?_
  exact sX0_judgesFor_0 hb _ (lX0_judgesFor hb hL hn hi hn6 hc ht hE n 0 A (by omega) jX.rf)
theorem lX0_whoCan {E : aR} (hb : aGb G b) (hL : LXA A R G b w Λ) (hn : A b 9 = nI n) (hi : invV n (vX A b)) (hn6 : n ≤ 6) {c : Nat} (hc : c < 8) (ht : bt (A b 10) c = true) (hE : ∀ A', jX b w A A' → E (some (.int (whoV Λ n (vX A b) c))) (A', R, G)) :
    ∀ (m k : Nat) (B : Nat → Nat → Int32), k + m = n → jX b w A B → aw tX0_whoCan E 4 [some (.ref b), some (.int (nI c)), some (.int (bitsV (fun p => canV Λ (vX A b) p c) k)), some (.int (nI k))] [] (B, R, G)
  | 0, k, B, hk, hj => by
    have h0 : B b = A b := hj.e hL.1 (k := 0) (by omega)
    have hk2 : k = n := by omega
    subst hk2
    exact sX0_whoCan_4 hb _ _ _ ⟨fun _ => hE B hj, fun h => absurd (by rw [h0, hn]; exact nI_le (by omega) (by omega)) h⟩
  | m + 1, k, B, hk, hj => by
    have hw := hL.1
    have h0 : B b = A b := hj.e hw (k := 0) (by omega)
    refine sX0_whoCan_4 hb _ _ _ ⟨fun h => absurd h (by rw [h0, hn]; exact nI_ge (by omega) (by omega)), fun _ => ?_⟩
    obtain ⟨B1, hj1, hC⟩ := qX0_can (n := n) hb (hj.L hL) (by rw [hj.v hw]; exact hi) (p := k) (by omega) hn6 hc (by rw [h0]; exact ht)
    rw [hj.v hw] at hC
    have ih := lX0_whoCan hb hL hn hi hn6 hc ht hE m (k + 1) B1 (by omega) (hj.tr hj1)
    unfold bitsV at ih
    refine ⟨_, _, hC, sX0_whoCan_18 hb _ _ _ _ ⟨fun h => ?_, fun h => ?_⟩⟩
    · rw [nI_1]
      rw [if_neg (fun q => bI_ne q h)] at ih
      exact ih
    · rw [nI_1]
      have hm : canV Λ (vX A b) k c := Classical.byContradiction fun q => h (bI_f q)
      rw [if_pos hm] at ih
      exact ih
theorem qX0_whoCan (hb : aGb G b) (hL : LXA A R G b w Λ) (hn : A b 9 = nI n) (hi : invV n (vX A b)) (hn6 : n ≤ 6) {c : Nat} (hc : c < 8) (ht : bt (A b 10) c = true) : ∃ A', jX b w A A' ∧ CX0_whoCan [.ref b, .int (nI c)] (A, R, G) (some (.int (whoV Λ n (vX A b) c))) (A', R, G) := by
  refine aC_exA vX0_whoCan (Nat.le_of_ble_eq_true rfl) fun E hE => ?_
  exact sX0_whoCan_0 hb _ (lX0_whoCan hb hL hn hi hn6 hc ht hE n 0 A (by omega) jX.rf)
theorem lX0_allWaited {E : aR} (hb : aGb G b) (hT : tI A b) (hE : E (some (.int (waitV (vX A b) 8))) (A, R, G)) :
    ∀ (m k : Nat), k + m = 8 → aw tX0_allWaited E 4 [some (.ref b), some (.int (waitV (vX A b) k)), some (.int (nI k))] [] (A, R, G)
  | 0, k, hk => by
    have hk2 : k = 8 := by omega
    subst hk2
    exact sX0_allWaited_4 hb _ _ ⟨fun _ => hE, fun h => absurd (nI_le (a := 8) (b := 8) (by omega) (by omega)) h⟩
  | m + 1, k, hk => by
    have ih := lX0_allWaited hb hT hE m (k + 1) (by omega)
    unfold waitV at ih
    refine sX0_allWaited_4 hb _ _ ⟨fun h => absurd h (nI_ge (a := k) (b := 8) (by omega) (by omega)), fun _ => ⟨fun ht => ?_, fun ht => ?_⟩⟩
    · rw [thX_bt (by omega), bt_v5 hT (by omega)] at ht
      simp (disch := omega) only [nI_clamp, nI_1]
      rw [if_neg ht] at ih
      exact ⟨vp_in_nI (by omega) (by omega), ih⟩
    · rw [thX_bt (by omega), bt_v5 hT (by omega)] at ht
      rw [if_pos (Classical.byContradiction ht)] at ih
      rw [nI_1]
      exact ih
theorem qX0_allWaited (hb : aGb G b) (hT : tI A b) : CX0_allWaited [.ref b] (A, R, G) (some (.int (waitV (vX A b) 8))) (A, R, G) :=
  aC_of (Nat.le_of_ble_eq_true rfl) fun E hE => sX0_allWaited_0 hb (lX0_allWaited hb hT hE 8 0 (by omega))
/-- bench b became bench x -/
def becX (b x : Nat) (A A' : Nat → Nat → Int32) : Prop := (∀ o, (o < b ∨ b + 9 ≤ o) → A' o = A o) ∧ (∀ k, k < 5 → ∀ i, i < 6 → A' (b + (k + 1)) i = A (x + (k + 1)) i) ∧ (∀ k, 5 ≤ k → k < 8 → ∀ i, i < 8 → A' (b + (k + 1)) i = A (x + (k + 1)) i) ∧ ∀ k, 9 ≤ k → k < 14 → A' b k = A x k
theorem cpy0 {f g : Nat → Int32} {m i : Nat} (h : i < m) : va_cpy f g 0 0 m i = f i := by
  unfold va_cpy
  rw [if_pos ⟨Nat.zero_le _, by omega⟩]
  congr 1
  omega
theorem z00 : (0 : Int32).toNatClampNeg = 0 := rfl
theorem z06 : (6 : Int32).toNatClampNeg = 6 := rfl
theorem z08 : (8 : Int32).toNatClampNeg = 8 := rfl
theorem ap_at {A : Nat → Nat → Int32} {o : Nat} {f : Nat → Int32} : ap A o f o = f := if_pos rfl
theorem aC_exR {tb : aT} (hl : aVl tb) {n : Nat} {args : List Value} {A : Nat → Nat → Int32} {R R' : Nat → Nat → Option Nat} {G : Nat → Nat × Nat} {Q : (Nat → Nat → Int32) → Prop} {r : Option Value} (hf : aFit args n) (h : ∀ E : aR, (∀ A', Q A' → E r (A', R', G)) → aw tb E 0 (aent args n) [] (A, R, G)) : ∃ A', Q A' ∧ aCl tb n args (A, R, G) r (A', R', G) := by
  obtain ⟨r1, μ1, h1, h2⟩ := aC_ex hl (E := fun r1 μ1 => ∃ A', Q A' ∧ r1 = r ∧ μ1 = (A', R', G)) hf (h _ fun A' hA => ⟨A', hA, rfl, rfl⟩)
  obtain ⟨A', hA, e1, e2⟩ := h1
  subst e1
  subst e2
  exact ⟨A', hA, h2⟩
theorem qX0_become {x : Nat} (hb : aGb G b) (hx : aGb G x) (hd : b + 10 ≤ x ∨ x + 10 ≤ b) (hR : R x 14 = some w) : ∃ A', becX b x A A' ∧ CX0_become [.ref b, .ref x] (A, R, G) none (A', ar R b 14 (some w), G) := by
  refine aC_exR vX0_become (Nat.le_of_ble_eq_true rfl) fun E hE => ?_
  refine sX0_become_0 hb hx (sX0_become_15 hb hx (sX0_become_30 hb hx (sX0_become_45 hb hx (sX0_become_60 hb hx (sX0_become_75 hb hx (sX0_become_90 hb hx (sX0_become_105 hb hx (sX0_become_120 hb hx (sX0_become_152 hb hx ⟨w, hR, hE _ ?_⟩)))))))))
  simp only [z00, z06, z08]
  refine ⟨fun o ho => ?_, fun k hk i hi => ?_, fun k h5 hk i hi => ?_, fun k h9 h14 => ?_⟩
  · repeat (first | rw [au_o (by omega)] | rw [ap_ne (by omega)])
  · have hne : ∀ o, o = x + (k + 1) → ¬ (b ≤ o ∧ o < b + 9) := by omega
    rcases k with _ | _ | _ | _ | _ | k <;> (try omega)
    all_goals (repeat (first | rw [au_o (by omega)] | rw [ap_ne (by omega)] | rw [ap_at] | rw [cpy0 hi]))
  · have hk3 : k = 5 ∨ k = 6 ∨ k = 7 := by omega
    rcases hk3 with rfl | rfl | rfl
    all_goals (repeat (first | rw [au_o (by omega)] | rw [ap_ne (by omega)] | rw [ap_at] | rw [cpy0 hi]))
  · have hk5 : k = 9 ∨ k = 10 ∨ k = 11 ∨ k = 12 ∨ k = 13 := by omega
    rcases hk5 with rfl | rfl | rfl | rfl | rfl
    all_goals (repeat (first | rw [au_k] | rw [au_j (by omega)] | rw [au_o (by omega)] | rw [ap_ne (by omega)]))
theorem becX.v {x : Nat} {A' : Nat → Nat → Int32} (h : becX b x A A') : eqV 6 (vX A x) (vX A' b) := by
  refine ⟨fun f hf p hp => ?_, fun f h5 h8 c hc => ?_, fun k => ?_⟩
  · rcases f with _ | _ | _ | _ | _ | f
    · exact (h.2.1 0 (by omega) p hp).symm
    · exact (h.2.1 1 (by omega) p hp).symm
    · exact (h.2.1 2 (by omega) p hp).symm
    · exact (h.2.1 3 (by omega) p hp).symm
    · exact (h.2.1 4 (by omega) p hp).symm
    · omega
  · have hf : f = 5 ∨ f = 6 ∨ f = 7 := by omega
    rcases hf with rfl | rfl | rfl
    · show (if c < 8 ∧ bt (A x 10) c = true then A (x + 6) c else 0) = (if c < 8 ∧ bt (A' b 10) c = true then A' (b + 6) c else 0)
      rw [h.2.2.2 10 (by omega) (by omega), show A' (b + 6) c = A (x + 6) c from h.2.2.1 5 (by omega) (by omega) c hc]
    · exact (h.2.2.1 6 (by omega) (by omega) c hc).symm
    · exact (h.2.2.1 7 (by omega) (by omega) c hc).symm
  · rcases k with _ | _ | _ | k
    · exact (h.2.2.2 9 (by omega) (by omega)).symm
    · exact (h.2.2.2 11 (by omega) (by omega)).symm
    · exact (h.2.2.2 12 (by omega) (by omega)).symm
    · rfl
theorem becX.t {x : Nat} {A' : Nat → Nat → Int32} (h : becX b x A A') (ht : tI A x) : tI A' b := fun c hc q => by
  rw [h.2.2.2 10 (by omega) (by omega)] at q
  rw [show A' (b + 6) c = A (x + 6) c from h.2.2.1 5 (by omega) (by omega) c hc]
  exact ht c hc q
end XC
