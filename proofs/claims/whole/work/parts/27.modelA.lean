section MA
variable {A : Nat → Nat → Int32} {R : Nat → Nat → Option Nat} {G : Nat → Nat × Nat} {Λ : aLm}
theorem lX5_asks88 {E : aR} (hG : aGS G) (hL : LMA A Λ) {part : Nat} (hp : part < 3) {F : Nat → Int32} (hF : ∀ i, i < 6 → A 65 i = F i) (d2 d3 : Option Value) (hE : ∀ B', jM A B' → E (some (.int (clI (Λ part F) (if part = 2 then -99 else 0) 99))) (B', R, G)) : aw tX5_asksOf E 88 [some (.ref 48), some (.int (nI part)), d2, d3] [] (A, R, G) := by
  obtain ⟨t, ht, hLt⟩ := hL
  obtain ⟨st, hs⟩ := hLt A R G part F hG rfl rfl ht hp hF
  have hj : jM A (ap A 64 st) := fun o h1 _ => ap_ne h1
  have h9 := hE _ hj
  refine sX5_asksOf_88 hG _ d2 d3 ⟨_, _, hs, sX5_asksOf_93 (nI part) d2 d3 _ ⟨fun h => ?_, fun h => ?_⟩⟩
  · have h2 : part = 2 := (nI_eq (a := part) (b := 2) (by omega) (by omega)).mp h
    rw [if_pos h2] at h9
    exact h9
  · have h2 : ¬ part = 2 := fun q => h (by rw [q]; rfl)
    rw [if_neg h2] at h9
    exact h9
theorem qX5_asksOf (hG : aGS G) (hL : LMA A Λ) {part p c : Nat} (hp3 : part < 3) (hp : p < 6) (hc : c < 8) : ∃ A', jM A A' ∧ CX5_asksOf [.ref 48, .int (nI part), .int (nI p), .int (nI c)] (A, R, G) (some (.int (askV Λ (vM A) part p c))) (A', R, G) := by
  refine aC_exA vX5_asksOf (Nat.le_of_ble_eq_true rfl) fun E hE => ?_
  refine sX5_asksOf_0 hG (nI part) (nI p) (nI c) ?_
  simp (disch := omega) only [nI_mul3, nI_1, nI_clamp]
  refine ⟨vp_in_nI (by omega) (by omega), vp_in_nI (by omega) (by omega), vp_in_nI (by omega) (by omega), ?_⟩
  refine sX5_asksOf_49 hG (nI part) (nI p) _ ?_
  simp (disch := omega) only [nI_mul3, nI_clamp]
  refine ⟨vp_in_nI (by omega) (by omega), vp_in_nI (by omega) (by omega), ?_⟩
  refine lX5_asks88 (Λ := Λ) hG ?_ hp3 (F := fct (vM A) p c) ?_ _ _ ?_
  · exact hL.go rfl rfl rfl
  · intro i hi
    match i, hi with
    | 0, _ => rfl
    | 1, _ => rfl
    | 2, _ => rfl
    | 3, _ => rfl
    | 4, _ => rfl
    | 5, _ => rfl
    | i + 6, h => exact absurd h (by omega)
  · intro B' hB
    refine hE B' fun o h1 h2 => ?_
    rw [hB o h1 h2]
    simp only [au_o h2]
theorem lX5_may33 {E : aR} (hG : aGS G) {p c : Nat} (hp : p < 6) (d2 d5 d6 d7 : Option Value) (hE : ∀ P : Prop, P = mayV Λ (vM A) p c → E (some (.int (bI P))) (A, R, G)) : aw tX5_may E 33 [some (.ref 48), some (.int (nI p)), d2, some (.int (A 52 (3 * c))), some (.int (lackV (vM A) p c)), d5, d6, d7] [.int (askV Λ (vM A) 0 p c)] (A, R, G) := by
  refine sX5_may_33 hG (nI p) d2 _ _ d5 d6 d7 _ ?_
  simp (disch := omega) only [nI_mul3, nI_1, nI_clamp]
  have h1 : A 49 p = vM A 0 p := rfl
  have h2 : A 50 p = vM A 1 p := rfl
  have h3 : A 51 (3 * p + 1) = vM A 3 p := rfl
  have h4 : A 52 (3 * c) = vM A 5 c := rfl
  have h5 : A 48 5 = vM A 8 1 := rfl
  rw [h1, h2, h3, h4, h5]
  have e1 : ∀ d1 d2 d3 d7 : Option Value, vM A 0 p = 1 → aw tX5_may E 112 [some (.ref 48), d1, d2, d3, some (.int (lackV (vM A) p c)), some (.int (askV Λ (vM A) 0 p c)), some (.int (vM A 3 p)), d7] [] (A, R, G) := by
    intro d1 d2 d3 d7 hk
    have h9 := hE _ rfl
    unfold mayV at h9
    rw [if_pos hk] at h9
    refine sX5_may_112 _ _ _ _ _ _ _ ?_
    repeat' (first | refine And.intro ?_ ?_ | intro _)
    all_goals first | (refine aE_b h9 ⟨?_, ?_⟩ <;> assumption) | (refine aE_n h9 ?_; simp_all)
  have e5 : ∀ d2 d3 d4 d5 d6 d7 : Option Value, vM A 0 p = 5 → aw tX5_may E 218 [some (.ref 48), some (.int (nI p)), d2, d3, d4, d5, d6, d7] [] (A, R, G) := by
    intro d2 d3 d4 d5 d6 d7 hk
    have h9 := hE _ rfl
    unfold mayV at h9
    rw [if_neg (by rw [hk]; decide), if_neg (by rw [hk]; decide), if_neg (by rw [hk]; decide), if_neg (by rw [hk]; decide), if_pos hk] at h9
    refine sX5_may_218 hG _ _ _ _ _ _ _ ?_
    simp (disch := omega) only [nI_clamp]
    exact ⟨vp_in_nI hp (by omega), fun h => aE_b h9 h, fun h => aE_n h9 h⟩
  have e3 : ∀ d2 d7 : Option Value, vM A 0 p = 3 → aw tX5_may E 154 [some (.ref 48), some (.int (nI p)), d2, some (.int (vM A 5 c)), some (.int (lackV (vM A) p c)), some (.int (askV Λ (vM A) 0 p c)), some (.int (vM A 3 p)), d7] [] (A, R, G) := by
    intro d2 d7 hk
    have h9 := hE _ rfl
    unfold mayV at h9
    rw [if_neg (by rw [hk]; decide), if_neg (by rw [hk]; decide), if_pos hk] at h9
    refine sX5_may_154 hG _ _ _ _ _ _ _ ?_
    simp (disch := omega) only [nI_clamp]
    rw [h2]
    refine ⟨vp_in_nI hp (by omega), ?_⟩
    repeat' (first | refine And.intro ?_ ?_ | intro _)
    all_goals first | (refine aE_b h9 ?_; simp_all; done) | (refine aE_n h9 ?_; simp_all; done)
  have e2 : ∀ (d1 d2 d3 : Option Value) (x : Int32), vM A 0 p = 2 → (x = 0 ↔ nwdV (vM A) p) → aw tX5_may E 131 [some (.ref 48), d1, d2, d3, some (.int (lackV (vM A) p c)), some (.int (askV Λ (vM A) 0 p c)), some (.int (vM A 3 p)), some (.int x)] [] (A, R, G) := by
    intro d1 d2 d3 x hk hx
    have h9 := hE _ rfl
    unfold mayV at h9
    rw [if_neg (by rw [hk]; decide), if_pos hk] at h9
    refine sX5_may_131 _ _ _ _ _ _ _ ?_
    repeat' (first | refine And.intro ?_ ?_ | intro _)
    all_goals first | (refine aE_b h9 ?_; simp_all; done) | (refine aE_n h9 ?_; simp_all; done)
  have e4 : ∀ (d1 d2 d3 : Option Value) (x : Int32), vM A 0 p = 4 → (x = 0 ↔ nwdV (vM A) p) → aw tX5_may E 193 [some (.ref 48), d1, d2, d3, some (.int (lackV (vM A) p c)), some (.int (askV Λ (vM A) 0 p c)), some (.int (vM A 3 p)), some (.int x)] [] (A, R, G) := by
    intro d1 d2 d3 x hk hx
    have h9 := hE _ rfl
    unfold mayV at h9
    rw [if_neg (by rw [hk]; decide), if_neg (by rw [hk]; decide), if_neg (by rw [hk]; decide), if_pos hk] at h9
    refine sX5_may_193 _ _ _ _ _ _ _ ?_
    repeat' (first | refine And.intro ?_ ?_ | intro _)
    all_goals first | (refine aE_b h9 ?_; simp_all; done) | (refine aE_n h9 ?_; simp_all; done)
  have e0 : ∀ d1 d2 d3 d7 : Option Value, ¬ vM A 0 p = 1 → ¬ vM A 0 p = 2 → ¬ vM A 0 p = 3 → ¬ vM A 0 p = 4 → ¬ vM A 0 p = 5 → aw tX5_may E 240 [some (.ref 48), d1, d2, d3, some (.int (lackV (vM A) p c)), some (.int (askV Λ (vM A) 0 p c)), some (.int (vM A 3 p)), d7] [] (A, R, G) := by
    intro d1 d2 d3 d7 k1 k2 k3 k4 k5
    have h9 := hE _ rfl
    unfold mayV at h9
    rw [if_neg k1, if_neg k2, if_neg k3, if_neg k4, if_neg k5] at h9
    refine sX5_may_240 _ _ _ _ _ _ _ ?_
    repeat' (first | refine And.intro ?_ ?_ | intro _)
    all_goals first | (refine aE_b h9 ?_; simp_all; done) | (refine aE_n h9 ?_; simp_all; done)
  refine ⟨vp_in_nI (by omega) (by omega), vp_in_nI hp (by omega), fun w => ?_, fun w => ?_⟩
  · exact ⟨fun k => e1 _ _ _ _ k, fun k1 => ⟨fun k => e2 _ _ _ _ k ⟨fun _ => w, fun _ => rfl⟩, fun k2 => ⟨fun k => e3 _ _ k, fun k3 => ⟨fun k => e4 _ _ _ _ k ⟨fun _ => w, fun _ => rfl⟩, fun k4 => ⟨fun k => e5 _ _ _ _ _ _ k, fun k5 => e0 _ _ _ _ k1 k2 k3 k4 k5⟩⟩⟩⟩⟩
  · exact ⟨fun k => e1 _ _ _ _ k, fun k1 => ⟨fun k => e2 _ _ _ _ k ⟨fun q => absurd q (by decide), fun q => absurd q w⟩, fun k2 => ⟨fun k => e3 _ _ k, fun k3 => ⟨fun k => e4 _ _ _ _ k ⟨fun q => absurd q (by decide), fun q => absurd q w⟩, fun k4 => ⟨fun k => e5 _ _ _ _ _ _ k, fun k5 => e0 _ _ _ _ k1 k2 k3 k4 k5⟩⟩⟩⟩⟩
theorem qX5_may (hG : aGS G) (hL : LMA A Λ) {p c : Nat} (hp : p < 6) (hc : c < 8) : ∃ A', jM A A' ∧ CX5_may [.ref 48, .int (nI p), .int (nI c)] (A, R, G) (some (.int (bI (mayV Λ (vM A) p c)))) (A', R, G) := by
  obtain ⟨A', hj, hC⟩ := qX5_asksOf (R := R) hG hL (part := 0) (by omega) hp hc
  refine ⟨A', hj, aC_of (Nat.le_of_ble_eq_true rfl) fun E hE => ?_⟩
  refine sX5_may_0 hG (nI p) (nI c) ?_
  simp (disch := omega) only [nI_mul3, nI_clamp]
  refine ⟨vp_in_nI (by omega) (by omega), vp_in_nI (by omega) (by omega), _, _, hC, ?_⟩
  have hv := hj.v
  have h52 : A' 52 = A 52 := hj 52 (by decide) (by decide)
  have h51 : A' 51 = A 51 := hj 51 (by decide) (by decide)
  have hk := lX5_may33 (A := A') (R := R) (Λ := Λ) (E := E) hG (p := p) (c := c) hp (some (.int (nI c))) none none none (fun P hP => by rw [hP, hv]; exact hE)
  rw [hv, h52] at hk
  exact hk
end MA
