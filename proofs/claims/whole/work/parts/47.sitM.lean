section SM
variable {A : Nat → Nat → Int32} {R : Nat → Nat → Option Nat} {G : Nat → Nat × Nat} {n : Nat} {Λ : aLm}
def jSM (A A' : Nat → Nat → Int32) : Prop := ∀ o, ¬ o = 64 → ¬ o = 65 → ¬ o = 67 → ¬ o = 68 → A' o = A o
theorem jSM.rf : jSM A A := fun _ _ _ _ _ => rfl
theorem jSM.tr {B C : Nat → Nat → Int32} (h : jSM A B) (k : jSM B C) : jSM A C := fun o h1 h2 h3 h4 => (k o h1 h2 h3 h4).trans (h o h1 h2 h3 h4)
theorem jM.sm {B : Nat → Nat → Int32} (h : jM A B) : jSM A B := fun o h1 h2 _ _ => h o h1 h2
theorem jSM.a7 {k : Nat} {x : Int32} : jSM A (au A 67 k x) := fun _ _ _ h _ => au_o h
theorem jSM.a8 {k : Nat} {x : Int32} : jSM A (au A 68 k x) := fun _ _ _ _ h => au_o h
theorem jSM.v {B : Nat → Nat → Int32} (h : jSM A B) : vM B = vM A := vM_go (h 48 (by decide) (by decide) (by decide) (by decide)) (h 49 (by decide) (by decide) (by decide) (by decide)) (h 50 (by decide) (by decide) (by decide) (by decide)) (h 51 (by decide) (by decide) (by decide) (by decide)) (h 52 (by decide) (by decide) (by decide) (by decide))
theorem jSM.L {B : Nat → Nat → Int32} (h : jSM A B) (hL : LMA A Λ) : LMA B Λ := hL.go (h 54 (by decide) (by decide) (by decide) (by decide)) (h 55 (by decide) (by decide) (by decide) (by decide)) (by rw [h 48 (by decide) (by decide) (by decide) (by decide)])
theorem jSM.e {B : Nat → Nat → Int32} (h : jSM A B) : B 48 = A 48 := h 48 (by decide) (by decide) (by decide) (by decide)
theorem lX5_w1 {E : aR} (hG : aGS G) (hn6 : n ≤ 6) (hn : A 48 0 = nI n) (hL : LMA A Λ) {c : Nat} (hc : c < 8) (h5 : ¬ vM A 5 c = 0) (hE : ∀ B d, jSM A B → (∀ j, ¬ j = c → B 68 j = A 68 j) → B 68 c = whoV Λ n (vM A) c → aw tX5_tellsSittings E 2 [some (.ref 48), some (.int (nI (c + 1))), d, none, none, none] [] (B, R, G)) :
    ∀ (i p : Nat) (B : Nat → Nat → Int32) (d3 d4 d5 : Option Value), p + i = n → jSM A B → (∀ j, ¬ j = c → B 68 j = A 68 j) → B 68 c = bitsV (fun p => canV Λ (vM A) p c) p → aw tX5_tellsSittings E 17 [some (.ref 48), some (.int (nI c)), some (.int (nI p)), d3, d4, d5] [] (B, R, G)
  | 0, p, B, _, _, _, hi, hj, ho, hb => by
    have hp : p = n := by omega
    subst hp
    refine sX5_tellsSittings_17 hG _ _ _ _ _ ⟨fun _ => ?_, fun h => absurd (by rw [hj.e, hn]; exact nI_le (by omega) (by omega)) h⟩
    rw [nI_1]
    exact hE B _ hj ho hb
  | i + 1, p, B, _, _, _, hi, hj, ho, hb => by
    have ht : thM B (nI c) := (thM_iff hc).mpr (by rw [hj.v]; exact h5)
    obtain ⟨B1, hj1, hC⟩ := qX5_can (R := R) hG (hj.L hL) (p := p) (c := c) (by omega) hc
    rw [hj.v] at hC
    have h68 : B1 68 = B 68 := hj1 68 (by decide) (by decide)
    have ih := fun C d3 d4 d5 h1 h2 h3 => lX5_w1 hG hn6 hn hL hc h5 hE i (p + 1) C d3 d4 d5 (by omega) h1 h2 h3
    have hs : bitsV (fun p => canV Λ (vM A) p c) (p + 1) = @ite _ (canV Λ (vM A) p c) (Classical.propDecidable _) (bitsV (fun p => canV Λ (vM A) p c) p ||| ((1 : Int32) <<< (nI p &&& 31))) (bitsV (fun p => canV Λ (vM A) p c) p) := by
      conv => lhs; unfold bitsV
    rw [hs] at ih
    refine sX5_tellsSittings_17 hG _ _ _ _ _ ⟨fun h => absurd h (by rw [hj.e, hn]; exact nI_ge (by omega) (by omega)), fun _ => ⟨fun _ => ⟨vp_in_nI (by omega) (by omega), _, _, hC, ?_⟩, fun h => absurd ht h⟩⟩
    rw [nI_clamp (by omega), hb]
    refine sX5_tellsSittings_46 _ _ _ _ _ _ _ _ _ ⟨fun h => ⟨gt68 hG, by rw [gl68 hG]; exact vp_in_nI (by omega) (by omega), ?_⟩, fun h => ⟨gt68 hG, by rw [gl68 hG]; exact vp_in_nI (by omega) (by omega), ?_⟩⟩
    · rw [if_neg (fun q => bI_ne q h)] at ih
      rw [or0, nI_1, nI_clamp (by omega)]
      exact ih _ _ _ _ ((hj.tr hj1.sm).tr jSM.a8) (fun j hj2 => by rw [au_j hj2, h68]; exact ho j hj2) au_k
    · have hm : canV Λ (vM A) p c := Classical.byContradiction fun q => h (bI_f q)
      rw [if_pos hm] at ih
      rw [nI_1, nI_clamp (by omega)]
      exact ih _ _ _ _ ((hj.tr hj1.sm).tr jSM.a8) (fun j hj2 => by rw [au_j hj2, h68]; exact ho j hj2) au_k
theorem lX5_w {E : aR} (hG : aGS G) (hn6 : n ≤ 6) (hn : A 48 0 = nI n) (hL : LMA A Λ) (hE : ∀ B, jSM A B → (∀ c, c < 8 → B 68 c = whoC Λ n (vM A) c) → aw tX5_tellsSittings E 72 [some (.ref 48), some (.int (nI 0)), none, none, none, none] [] (B, R, G)) :
    ∀ (i c : Nat) (B : Nat → Nat → Int32) (d2 d3 d4 d5 : Option Value), c + i = 8 → jSM A B → (∀ e, e < c → B 68 e = whoC Λ n (vM A) e) → aw tX5_tellsSittings E 2 [some (.ref 48), some (.int (nI c)), d2, d3, d4, d5] [] (B, R, G)
  | 0, c, B, _, _, _, _, hi, hj, hb => by
    have hc : c = 8 := by omega
    subst hc
    exact sX5_tellsSittings_2 hG _ _ _ _ _ ⟨fun _ => hE B hj hb, fun h => absurd (nI_le (a := 8) (b := 8) (by omega) (by omega)) h⟩
  | i + 1, c, B, _, _, _, _, hi, hj, hb => by
    refine sX5_tellsSittings_2 hG _ _ _ _ _ ⟨fun h => absurd h (nI_ge (a := c) (b := 8) (by omega) (by omega)), fun _ => ⟨vp_in_nI (by omega) (by omega), ?_⟩⟩
    rw [nI_clamp (by omega)]
    have hj0 : jSM B (au B 68 c 0) := jSM.a8
    have hj2 := hj.tr hj0
    have ih := fun C d2 h1 h2 => lX5_w hG hn6 hn hL hE i (c + 1) C d2 none none none (by omega) h1 h2
    by_cases h5 : vM A 5 c = 0
    · have hw : whoC Λ n (vM A) c = 0 := if_pos h5
      have hnt : ¬ thM (au B 68 c 0) (nI c) := fun q => (thM_iff (by omega)).mp q (by rw [hj2.v]; exact h5)
      have h6 : ∀ e, e < c + 1 → au B 68 c 0 68 e = whoC Λ n (vM A) e := by
        intro e he
        by_cases e2 : e = c
        · subst e2
          rw [au_k, hw]
        · rw [au_j e2]
          exact hb e (by omega)
      refine sX5_tellsSittings_17 hG _ _ _ _ _ ⟨fun _ => ?_, fun _ => ⟨fun q => absurd q hnt, fun _ => ?_⟩⟩
      · rw [nI_1]
        exact ih _ _ hj2 h6
      · rw [nI_1]
        exact ih _ _ hj2 h6
    · have hw : whoC Λ n (vM A) c = whoV Λ n (vM A) c := if_neg h5
      refine lX5_w1 (A := au B 68 c 0) (Λ := Λ) hG hn6 (by rw [hj2.e]; exact hn) (hj2.L hL) (c := c) (by omega) (by rw [hj2.v]; exact h5) (fun C d h1 h2 h3 => ?_) n 0 _ _ _ _ (by omega) jSM.rf (fun _ _ => rfl) au_k
      refine ih C d (hj2.tr h1) (fun e he => ?_)
      by_cases e2 : e = c
      · subst e2; rw [h3, hw, hj2.v]
      · rw [h2 e e2, au_j e2]; exact hb e (by omega)
end SM
