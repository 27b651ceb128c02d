section MH
variable {A A' A1 A2 B B0 C D : Nat → Nat → Int32} {R R' R1 R2 : Nat → Nat → Option Nat} {G : Nat → Nat × Nat} {n n' t T w t' : Nat} {W : Nat → Nat → List Nat} {Λ : aLm} {v u vx vm : aV}
/-- the image is kept in the model -/
def imgM (A B : Nat → Nat → Int32) : Prop := (∀ o, ¬ o = 48 → ¬ o = 56 → ¬ o = 57 → B o = A o) ∧ (∀ k, ¬ k = 13 → B 48 k = A 48 k) ∧ B 48 13 = 1 ∧ (∀ k, k < 18 → B 56 k = A 51 k) ∧ (∀ k, k < 24 → B 56 (18 + k) = A 52 k) ∧ B 57 0 = A 48 0 ∧ B 57 1 = A 48 5 ∧ B 57 2 = A 48 6 ∧ B 57 3 = A 48 12
theorem lX5_img2 {E : aR} (hG : aGS G) (hE : ∀ B, imgM A B → E (some (.int (A 48 0))) (B, R, G)) :
    ∀ (i k : Nat) (B : Nat → Nat → Int32), k + i = 24 → (∀ o, ¬ o = 48 → ¬ o = 56 → B o = A o) → (∀ k, ¬ k = 13 → B 48 k = A 48 k) → B 48 13 = 1 → (∀ j, j < 18 → B 56 j = A 51 j) → (∀ j, j < k → B 56 (18 + j) = A 52 j) → aw tX5_image E 33 [some (.ref 48), some (.int (nI k))] [] (B, R, G)
  | 0, k, B, hk, h1, h2, h3, h4, h5 => by
    have hk2 : k = 24 := by omega
    subst hk2
    have e : (au (au (au (au B 57 0 (B 48 0)) 57 1 (((au B 57 0 (B 48 0))) 48 5)) 57 2 (((au (au B 57 0 (B 48 0)) 57 1 (((au B 57 0 (B 48 0))) 48 5))) 48 6)) 57 3 (((au (au (au B 57 0 (B 48 0)) 57 1 (((au B 57 0 (B 48 0))) 48 5)) 57 2 (((au (au B 57 0 (B 48 0)) 57 1 (((au B 57 0 (B 48 0))) 48 5))) 48 6))) 48 12)) = au (au (au (au B 57 0 (A 48 0)) 57 1 (A 48 5)) 57 2 (A 48 6)) 57 3 (A 48 12) := by
      simp (disch := omega) only [aua, h2]
    have h0 : (au (au (au (au B 57 0 (A 48 0)) 57 1 (A 48 5)) 57 2 (A 48 6)) 57 3 (A 48 12)) 48 0 = A 48 0 := by
      simp (disch := omega) only [aua, h2]
    refine sX5_image_33 hG _ (br_t (by decide) (sX5_image_100 hG _ ?_))
    rw [e, h0]
    refine hE _ ⟨fun o a b c => ?_, fun k hk => ?_, ?_, fun k hk => ?_, fun k hk => ?_, ?_, ?_, ?_, ?_⟩
    · rw [au_o c, au_o c, au_o c, au_o c]; exact h1 o a b
    · rw [au_o (by omega), au_o (by omega), au_o (by omega), au_o (by omega)]; exact h2 k hk
    · rw [au_o (by omega), au_o (by omega), au_o (by omega), au_o (by omega)]; exact h3
    · rw [au_o (by omega), au_o (by omega), au_o (by omega), au_o (by omega)]; exact h4 k hk
    · rw [au_o (by omega), au_o (by omega), au_o (by omega), au_o (by omega)]; exact h5 k hk
    · rw [au_j (by omega), au_j (by omega), au_j (by omega), au_k]
    · rw [au_j (by omega), au_j (by omega), au_k]
    · rw [au_j (by omega), au_k]
    · exact au_k
  | i + 1, k, B, hk, h1, h2, h3, h4, h5 => by
    have e18 : (18 : Int32) + nI k = nI (18 + k) := nI_add 18 k
    refine sX5_image_33 hG _ (br_f (nI_ge (a := k) (b := 24) (by omega) (by omega)) ?_)
    simp (disch := omega) only [e18, nI_clamp, nI_1]
    refine ⟨vp_in_nI (by omega) (by omega), vp_in_nI (by omega) (by omega), lX5_img2 hG hE i (k + 1) _ (by omega) (fun o a b => by rw [au_o b]; exact h1 o a b) (fun j hj => by rw [au_o (by omega)]; exact h2 j hj) (by rw [au_o (by omega)]; exact h3) (fun j hj => by rw [au_j (by omega)]; exact h4 j hj) (fun j hj => ?_)⟩
    by_cases e : j = k
    · subst e; rw [au_k, h1 52 (by omega) (by omega)]
    · rw [au_j (by omega)]; exact h5 j (by omega)
theorem lX5_img1 {E : aR} (hG : aGS G) (hE : ∀ B, imgM A B → E (some (.int (A 48 0))) (B, R, G)) :
    ∀ (i k : Nat) (B : Nat → Nat → Int32), k + i = 18 → (∀ o, ¬ o = 48 → ¬ o = 56 → B o = A o) → (∀ k, ¬ k = 13 → B 48 k = A 48 k) → B 48 13 = 1 → (∀ j, j < k → B 56 j = A 51 j) → aw tX5_image E 7 [some (.ref 48), some (.int (nI k))] [] (B, R, G)
  | 0, k, B, hk, h1, h2, h3, h4 => by
    have hk2 : k = 18 := by omega
    subst hk2
    exact sX5_image_7 hG _ (br_t (by decide) (lX5_img2 hG hE 24 0 B (by omega) h1 h2 h3 h4 (fun j hj => absurd hj (by omega))))
  | i + 1, k, B, hk, h1, h2, h3, h4 => by
    refine sX5_image_7 hG _ (br_f (nI_ge (a := k) (b := 18) (by omega) (by omega)) ?_)
    simp (disch := omega) only [nI_clamp, nI_1]
    refine ⟨vp_in_nI (by omega) (by omega), vp_in_nI (by omega) (by omega), lX5_img1 hG hE i (k + 1) _ (by omega) (fun o a b => by rw [au_o b]; exact h1 o a b) (fun j hj => by rw [au_o (by omega)]; exact h2 j hj) (by rw [au_o (by omega)]; exact h3) (fun j hj => ?_)⟩
    by_cases e : j = k
    · subst e; rw [au_k, h1 51 (by omega) (by omega)]
    · rw [au_j (by omega)]; exact h4 j (by omega)
theorem c_image (hJ : sJ n t T W A R G) : bthI T W CX4_image CX5_image [] A R G := by
  have hG := hJ.gs
  have hn6 := hJ.n6
  obtain ⟨A', hb, hC⟩ := qX0_become (A := A) (b := 21) (x := 1) (gB21 hG) (gB1 hG) (Or.inr (by omega)) hJ.r1
  have hall1 : ∀ o, ¬ o = 0 → (o < 21 ∨ 30 ≤ o) → au A' 0 3 1 o = A o := fun o h0 h => by rw [au_o h0]; exact hb.1 o (by omega)
  have h9 : au A' 0 3 1 1 9 = A 1 9 := by rw [hall1 1 (by omega) (by omega)]
  obtain ⟨A2, ⟨k1, k2, k3, k4, k5, k6, k7, k8, k9⟩, hC2⟩ : ∃ A2, imgM (au A' 0 3 1) A2 ∧ CX5_image [.ref 48] (au A' 0 3 1, ar R 21 14 (some (tw t)), G) (some (.int (au A' 0 3 1 48 0))) (A2, ar R 21 14 (some (tw t)), G) := by
    refine aC_exA vX5_image (Nat.le_of_ble_eq_true rfl) fun E hE => sX5_image_0 hG (lX5_img1 hG (fun B hB => hE B hB) 18 0 _ (by omega) (fun o a b => au_o a) (fun k hk => au_j hk) au_k (fun j hj => absurd hj (by omega)))
  have e48 : au A' 0 3 1 48 = A 48 := hall1 48 (by omega) (by omega)
  have hr : au A' 0 3 1 48 0 = A 1 9 := by rw [e48]; exact hJ.m0.trans hJ.x9.symm
  have hall : ∀ o, ¬ o = 0 → (o < 21 ∨ 30 ≤ o) → ¬ o = 48 → ¬ o = 56 → ¬ o = 57 → A2 o = A o := fun o a b c d e => by rw [k1 o c d e]; exact hall1 o a b
  have h48 : ∀ k, ¬ k = 13 → A2 48 k = A 48 k := fun k hk => by rw [k2 k hk, e48]
  have h00 : ∀ k, ¬ k = 3 → A2 0 k = A 0 k := fun k hk => by rw [k1 0 (by omega) (by omega) (by omega), au_j hk]; exact congrFun (hb.1 0 (by omega)) k
  have h21 : ∀ o, 21 ≤ o → o < 30 → A2 o = A' o := fun o a b => by rw [k1 o (by omega) (by omega) (by omega), au_o (by omega)]
  have hvm : vM A2 = vM A := by
    funext f i
    unfold vM
    rw [hall 49 (by omega) (by omega) (by omega) (by omega) (by omega), hall 50 (by omega) (by omega) (by omega) (by omega) (by omega), hall 51 (by omega) (by omega) (by omega) (by omega) (by omega), hall 52 (by omega) (by omega) (by omega) (by omega) (by omega), h48 0 (by omega), h48 5 (by omega), h48 6 (by omega)]
  have hvi : eqV 6 (vM A) (vI A2) := by
    refine ⟨fun f hf p hp => ?_, fun f h5 h8 c hc => ?_, fun k => ?_⟩
    · rcases f with _ | _ | _ | _ | _ | f
      · show A 49 p = A2 49 p; rw [hall 49 (by omega) (by omega) (by omega) (by omega) (by omega)]
      · show A 50 p = A2 50 p; rw [hall 50 (by omega) (by omega) (by omega) (by omega) (by omega)]
      · show A 51 (3 * p) = A2 56 (3 * p); rw [k4 _ (by omega), hall1 51 (by omega) (by omega)]
      · show A 51 (3 * p + 1) = A2 56 (3 * p + 1); rw [k4 _ (by omega), hall1 51 (by omega) (by omega)]
      · show A 51 (3 * p + 2) = A2 56 (3 * p + 2); rw [k4 _ (by omega), hall1 51 (by omega) (by omega)]
      · omega
    · have hf : f = 5 ∨ f = 6 ∨ f = 7 := by omega
      rcases hf with rfl | rfl | rfl
      · show A 52 (3 * c) = A2 56 (18 + 3 * c); rw [k5 _ (by omega), hall1 52 (by omega) (by omega)]
      · show A 52 (3 * c + 1) = A2 56 (18 + (3 * c + 1)); rw [k5 _ (by omega), hall1 52 (by omega) (by omega)]
      · show A 52 (3 * c + 2) = A2 56 (18 + (3 * c + 2)); rw [k5 _ (by omega), hall1 52 (by omega) (by omega)]
    · rcases k with _ | _ | _ | k
      · show A 48 0 = A2 57 0; rw [k6, e48]
      · show A 48 5 = A2 57 1; rw [k7, e48]
      · show A 48 6 = A2 57 2; rw [k8, e48]
      · rfl
  have hbv := hb.v.le hn6
  have hv2 : vX A2 21 = vX A' 21 := vX_go fun k hk => h21 _ (by omega) (by omega)
  have key : sJ n t T W A2 (ar R 21 14 (some (tw t))) G := by
    obtain ⟨a, b, c, d, e, f, g, i⟩ := hJ
    refine ⟨a, b, c.go (h00 5 (by omega)) (h48 11 (by omega)) (hall _ (by omega) (by omega) (by omega) (by omega) (by omega)) (hall _ (by omega) (by omega) (by omega) (by omega) (by omega)) (ar_ne (by omega)) (fun s hs => ⟨hall _ (by unfold tw; omega) (by unfold tw; omega) (by unfold tw; omega) (by unfold tw; omega) (by unfold tw; omega), hall _ (by unfold tw; omega) (by unfold tw; omega) (by unfold tw; omega) (by unfold tw; omega) (by unfold tw; omega)⟩), ?_, ?_, ?_, ?_, i.go (hall _ (by omega) (by omega) (by omega) (by omega) (by omega))⟩
    · exact d.goX (fun o h1 h2 => hall o (by omega) (by omega) (by omega) (by omega) (by omega)) (fun j hj => h48 j (by omega)) (eqV.of hvm.symm) (ar_ne (by omega))
    · refine Or.inr ⟨?_, k3, n, t, Nat.le_refl _, b, ?_, ?_, ?_, (hb.t d.2.2.2.2.1).go (by rw [h21 21 (by omega) (by omega)]) (h21 _ (by omega) (by omega)), (hb.h d.2.2.2.2.2.1).go (by rw [h21 21 (by omega) (by omega)]), ?_, ?_, ?_, ?_, ar_at⟩
      · rw [k1 0 (by omega) (by omega) (by omega), au_k]
      · rw [h21 21 (by omega) (by omega), hb.2.2.2 9 (by omega) (by omega)]; exact d.2.1
      · rw [k6, e48]; exact d.2.2.1
      · rw [hv2]; exact invD_c hbv d.2.2.2.1
      · rw [hv2]; exact hbv.sy.tr (d.2.2.2.2.2.2.1.tr (hvi.le hn6))
      · rw [h21 21 (by omega) (by omega), hb.2.2.2 11 (by omega) (by omega)]; exact d.2.2.2.2.2.2.2.1
      · rw [h21 21 (by omega) (by omega), hb.2.2.2 13 (by omega) (by omega)]; exact d.2.2.2.2.2.2.2.2.1
      · rw [k9, e48]; exact d.2.2.2.2.2.2.2.2.2.1
    · exact f.go (by rw [hall 31 (by omega) (by omega) (by omega) (by omega) (by omega)]) (h48 8 (by omega)) (hall _ (by omega) (by omega) (by omega) (by omega) (by omega)) (hall _ (by omega) (by omega) (by omega) (by omega) (by omega))
    · exact g.go (fun o h1 h2 => hall o (by omega) (by omega) (by omega) (by omega) (by omega)) (hall _ (by omega) (by omega) (by omega) (by omega) (by omega)) (hall _ (by omega) (by omega) (by omega) (by omega) (by omega)) (hall _ (by omega) (by omega) (by omega) (by omega) (by omega)) (ar_ne (by omega))
  rw [hr] at hC2
  exact fin (aC_of (Nat.le_of_ble_eq_true rfl) fun E hE => sX4_image_0 hG ⟨_, hC, sX4_image_11 hG (aE_e hE h9)⟩) hC2 key
/-! back -/
def bckM (A B : Nat → Nat → Int32) : Prop := (∀ o, ¬ o = 48 → ¬ o = 51 → ¬ o = 52 → B o = A o) ∧ (∀ k, ¬ k = 0 → ¬ k = 5 → ¬ k = 6 → ¬ k = 12 → B 48 k = A 48 k) ∧ (∀ k, k < 18 → B 51 k = A 56 k) ∧ (∀ k, k < 24 → B 52 k = A 56 (18 + k)) ∧ B 48 0 = A 57 0 ∧ B 48 5 = A 57 1 ∧ B 48 6 = A 57 2 ∧ B 48 12 = A 57 3
theorem lX5_bck2 {E : aR} (hG : aGS G) (hE : ∀ B, bckM A B → E (some (.int (A 57 0))) (B, R, G)) :
    ∀ (i k : Nat) (B : Nat → Nat → Int32), k + i = 24 → (∀ o, ¬ o = 51 → ¬ o = 52 → B o = A o) → (∀ j, j < 18 → B 51 j = A 56 j) → (∀ j, j < k → B 52 j = A 56 (18 + j)) → aw tX5_back E 38 [some (.ref 48), some (.int (nI k))] [] (B, R, G)
  | 0, k, B, hk, h1, h4, h5 => by
    have hk2 : k = 24 := by omega
    subst hk2
    have h57 : B 57 = A 57 := h1 57 (by omega) (by omega)
    have e : (au (au (au (au B 48 0 (B 57 0)) 48 5 ((au B 48 0 (B 57 0)) 57 1)) 48 6 ((au (au B 48 0 (B 57 0)) 48 5 ((au B 48 0 (B 57 0)) 57 1)) 57 2)) 48 12 ((au (au (au B 48 0 (B 57 0)) 48 5 ((au B 48 0 (B 57 0)) 57 1)) 48 6 ((au (au B 48 0 (B 57 0)) 48 5 ((au B 48 0 (B 57 0)) 57 1)) 57 2)) 57 3)) = au (au (au (au B 48 0 (A 57 0)) 48 5 (A 57 1)) 48 6 (A 57 2)) 48 12 (A 57 3) := by
      simp (disch := omega) only [aua, h57]
    have h0 : (au (au (au (au B 48 0 (A 57 0)) 48 5 (A 57 1)) 48 6 (A 57 2)) 48 12 (A 57 3)) 48 0 = A 57 0 := by
      rw [au_j (by omega), au_j (by omega), au_j (by omega), au_k]
    refine sX5_back_38 hG _ (br_t (by decide) (sX5_back_105 hG _ ?_))
    rw [e, h0]
    refine hE _ ⟨fun o a b c => ?_, fun k h0 h5 h6 h12 => ?_, fun k hk => ?_, fun k hk => ?_, ?_, ?_, ?_, ?_⟩
    · rw [au_o a, au_o a, au_o a, au_o a]; exact h1 o b c
    · rw [au_j h12, au_j h6, au_j h5, au_j h0, h1 48 (by omega) (by omega)]
    · rw [au_o (by omega), au_o (by omega), au_o (by omega), au_o (by omega)]; exact h4 k hk
    · rw [au_o (by omega), au_o (by omega), au_o (by omega), au_o (by omega)]; exact h5 k hk
    · exact h0
    · rw [au_j (by omega), au_j (by omega), au_k]
    · rw [au_j (by omega), au_k]
    · exact au_k
  | i + 1, k, B, hk, h1, h4, h5 => by
    have e18 : (18 : Int32) + nI k = nI (18 + k) := nI_add 18 k
    refine sX5_back_38 hG _ (br_f (nI_ge (a := k) (b := 24) (by omega) (by omega)) ?_)
    simp (disch := omega) only [e18, nI_clamp, nI_1]
    refine ⟨vp_in_nI (by omega) (by omega), vp_in_nI (by omega) (by omega), lX5_bck2 hG hE i (k + 1) _ (by omega) (fun o a b => by rw [au_o b]; exact h1 o a b) (fun j hj => by rw [au_o (by omega)]; exact h4 j hj) (fun j hj => ?_)⟩
    by_cases e : j = k
    · subst e; rw [au_k, h1 56 (by omega) (by omega)]
    · rw [au_j (by omega)]; exact h5 j (by omega)
theorem lX5_bck1 {E : aR} (hG : aGS G) (hE : ∀ B, bckM A B → E (some (.int (A 57 0))) (B, R, G)) :
    ∀ (i k : Nat) (B : Nat → Nat → Int32), k + i = 18 → (∀ o, ¬ o = 51 → B o = A o) → (∀ j, j < k → B 51 j = A 56 j) → aw tX5_back E 12 [some (.ref 48), some (.int (nI k))] [] (B, R, G)
  | 0, k, B, hk, h1, h4 => by
    have hk2 : k = 18 := by omega
    subst hk2
    exact sX5_back_12 hG _ (br_t (by decide) (lX5_bck2 hG hE 24 0 B (by omega) (fun o a _ => h1 o a) h4 (fun j hj => absurd hj (by omega))))
  | i + 1, k, B, hk, h1, h4 => by
    refine sX5_back_12 hG _ (br_f (nI_ge (a := k) (b := 18) (by omega) (by omega)) ?_)
    simp (disch := omega) only [nI_clamp, nI_1]
    refine ⟨vp_in_nI (by omega) (by omega), vp_in_nI (by omega) (by omega), lX5_bck1 hG hE i (k + 1) _ (by omega) (fun o a => by rw [au_o a]; exact h1 o a) (fun j hj => ?_)⟩
    by_cases e : j = k
    · subst e; rw [au_k, h1 56 (by omega)]
    · rw [au_j (by omega)]; exact h4 j (by omega)
theorem c_back (hJ : sJ n t T W A R G) : bthI T W CX4_back CX5_back [] A R G := by
  have hG := hJ.gs
  have hn6 := hJ.n6
  rcases hJ.2.2.2.2.1 with ⟨e0, e48⟩ | ⟨e0, e48, m, t', hm, ht, p1, p2, p3, p4, p5, p6, p7, p8, p9, p10⟩
  · exact qry0 hJ _ (aC_of (Nat.le_of_ble_eq_true rfl) fun E hE => sX4_back_0 hG (br_t e0 hE)) (aC_of (Nat.le_of_ble_eq_true rfl) fun E hE => sX5_back_0 hG (br_t e48 hE))
  have n0 : ¬ A 0 3 = 0 := by rw [e0]; decide
  have n48 : ¬ A 48 13 = 0 := by rw [e48]; decide
  have hm6 : m ≤ 6 := by omega
  obtain ⟨A', hb, hC⟩ := qX0_become (A := A) (b := 1) (x := 21) (gB1 hG) (gB21 hG) (Or.inl (by omega)) p10
  have hall1 : ∀ o, (o < 1 ∨ 10 ≤ o) → A' o = A o := fun o h => hb.1 o (by omega)
  obtain ⟨A2, ⟨k1, k2, k3, k4, k5, k6, k7, k8⟩, hC2⟩ : ∃ A2, bckM A' A2 ∧ CX5_back [.ref 48] (A', ar R 1 14 (some (tw t')), G) (some (.int (A' 57 0))) (A2, ar R 1 14 (some (tw t')), G) := by
    refine aC_exA vX5_back (Nat.le_of_ble_eq_true rfl) fun E hE => sX5_back_0 hG (br_f (by rw [hall1 48 (by omega)]; exact n48) (lX5_bck1 hG (fun B hB => hE B hB) 18 0 _ (by omega) (fun o a => rfl) (fun j hj => absurd hj (by omega))))
  have hall : ∀ o, (o < 1 ∨ 10 ≤ o) → ¬ o = 48 → ¬ o = 51 → ¬ o = 52 → A2 o = A o := fun o a b c d => by rw [k1 o b c d]; exact hall1 o a
  have h48 : ∀ k, ¬ k = 0 → ¬ k = 5 → ¬ k = 6 → ¬ k = 12 → A2 48 k = A 48 k := fun k a b c d => by rw [k2 k a b c d, hall1 48 (by omega)]
  have hX1 : ∀ o, 1 ≤ o → o < 10 → A2 o = A' o := fun o a b => k1 o (by omega) (by omega) (by omega)
  have e57 : A' 57 = A 57 := hall1 57 (by omega)
  have e56 : A' 56 = A 56 := hall1 56 (by omega)
  have hv2 : vX A2 1 = vX A' 1 := vX_go fun k hk => hX1 _ (by omega) (by omega)
  have hbv := hb.v.le hm6
  have hvi : eqV 6 (vI A) (vM A2) := by
    refine ⟨fun f hf p hp => ?_, fun f h5 h8 c hc => ?_, fun k => ?_⟩
    · rcases f with _ | _ | _ | _ | _ | f
      · show A 49 p = A2 49 p; rw [hall 49 (by omega) (by omega) (by omega) (by omega)]
      · show A 50 p = A2 50 p; rw [hall 50 (by omega) (by omega) (by omega) (by omega)]
      · show A 56 (3 * p) = A2 51 (3 * p); rw [k3 _ (by omega), e56]
      · show A 56 (3 * p + 1) = A2 51 (3 * p + 1); rw [k3 _ (by omega), e56]
      · show A 56 (3 * p + 2) = A2 51 (3 * p + 2); rw [k3 _ (by omega), e56]
      · omega
    · have hf : f = 5 ∨ f = 6 ∨ f = 7 := by omega
      rcases hf with rfl | rfl | rfl
      · show A 56 (18 + 3 * c) = A2 52 (3 * c); rw [k4 _ (by omega), e56]
      · show A 56 (18 + (3 * c + 1)) = A2 52 (3 * c + 1); rw [k4 _ (by omega), e56]
      · show A 56 (18 + (3 * c + 2)) = A2 52 (3 * c + 2); rw [k4 _ (by omega), e56]
    · rcases k with _ | _ | _ | k
      · show A 57 0 = A2 48 0; rw [k5, e57]
      · show A 57 1 = A2 48 5; rw [k6, e57]
      · show A 57 2 = A2 48 6; rw [k7, e57]
      · rfl
  have hi2 : vI A2 = vI A := vI_go (hall _ (by omega) (by omega) (by omega) (by omega)) (hall _ (by omega) (by omega) (by omega) (by omega)) (hall _ (by omega) (by omega) (by omega) (by omega)) (hall _ (by omega) (by omega) (by omega) (by omega))
  have key : sJ m t' T W A2 (ar R 1 14 (some (tw t'))) G := by
    obtain ⟨a, b, c, d, e, f, g, i⟩ := hJ
    refine ⟨a, ht, c.go (by rw [hall 0 (by omega) (by omega) (by omega) (by omega)]) (h48 11 (by omega) (by omega) (by omega) (by omega)) (hall _ (by omega) (by omega) (by omega) (by omega)) (hall _ (by omega) (by omega) (by omega) (by omega)) (ar_ne (by omega)) (fun s hs => ⟨hall _ (by unfold tw; omega) (by unfold tw; omega) (by unfold tw; omega) (by unfold tw; omega), hall _ (by unfold tw; omega) (by unfold tw; omega) (by unfold tw; omega) (by unfold tw; omega)⟩), ?_, ?_, ?_, ?_, i.go (hall _ (by omega) (by omega) (by omega) (by omega))⟩
    · refine ⟨hm6, ?_, by rw [k5, e57]; exact p2, by rw [hv2]; exact invD_c hbv p3, (hb.t p4).go (by rw [hX1 1 (by omega) (by omega)]) (hX1 _ (by omega) (by omega)), (hb.h p5).go (by rw [hX1 1 (by omega) (by omega)]), ?_, ?_, ?_, by rw [k8, e57]; exact p9, ar_at⟩
      · rw [hX1 1 (by omega) (by omega), hb.2.2.2 9 (by omega) (by omega)]; exact p1
      · rw [hv2]; exact hbv.sy.tr (p6.tr (hvi.le hm6))
      · rw [hX1 1 (by omega) (by omega), hb.2.2.2 11 (by omega) (by omega)]; exact p7
      · rw [hX1 1 (by omega) (by omega), hb.2.2.2 13 (by omega) (by omega)]; exact p8
    · have hv21 : vX A2 21 = vX A 21 := vX_go fun k hk => hall _ (by omega) (by omega) (by omega) (by omega)
      refine Or.inr ⟨by rw [hall 0 (by omega) (by omega) (by omega) (by omega)]; exact e0, by rw [h48 13 (by omega) (by omega) (by omega) (by omega)]; exact e48, m, t', Nat.le_refl _, ht, ?_, ?_, by rw [hv21]; exact p3, p4.go (by rw [hall 21 (by omega) (by omega) (by omega) (by omega)]) (hall _ (by omega) (by omega) (by omega) (by omega)), p5.go (by rw [hall 21 (by omega) (by omega) (by omega) (by omega)]), by rw [hv21, hi2]; exact p6, ?_, ?_, ?_, (congrFun (ar_ne (by omega)) _).trans p10⟩
      · rw [hall 21 (by omega) (by omega) (by omega) (by omega)]; exact p1
      · rw [hall 57 (by omega) (by omega) (by omega) (by omega)]; exact p2
      · rw [hall 21 (by omega) (by omega) (by omega) (by omega)]; exact p7
      · rw [hall 21 (by omega) (by omega) (by omega) (by omega)]; exact p8
      · rw [hall 57 (by omega) (by omega) (by omega) (by omega)]; exact p9
    · exact f.go (by rw [hall 31 (by omega) (by omega) (by omega) (by omega)]) (h48 8 (by omega) (by omega) (by omega) (by omega)) (hall _ (by omega) (by omega) (by omega) (by omega)) (hall _ (by omega) (by omega) (by omega) (by omega))
    · exact g.go (fun o h1 h2 => hall o (by omega) (by omega) (by omega) (by omega)) (hall _ (by omega) (by omega) (by omega) (by omega)) (hall _ (by omega) (by omega) (by omega) (by omega)) (hall _ (by omega) (by omega) (by omega) (by omega)) (ar_ne (by omega))
  have h9 : A' 1 9 = nI m := by rw [hb.2.2.2 9 (by omega) (by omega)]; exact p1
  rw [e57, p2] at hC2
  exact fin (aC_of (Nat.le_of_ble_eq_true rfl) fun E hE => sX4_back_0 hG (br_f n0 ⟨_, hC, sX4_back_21 hG (aE_e hE h9)⟩)) hC2 key
end MH
