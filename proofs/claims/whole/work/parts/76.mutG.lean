section MG
variable {A A' A1 A2 B B0 C D : Nat → Nat → Int32} {R R' R1 R2 : Nat → Nat → Option Nat} {G : Nat → Nat × Nat} {n n' t T w t' : Nat} {W : Nat → Nat → List Nat} {Λ : aLm} {v u vx vm : aV}
/-- only the readers' rows are touched -/
theorem sJ.tape (hJ : sJ n t T W A R G) (hX : ∀ o, (o < 31 ∨ 36 < o) → ¬ o = 48 → ¬ o = 53 → ¬ o = 54 → ¬ o = 55 → ¬ o = 63 → A2 o = A o) (h48 : ∀ k, (k = 0 ∨ k = 5 ∨ k = 6 ∨ k = 11 ∨ k = 12 ∨ k = 13) → A2 48 k = A 48 k) (hM : ∀ k, k < T → TMt (A2 54) (A2 55) k (W k)) (hT : sTp A2) : sJ n t T W A2 R G := by
  obtain ⟨a, b, c, d, e, f, g, i⟩ := hJ
  have k : ∀ o, (o < 31 ∨ (36 < o ∧ o < 48) ∨ (48 < o ∧ o < 53) ∨ (55 < o ∧ o < 63) ∨ 63 < o) → A2 o = A o := fun o h => hX o (by omega) (by omega) (by omega) (by omega) (by omega) (by omega)
  have hvm : vM A2 = vM A := by
    funext f i
    unfold vM
    rw [k 49 (by omega), k 50 (by omega), k 51 (by omega), k 52 (by omega), h48 0 (by omega), h48 5 (by omega), h48 6 (by omega)]
  refine ⟨a, b, ⟨c.1, c.2.1, by rw [k 0 (by omega)]; exact c.2.2.1, by rw [h48 11 (by omega)]; exact c.2.2.2.1, fun s hs => ?_⟩, ?_, ?_, hT, ?_, i.go (k _ (by omega))⟩
  · obtain ⟨q1, q2, q3⟩ := c.2.2.2.2 s hs
    rw [k (tw s + 1) (by unfold tw; omega), k (tw s + 2) (by unfold tw; omega)]
    exact ⟨q1, q2, hM s hs⟩
  · exact d.goX (fun o h1 h2 => k o (by omega)) (fun j hj => h48 j (by omega)) (eqV.of hvm.symm) rfl
  · exact e.go (fun o h1 h2 => k o (by omega)) (by rw [k 0 (by omega)]) (h48 13 (by omega)) (k _ (by omega)) (eqI (eqV.of hvm.symm) (k _ (by omega)) (k _ (by omega))) rfl
  · exact g.go (fun o h1 h2 => k o (by omega)) (k _ (by omega)) (k _ (by omega)) (k _ (by omega)) rfl
def fdX (z : Nat) (b : Nat → Int32) (k : Nat) (A B : Nat → Nat → Int32) : Prop := (∀ o, ¬ o = 31 → ¬ o = 32 → B o = A o) ∧ B 31 5 = nI (z + k) ∧ (∀ j, j < z → B 32 j = A 32 j) ∧ ∀ j, j < k → B 32 (z + j) = b j
def fdM (z : Nat) (b : Nat → Int32) (k : Nat) (A B : Nat → Nat → Int32) : Prop := (∀ o, ¬ o = 48 → ¬ o = 53 → B o = A o) ∧ (∀ j, ¬ j = 8 → B 48 j = A 48 j) ∧ B 48 8 = nI (z + k) ∧ (∀ j, j < z → B 53 j = A 53 j) ∧ ∀ j, j < k → B 53 (z + j) = b j
theorem fdX.add (hG : aGS G) {z k : Nat} {b : Nat → Int32} {x : Int32} (h : fdX z b k A B) (hz : z + k < 160) (hx : x = b k) : ∃ B', fdX z b (k + 1) A B' ∧ CX1_addByte [.ref 31, .int x] (B, R, G) none (B', R, G) := by
  obtain ⟨h1, h3, h4, h5⟩ := h
  refine ⟨au (au B 32 (z + k) x) 31 5 (nI (z + (k + 1))), ⟨fun o a b => ?_, au_k, fun j hj => ?_, fun j hj => ?_⟩, aC_of (Nat.le_of_ble_eq_true rfl) fun E hE => sX1_addByte_0 hG _ (br_f ?_ ?_)⟩
  · rw [au_o a, au_o b]; exact h1 o a b
  · rw [au_o (by omega), au_j (by omega)]; exact h4 j hj
  · rw [au_o (by omega)]
    by_cases e : j = k
    · subst e; rw [au_k]; exact hx
    · rw [au_j (by omega)]; exact h5 j (by omega)
  · rw [h3]; exact nI_ge (a := z + k) (b := 160) (by omega) (by omega)
  · simp (disch := omega) only [aua, h3, nI_clamp, nI_1]
    exact ⟨vp_in_nI (by omega) (by omega), hE⟩
def five (x2 x3 x4 x5 x6 : Int32) : Nat → Int32
  | 0 => x2
  | 1 => x3
  | 2 => x4
  | 3 => x5
  | _ => x6
theorem lX5_fee {E : aR} (hG : aGS G) {z m : Nat} {x2 x3 x4 x5 x6 : Int32} (hm : m ≤ 5) (hz : z + m ≤ 160) (hE : ∀ B, fdM z (five x2 x3 x4 x5 x6) m A B → E (some (.int (nI (z + m)))) (B, R, G)) :
    ∀ (i k : Nat) (B : Nat → Nat → Int32), k + i = m → fdM z (five x2 x3 x4 x5 x6) k A B → aw tX5_feed E 68 [some (.ref 48), some (.int (nI m)), some (.int x2), some (.int x3), some (.int x4), some (.int x5), some (.int x6), some (.int (nI k))] [] (B, R, G)
  | 0, k, B, hk, h => by
    have hk2 : k = m := by omega
    subst hk2
    have h9 := hE B h
    exact sX5_feed_68 hG _ _ _ _ _ _ _ (br_t (nI_le (by omega) (by omega)) (aE_e h9 h.2.2.1))
  | i + 1, k, B, hk, h => by
    obtain ⟨h1, h2, h3, h4, h5⟩ := h
    have hx : vp_in (nI (z + k)) 160 := vp_in_nI (by omega) (by omega)
    have ih : ∀ x, x = five x2 x3 x4 x5 x6 k → aw tX5_feed E 68 [some (.ref 48), some (.int (nI m)), some (.int x2), some (.int x3), some (.int x4), some (.int x5), some (.int x6), some (.int (nI (k + 1)))] [] (au (au B 53 (z + k) x) 48 8 (nI (z + k + 1)), R, G) := fun x hxe => lX5_fee hG hm hz hE i (k + 1) _ (by omega) ⟨fun o a b => by rw [au_o a, au_o b]; exact h1 o a b, fun j hj => by rw [au_j hj, au_o (by omega)]; exact h2 j hj, au_k, fun j hj => by rw [au_o (by omega), au_j (by omega)]; exact h4 j hj, fun j hj => by
      rw [au_o (by omega)]
      by_cases e : j = k
      · subst e; rw [au_k]; exact hxe
      · rw [au_j (by omega)]; exact h5 j (by omega)⟩
    refine sX5_feed_68 hG _ _ _ _ _ _ _ (br_f (nI_ge (by omega) (by omega)) ?_)
    simp (disch := omega) only [aua, h3, nI_clamp, nI_1]
    have hk5 : k = 0 ∨ k = 1 ∨ k = 2 ∨ k = 3 ∨ k = 4 := by omega
    rcases hk5 with rfl | rfl | rfl | rfl | rfl
    · exact br_t (by decide) ⟨hx, ih _ rfl⟩
    · exact br_f (by decide) (br_t (by decide) ⟨hx, ih _ rfl⟩)
    · exact br_f (by decide) (br_f (by decide) (br_t (by decide) ⟨hx, ih _ rfl⟩))
    · exact br_f (by decide) (br_f (by decide) (br_f (by decide) (br_t (by decide) ⟨hx, ih _ rfl⟩)))
    · exact br_f (by decide) (br_f (by decide) (br_f (by decide) (br_f (by decide) ⟨hx, ih _ rfl⟩)))
theorem c_feed (hJ : sJ n t T W A R G) (x1 x2 x3 x4 x5 x6 : Int32) : bthI T W CX4_feed CX5_feed [.int x1, .int x2, .int x3, .int x4, .int x5, .int x6] A R G := by
  have hG := hJ.gs
  by_cases h1 : 1 ≤ x1 ∧ x1 ≤ 5
  case neg => exact qry0 hJ _ (aC_of (Nat.le_of_ble_eq_true rfl) fun E hE => sX4_feed_0 hG _ _ _ _ _ _ (br_f h1 hE)) (aC_of (Nat.le_of_ble_eq_true rfl) fun E hE => sX5_feed_0 hG _ _ _ _ _ _ (br_f h1 hE))
  by_cases h2 : 0 ≤ x2 ∧ x2 ≤ 255
  case neg => exact qry0 hJ _ (aC_of (Nat.le_of_ble_eq_true rfl) fun E hE => sX4_feed_0 hG _ _ _ _ _ _ (br_t h1 (br_f h2 hE))) (aC_of (Nat.le_of_ble_eq_true rfl) fun E hE => sX5_feed_0 hG _ _ _ _ _ _ (br_t h1 (br_f h2 hE)))
  by_cases h3 : 0 ≤ x3 ∧ x3 ≤ 255
  case neg => exact qry0 hJ _ (aC_of (Nat.le_of_ble_eq_true rfl) fun E hE => sX4_feed_0 hG _ _ _ _ _ _ (br_t h1 (br_t h2 (br_f h3 hE)))) (aC_of (Nat.le_of_ble_eq_true rfl) fun E hE => sX5_feed_0 hG _ _ _ _ _ _ (br_t h1 (br_t h2 (br_f h3 hE))))
  by_cases h4 : 0 ≤ x4 ∧ x4 ≤ 255
  case neg => exact qry0 hJ _ (aC_of (Nat.le_of_ble_eq_true rfl) fun E hE => sX4_feed_0 hG _ _ _ _ _ _ (br_t h1 (br_t h2 (br_t h3 (br_f h4 hE))))) (aC_of (Nat.le_of_ble_eq_true rfl) fun E hE => sX5_feed_0 hG _ _ _ _ _ _ (br_t h1 (br_t h2 (br_t h3 (br_f h4 hE)))))
  by_cases h5 : 0 ≤ x5 ∧ x5 ≤ 255
  case neg => exact qry0 hJ _ (aC_of (Nat.le_of_ble_eq_true rfl) fun E hE => sX4_feed_0 hG _ _ _ _ _ _ (br_t h1 (br_t h2 (br_t h3 (br_t h4 (br_f h5 hE)))))) (aC_of (Nat.le_of_ble_eq_true rfl) fun E hE => sX5_feed_0 hG _ _ _ _ _ _ (br_t h1 (br_t h2 (br_t h3 (br_t h4 (br_f h5 hE))))))
  by_cases h6 : 0 ≤ x6 ∧ x6 ≤ 255
  case neg => exact qry0 hJ _ (aC_of (Nat.le_of_ble_eq_true rfl) fun E hE => sX4_feed_0 hG _ _ _ _ _ _ (br_t h1 (br_t h2 (br_t h3 (br_t h4 (br_t h5 (br_f h6 hE))))))) (aC_of (Nat.le_of_ble_eq_true rfl) fun E hE => sX5_feed_0 hG _ _ _ _ _ _ (br_t h1 (br_t h2 (br_t h3 (br_t h4 (br_t h5 (br_f h6 hE)))))))
  obtain ⟨m, hm1, hm, rfl⟩ := rgB (b := 1) (c := 5) (by omega) h1 (by omega)
  obtain ⟨z, hz, hz1, hz2, hz3⟩ := hJ.2.2.2.2.2.1
  have e31 : A 31 5 + nI m = nI (z + m) := by rw [hz1, nI_add]
  have e48 : A 48 8 + nI m = nI (z + m) := by rw [hz2, nI_add]
  by_cases h7 : nI (z + m) ≤ 160
  case neg => exact qry0 hJ _ (aC_of (Nat.le_of_ble_eq_true rfl) fun E hE => sX4_feed_0 hG _ _ _ _ _ _ (br_t h1 (br_t h2 (br_t h3 (br_t h4 (br_t h5 (br_t h6 (br_f (by rw [e31]; exact h7) hE)))))))) (aC_of (Nat.le_of_ble_eq_true rfl) fun E hE => sX5_feed_0 hG _ _ _ _ _ _ (br_t h1 (br_t h2 (br_t h3 (br_t h4 (br_t h5 (br_t h6 (br_f (by rw [e48]; exact h7) hE))))))))
  have hzm : z + m ≤ 160 := (nI_leI (a := z + m) (b := 160) (by omega) (by omega)).mp h7
  have hby : ∀ j, 0 ≤ five x2 x3 x4 x5 x6 j ∧ five x2 x3 x4 x5 x6 j ≤ 255 := fun j => by
    match j with
    | 0 => exact h2
    | 1 => exact h3
    | 2 => exact h4
    | 3 => exact h5
    | j + 4 => exact h6
  obtain ⟨A1, hA1, hC1⟩ : ∃ A1, fdX z (five x2 x3 x4 x5 x6) m A A1 ∧ CX4_feed [.ref 0, .int (nI m), .int x2, .int x3, .int x4, .int x5, .int x6] (A, R, G) (some (.int (nI (z + m)))) (A1, R, G) := by
    have h0 : fdX z (five x2 x3 x4 x5 x6) 0 A A := ⟨fun _ _ _ => rfl, hz1, fun _ _ => rfl, fun j hj => absurd hj (by omega)⟩
    obtain ⟨B1, g1, c1⟩ := h0.add (R := R) (x := x2) hG (by omega) rfl
    have nav : ∀ {E : aR}, (∀ d2, aw tX4_feed E 76 [some (.ref 0), some (.int (nI m)), d2, some (.int x3), some (.int x4), some (.int x5), some (.int x6)] [] (B1, R, G)) → aw tX4_feed E 0 [some (.ref 0), some (.int (nI m)), some (.int x2), some (.int x3), some (.int x4), some (.int x5), some (.int x6)] [] (A, R, G) := fun {E} h => sX4_feed_0 hG _ _ _ _ _ _ (br_t h1 (br_t h2 (br_t h3 (br_t h4 (br_t h5 (br_t h6 (br_t (by rw [e31]; exact h7) ⟨_, c1, h _⟩)))))))
    have hk5 : m = 1 ∨ m = 2 ∨ m = 3 ∨ m = 4 ∨ m = 5 := by omega
    rcases hk5 with rfl | rfl | rfl | rfl | rfl
    · refine ⟨B1, g1, aC_of (Nat.le_of_ble_eq_true rfl) fun E hE => nav fun d2 => sX4_feed_76 hG _ _ _ _ _ _ (br_t (by decide) (sX4_feed_89 hG _ _ _ _ _ _ (br_t (by decide) (sX4_feed_103 hG _ _ _ _ _ _ (br_t (by decide) (sX4_feed_117 hG _ _ _ _ _ _ (br_t (by decide) (sX4_feed_131 hG _ _ _ _ _ _ ?_))))))))⟩
      exact aE_e hE g1.2.1
    · obtain ⟨B2, g2, c2⟩ := g1.add (R := R) (x := x3) hG (by omega) rfl
      refine ⟨B2, g2, aC_of (Nat.le_of_ble_eq_true rfl) fun E hE => nav fun d2 => sX4_feed_76 hG _ _ _ _ _ _ (br_f (by decide) ⟨_, c2, sX4_feed_89 hG _ _ _ _ _ _ (br_t (by decide) (sX4_feed_103 hG _ _ _ _ _ _ (br_t (by decide) (sX4_feed_117 hG _ _ _ _ _ _ (br_t (by decide) (sX4_feed_131 hG _ _ _ _ _ _ ?_))))))⟩)⟩
      exact aE_e hE g2.2.1
    · obtain ⟨B2, g2, c2⟩ := g1.add (R := R) (x := x3) hG (by omega) rfl
      obtain ⟨B3, g3, c3⟩ := g2.add (R := R) (x := x4) hG (by omega) rfl
      refine ⟨B3, g3, aC_of (Nat.le_of_ble_eq_true rfl) fun E hE => nav fun d2 => sX4_feed_76 hG _ _ _ _ _ _ (br_f (by decide) ⟨_, c2, sX4_feed_89 hG _ _ _ _ _ _ (br_f (by decide) ⟨_, c3, sX4_feed_103 hG _ _ _ _ _ _ (br_t (by decide) (sX4_feed_117 hG _ _ _ _ _ _ (br_t (by decide) (sX4_feed_131 hG _ _ _ _ _ _ ?_))))⟩)⟩)⟩
      exact aE_e hE g3.2.1
    · obtain ⟨B2, g2, c2⟩ := g1.add (R := R) (x := x3) hG (by omega) rfl
      obtain ⟨B3, g3, c3⟩ := g2.add (R := R) (x := x4) hG (by omega) rfl
      obtain ⟨B4, g4, c4⟩ := g3.add (R := R) (x := x5) hG (by omega) rfl
      refine ⟨B4, g4, aC_of (Nat.le_of_ble_eq_true rfl) fun E hE => nav fun d2 => sX4_feed_76 hG _ _ _ _ _ _ (br_f (by decide) ⟨_, c2, sX4_feed_89 hG _ _ _ _ _ _ (br_f (by decide) ⟨_, c3, sX4_feed_103 hG _ _ _ _ _ _ (br_f (by decide) ⟨_, c4, sX4_feed_117 hG _ _ _ _ _ _ (br_t (by decide) (sX4_feed_131 hG _ _ _ _ _ _ ?_))⟩)⟩)⟩)⟩
      exact aE_e hE g4.2.1
    · obtain ⟨B2, g2, c2⟩ := g1.add (R := R) (x := x3) hG (by omega) rfl
      obtain ⟨B3, g3, c3⟩ := g2.add (R := R) (x := x4) hG (by omega) rfl
      obtain ⟨B4, g4, c4⟩ := g3.add (R := R) (x := x5) hG (by omega) rfl
      obtain ⟨B5, g5, c5⟩ := g4.add (R := R) (x := x6) hG (by omega) rfl
      refine ⟨B5, g5, aC_of (Nat.le_of_ble_eq_true rfl) fun E hE => nav fun d2 => sX4_feed_76 hG _ _ _ _ _ _ (br_f (by decide) ⟨_, c2, sX4_feed_89 hG _ _ _ _ _ _ (br_f (by decide) ⟨_, c3, sX4_feed_103 hG _ _ _ _ _ _ (br_f (by decide) ⟨_, c4, sX4_feed_117 hG _ _ _ _ _ _ (br_f (by decide) ⟨_, c5, sX4_feed_131 hG _ _ _ _ _ _ ?_⟩)⟩)⟩)⟩)⟩
      exact aE_e hE g5.2.1
  obtain ⟨a1, a2, a3, a4⟩ := hA1
  obtain ⟨A2, ⟨b1, b2, b3, b4, b5⟩, hC2⟩ : ∃ A2, fdM z (five x2 x3 x4 x5 x6) m A1 A2 ∧ CX5_feed [.ref 48, .int (nI m), .int x2, .int x3, .int x4, .int x5, .int x6] (A1, R, G) (some (.int (nI (z + m)))) (A2, R, G) := by
    refine aC_exA vX5_feed (Nat.le_of_ble_eq_true rfl) fun E hE => sX5_feed_0 hG _ _ _ _ _ _ (br_t h1 (br_t h2 (br_t h3 (br_t h4 (br_t h5 (br_t h6 (br_t ?_ ?_)))))))
    · rw [a1 48 (by omega) (by omega), e48]; exact h7
    · exact lX5_fee hG hm hzm (fun B hB => hE B hB) m 0 A1 (by omega) ⟨fun _ _ _ => rfl, fun _ _ => rfl, by rw [a1 48 (by omega) (by omega)]; exact hz2, fun _ _ => rfl, fun j hj => absurd hj (by omega)⟩
  refine fin hC1 hC2 (hJ.tape (fun o h1 h2 h3 h4 h5 h6 => by rw [b1 o h2 h3, a1 o (by omega) (by omega)]) (fun k hk => by rw [b2 k (by omega), a1 48 (by omega) (by omega)]) (fun k hk => ?_) ⟨z + m, hzm, by rw [b1 31 (by omega) (by omega)]; exact a2, b3, fun i hi => ?_⟩)
  · rw [b1 54 (by omega) (by omega), b1 55 (by omega) (by omega), a1 54 (by omega) (by omega), a1 55 (by omega) (by omega)]
    exact (hJ.2.2.1.2.2.2.2 k hk).2.2
  · rw [b1 32 (by omega) (by omega)]
    by_cases e : i < z
    · rw [a3 i e, b4 i e, a1 53 (by omega) (by omega)]
      exact hz3 i e
    · obtain ⟨j, rfl⟩ : ∃ j, i = z + j := ⟨i - z, by omega⟩
      rw [a4 j (by omega), b5 j (by omega)]
      exact ⟨rfl, hby j⟩
end MG
