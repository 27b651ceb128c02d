/-! the tokens of a tape -/
section TK
variable {A B : Nat → Nat → Int32} {R : Nat → Nat → Option Nat} {G : Nat → Nat × Nat} {t u : Nat → Int32} {z n N i l o d p : Nat} {T : Nat → Nat} {C C0 : List Nat}
theorem wdR_ex {p e : Nat} : ∀ m k, k + m ≤ 12 → (∃ i, i < 12 ∧ wdR t p e m k = wcode i) ∨ wdR t p e m k = -27
  | 0, k, _ => Or.inr (by unfold wdR; rfl)
  | m + 1, k, h => by
    rw [wdR_s]
    by_cases q : isW t p e k
    · rw [if_pos q]; exact Or.inl ⟨k, by omega, rfl⟩
    · rw [if_neg q]; exact wdR_ex m (k + 1) (by omega)
theorem wcode_ex : ∀ i, i < 12 → ∃ a, a < 27 ∧ wcode i = tX a ∧ (a < 14 ∨ (18 < a ∧ a < 27)) := by decide +kernel
theorem tk_ex {p : Nat} (hp : p ≤ z) : ∃ a, tkCode t z p = tX a ∧ okT a := by
  unfold tkCode
  by_cases e : p < z
  case neg => rw [if_neg e]; exact ⟨25, by decide, by unfold okT; omega⟩
  rw [if_pos e]
  by_cases c : isL t z p
  · rw [if_pos c]
    rcases wdR_ex (t := t) (p := p) (e := tkEnd t z p) 12 0 (by omega) with ⟨i, hi, h⟩ | h
    · obtain ⟨a, a1, a2, a3⟩ := wcode_ex i hi
      exact ⟨a, by rw [h, a2], by unfold okT; omega⟩
    · exact ⟨26, by rw [h]; decide, by unfold okT; omega⟩
  rw [if_neg c]
  by_cases d : isD t z p
  · rw [if_pos d]
    have ee : tkEnd t z p = runN (isD t z) (z - p) p := by unfold tkEnd; rw [if_neg c, if_pos d]
    by_cases k4 : tkEnd t z p - p ≤ 4
    · rw [if_pos k4]
      obtain ⟨v, hv, hb⟩ := numR_v (t := t) (tkEnd t z p - p) p 0 (fun i hi => (runN_in (z - p) p (p + i) (by omega) (by rw [← ee]; omega) : isD t z (p + i)).2) (by
        have : 10 ^ (tkEnd t z p - p) ≤ 10 ^ 4 := Nat.pow_le_pow_right (by omega) k4
        omega)
      refine ⟨100 + v, ?_, by unfold okT; omega⟩
      rw [tX_n (by omega), show (100 + v) - 100 = v by omega, ← hv]
      rfl
    · rw [if_neg k4]; exact ⟨26, by decide, by unfold okT; omega⟩
  rw [if_neg d]
  unfold sgX
  by_cases x1 : t p = 40
  · rw [if_pos x1]; exact ⟨19, by decide, by unfold okT; omega⟩
  rw [if_neg x1]
  by_cases x2 : t p = 41
  · rw [if_pos x2]; exact ⟨20, by decide, by unfold okT; omega⟩
  rw [if_neg x2]
  by_cases x3 : t p = 59
  · rw [if_pos x3]; exact ⟨21, by decide, by unfold okT; omega⟩
  rw [if_neg x3]
  by_cases x4 : t p = 43
  · rw [if_pos x4]; exact ⟨11, by decide, by unfold okT; omega⟩
  rw [if_neg x4]
  by_cases x5 : t p = 45
  · rw [if_pos x5]; exact ⟨12, by decide, by unfold okT; omega⟩
  rw [if_neg x5]
  by_cases x6 : t p = 42
  · rw [if_pos x6]; exact ⟨13, by decide, by unfold okT; omega⟩
  rw [if_neg x6]
  by_cases x7 : t p = 60
  · rw [if_pos x7]; exact ⟨9, by decide, by unfold okT; omega⟩
  rw [if_neg x7]
  by_cases x8 : t p = 61
  · rw [if_pos x8]; exact ⟨10, by decide, by unfold okT; omega⟩
  rw [if_neg x8]
  exact ⟨26, by decide, by unfold okT; omega⟩
theorem isL_c (h : ∀ q, q < z → t q = u q) : isL t z = isL u z := by
  funext p
  refine propext ⟨fun c => ?_, fun c => ?_⟩
  · unfold isL at *; rw [← h p c.1]; exact c
  · unfold isL at *; rw [h p c.1]; exact c
theorem isD_c (h : ∀ q, q < z → t q = u q) : isD t z = isD u z := by
  funext p
  refine propext ⟨fun c => ?_, fun c => ?_⟩
  · unfold isD at *; rw [← h p c.1]; exact c
  · unfold isD at *; rw [h p c.1]; exact c
theorem isBk_c (h : ∀ q, q < z → t q = u q) : isBk t z = isBk u z := by
  funext p
  refine propext ⟨fun c => ?_, fun c => ?_⟩
  · unfold isBk at *; rw [← h p c.1]; exact c
  · unfold isBk at *; rw [h p c.1]; exact c
theorem tkEnd_c (h : ∀ q, q < z → t q = u q) (p : Nat) : tkEnd t z p = tkEnd u z p := by
  unfold tkEnd
  rw [isL_c h, isD_c h]
theorem skipN_c (h : ∀ q, q < z → t q = u q) (p : Nat) : skipN t z p = skipN u z p := by
  unfold skipN
  rw [isBk_c h]
theorem tkPl_c (h : ∀ q, q < z → t q = u q) : ∀ i, tkPl t z i = tkPl u z i
  | 0 => skipN_c h 0
  | i + 1 => by
    show skipN t z (tkEnd t z (tkPl t z i)) = skipN u z (tkEnd u z (tkPl u z i))
    rw [tkPl_c h i, tkEnd_c h, skipN_c h]
theorem isW_c (h : ∀ q, q < z → t q = u q) {p e k : Nat} (he : e ≤ z) (hpe : p ≤ e) : isW t p e k ↔ isW u p e k := by
  unfold isW
  refine ⟨fun c => ⟨c.1, fun j hj => ?_⟩, fun c => ⟨c.1, fun j hj => ?_⟩⟩
  · have h1 := c.1
    rw [← h (p + j) (by omega)]; exact c.2 j hj
  · have h1 := c.1
    rw [h (p + j) (by omega)]; exact c.2 j hj
theorem wdR_c (h : ∀ q, q < z → t q = u q) {p e : Nat} (he : e ≤ z) (hpe : p ≤ e) : ∀ m k, wdR t p e m k = wdR u p e m k
  | 0, k => by unfold wdR; rfl
  | m + 1, k => by
    rw [wdR_s, wdR_s, wdR_c h he hpe m (k + 1)]
    by_cases q : isW t p e k
    · rw [if_pos q, if_pos ((isW_c h he hpe).mp q)]
    · rw [if_neg q, if_neg (fun w => q ((isW_c h he hpe).mpr w))]
theorem numR_c (h : ∀ q, q < z → t q = u q) : ∀ m q a, q + m ≤ z → numR t m q a = numR u m q a
  | 0, q, a, _ => by unfold numR; rfl
  | m + 1, q, a, hm => by rw [numR_s, numR_s, h q (by omega), numR_c h m (q + 1) _ (by omega)]
theorem tkCode_c (h : ∀ q, q < z → t q = u q) {p : Nat} (hp : p ≤ z) : tkCode t z p = tkCode u z p := by
  have hpe := tkEnd_le (t := u) hp
  unfold tkCode
  rw [tkEnd_c h, isL_c h, isD_c h]
  by_cases e : p < z
  · rw [if_pos e, if_pos e, wdR_c h hpe.2.1 hpe.1, numR_c h _ _ _ (by omega), h p e]
  · rw [if_neg e, if_neg e]
theorem tkT_c (h : ∀ q, q < z → t q = u q) (i : Nat) : tkT t z i = tkT u z i := by
  unfold tkT
  rw [tkPl_c h, tkCode_c h (tkPl_le i)]
/-- the scan's tokens, as words -/
theorem xH.of {t : Nat → Int32} (h : scXe t z A B N) : ∃ T : Nat → Nat, (∀ i, tkT t z i = tX (T i) ∧ okT (T i)) ∧ xH B T N ∧ (T N = 25 ∨ T N = 26) := by
  refine ⟨fun i => Classical.choose (tk_ex (t := t) (tkPl_le (t := t) (z := z) i)), fun i => Classical.choose_spec (tk_ex (t := t) (tkPl_le (t := t) (z := z) i)), ?_⟩
  have hT : ∀ i, tkT t z i = tX (Classical.choose (tk_ex (t := t) (tkPl_le (t := t) (z := z) i))) ∧ okT (Classical.choose (tk_ex (t := t) (tkPl_le (t := t) (z := z) i))) := fun i => Classical.choose_spec (tk_ex (t := t) (tkPl_le (t := t) (z := z) i))
  obtain ⟨h1, ⟨h2, h3⟩, h4, h5, h6⟩ := h
  have hl : Classical.choose (tk_ex (t := t) (tkPl_le (t := t) (z := z) N)) = 25 ∨ Classical.choose (tk_ex (t := t) (tkPl_le (t := t) (z := z) N)) = 26 := by
    obtain ⟨a, b⟩ := hT N
    rw [a] at h6
    rcases h6 with h6 | h6
    · exact Or.inl ((tX_q b (b := 25) (by omega)).mp (h6.trans (by decide)))
    · exact Or.inr ((tX_q b (b := 26) (by omega)).mp (h6.trans (by decide)))
  refine ⟨⟨h1, fun i hi => ?_, fun i hi a b => ?_⟩, hl⟩
  · refine ⟨?_, (hT i).2⟩
    by_cases q : i < N
    · rw [(h3 i q).1]; exact (hT i).1
    · have : i = N := by omega
      rw [this, h4]; exact (hT N).1
  · refine Nat.lt_of_le_of_ne hi (fun w => ?_)
    subst w
    exact hl.elim a b
/-- one part of a text -/
theorem qX1_readPart (hG : aGS G) (H : xH A T N) (hp : p < 3) (hi : i ≤ N) (hB : xB A B C0 i) (hl : C0.length ≤ i) : ∃ (ok : Bool) (i' : Nat) (C : List Nat) (B' : Nat → Nat → Int32), CX1_readPart [.ref 31, .int (nI p)] (B, R, G) (some (.int (if ok then 1 else 0))) (B', R, G) ∧ i ≤ i' ∧ i' ≤ N ∧
    (ok = false → ∃ Cx, xB A B' Cx i') ∧ (ok = true → xB (au A 36 p (nI (C0 ++ C).length)) B' (C0 ++ C) i' ∧ C.length + i ≤ i' ∧ okW 0 C) ∧
    ((¬ T i = 22 + p ∧ ok = false ∧ i' = i) ∨ (T i = 22 + p ∧ i + 1 ≤ N ∧ ∀ (E : aR) (A : Nat → Nat → Int32) (R : Nat → Nat → Option Nat) (G : Nat → Nat × Nat) (n z : Nat), aGS G → yH A n z T N → ∀ O : List Nat, O.length ≤ i → (ok = false → yK0 E A R G n z i' → yY E A R G n z 1 1 [] O (i + 1)) ∧ (ok = true → yK1 E A R G n z (O ++ C) i' → yY E A R G n z 1 1 [] O (i + 1)))) := by
  have hN := H.1
  have hOT := (H.2.1 i hi).2
  have hkey : ∀ (E : aR) μ v, (∃ μ1, CX1_skip [.ref 31, .int (tX (22 + p))] (B, R, G) (some (.int v)) μ1 ∧ aw tX1_readPart E 27 [some (.ref 31), some (.int (nI p)), some (.int (tX (22 + p)))] [.int v] μ1) → μ = (B, R, G) → aw tX1_readPart E 0 [some (.ref 31), some (.int (nI p)), none] [] μ := by
    intro E μ v hk e
    subst e
    obtain ⟨μ1, k1, k2⟩ := hk
    have : p = 0 ∨ p = 1 ∨ p = 2 := by omega
    rcases this with rfl | rfl | rfl
    · exact sX1_readPart_0 hG _ (br_t rfl ⟨_, _, k1, k2⟩)
    · exact sX1_readPart_0 hG _ (br_f (by decide) (br_t rfl ⟨_, _, k1, k2⟩))
    · exact sX1_readPart_0 hG _ (br_f (by decide) (br_f (by decide) ⟨_, _, k1, k2⟩))
  by_cases q : T i = 22 + p
  case neg =>
    have hs := qX1_skip0 (R := R) hG H hB hi (x := tX (22 + p)) (by rw [tX_q hOT (by omega)]; exact q)
    exact ⟨false, i, [], B, aC_of (Nat.le_of_ble_eq_true rfl) fun E hE => hkey E _ _ ⟨_, hs, sX1_readPart_27 _ _ _ (br_t rfl hE)⟩ rfl, Nat.le_refl _, hi, fun _ => ⟨C0, hB⟩, fun w => absurd w (by decide), Or.inl ⟨q, rfl, rfl⟩⟩
  have hs := qX1_skip1 (R := R) hG H hB hi (x := tX (22 + p)) (by rw [q])
  have hlt : i < N := H.2.2 i hi (by omega) (by omega)
  obtain ⟨ok, i1, C, B1, hc, k1, k2, k3, k4, k5, k6, k7⟩ := pAll (R := R) hG H 36 0 0 (by omega) (by omega) (by omega) (i + 1) (by omega) _ C0 (hB.at (j := i + 1)) (by omega) 60 (by omega)
  have hpc : ∀ O : List Nat, O.length ≤ i → pC T 0 0 (i + 1) 1 [] O := fun O hO => ⟨fun _ => by decide, fun w => absurd w (by omega), fun s S' w => absurd w (by intro x; cases x), rfl, by show 0 + O.length ≤ i + 1; omega⟩
  cases ok with
  | false =>
    refine ⟨false, i1, C, B1, aC_of (Nat.le_of_ble_eq_true rfl) fun E hE => hkey E _ _ ⟨_, hs, sX1_readPart_27 _ _ _ (br_f (by decide) ⟨_, _, hc, sX1_readPart_36 hG _ _ _ (br_t rfl hE)⟩)⟩ rfl, by omega, k3, fun _ => ⟨_, k4⟩, fun w => absurd w (by decide), Or.inr ⟨q, hlt, ?_⟩⟩
    intro E A R G n z hG2 hY O hO
    exact ⟨fun _ hk => (k7 E A R G n z hG2 hY 1 [] O (hpc O hO)).1 rfl hk, fun w => absurd w (by decide)⟩
  | true =>
    have hOT1 := (H.2.1 i1 k3).2
    have hU : ∀ S1 O1 (O : List Nat), (∀ k, k ≤ lr 0 → uw k S1 O1 = uw k [] (O ++ C)) → uw 1 S1 O1 = ([], O ++ C) := fun S1 O1 O h => h 1 (by decide)
    by_cases q21 : T i1 = 21
    · have hlt1 : i1 < N := H.2.2 i1 k3 (by omega) (by omega)
      have hs1 := qX1_skip1 (R := R) hG H k4 k3 (x := tX 21) (by rw [q21])
      have h7 : (au B1 31 6 (nI (i1 + 1))) 31 7 = nI (C0 ++ C).length := by rw [au_j (by decide)]; exact k4.2.2.2.1
      refine ⟨true, i1 + 1, C, au (au B1 31 6 (nI (i1 + 1))) 36 p (nI (C0 ++ C).length), aC_of (Nat.le_of_ble_eq_true rfl) fun E hE => hkey E _ _ ⟨_, hs, sX1_readPart_27 _ _ _ (br_f (by decide) ⟨_, _, hc, sX1_readPart_36 hG _ _ _ (br_f (by decide) ⟨_, _, hs1, sX1_readPart_45 hG _ _ _ (br_f (by decide) ⟨vp_in_nI hp (by omega), ?_⟩)⟩)⟩)⟩ rfl, by omega, by omega, fun w => absurd w (by decide), fun _ => ⟨?_, by omega, ?_⟩, Or.inr ⟨q, hlt, ?_⟩⟩
      · rw [h7, nI_clamp (by omega)]; exact hE
      · have h := k4.at (j := i1 + 1)
        obtain ⟨a1, a2, a3, a4, a5⟩ := h
        refine ⟨fun o a b => ?_, fun k a b => ?_, ?_, ?_, ?_⟩
        · by_cases w : o = 36
          · subst w
            funext j
            by_cases w2 : j = p
            · subst w2; rw [au_k, au_k]
            · rw [au_j w2, au_j w2, a1 36 (by decide) (by decide)]
          · rw [au_o w, au_o w]; exact a1 o a b
        · rw [aua (o := 36) (by decide), aua (o := 36) (by decide)]; exact a2 k a b
        · rw [aua (o := 36) (by decide)]; exact a3
        · rw [aua (o := 36) (by decide)]; exact a4
        · rw [au_o (by decide)]; exact a5
      · have := k6 rfl 0 [] (by unfold okW; rfl) (by omega)
        rw [List.append_nil] at this
        exact this
      · intro E A R G n z hG2 hY O hO
        refine ⟨fun w => absurd w (by decide), fun _ hk => ?_⟩
        obtain ⟨m1, S1, O1, g1, g2, g3, g4⟩ := (k7 E A R G n z hG2 hY 1 [] O (hpc O hO)).2 rfl
        exact g4 (yY.semi hG2 hY k3 g1 q21 (hU S1 O1 O g2) hk)
    · have hs0 := qX1_skip0 (R := R) hG H k4 k3 (x := tX 21) (by rw [tX_q hOT1 (by omega)]; exact q21)
      refine ⟨false, i1, C, B1, aC_of (Nat.le_of_ble_eq_true rfl) fun E hE => hkey E _ _ ⟨_, hs, sX1_readPart_27 _ _ _ (br_f (by decide) ⟨_, _, hc, sX1_readPart_36 hG _ _ _ (br_f (by decide) ⟨_, _, hs0, sX1_readPart_45 hG _ _ _ (br_t rfl hE)⟩)⟩)⟩ rfl, by omega, k3, fun _ => ⟨_, k4⟩, fun w => absurd w (by decide), Or.inr ⟨q, hlt, ?_⟩⟩
      intro E A R G n z hG2 hY O hO
      refine ⟨fun _ hk => ?_, fun w => absurd w (by decide)⟩
      obtain ⟨m1, S1, O1, g1, g2, g3, g4⟩ := (k7 E A R G n z hG2 hY 1 [] O (hpc O hO)).2 rfl
      refine g4 ?_
      by_cases q20 : T i1 = 20
      · exact yY.closeBad hG2 hY k3 g1 q20 (hU S1 O1 O g2) hk
      · exact yY.stop hG2 hY k3 g1 g3 q20 q21 hk
end TK
