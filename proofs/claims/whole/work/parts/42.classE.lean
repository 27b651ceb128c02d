section CE
variable {n : Nat} {v u : aV} {Λ : aLm}
theorem gosV_c (h : eqV n v u) (k : Nat) : eqV n (gosV Λ n v k).1 (gosV Λ n u k).1 ∧ (gosV Λ n v k).2 = (gosV Λ n u k).2 := by
  induction k with
  | zero => exact ⟨h, Eq.refl _⟩
  | succ k ih =>
    have h1 := dayV_c (Λ := Λ) ih.1
    rw [gosV_1, gosV_1, gosV_2, gosV_2, ih.2, h1.2]
    exact ⟨h1.1, Eq.refl _⟩
theorem unlV_c {x y : Nat → Int32} : ∀ (m k : Nat) {v u : aV}, eqV n v u → (∀ j, k ≤ j → j < k + m → x j = y j) → unlV Λ n x m k v = unlV Λ n y m k u
  | 0, _, _, _, _, _ => rfl
  | m + 1, k, v, u, h, hx => by
    have h1 := dayV_c (Λ := Λ) h
    unfold unlV
    rw [h1.2, hx k (by omega) (by omega), unlV_c m (k + 1) h1.1 (fun j hj hj2 => hx j (by omega) (by omega))]
theorem casesV_c (h : eqV n v u) {p : Nat} (hp : p < n) : casesV Λ v p = casesV Λ u p := by
  unfold casesV
  refine bits_c 8 fun c hc => ?_
  rw [h.2.1 5 (by omega) (by omega) c hc, mayV_c h hp hc]
theorem judgesV_c (h : eqV n v u) {c : Nat} (hc : c < 8) : judgesV Λ n v c = judgesV Λ n u c := by
  unfold judgesV
  refine bits_c n fun p hp => ?_
  rw [mayV_c h hp hc]
theorem whoV_c (h : eqV n v u) {c : Nat} (hc : c < 8) : whoV Λ n v c = whoV Λ n u c := by
  unfold whoV
  refine bits_c n fun p hp => ?_
  rw [canV_c h hp hc]
theorem thereV_c (h : eqV n v u) : thereV v = thereV u := by
  unfold thereV
  refine bits_c 8 fun c hc => ?_
  rw [h.2.1 5 (by omega) (by omega) c hc]
theorem waitV_c (h : eqV n v u) : ∀ k, k ≤ 8 → waitV v k = waitV u k
  | 0, _ => rfl
  | k + 1, hk => by
    unfold waitV
    rw [waitV_c h k (by omega), h.2.1 5 (by omega) (by omega) k (by omega), h.2.1 7 (by omega) (by omega) k (by omega)]
theorem brgV_s {l : Int64} {k : Nat} : brgV Λ n v l (k + 1) = brg1 Λ n (brgV Λ n v l k) := by
  conv => lhs; unfold brgV
theorem brg1_c {s t : aV × Int64 × Int32} (h : eqV n s.1 t.1) (e : s.2 = t.2) (hl : isLot t.2.1) (hn6 : n ≤ 6) : eqV n (brg1 Λ n s).1 (brg1 Λ n t).1 ∧ (brg1 Λ n s).2 = (brg1 Λ n t).2 := by
  obtain ⟨p, hp, hp2⟩ := lotP_is (lotF_is hl)
  unfold brg1
  simp only []
  rw [e, hp2, nI_clamp (by omega)]
  by_cases hc : nI n ≤ nI p
  · rw [if_pos hc, if_pos hc]
    have h1 := dayV_c (Λ := Λ) h
    exact ⟨h1.1, by rw [h1.2]⟩
  · rw [if_neg hc, if_neg hc]
    have hpn : p < n := Nat.lt_of_not_le (fun q => hc (nI_le (by omega) (by omega)))
    have h1 := dayV_c (Λ := Λ) (h.au (f := 2) (p := p) (x := s.1 2 p ^^^ ((1 : Int32) <<< (lotT (lotF (lotF t.2.1)) &&& 31))) (y := t.1 2 p ^^^ ((1 : Int32) <<< (lotT (lotF (lotF t.2.1)) &&& 31))) (by rw [h.1 2 (by omega) p hpn]))
    exact ⟨h1.1, by rw [h1.2]⟩
theorem brgV_l {l : Int64} (hl : isLot l) (k : Nat) : isLot (brgV Λ n v l k).2.1 := by
  induction k with
  | zero => exact hl
  | succ k ih =>
    rw [brgV_s]
    unfold brg1
    simp only []
    exact lotF_is (lotF_is ih)
theorem brgV_c {l : Int64} (h : eqV n v u) (hl : isLot l) (hn6 : n ≤ 6) (k : Nat) : eqV n (brgV Λ n v l k).1 (brgV Λ n u l k).1 ∧ (brgV Λ n v l k).2 = (brgV Λ n u l k).2 := by
  induction k with
  | zero => exact ⟨h, Eq.refl _⟩
  | succ k ih =>
    rw [brgV_s, brgV_s]
    exact brg1_c ih.1 ih.2 (brgV_l hl k) hn6
theorem inv_xor {p t : Nat} (h : invD n v) (ht : t < 10) : invD n (au v 2 p (v 2 p ^^^ ((1 : Int32) <<< (nI t &&& 31)))) ∨ ¬ p < n := by
  by_cases hp : p < n
  · refine Or.inl ⟨⟨fun q hq => ⟨?_, ?_, ?_⟩, fun d hd => ?_⟩, fun d hd => ?_, ?_⟩
    · rw [au_v (by omega)]; exact (h.1.1 q hq).1
    · by_cases e : q = p
      · subst e; rw [au_k]; exact isS_xor (h.1.1 q hq).2.1 (isS_bit t ht)
      · rw [au_v (by omega)]; exact (h.1.1 q hq).2.1
    · rw [au_v (by omega)]; exact (h.1.1 q hq).2.2
    · rw [au_v (by omega)]; exact h.1.2 d hd
    · rw [au_v (by omega)]; exact h.2.1 d hd
    · rw [au_v (by omega)]; exact h.2.2
  · exact Or.inr hp
end CE
section XE
variable {A : Nat → Nat → Int32} {R : Nat → Nat → Option Nat} {G : Nat → Nat × Nat} {b w n : Nat} {Λ : aLm}
/-- bench b stands -/
def bnA (b w n : Nat) (Λ : aLm) (A : Nat → Nat → Int32) (R : Nat → Nat → Option Nat) (G : Nat → Nat × Nat) : Prop := LXA A R G b w Λ ∧ A b 9 = nI n ∧ invD n (vX A b) ∧ tI A b
theorem bnA.d {A' : Nat → Nat → Int32} (h : bnA b w n Λ A R G) (hj : jDX b w A A') (hi : invD n (vX A' b)) : bnA b w n Λ A' R G := ⟨hj.L h.1, by rw [hj.n]; exact h.2.1, hi, hj.t h.1.1 h.2.2.2⟩
theorem bnA.th {A' : Nat → Nat → Int32} (h : bnA 1 w n Λ A R G) (hn6 : n ≤ 6) (h80 : 80 ≤ w) (hb : becX 11 1 A A') : bnA 11 w n Λ A' (ar R 11 14 (some w)) G ∧ eqV n (vX A 1) (vX A' 11) := by
  have hv := (hb.v).le hn6
  obtain ⟨⟨h1, h2, n1, h3, h4⟩, h5, h6, h7⟩ := h
  refine ⟨⟨⟨by omega, ?_, n1, h3, ?_⟩, ?_, invD_c hv h6, hb.t h7⟩, hv⟩
  · unfold ar; rw [if_pos ⟨rfl, rfl⟩]
  · rw [hb.1 (w + 1) (by omega), hb.1 (w + 2) (by omega)]; exact h4
  · rw [hb.2.2.2 9 (by omega) (by omega)]; exact h5
theorem lX4_brg {E : aR} (hG : aGS G) (hn6 : n ≤ 6) {v : aV} {l : Int64} (hl : isLot l) (hB : bnA 11 w n Λ A R G) (hE : ∀ A', jDX 11 w A A' → vX A' 11 = (brgV Λ n v l 10).1 → E (some (.int (brgV Λ n v l 10).2.2)) (A', R, G)) :
    ∀ (i k : Nat) (B : Nat → Nat → Int32) (d1 d6 d7 : Option Value), k + i = 10 → jDX 11 w A B → invD n (vX B 11) → vX B 11 = (brgV Λ n v l k).1 → aw tX4_heardAmongBurglars E 14 [some (.ref 0), d1, some (.int (brgV Λ n v l k).2.2), some (.long (brgV Λ n v l k).2.1), none, some (.int (nI k)), d6, d7] [] (B, R, G)
  | 0, k, B, d1, d6, d7, hk, hj, hi, hv => by
    have hk2 : k = 10 := by omega
    subst hk2
    exact sX4_heardAmongBurglars_14 _ _ _ _ _ _ ⟨fun _ => hE B hj hv, fun h => absurd (nI_le (a := 10) (b := 10) (by omega) (by omega)) h⟩
  | i + 1, k, B, d1, d6, d7, hk, hj, hi, hv => by
    have hB2 := hB.d hj hi
    have hl0 := brgV_l (Λ := Λ) (n := n) (v := v) hl k
    obtain ⟨p, hp, hp2⟩ := lotP_is (lotF_is hl0)
    obtain ⟨t, ht, ht2⟩ := lotT_is (lotF_is (lotF_is hl0))
    have hs := brgV_s (Λ := Λ) (n := n) (v := v) (l := l) (k := k)
    have ih := fun C d1 d6 d7 h1 h2 h3 => lX4_brg hG hn6 hl hB hE i (k + 1) C d1 d6 d7 (by omega) h1 h2 h3
    rw [hs] at ih
    unfold brg1 at ih
    simp only [] at ih
    rw [hp2, ht2, nI_clamp (by omega)] at ih
    refine sX4_heardAmongBurglars_14 _ _ _ _ _ _ ⟨fun h => absurd h (nI_ge (a := k) (b := 10) (by omega) (by omega)), fun _ => ⟨_, _, pX4_nextLot _, sX4_heardAmongBurglars_25 _ _ _ _ _ _ _ ⟨_, _, pX4_nextLot _, ?_⟩⟩⟩
    generalize brgV Λ n v l k = s0 at *
    have q3 : (lotF s0.2.1 - lotF s0.2.1 / 6 * 6).toInt32 = nI p := hp2
    have q4 : (lotF (lotF s0.2.1) - lotF (lotF s0.2.1) / 10 * 10).toInt32 = nI t := ht2
    rw [q3]
    refine sX4_heardAmongBurglars_38 hG _ _ _ _ _ _ _ ?_
    rw [q4, hB2.2.1]
    simp (disch := omega) only [nI_clamp]
    refine ⟨fun h => ⟨vp_in_nI hp (by omega), ?_⟩, fun h => ?_⟩
    · have hnp : ¬ nI n ≤ nI p := Int32.not_le.mpr h.2
      have hpn : p < n := Nat.lt_of_not_le (fun q => hnp (nI_le (by omega) (by omega)))
      rw [if_neg hnp] at ih
      have e2 : B 14 p = s0.1 2 p := by rw [← hv]; rfl
      rw [e2]
      generalize hx : s0.1 2 p ^^^ ((1 : Int32) <<< (nI t &&& 31)) = x at *
      have hvx : vX (au B 14 p x) 11 = au s0.1 2 p x := by rw [← hv]; exact vX_u (b := 11) (f := 2) (by omega)
      have hj0 : jDX 11 w B (au B 14 p x) := jDX.a (b := 11) (by omega)
      have hi0 : invD n (vX (au B 14 p x) 11) := by
        rw [hvx, ← hx]
        rcases inv_xor (p := p) (t := t) (by rw [hv] at hi; exact hi) ht with q | q
        · exact q
        · exact absurd hpn q
      have hB3 := hB2.d hj0 hi0
      obtain ⟨B1, ⟨hj1, hv1⟩, hC⟩ := qX0_passDay (gB11 hG) hB3.1 hB3.2.1 hB3.2.2.1 hn6 hB3.2.2.2
      rw [hvx] at hv1 hC
      refine ⟨_, _, hC, sX4_heardAmongBurglars_84 _ _ _ _ _ _ _ _ ?_⟩
      rw [nI_1, popc_S isS_day]
      exact ih B1 _ _ _ ((hj.tr hj0).tr hj1) (by rw [hv1, ← hvx]; exact inv_day hi0) hv1
    · have hnp : nI n ≤ nI p := by
        refine Classical.byContradiction fun q => h ⟨?_, Int32.not_le.mp q⟩
        exact nI_le (a := 0) (b := p) (by omega) (by omega)
      rw [if_pos hnp] at ih
      obtain ⟨B1, ⟨hj1, hv1⟩, hC⟩ := qX0_passDay (gB11 hG) hB2.1 hB2.2.1 hB2.2.2.1 hn6 hB2.2.2.2
      rw [hv] at hv1 hC
      refine ⟨_, _, hC, sX4_heardAmongBurglars_84 _ _ _ _ _ _ _ _ ?_⟩
      rw [nI_1, popc_S isS_day]
      exact ih B1 _ _ _ (hj.tr hj1) (by rw [hv1, ← hv]; exact inv_day hi) hv1
end XE
