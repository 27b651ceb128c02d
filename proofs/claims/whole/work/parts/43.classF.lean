/-- fewer losses than so many -/
def fsV (x : Int32) : Int32 := if x = -1 then 11 else ones x
noncomputable def fewV (Λ : aLm) (v : aV) (p c : Nat) : Nat → Int32
  | 0 => -1
  | k + 1 => @ite _ (nI k &&& v 2 p = 0 ∧ ones (nI k) < fsV (fewV Λ v p c k) ∧ mayV Λ (au v 2 p (v 2 p ||| nI k)) p c) (Classical.propDecidable _) (nI k) (fewV Λ v p c k)
section XF
variable {A : Nat → Nat → Int32} {R : Nat → Nat → Option Nat} {G : Nat → Nat × Nat} {b w n : Nat} {Λ : aLm}
theorem bits_bt {P : Nat → Prop} : ∀ m, m ≤ 32 → ∀ i, i < 32 → (bt (bitsV P m) i = true ↔ i < m ∧ P i)
  | 0, _, i, _ => by
    unfold bitsV
    rw [b_0]
    exact ⟨fun h => absurd h (by decide), fun h => absurd h.1 (by omega)⟩
  | m + 1, hm, i, hi => by
    have ih := bits_bt (P := P) m (by omega) i hi
    unfold bitsV
    by_cases hP : P m
    · rw [if_pos hP, b_or, b_one (by omega) hi, Bool.or_eq_true, ih, decide_eq_true_iff]
      constructor
      · rintro (⟨h1, h2⟩ | rfl)
        · exact ⟨by omega, h2⟩
        · exact ⟨by omega, hP⟩
      · rintro ⟨h1, h2⟩
        by_cases e : i = m
        · exact Or.inr e
        · exact Or.inl ⟨by omega, h2⟩
    · rw [if_neg hP, ih]
      constructor
      · rintro ⟨h1, h2⟩
        exact ⟨by omega, h2⟩
      · rintro ⟨h1, h2⟩
        by_cases e : i = m
        · subst e; exact absurd h2 hP
        · exact ⟨by omega, h2⟩
/-- only eight cases -/
def hiB (A : Nat → Nat → Int32) (b : Nat) : Prop := ∀ i, 8 ≤ i → bt (A b 10) i = false
theorem there_v (hT : tI A b) (hH : hiB A b) : A b 10 = thereV (vX A b) := by
  refine b_ext fun i hi => ?_
  have h := bits_bt (P := fun c => ¬ vX A b 5 c = 0) 8 (by omega) i hi
  unfold thereV
  by_cases h8 : i < 8
  · have h5 := bt_v5 hT h8
    rw [Bool.eq_iff_iff, h, h5]
    exact ⟨fun q => ⟨h8, q⟩, fun q => q.2⟩
  · rw [hH i (by omega)]
    cases hb : bt (bitsV (fun c => ¬ vX A b 5 c = 0) 8) i with
    | false => rfl
    | true => exact absurd (h.mp hb).1 h8
theorem jDX.h {A' : Nat → Nat → Int32} (h : jDX b w A A') (hH : hiB A b) : hiB A' b := fun i hi => by
  cases hb : bt (A' b 10) i with
  | false => rfl
  | true => rw [← hH i hi]; exact (h.2.2 i hb).symm
theorem becX.h {x : Nat} {A' : Nat → Nat → Int32} (h : becX b x A A') (hH : hiB A x) : hiB A' b := fun i hi => by
  rw [h.2.2.2 10 (by omega) (by omega)]; exact hH i hi
/-- what thought leaves as it was -/
def jTH (w : Nat) (A A' : Nat → Nat → Int32) : Prop := ∀ o, (o < 11 ∨ 21 ≤ o) → ¬ o = w + 3 → A' o = A o
theorem jTH.rf : jTH w A A := fun _ _ _ => rfl
theorem jTH.tr {B C : Nat → Nat → Int32} (h : jTH w A B) (k : jTH w B C) : jTH w A C := fun o h1 h2 => (k o h1 h2).trans (h o h1 h2)
theorem becX.j {x : Nat} {A' : Nat → Nat → Int32} (h : becX 11 x A A') : jTH w A A' := fun o h1 _ => h.1 o (by omega)
theorem jDX.j {A' : Nat → Nat → Int32} (h : jDX 11 w A A') : jTH w A A' := fun o h1 h2 => h.1 o (by omega) (by omega) (by omega) (by omega) (by omega) (by omega) h2
theorem jX.j {A' : Nat → Nat → Int32} (h : jX 11 w A A') : jTH w A A' := fun o h1 h2 => h o (by omega) h2
theorem jTH.a {k : Nat} {x : Int32} {o : Nat} (ho : 11 ≤ o ∧ o < 21) : jTH w A (au A o k x) := fun q h1 _ => au_o (by omega)
theorem qX4_heardAmongBurglars (hG : aGS G) (hn6 : n ≤ 6) (h80 : 80 ≤ w) (hB : bnA 1 w n Λ A R G) (hH : hiB A 1) {x : Int32} (hl : isLot (x.toInt64 + 1)) : ∃ A', (jTH w A A' ∧ A' 11 10 = thereV (brgV Λ n (vX A 1) (x.toInt64 + 1) 10).1) ∧ CX4_heardAmongBurglars [.ref 0, .int x] (A, R, G) (some (.int (brgV Λ n (vX A 1) (x.toInt64 + 1) 10).2.2)) (A', ar R 11 14 (some w), G) := by
  obtain ⟨A1, hb, hC⟩ := qX4_think hG hB.1.2.1
  obtain ⟨hB1, hv1⟩ := hB.th hn6 h80 hb
  have hc := brgV_c (Λ := Λ) hv1 hl hn6 10
  refine aC_exR vX4_heardAmongBurglars (Nat.le_of_ble_eq_true rfl) fun E hE => ?_
  refine sX4_heardAmongBurglars_0 hG _ ⟨_, hC, sX4_heardAmongBurglars_4 _ _ _ _ _ _ _ ?_⟩
  refine lX4_brg hG hn6 (v := vX A1 11) hl hB1 (fun A' hj hv => ?_) 10 0 A1 _ _ _ (by omega) jDX.rf hB1.2.2.1 (Eq.refl _)
  rw [← hc.2]
  refine hE A' ⟨hb.j.tr hj.j, ?_⟩
  rw [there_v (hj.t (by omega) hB1.2.2.2) (hj.h (hb.h hH)), hv]
  exact thereV_c hc.1.sy
theorem lX4_few {E : aR} (hG : aGS G) (hn6 : n ≤ 6) {v : aV} {p c : Nat} (hp : p < n) (hc : c < 8) (hi : invD n v) (h5 : ¬ v 5 c = 0) (hE : ∀ A', jTH w A A' → E (some (.int (fewV Λ v p c 1024))) (A', R, G)) :
    ∀ (m k : Nat) (B : Nat → Nat → Int32) (y : Int32), k + m = 1024 → jTH w A B → bnA 11 w n Λ B R G → vX B 11 = au v 2 p y → aw tX4_fewestLosses E 24 [some (.ref 0), some (.int (nI p)), some (.int (nI c)), some (.int (v 2 p)), some (.int (fewV Λ v p c k)), some (.int (fsV (fewV Λ v p c k))), some (.int (nI k))] [] (B, R, G)
  | 0, k, B, y, hk, hj, hB, hv => by
    have hk2 : k = 1024 := by omega
    subst hk2
    exact sX4_fewestLosses_24 hG _ _ _ _ _ _ ⟨fun _ => hE B hj, fun h => absurd (by decide) h⟩
  | m + 1, k, B, y, hk, hj, hB, hv => by
    have hs : fewV Λ v p c (k + 1) = @ite _ (nI k &&& v 2 p = 0 ∧ ones (nI k) < fsV (fewV Λ v p c k) ∧ mayV Λ (au v 2 p (v 2 p ||| nI k)) p c) (Classical.propDecidable _) (nI k) (fewV Λ v p c k) := by
      conv => lhs; unfold fewV
    have ih := fun C y h1 h2 h3 => lX4_few hG hn6 hp hc hi h5 hE m (k + 1) C y (by omega) h1 h2 h3
    rw [hs] at ih
    refine sX4_fewestLosses_24 hG _ _ _ _ _ _ ⟨fun h => ?_, fun _ => ?_⟩
    · exact absurd h (Int32.not_lt.mpr (nI_le (a := k) (b := 1023) (by omega) (by omega)))
    · rw [popc_dec k (by omega), nI_1]
      refine ⟨fun h0 => ⟨fun hle => ?_, fun hlt => ?_⟩, fun h0 => ?_⟩
      · rw [if_neg (fun q => absurd q.2.1 (Int32.not_lt.mpr hle))] at ih
        exact ih B y hj hB hv
      · simp (disch := omega) only [nI_clamp]
        refine ⟨vp_in_nI (by omega) (by omega), ?_⟩
        have hvx : vX (au B 14 p (v 2 p ||| nI k)) 11 = au v 2 p (v 2 p ||| nI k) := by
          have h1 : vX (au B 14 p (v 2 p ||| nI k)) 11 = au (vX B 11) 2 p (v 2 p ||| nI k) := vX_u (b := 11) (f := 2) (by omega)
          rw [h1, hv]
          funext f i
          rw [au_eq, au_eq, au_eq]
          by_cases e : f = 2 ∧ i = p
          · rw [if_pos e, if_pos e]
          · rw [if_neg e, if_neg e, if_neg e]
        have hj0 : jDX 11 w B (au B 14 p (v 2 p ||| nI k)) := jDX.a (b := 11) (by omega)
        have hi0 : invD n (vX (au B 14 p (v 2 p ||| nI k)) 11) := by
          rw [hvx]
          refine ⟨⟨fun q hq => ⟨?_, ?_, ?_⟩, fun d hd => ?_⟩, fun d hd => ?_, ?_⟩
          · rw [au_v (by omega)]; exact (hi.1.1 q hq).1
          · by_cases e : q = p
            · subst e; rw [au_k]; exact isS_or (hi.1.1 q hq).2.1 (isS_dec k (by omega))
            · rw [au_v (by omega)]; exact (hi.1.1 q hq).2.1
          · rw [au_v (by omega)]; exact (hi.1.1 q hq).2.2
          · rw [au_v (by omega)]; exact hi.1.2 d hd
          · rw [au_v (by omega)]; exact hi.2.1 d hd
          · rw [au_v (by omega)]; exact hi.2.2
        have hB2 := hB.d hj0 hi0
        have ht := (bt_v5 hB2.2.2.2 hc).mpr (by rw [hvx, au_v (by omega)]; exact h5)
        obtain ⟨B1, hj1, hC⟩ := qX0_may (gB11 hG) hB2.1 hB2.2.2.1.1 hp hn6 hc ht
        have hB3 := hB2.d (hj1.d hB2.1.1) (by rw [hj1.v hB2.1.1]; exact hi0)
        have hv3 : vX B1 11 = au v 2 p (v 2 p ||| nI k) := by rw [hj1.v hB2.1.1, hvx]
        rw [hvx] at hC
        have hj3 := hj.tr (hj0.j.tr hj1.j)
        refine ⟨_, _, hC, sX4_fewestLosses_71 _ _ _ _ _ _ _ ⟨fun hm => ?_, fun hm => ?_⟩⟩
        · rw [if_neg (fun q => bI_ne q.2.2 hm)] at ih
          rw [nI_1]
          exact ih B1 _ hj3 hB3 hv3
        · have hm2 : mayV Λ (au v 2 p (v 2 p ||| nI k)) p c := Classical.byContradiction fun q => hm (bI_f q)
          rw [if_pos ⟨h0, Int32.not_le.mp hlt, hm2⟩] at ih
          have hf : fsV (nI k) = ones (nI k) := if_neg (nI_m1 (by omega))
          rw [hf] at ih
          rw [nI_1, popc_dec k (by omega)]
          exact ih B1 _ hj3 hB3 hv3
      · rw [if_neg (fun q => h0 q.1)] at ih
        exact ih B y hj hB hv
theorem mayV_any {v u : aV} {p c : Nat} (h : eqV n v u) (hp : p < n) (hc : c < 8) (x : Int32) : mayV Λ (au v 2 p x) p c = mayV Λ (au u 2 p x) p c := mayV_c (h.au (Eq.refl x)) hp hc
theorem fewV_c {v u : aV} {p c : Nat} (h : eqV n v u) (hp : p < n) (hc : c < 8) (k : Nat) : fewV Λ v p c k = fewV Λ u p c k := by
  induction k with
  | zero => rfl
  | succ k ih =>
    unfold fewV
    rw [ih, h.1 2 (by omega) p hp, mayV_any h hp hc]
theorem qX4_fewestLosses (hG : aGS G) (hn6 : n ≤ 6) (h80 : 80 ≤ w) (hB : bnA 1 w n Λ A R G) {p c : Nat} (hp : p < n) (hc : c < 8) (h5 : ¬ vX A 1 5 c = 0) : ∃ A', jTH w A A' ∧ CX4_fewestLosses [.ref 0, .int (nI p), .int (nI c)] (A, R, G) (some (.int (fewV Λ (vX A 1) p c 1024))) (A', ar R 11 14 (some w), G) := by
  obtain ⟨A1, hb, hC⟩ := qX4_think hG hB.1.2.1
  obtain ⟨hB1, hv1⟩ := hB.th hn6 h80 hb
  refine aC_exR vX4_fewestLosses (Nat.le_of_ble_eq_true rfl) fun E hE => ?_
  refine sX4_fewestLosses_0 hG _ _ ?_
  simp (disch := omega) only [nI_clamp]
  refine ⟨vp_in_nI (by omega) (by omega), _, hC, sX4_fewestLosses_21 _ _ _ _ _ _ ?_⟩
  have e2 : A 4 p = vX A1 11 2 p := (hv1.1 2 (by omega) p hp)
  rw [e2]
  refine lX4_few (A := A1) hG hn6 (v := vX A1 11) hp hc hB1.2.2.1 (by rw [← hv1.2.1 5 (by omega) (by omega) c hc]; exact h5) (fun A' hj => ?_) 1024 0 A1 (vX A1 11 2 p) (by omega) jTH.rf hB1 ?_
  · rw [← fewV_c hv1 hp hc]
    exact hE A' (hb.j.tr hj)
  · funext f i
    rw [au_eq]
    by_cases e : f = 2 ∧ i = p
    · rw [if_pos e, e.1, e.2]
    · rw [if_neg e]
end XF
