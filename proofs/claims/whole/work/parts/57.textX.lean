section TX
variable {A : Nat → Nat → Int32} {R : Nat → Nat → Option Nat} {G : Nat → Nat × Nat} {o n1 : Nat}
theorem nI_dec2 : ∀ k, k < 100 → nI (k + 1) + (-1) = nI k := by decide +kernel
theorem nI_pre2 : ∀ k, k < 100 → nI (k + 1) - 1 = nI k := by decide +kernel
theorem wX_6 : ∀ k, k < 6 → (¬ wX k < -6 ∧ wX k < 0 ∧ -1 - wX k = nI k) := by decide +kernel
theorem wX_2 : ∀ k, k < 15 → 6 ≤ k ∧ ¬ k = 8 ∧ ¬ k = 14 → (wX k < -6 ∧ ¬ wX k = -9 ∧ ¬ wX k = -15) := by decide +kernel
theorem nI_nn {j : Nat} (h : j < 2147483648) : (0 : Int32) ≤ nI j := nI_le (a := 0) (b := j) (by omega) (by omega)
theorem sub_add1 (x : Int32) : x - 1 + 1 = x := Int32.sub_add_cancel x 1
theorem top_39 {d : Nat} (h : d < 39) : ¬ (39 : Int32) ≤ nI d - 1 := by
  rcases d with _ | d
  · decide
  · rw [nI_pre2 d (by omega)]; exact nI_ge (a := d) (b := 39) (by omega) (by omega)
theorem lX3_v {E : aR} (ho : aGx G o n1) {f en : Nat} (hf1 : (G f).1 = 1) (hf2 : (G f).2 = 6) (hne : ¬ f = o + 3) {F : Nat → Int32} (hF : ∀ i, i < 6 → A f i = F i) (hn1 : n1 < 1000) (hen : en ≤ n1) (r : Int32) (hE : ∀ S, E (some (.int r)) (ap A (o + 3) S, R, G)) :
    ∀ (ws : List Nat) (pos d : Nat) (S : Nat → Int32) (d1 d6 d7 d8 : Option Value), pos + ws.length = en → d ≤ 38 → okW d ws → rowW wX (A (o + 1)) pos ws → evR F ws d S 0 = r → aw tX3_valueOf E 36 [some (.ref o), d1, some (.ref f), some (.int (nI en)), some (.int (nI d - 1)), some (.int (nI pos)), d6, d7, d8] [] (ap A (o + 3) S, R, G)
  | [], pos, d, S, d1, d6, d7, d8, hp, hd8, hok, hr, he => by
    have hd : d = 1 := hok
    subst hd
    have hp2 : pos = en := hp
    subst hp2
    have he : S 0 = r := he
    refine sX3_valueOf_36 ho _ _ _ _ _ _ _ _ ⟨fun _ => ⟨fun h => absurd h (by decide), fun _ => ⟨by unfold vp_in; decide, ?_⟩⟩, fun h => absurd (nI_le (a := pos) (b := pos) (by omega) (by omega)) h⟩
    rw [ap_at, show (nI 1 - 1).toNatClampNeg = 0 from by decide +kernel, he]
    exact hE S
  | k :: ws, pos, d, S, d1, d6, d7, d8, hp, hd8, hok, hr, he => by
    have hl : pos + 1 + ws.length = en := by rw [← hp, List.length_cons]; omega
    have ih := fun d S d1 d6 d7 d8 h0 h1 h2 => lX3_v ho hf1 hf2 hne hF hn1 hen r hE ws (pos + 1) d S d1 d6 d7 d8 hl h0 h1 hr.2 h2
    have hk : (ap A (o + 3) S) (o + 1) (nI pos).toNatClampNeg = wX k := by
      rw [ap_ne (by omega), nI_clamp (by omega)]; exact hr.1
    have hfo : (ap A (o + 3) S) f = A f := ap_ne hne
    have hpos : vp_in (nI pos) n1 := vp_in_nI (by omega) (by omega)
    have hge : ¬ nI en ≤ nI pos := nI_ge (by omega) (by omega)
    unfold okW at hok
    unfold evR at he
    have hk1 := hok.1
    by_cases h1 : k < 6 ∨ 15 ≤ k
    · rw [if_pos h1] at hok he
      have ihh := fun d1 d6 d7 d8 => ih (d + 1) _ d1 d6 d7 d8 (by omega) hok.2.2 he
      have h39 := top_39 (d := d) (by omega)
      have htop : nI (d + 1) - 1 = nI d := nI_pre2 d (by omega)
      rw [htop] at ihh
      refine sX3_valueOf_36 ho _ _ _ _ _ _ _ _ ⟨fun h => absurd h hge, fun _ => ⟨hpos, ?_⟩⟩
      rw [hk, sub_add1, nI_1, hfo]
      by_cases h6 : k < 6
      · obtain ⟨w1, w2, w3⟩ := wX_6 k h6
        have ev : valW F k = F k := if_pos h6
        rw [ev] at ihh
        refine ⟨fun h => absurd h w1, fun _ => ⟨fun h => absurd h h39, fun _ => ⟨fun _ => ⟨hf1, ?_, vp_in_nI (by omega) (by omega), ?_⟩, fun h => absurd w2 h⟩⟩⟩
        · rw [w3, hf2]; exact vp_in_nI h6 (by omega)
        · rw [w3, nI_clamp (by omega), nI_clamp (by omega), hF k h6, au_ap]
          exact ihh _ _ _ _
      · have h15 : 15 ≤ k := by omega
        have w0 : (0 : Int32) ≤ nI (k - 15) := nI_nn (by omega)
        have ev : valW F k = nI (k - 15) := if_neg h6
        rw [ev] at ihh
        rw [wX_n h15]
        refine ⟨fun h => absurd h (Int32.not_lt.mpr (Int32.le_trans (by decide) w0)), fun _ => ⟨fun h => absurd h h39, fun _ => ⟨fun h => absurd h (Int32.not_lt.mpr w0), fun _ => ⟨vp_in_nI (by omega) (by omega), ?_⟩⟩⟩⟩
        rw [nI_clamp (by omega), au_ap]
        exact ihh _ _ _ _
    · rw [if_neg h1] at hok he
      by_cases h2 : k = 8 ∨ k = 14
      · rw [if_pos h2] at hok he
        obtain ⟨e, rfl⟩ : ∃ e, d = e + 1 := ⟨d - 1, by omega⟩
        have ihh := fun d1 d6 d7 d8 => ih (e + 1) _ d1 d6 d7 d8 (by omega) hok.2.2 he
        rw [nI_pre2 e (by omega)] at ihh
        have hnn := nI_nn (j := e) (by omega)
        refine sX3_valueOf_36 ho _ _ _ _ _ _ _ _ ⟨fun h => absurd h hge, fun _ => ⟨hpos, ?_⟩⟩
        rw [hk, nI_pre2 e (by omega), nI_1, nI_clamp (by omega), ap_at]
        rcases h2 with rfl | rfl
        · refine ⟨fun _ => ⟨fun h => absurd h (Int32.not_lt.mpr hnn), fun _ => ⟨fun _ => ⟨fun h => absurd h (by decide), fun _ => ⟨vp_in_nI (by omega) (by omega), fun hz => ?_, fun hz => ?_⟩⟩, fun h => absurd (by decide) h⟩⟩, fun h => absurd (by decide) h⟩
          · have eu : unW 8 (S (e + 1 - 1)) = 1 := by unfold unW; rw [if_pos rfl]; exact if_pos hz
            rw [eu] at ihh
            rw [au_ap]
            exact ihh _ _ _ _
          · have eu : unW 8 (S (e + 1 - 1)) = 0 := by unfold unW; rw [if_pos rfl]; exact if_neg hz
            rw [eu] at ihh
            rw [au_ap]
            exact ihh _ _ _ _
        · refine ⟨fun _ => ⟨fun h => absurd h (Int32.not_lt.mpr hnn), fun _ => ⟨fun h => absurd h (by decide), fun _ => ⟨fun _ => ⟨vp_in_nI (by omega) (by omega), ?_⟩, fun h => absurd (by decide) h⟩⟩⟩, fun h => absurd (by decide) h⟩
          have eu : unW 14 (S (e + 1 - 1)) = -(S e) := rfl
          rw [eu] at ihh
          rw [au_ap]
          exact ihh _ _ _ _
      · rw [if_neg h2] at hok he
        obtain ⟨e, rfl⟩ : ∃ e, d = e + 2 := ⟨d - 2, by omega⟩
        have ihh := fun d1 d6 d7 d8 => ih (e + 1) _ d1 d6 d7 d8 (by omega) hok.2.2 he
        rw [nI_pre2 e (by omega)] at ihh
        have hnn := nI_nn (j := e + 1) (by omega)
        obtain ⟨w1, w2, w3⟩ := wX_2 k (by omega) ⟨by omega, fun q => h2 (Or.inl q), fun q => h2 (Or.inr q)⟩
        have h162 : ∀ d1 d6 d7 d8 : Option Value, aw tX3_valueOf E 162 [some (.ref o), d1, some (.ref f), some (.int (nI en)), some (.int (nI (e + 1))), some (.int (nI pos)), some (.int (wX k)), d7, d8] [] (ap A (o + 3) S, R, G) := by
          intro d1 d6 d7 d8
          refine sX3_valueOf_162 ho _ _ _ _ _ _ _ _ ?_
          rw [nI_dec2 e (by omega)]
          refine sX3_valueOf_165 ho _ _ _ _ _ _ _ _ ?_
          rw [nI_1, nI_clamp (by omega), nI_clamp (by omega), ap_at]
          refine ⟨vp_in_nI (by omega) (by omega), vp_in_nI (by omega) (by omega), ?_⟩
          have hv : vp_in (nI e) 40 := vp_in_nI (by omega) (by omega)
          have hs1 : e + 2 - 1 = e + 1 := rfl
          have hs2 : e + 2 - 2 = e := rfl
          rw [hs1, hs2] at ihh
          generalize S e = x at *
          generalize S (e + 1) = y at *
          have hk7 : k = 6 ∨ k = 7 ∨ k = 9 ∨ k = 10 ∨ k = 11 ∨ k = 12 ∨ k = 13 := by omega
          rcases hk7 with rfl | rfl | rfl | rfl | rfl | rfl | rfl
          · have eb : binW 6 x y = bI (¬ x = 0 ∨ ¬ y = 0) := rfl
            rw [eb] at ihh
            refine ⟨fun h => absurd h (by decide), fun _ => ⟨fun h => absurd h (by decide), fun _ => ⟨fun h => absurd h (by decide), fun _ => ⟨fun h => absurd h (by decide), fun _ => ⟨fun h => absurd h (by decide), fun _ => ⟨fun h => absurd h (by decide), fun _ => ⟨fun _ => ?_, fun h => absurd (by decide) h⟩⟩⟩⟩⟩⟩⟩
            refine sX3_valueOf_228 ho _ _ _ _ _ _ _ _ ?_
            rw [nI_1, nI_clamp (by omega), au_ap, au_ap]
            refine ⟨fun hx => ⟨fun hy => ⟨hv, ?_⟩, fun hy => ⟨hv, ?_⟩⟩, fun hx => ⟨hv, ?_⟩⟩
            · rw [bI_f (by simp [hx, hy])] at ihh; exact ihh _ _ _ _
            · rw [bI_t (Or.inr hy)] at ihh; exact ihh _ _ _ _
            · rw [bI_t (Or.inl hx)] at ihh; exact ihh _ _ _ _
          · have eb : binW 7 x y = bI (¬ x = 0 ∧ ¬ y = 0) := rfl
            rw [eb] at ihh
            refine ⟨fun h => absurd h (by decide), fun _ => ⟨fun h => absurd h (by decide), fun _ => ⟨fun h => absurd h (by decide), fun _ => ⟨fun h => absurd h (by decide), fun _ => ⟨fun h => absurd h (by decide), fun _ => ⟨fun _ => ?_, fun h => absurd (by decide) h⟩⟩⟩⟩⟩⟩
            refine sX3_valueOf_253 ho _ _ _ _ _ _ _ _ ?_
            rw [nI_1, nI_clamp (by omega), au_ap, au_ap]
            refine ⟨fun hx => ⟨hv, ?_⟩, fun hx => ⟨fun hy => ⟨hv, ?_⟩, fun hy => ⟨hv, ?_⟩⟩⟩
            · rw [bI_f (fun q => q.1 hx)] at ihh; exact ihh _ _ _ _
            · rw [bI_f (fun q => q.2 hy)] at ihh; exact ihh _ _ _ _
            · rw [bI_t ⟨hx, hy⟩] at ihh; exact ihh _ _ _ _
          · have eb : binW 9 x y = bI (x < y) := rfl
            rw [eb] at ihh
            refine ⟨fun h => absurd h (by decide), fun _ => ⟨fun h => absurd h (by decide), fun _ => ⟨fun h => absurd h (by decide), fun _ => ⟨fun _ => ?_, fun h => absurd (by decide) h⟩⟩⟩⟩
            refine sX3_valueOf_278 ho _ _ _ _ _ _ _ _ ?_
            rw [nI_1, nI_clamp (by omega), au_ap, au_ap]
            refine ⟨fun hx => ⟨hv, ?_⟩, fun hx => ⟨hv, ?_⟩⟩
            · rw [bI_f (Int32.not_lt.mpr hx)] at ihh; exact ihh _ _ _ _
            · rw [bI_t (Int32.not_le.mp hx)] at ihh; exact ihh _ _ _ _
          · have eb : binW 10 x y = bI (x = y) := rfl
            rw [eb] at ihh
            refine ⟨fun h => absurd h (by decide), fun _ => ⟨fun h => absurd h (by decide), fun _ => ⟨fun _ => ?_, fun h => absurd (by decide) h⟩⟩⟩
            refine sX3_valueOf_300 ho _ _ _ _ _ _ _ _ ?_
            rw [nI_1, nI_clamp (by omega), au_ap, au_ap]
            refine ⟨fun hx => ⟨hv, ?_⟩, fun hx => ⟨hv, ?_⟩⟩
            · rw [bI_t hx] at ihh; exact ihh _ _ _ _
            · rw [bI_f hx] at ihh; exact ihh _ _ _ _
          · refine ⟨fun h => absurd h (by decide), fun _ => ⟨fun _ => ?_, fun h => absurd (by decide) h⟩⟩
            refine sX3_valueOf_322 ho _ _ _ _ _ _ _ _ ?_
            rw [nI_1, nI_clamp (by omega), au_ap]
            exact ⟨hv, ihh _ _ _ _⟩
          · refine ⟨fun _ => ?_, fun h => absurd (by decide) h⟩
            refine sX3_valueOf_337 ho _ _ _ _ _ _ _ _ ?_
            rw [nI_1, nI_clamp (by omega), au_ap]
            exact ⟨hv, ihh _ _ _ _⟩
          · refine ⟨fun h => absurd h (by decide), fun _ => ⟨fun h => absurd h (by decide), fun _ => ⟨fun h => absurd h (by decide), fun _ => ⟨fun h => absurd h (by decide), fun _ => ⟨fun h => absurd h (by decide), fun _ => ⟨fun h => absurd h (by decide), fun _ => ⟨fun h => absurd h (by decide), fun _ => ?_⟩⟩⟩⟩⟩⟩⟩
            refine sX3_valueOf_352 ho _ _ _ _ _ _ _ _ ?_
            rw [nI_1, nI_clamp (by omega), au_ap]
            exact ⟨hv, ihh _ _ _ _⟩
        refine sX3_valueOf_36 ho _ _ _ _ _ _ _ _ ⟨fun h => absurd h hge, fun _ => ⟨hpos, ?_⟩⟩
        rw [hk, nI_pre2 (e + 1) (by omega)]
        have h1e : ¬ nI (e + 1) < 1 := Int32.not_lt.mpr (nI_le (a := 1) (b := e + 1) (by omega) (by omega))
        exact ⟨fun _ => ⟨fun h => absurd h (Int32.not_lt.mpr hnn), fun _ => ⟨fun h => absurd h w2, fun _ => ⟨fun h => absurd h w3, fun _ => ⟨fun h => absurd h h1e, fun _ => h162 _ none _ _⟩⟩⟩⟩, fun h => absurd w1 h⟩
end TX
