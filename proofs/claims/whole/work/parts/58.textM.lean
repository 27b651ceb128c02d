section TM
variable {A : Nat → Nat → Int32} {R : Nat → Nat → Option Nat} {G : Nat → Nat × Nat} {E : aR}
theorem n4 (k : Nat) : (4 : Int32) * nI k = nI (4 * k) := pk_mul 4 k
theorem n200 (k : Nat) : (200 : Int32) * nI k = nI (200 * k) := pk_mul 200 k
theorem wM_6 : ∀ k, k < 6 → (¬ 100000 ≤ wM k ∧ ¬ 11 ≤ wM k ∧ wM k = nI k) := by decide +kernel
theorem wM_2 : ∀ k, k < 15 → 6 ≤ k → (¬ 100000 ≤ wM k ∧ 11 ≤ wM k ∧ (wM k = 13 ↔ k = 8) ∧ (wM k = 19 ↔ k = 14)) := by decide +kernel
theorem wM_b (k : Nat) (x y : Int32) (h : k = 6 ∨ k = 7 ∨ k = 9 ∨ k = 10 ∨ k = 11 ∨ k = 12 ∨ k = 13) : twM (wM k) x y = binW k x y := by
  rcases h with rfl | rfl | rfl | rfl | rfl | rfl | rfl
  · exact if_pos (by decide)
  · exact (if_neg (by decide)).trans (if_pos (by decide))
  · exact (if_neg (by decide)).trans ((if_neg (by decide)).trans (if_pos (by decide)))
  · exact (if_neg (by decide)).trans ((if_neg (by decide)).trans ((if_neg (by decide)).trans (if_pos (by decide))))
  · exact (if_neg (by decide)).trans ((if_neg (by decide)).trans ((if_neg (by decide)).trans ((if_neg (by decide)).trans (if_pos (by decide)))))
  · exact (if_neg (by decide)).trans ((if_neg (by decide)).trans ((if_neg (by decide)).trans ((if_neg (by decide)).trans ((if_neg (by decide)).trans (if_pos (by decide))))))
  · exact (if_neg (by decide)).trans ((if_neg (by decide)).trans ((if_neg (by decide)).trans ((if_neg (by decide)).trans ((if_neg (by decide)).trans (if_neg (by decide))))))
theorem lX5_v (hG : aGS G) {t part en : Nat} (ht : A 48 12 = nI t) (ht6 : t < 6) (hp : part < 3) (hS : A 55 (4 * t + part + 1) = nI en) (hen : en ≤ 200) {F : Nat → Int32} (hF : ∀ i, i < 6 → A 65 i = F i) (r : Int32) (hE : ∀ S, E (some (.int r)) (ap A 64 S, R, G)) :
    ∀ (ws : List Nat) (pos d : Nat) (S : Nat → Int32) (d4 : Option Value), pos + ws.length = en → d ≤ 38 → okW d ws → rowW wM (fun i => A 54 (200 * t + i)) pos ws → evR F ws d S 0 = r → aw tX5_says E 16 [some (.ref 48), some (.int (nI part)), some (.int (nI d)), some (.int (nI pos)), d4] [] (ap A 64 S, R, G)
  | [], pos, d, S, d4, hl, hd, hok, hr, he => by
    have hp2 : pos = en := hl
    subst hp2
    have e48 : (ap A 64 S) 48 = A 48 := ap_ne (by decide)
    have e55 : (ap A 64 S) 55 = A 55 := ap_ne (by decide)
    refine sX5_says_16 hG _ _ _ _ ?_
    simp (disch := omega) only [e48, e55, ap_at, ht, n4, nI_add, nI_1, nI_clamp, hS]
    refine ⟨vp_in_nI (by omega) (by omega), fun _ => ?_, fun h => absurd (nI_le (a := pos) (b := pos) (by omega) (by omega)) h⟩
    have he2 : S 0 = r := he
    rw [he2]
    exact hE S
  | k :: ws, pos, d, S, d4, hl, hd, hok, hr, he => by
    have hl2 : pos + 1 + ws.length = en := by rw [← hl, List.length_cons]; omega
    have hk : A 54 (200 * t + pos) = wM k := hr.1
    have ih := fun d S d4 h1 h2 h3 => lX5_v hG ht ht6 hp hS hen hF r hE ws (pos + 1) d S d4 hl2 h1 h2 hr.2 h3
    have e48 : (ap A 64 S) 48 = A 48 := ap_ne (by decide)
    have e54 : (ap A 64 S) 54 = A 54 := ap_ne (by decide)
    have e55 : (ap A 64 S) 55 = A 55 := ap_ne (by decide)
    have e65 : (ap A 64 S) 65 = A 65 := ap_ne (by decide)
    unfold okW at hok
    unfold evR at he
    have hk1 := hok.1
    have hge : ¬ nI en ≤ nI pos := nI_ge (by omega) (by omega)
    have hp0 : vp_in (nI (200 * t + pos)) 1200 := vp_in_nI (by omega) (by omega)
    refine sX5_says_16 hG _ _ _ _ ?_
    simp (disch := omega) only [e48, e54, e55, e65, ap_at, ht, n4, n200, nI_add, nI_1, nI_clamp, hS, hk]
    refine ⟨vp_in_nI (by omega) (by omega), fun h => absurd h hge, fun _ => ⟨hp0, ?_⟩⟩
    by_cases h1 : k < 6 ∨ 15 ≤ k
    · rw [if_pos h1] at hok he
      have ihh := fun d4 => ih (d + 1) _ d4 (by omega) hok.2.2 he
      have hd2 : vp_in (nI d) 200 := vp_in_nI (by omega) (by omega)
      by_cases h6 : k < 6
      · obtain ⟨w1, w2, w3⟩ := wM_6 k h6
        have ev : valW F k = F k := if_pos h6
        rw [ev] at ihh
        refine ⟨fun h => absurd h w1, fun _ => ⟨fun h => absurd h w2, fun _ => ?_⟩⟩
        rw [w3, nI_clamp (by omega), hF k h6, au_ap]
        exact ⟨vp_in_nI h6 (by omega), hd2, ihh _⟩
      · have h15 : 15 ≤ k := by omega
        have ev : valW F k = nI (k - 15) := if_neg h6
        rw [ev] at ihh
        rw [wM_n h15]
        have e1 : nI (100000 + (k - 15)) - 100000 = nI (k - 15) := by
          have := pk_sub (a := 100000 + (k - 15)) (b := 100000) (by omega)
          rw [show 100000 + (k - 15) - 100000 = k - 15 by omega] at this
          exact this
        refine ⟨fun _ => ⟨fun _ => ⟨hd2, ?_⟩, fun h => absurd (nI_le (a := 11) (b := 100000 + (k - 15)) (by omega) (by omega)) h⟩, fun h => absurd (nI_le (a := 100000) (b := 100000 + (k - 15)) (by omega) (by omega)) h⟩
        rw [e1, au_ap]
        exact ihh _
    · rw [if_neg h1] at hok he
      obtain ⟨w1, w2, w3, w4⟩ := wM_2 k (by omega) (by omega)
      refine ⟨fun h => absurd h w1, fun _ => ⟨fun _ => ?_, fun h => absurd w2 h⟩⟩
      by_cases h2 : k = 8 ∨ k = 14
      · rw [if_pos h2] at hok he
        obtain ⟨e, rfl⟩ : ∃ e, d = e + 1 := ⟨d - 1, by omega⟩
        have ihh := fun d4 => ih (e + 1) _ d4 (by omega) hok.2.2 he
        have hd2 : vp_in (nI e) 200 := vp_in_nI (by omega) (by omega)
        rw [nI_pre2 e (by omega), nI_clamp (by omega)]
        rcases h2 with rfl | rfl
        · refine ⟨fun _ => ⟨hd2, fun hz => ?_, fun hz => ?_⟩, fun h => absurd (w3.mpr rfl) h⟩
          · have eu : unW 8 (S (e + 1 - 1)) = 1 := by unfold unW; rw [if_pos rfl]; exact if_pos hz
            rw [eu] at ihh
            rw [au_ap]
            exact ihh _
          · have eu : unW 8 (S (e + 1 - 1)) = 0 := by unfold unW; rw [if_pos rfl]; exact if_neg hz
            rw [eu] at ihh
            rw [au_ap]
            exact ihh _
        · refine ⟨fun h => absurd (w3.mp h) (by decide), fun _ => ⟨fun _ => ⟨hd2, ?_⟩, fun h => absurd (w4.mpr rfl) h⟩⟩
          have eu : unW 14 (S (e + 1 - 1)) = -(S e) := rfl
          rw [eu] at ihh
          rw [au_ap]
          exact ihh _
      · rw [if_neg h2] at hok he
        obtain ⟨e, rfl⟩ : ∃ e, d = e + 2 := ⟨d - 2, by omega⟩
        have ihh := fun d4 => ih (e + 1) _ d4 (by omega) hok.2.2 he
        refine ⟨fun h => absurd (Or.inl (w3.mp h)) h2, fun _ => ⟨fun h => absurd (Or.inr (w4.mp h)) h2, fun _ => ?_⟩⟩
        refine sX5_says_161 _ _ _ _ ?_
        rw [show nI (e + 2) + (-1) = nI (e + 1) from nI_dec2 (e + 1) (by omega)]
        refine sX5_says_164 hG _ _ _ _ ?_
        rw [nI_pre2 e (by omega), nI_clamp (by omega), nI_clamp (by omega), ap_at, nI_1, wM_b k _ _ (by omega), au_ap]
        exact ⟨vp_in_nI (by omega) (by omega), vp_in_nI (by omega) (by omega), ihh _⟩
/-! a text t of the words W, in the model's rows and in the class's -/
def TMt (C S : Nat → Int32) (t : Nat) (W : Nat → List Nat) : Prop := ∀ part, part < 3 → ∃ q, S (4 * t + part) = nI q ∧ S (4 * t + part + 1) = nI (q + (W part).length) ∧ q + (W part).length ≤ 200 ∧ okW 0 (W part) ∧ rowW wM (fun i => C (200 * t + i)) q (W part)
theorem TMt.L {C S : Nat → Int32} {t : Nat} {W : Nat → List Nat} (ht : t < 6) (h : TMt C S t W) : LM C S t (LamW W) := by
  intro A R G part F hG hC hS h48 hp hF
  obtain ⟨q, h1, h2, h3, h4, h5⟩ := h part hp
  subst hC
  subst hS
  have key0 : ∃ A', (∃ st, A' = ap A 64 st) ∧ CX5_says [.ref 48, .int (nI part)] (A, R, G) (some (.int (LamW W part F))) (A', R, G) := by
    refine aC_exA vX5_says (Nat.le_of_ble_eq_true rfl) fun E hE => ?_
    refine sX5_says_0 hG _ ?_
    simp (disch := omega) only [h48, n4, nI_add, nI_clamp, h1]
    refine ⟨vp_in_nI (by omega) (by omega), ?_⟩
    have := lX5_v (A := A) (R := R) (E := E) hG h48 ht hp h2 h3 hF (LamW W part F) (fun S => hE _ ⟨S, rfl⟩) (W part) q 0 (A 64) none rfl (by omega) h4 h5 (by unfold LamW; exact ev_ag _ _ _ _ h4 (fun i hi => absurd hi (by omega)))
    have e : ap A 64 (A 64) = A := by
      funext o
      by_cases h : o = 64
      · subst h; exact ap_at
      · exact ap_ne h
    rw [e] at this
    exact this
  obtain ⟨A', ⟨st, rfl⟩, hc⟩ := key0
  exact ⟨st, hc⟩
def TXt (C S : Nat → Int32) (n1 : Nat) (W : Nat → List Nat) : Prop := n1 < 1000 ∧ ∀ part, part < 3 → ∃ q, (part = 0 → q = 0) ∧ (¬ part = 0 → S (part - 1) = nI q) ∧ S part = nI (q + (W part).length) ∧ q + (W part).length ≤ n1 ∧ okW 0 (W part) ∧ rowW wX C q (W part)
theorem TXt.L {C S : Nat → Int32} {w n1 : Nat} {W : Nat → List Nat} (h : TXt C S n1 W) : LX C S w n1 (LamW W) := by
  intro A R G part f F ho hf1 hf2 hne hC hS hp hF
  obtain ⟨hn1, h⟩ := h
  obtain ⟨q, h0, h1, h2, h3, h4, h5⟩ := h part hp
  subst hC
  subst hS
  have key0 : ∃ A', (∃ st, A' = ap A (w + 3) st) ∧ CX3_valueOf [.ref w, .int (nI part), .ref f] (A, R, G) (some (.int (LamW W part F))) (A', R, G) := by
    refine aC_exA vX3_valueOf (Nat.le_of_ble_eq_true rfl) fun E hE => ?_
    have e : ap A (w + 3) (A (w + 3)) = A := by
      funext o
      by_cases h : o = w + 3
      · subst h; exact ap_at
      · exact ap_ne h
    have key := lX3_v (A := A) (R := R) (E := E) ho hf1 hf2 hne hF hn1 h3 (LamW W part F) (fun S => hE _ ⟨S, rfl⟩) (W part) q 0 (A (w + 3)) (some (.int (nI part))) none none none rfl (by omega) h4 h5 (by unfold LamW; exact ev_ag _ _ _ _ h4 (fun i hi => absurd hi (by omega)))
    rw [e] at key
    have hmin : (if (Int32.ofNat (G (w + 1)).2) < (A (w + 2) (nI part).toNatClampNeg) then (Int32.ofNat (G (w + 1)).2) else (A (w + 2) (nI part).toNatClampNeg)) = nI (q + (W part).length) := by
      rw [gxl1 ho, nI_clamp (by omega), h2]
      exact if_neg (nI_nlt (a := n1) (b := q + (W part).length) h3 (by omega))
    refine sX3_valueOf_0 ho _ _ ⟨vp_in_nI (by omega) (by omega), fun hz => ?_, fun hz => ?_⟩
    · rw [hmin]
      have hp0 : part = 0 := (nI_eq (a := part) (b := 0) (by omega) (by omega)).mp hz
      have hq := h0 hp0
      subst hq
      exact key
    · rw [hmin]
      have hp0 : ¬ part = 0 := fun q => hz (by rw [q]; rfl)
      obtain ⟨p, rfl⟩ : ∃ p, part = p + 1 := ⟨part - 1, by omega⟩
      have h1 : A (w + 2) p = nI q := h1 hp0
      rw [nI_pre2 p (by omega), nI_clamp (by omega), h1]
      exact ⟨vp_in_nI (by omega) (by omega), key⟩
  obtain ⟨A', ⟨st, rfl⟩, hc⟩ := key0
  exact ⟨st, hc⟩
end TM
