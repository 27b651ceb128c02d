/-- a set by its bits -/
noncomputable def bitsV (P : Nat → Prop) : Nat → Int32
  | 0 => 0
  | k + 1 => @ite _ (P k) (Classical.propDecidable _) (bitsV P k ||| ((1 : Int32) <<< (nI k &&& 31))) (bitsV P k)
noncomputable def casesV (Λ : aLm) (v : aV) (p : Nat) : Int32 := bitsV (fun c => ¬ v 5 c = 0 ∧ mayV Λ v p c) 8
noncomputable def judgesV (Λ : aLm) (n : Nat) (v : aV) (c : Nat) : Int32 := bitsV (fun p => mayV Λ v p c) n
noncomputable def whoV (Λ : aLm) (n : Nat) (v : aV) (c : Nat) : Int32 := bitsV (fun p => canV Λ v p c) n
noncomputable def thereV (v : aV) : Int32 := bitsV (fun c => ¬ v 5 c = 0) 8
def waitV (v : aV) : Nat → Int32
  | 0 => 0
  | k + 1 => waitV v k + (if v 5 k = 0 then 0 else v 7 k)
noncomputable def gosV (Λ : aLm) (n : Nat) (v : aV) : Nat → aV × Int32
  | 0 => (v, 0)
  | k + 1 => ((dayV Λ n (gosV Λ n v k).1).1, (gosV Λ n v k).2 + ones (dayV Λ n (gosV Λ n v k).1).2)
noncomputable def unlV (Λ : aLm) (n : Nat) (x : Nat → Int32) : Nat → Nat → aV → Int32
  | 0, _, _ => -1
  | m + 1, k, v => if x k = ones (dayV Λ n v).2 then unlV Λ n x m (k + 1) (dayV Λ n v).1 else nI k
theorem bits_c {P Q : Nat → Prop} : ∀ m, (∀ k, k < m → (P k ↔ Q k)) → bitsV P m = bitsV Q m
  | 0, _ => rfl
  | m + 1, h => by
    unfold bitsV
    rw [bits_c m (fun k hk => h k (by omega))]
    by_cases hq : Q m
    · rw [if_pos hq, if_pos ((h m (by omega)).mpr hq)]
    · rw [if_neg hq, if_neg (fun q => hq ((h m (by omega)).mp q))]
theorem or0 (x : Int32) : x ||| 0 = x := by
  refine b_ext fun i hi => ?_
  rw [b_or, b_0, Bool.or_false]
section MD
variable {A : Nat → Nat → Int32} {R : Nat → Nat → Option Nat} {G : Nat → Nat × Nat} {Λ : aLm}
theorem csM_v : csM A = thereV (vM A) := by
  have : ∀ m, csN A m = bitsV (fun c => ¬ vM A 5 c = 0) m := by
    intro m
    induction m with
    | zero => rfl
    | succ m ih =>
      unfold csN bitsV
      rw [ih]
      by_cases h : A 52 (3 * m) = 0
      · rw [if_pos h, if_neg (fun q => q h), or0]
      · rw [if_neg h, if_pos (show ¬ vM A 5 m = 0 from h)]
  exact this 8
theorem lX5_mayHear {E : aR} (hG : aGS G) (hL : LMA A Λ) {p : Nat} (hp : p < 6) (hE : ∀ A', jM A A' → E (some (.int (casesV Λ (vM A) p))) (A', R, G)) :
    ∀ (m k : Nat) (B : Nat → Nat → Int32), k + m = 8 → jM A B → aw tX5_mayHear E 4 [some (.ref 48), some (.int (nI p)), some (.int (bitsV (fun c => ¬ vM A 5 c = 0 ∧ mayV Λ (vM A) p c) k)), some (.int (nI k))] [] (B, R, G)
  | 0, k, B, hk, hj => by
    have hk2 : k = 8 := by omega
    subst hk2
    exact sX5_mayHear_4 hG _ _ _ ⟨fun _ => hE B hj, fun h => absurd (nI_le (a := 8) (b := 8) (by omega) (by omega)) h⟩
  | m + 1, k, B, hk, hj => by
    have ih := fun C hC => lX5_mayHear hG hL hp hE m (k + 1) C (by omega) hC
    refine sX5_mayHear_4 hG _ _ _ ⟨fun h => absurd h (nI_ge (a := k) (b := 8) (by omega) (by omega)), fun _ => ⟨fun ht => ?_, fun ht => ?_⟩⟩
    · rw [thM_iff (by omega), hj.v] at ht
      obtain ⟨B1, hj1, hC⟩ := qX5_may (R := R) hG (hj.L hL) hp (c := k) (by omega)
      rw [hj.v] at hC
      have ih := ih B1 (hj.tr hj1)
      unfold bitsV at ih
      refine ⟨_, _, hC, sX5_mayHear_25 _ _ _ _ _ ⟨fun h => ?_, fun h => ?_⟩⟩
      · rw [or0, nI_1]
        rw [if_neg (fun q => bI_ne q.2 h)] at ih
        exact ih
      · rw [nI_1]
        have hm : mayV Λ (vM A) p k := Classical.byContradiction fun q => h (bI_f q)
        rw [if_pos ⟨ht, hm⟩] at ih
        exact ih
    · rw [thM_iff (by omega), hj.v] at ht
      have ih := ih B hj
      unfold bitsV at ih
      rw [if_neg (fun q => ht q.1)] at ih
      rw [nI_1]
      exact ih
theorem qX5_mayHear (hG : aGS G) (hL : LMA A Λ) {p : Nat} (hp : p < 6) : ∃ A', jM A A' ∧ CX5_mayHear [.ref 48, .int (nI p)] (A, R, G) (some (.int (casesV Λ (vM A) p))) (A', R, G) := by
  refine aC_exA vX5_mayHear (Nat.le_of_ble_eq_true rfl) fun E hE => ?_
  exact sX5_mayHear_0 _ (lX5_mayHear hG hL hp hE 8 0 A (by omega) jM.rf)
theorem lX5_whoMay {E : aR} (hG : aGS G) (hL : LMA A Λ) {n c : Nat} (hn : A 48 0 = nI n) (hn6 : n ≤ 6) (hc : c < 8) (hE : ∀ A', jM A A' → E (some (.int (judgesV Λ n (vM A) c))) (A', R, G)) :
    ∀ (m k : Nat) (B : Nat → Nat → Int32), k + m = n → jM A B → aw tX5_whoMay E 4 [some (.ref 48), some (.int (nI c)), some (.int (bitsV (fun p => mayV Λ (vM A) p c) k)), some (.int (nI k))] [] (B, R, G)
  | 0, k, B, hk, hj => by
    have h48 : B 48 0 = nI n := by rw [hj 48 (by decide) (by decide)]; exact hn
    have hk2 : k = n := by omega
    subst hk2
    exact sX5_whoMay_4 hG _ _ _ ⟨fun _ => hE B hj, fun h => absurd (by rw [h48]; exact nI_le (by omega) (by omega)) h⟩
  | m + 1, k, B, hk, hj => by
    have h48 : B 48 0 = nI n := by rw [hj 48 (by decide) (by decide)]; exact hn
    have ih := fun C hC => lX5_whoMay hG hL hn hn6 hc hE m (k + 1) C (by omega) hC
    refine sX5_whoMay_4 hG _ _ _ ⟨fun h => absurd h (by rw [h48]; exact nI_ge (by omega) (by omega)), fun _ => ?_⟩
    obtain ⟨B1, hj1, hC⟩ := qX5_may (R := R) hG (hj.L hL) (p := k) (by omega) hc
    rw [hj.v] at hC
    have ih := ih B1 (hj.tr hj1)
    unfold bitsV at ih
    refine ⟨_, _, hC, sX5_whoMay_19 _ _ _ _ _ ⟨fun h => ?_, fun h => ?_⟩⟩
    · rw [or0, nI_1]
      rw [if_neg (fun q => bI_ne q h)] at ih
      exact ih
    · rw [nI_1]
      have hm : mayV Λ (vM A) k c := Classical.byContradiction fun q => h (bI_f q)
      rw [if_pos hm] at ih
      exact ih
theorem qX5_whoMay (hG : aGS G) (hL : LMA A Λ) {n c : Nat} (hn : A 48 0 = nI n) (hn6 : n ≤ 6) (hc : c < 8) : ∃ A', jM A A' ∧ CX5_whoMay [.ref 48, .int (nI c)] (A, R, G) (some (.int (judgesV Λ n (vM A) c))) (A', R, G) := by
  refine aC_exA vX5_whoMay (Nat.le_of_ble_eq_true rfl) fun E hE => ?_
  exact sX5_whoMay_0 _ (lX5_whoMay hG hL hn hn6 hc hE n 0 A (by omega) jM.rf)
theorem lX5_waitedAll {E : aR} (hG : aGS G) (hE : E (some (.int (waitV (vM A) 8))) (A, R, G)) :
    ∀ (m k : Nat), k + m = 8 → aw tX5_waitedAll E 4 [some (.ref 48), some (.int (waitV (vM A) k)), some (.int (nI k))] [] (A, R, G)
  | 0, k, hk => by
    have hk2 : k = 8 := by omega
    subst hk2
    exact sX5_waitedAll_4 hG _ _ ⟨fun _ => hE, fun h => absurd (nI_le (a := 8) (b := 8) (by omega) (by omega)) h⟩
  | m + 1, k, hk => by
    have ih := lX5_waitedAll hG hE m (k + 1) (by omega)
    unfold waitV at ih
    refine sX5_waitedAll_4 hG _ _ ⟨fun h => absurd h (nI_ge (a := k) (b := 8) (by omega) (by omega)), fun _ => ⟨fun ht => ?_, fun ht => ?_⟩⟩
    · rw [thM_iff (by omega)] at ht
      simp (disch := omega) only [nI_mul3, nI_clamp, show (2 : Int32) = nI 2 from rfl, nI_add, nI_1]
      rw [if_neg ht] at ih
      exact ⟨vp_in_nI (by omega) (by omega), ih⟩
    · rw [thM_iff (by omega)] at ht
      rw [if_pos (Classical.byContradiction ht)] at ih
      rw [nI_1]
      exact ih
theorem qX5_waitedAll (hG : aGS G) : CX5_waitedAll [.ref 48] (A, R, G) (some (.int (waitV (vM A) 8))) (A, R, G) :=
  aC_of (Nat.le_of_ble_eq_true rfl) fun E hE => sX5_waitedAll_0 (lX5_waitedAll hG hE 8 0 (by omega))
/-! thinking: the rows are kept, and laid back -/
def kpM (A A' : Nat → Nat → Int32) : Prop := (∀ o, ¬ o = 66 → A' o = A o) ∧ (∀ k, k < 18 → A' 66 k = A 51 k) ∧ (∀ k, k < 24 → A' 66 (18 + k) = A 52 k) ∧ A' 66 42 = A 48 5 ∧ A' 66 43 = A 48 6
def lyM (A A' : Nat → Nat → Int32) : Prop := (∀ o, ¬ o = 48 → ¬ o = 51 → ¬ o = 52 → A' o = A o) ∧ (∀ k, ¬ k = 5 → ¬ k = 6 → A' 48 k = A 48 k) ∧ (∀ k, k < 18 → A' 51 k = A 66 k) ∧ (∀ k, k < 24 → A' 52 k = A 66 (18 + k)) ∧ A' 48 5 = A 66 42 ∧ A' 48 6 = A 66 43
theorem lX5_keeps2 {E : aR} (hG : aGS G) (hE : ∀ A', kpM A A' → E none (A', R, G)) :
    ∀ (m k : Nat) (B : Nat → Nat → Int32), k + m = 24 → (∀ o, ¬ o = 66 → B o = A o) → (∀ j, j < 18 → B 66 j = A 51 j) → (∀ j, j < k → B 66 (18 + j) = A 52 j) → aw tX5_keeps E 28 [some (.ref 48), some (.int (nI k))] [] (B, R, G)
  | 0, k, B, hk, h1, h2, h3 => by
    have hk2 : k = 24 := by omega
    subst hk2
    refine sX5_keeps_28 hG _ ⟨fun _ => hE _ ⟨fun o ho => ?_, fun j hj => ?_, fun j hj => ?_, ?_, ?_⟩, fun h => absurd (nI_le (a := 24) (b := 24) (by omega) (by omega)) h⟩
    · rw [au_o ho, au_o ho]; exact h1 o ho
    · rw [au_j (by omega), au_j (by omega)]; exact h2 j hj
    · rw [au_j (by omega), au_j (by omega)]; exact h3 j hj
    · rw [au_j (by omega), au_k, h1 48 (by decide)]
    · rw [au_k, au_o (by decide), h1 48 (by decide)]
  | m + 1, k, B, hk, h1, h2, h3 => by
    refine sX5_keeps_28 hG _ ⟨fun h => absurd h (nI_ge (a := k) (b := 24) (by omega) (by omega)), fun _ => ?_⟩
    simp (disch := omega) only [show (18 : Int32) = nI 18 from rfl, nI_clamp, nI_add, nI_1]
    refine ⟨vp_in_nI (by omega) (by omega), vp_in_nI (by omega) (by omega), lX5_keeps2 hG hE m (k + 1) _ (by omega) (fun o ho => ?_) (fun j hj => ?_) (fun j hj => ?_)⟩
    · rw [au_o ho]; exact h1 o ho
    · rw [au_j (by omega)]; exact h2 j hj
    · by_cases e : j = k
      · subst e; rw [au_k, h1 52 (by decide)]
      · rw [au_j (by omega)]; exact h3 j (by omega)
theorem lX5_keeps1 {E : aR} (hG : aGS G) (hE : ∀ A', kpM A A' → E none (A', R, G)) :
    ∀ (m k : Nat) (B : Nat → Nat → Int32), k + m = 18 → (∀ o, ¬ o = 66 → B o = A o) → (∀ j, j < k → B 66 j = A 51 j) → aw tX5_keeps E 2 [some (.ref 48), some (.int (nI k))] [] (B, R, G)
  | 0, k, B, hk, h1, h2 => by
    have hk2 : k = 18 := by omega
    subst hk2
    exact sX5_keeps_2 hG _ ⟨fun _ => lX5_keeps2 hG hE 24 0 B (by omega) h1 h2 (fun j hj => absurd hj (by omega)), fun h => absurd (nI_le (a := 18) (b := 18) (by omega) (by omega)) h⟩
  | m + 1, k, B, hk, h1, h2 => by
    refine sX5_keeps_2 hG _ ⟨fun h => absurd h (nI_ge (a := k) (b := 18) (by omega) (by omega)), fun _ => ?_⟩
    simp (disch := omega) only [nI_clamp, nI_1]
    refine ⟨vp_in_nI (by omega) (by omega), vp_in_nI (by omega) (by omega), lX5_keeps1 hG hE m (k + 1) _ (by omega) (fun o ho => ?_) (fun j hj => ?_)⟩
    · rw [au_o ho]; exact h1 o ho
    · by_cases e : j = k
      · subst e; rw [au_k, h1 51 (by decide)]
      · rw [au_j (by omega)]; exact h2 j (by omega)
theorem qX5_keeps (hG : aGS G) : ∃ A', kpM A A' ∧ CX5_keeps [.ref 48] (A, R, G) none (A', R, G) := by
  refine aC_exA vX5_keeps (Nat.le_of_ble_eq_true rfl) fun E hE => ?_
  exact sX5_keeps_0 (lX5_keeps1 hG hE 18 0 A (by omega) (fun _ _ => rfl) (fun j hj => absurd hj (by omega)))
theorem lX5_lays2 {E : aR} (hG : aGS G) (hE : ∀ A', lyM A A' → E none (A', R, G)) :
    ∀ (m k : Nat) (B : Nat → Nat → Int32), k + m = 24 → (∀ o, ¬ o = 51 → ¬ o = 52 → B o = A o) → (∀ j, j < 18 → B 51 j = A 66 j) → (∀ j, j < k → B 52 j = A 66 (18 + j)) → aw tX5_lays E 28 [some (.ref 48), some (.int (nI k))] [] (B, R, G)
  | 0, k, B, hk, h1, h2, h3 => by
    have hk2 : k = 24 := by omega
    subst hk2
    refine sX5_lays_28 hG _ ⟨fun _ => hE _ ⟨fun o h48 h51 h52 => ?_, fun j h5 h6 => ?_, fun j hj => ?_, fun j hj => ?_, ?_, ?_⟩, fun h => absurd (nI_le (a := 24) (b := 24) (by omega) (by omega)) h⟩
    · rw [au_o h48, au_o h48]; exact h1 o h51 h52
    · rw [au_j h6, au_j h5, h1 48 (by decide) (by decide)]
    · rw [aua (by decide), aua (by decide)]; exact h2 j hj
    · rw [aua (by decide), aua (by decide)]; exact h3 j hj
    · rw [au_j (by decide), au_k, h1 66 (by decide) (by decide)]
    · rw [au_k, au_o (by decide), h1 66 (by decide) (by decide)]
  | m + 1, k, B, hk, h1, h2, h3 => by
    refine sX5_lays_28 hG _ ⟨fun h => absurd h (nI_ge (a := k) (b := 24) (by omega) (by omega)), fun _ => ?_⟩
    simp (disch := omega) only [show (18 : Int32) = nI 18 from rfl, nI_clamp, nI_add, nI_1]
    refine ⟨vp_in_nI (by omega) (by omega), vp_in_nI (by omega) (by omega), lX5_lays2 hG hE m (k + 1) _ (by omega) (fun o h51 h52 => ?_) (fun j hj => ?_) (fun j hj => ?_)⟩
    · rw [au_o h52]; exact h1 o h51 h52
    · rw [aua (by decide)]; exact h2 j hj
    · by_cases e : j = k
      · subst e; rw [au_k, h1 66 (by decide) (by decide)]
      · rw [au_j (by omega)]; exact h3 j (by omega)
theorem lX5_lays1 {E : aR} (hG : aGS G) (hE : ∀ A', lyM A A' → E none (A', R, G)) :
    ∀ (m k : Nat) (B : Nat → Nat → Int32), k + m = 18 → (∀ o, ¬ o = 51 → B o = A o) → (∀ j, j < k → B 51 j = A 66 j) → aw tX5_lays E 2 [some (.ref 48), some (.int (nI k))] [] (B, R, G)
  | 0, k, B, hk, h1, h2 => by
    have hk2 : k = 18 := by omega
    subst hk2
    exact sX5_lays_2 hG _ ⟨fun _ => lX5_lays2 hG hE 24 0 B (by omega) (fun o h51 _ => h1 o h51) h2 (fun j hj => absurd hj (by omega)), fun h => absurd (nI_le (a := 18) (b := 18) (by omega) (by omega)) h⟩
  | m + 1, k, B, hk, h1, h2 => by
    refine sX5_lays_2 hG _ ⟨fun h => absurd h (nI_ge (a := k) (b := 18) (by omega) (by omega)), fun _ => ?_⟩
    simp (disch := omega) only [nI_clamp, nI_1]
    refine ⟨vp_in_nI (by omega) (by omega), vp_in_nI (by omega) (by omega), lX5_lays1 hG hE m (k + 1) _ (by omega) (fun o ho => ?_) (fun j hj => ?_)⟩
    · rw [au_o ho]; exact h1 o ho
    · by_cases e : j = k
      · subst e; rw [au_k, h1 66 (by decide)]
      · rw [au_j (by omega)]; exact h2 j (by omega)
theorem qX5_lays (hG : aGS G) : ∃ A', lyM A A' ∧ CX5_lays [.ref 48] (A, R, G) none (A', R, G) := by
  refine aC_exA vX5_lays (Nat.le_of_ble_eq_true rfl) fun E hE => ?_
  exact sX5_lays_0 (lX5_lays1 hG hE 18 0 A (by omega) (fun _ _ => rfl) (fun j hj => absurd hj (by omega)))
/-- what thinking leaves as it was -/
def jT (A A' : Nat → Nat → Int32) : Prop := (∀ o, ¬ o = 48 → ¬ o = 51 → ¬ o = 52 → ¬ o = 64 → ¬ o = 65 → ¬ o = 66 → A' o = A o) ∧ (∀ k, ¬ k = 5 → ¬ k = 6 → ¬ k = 34 → A' 48 k = A 48 k) ∧ eqV 6 (vM A) (vM A')
theorem jT.of {B C D : Nat → Nat → Int32} (h1 : kpM A B) (h2 : (∀ o, ¬ o = 48 → ¬ o = 51 → ¬ o = 52 → ¬ o = 64 → ¬ o = 65 → C o = B o) ∧ ∀ k, ¬ k = 5 → ¬ k = 6 → ¬ k = 34 → C 48 k = B 48 k) (h3 : lyM C D) : jT A D := by
  refine ⟨fun o h48 h51 h52 h64 h65 h66 => ?_, fun k h5 h6 h34 => ?_, ?_⟩
  · rw [h3.1 o h48 h51 h52, h2.1 o h48 h51 h52 h64 h65, h1.1 o h66]
  · rw [h3.2.1 k h5 h6, h2.2 k h5 h6 h34, h1.1 48 (by decide)]
  · have e66 : C 66 = B 66 := h2.1 66 (by decide) (by decide) (by decide) (by decide) (by decide)
    have e51 : ∀ k, k < 18 → A 51 k = D 51 k := fun k hk => by rw [h3.2.2.1 k hk, e66, h1.2.1 k hk]
    have e52 : ∀ k, k < 24 → A 52 k = D 52 k := fun k hk => by rw [h3.2.2.2.1 k hk, e66, h1.2.2.1 k hk]
    have e49 : A 49 = D 49 := by rw [h3.1 49 (by decide) (by decide) (by decide), h2.1 49 (by decide) (by decide) (by decide) (by decide) (by decide), h1.1 49 (by decide)]
    have e50 : A 50 = D 50 := by rw [h3.1 50 (by decide) (by decide) (by decide), h2.1 50 (by decide) (by decide) (by decide) (by decide) (by decide), h1.1 50 (by decide)]
    have e0 : A 48 0 = D 48 0 := by rw [h3.2.1 0 (by decide) (by decide), h2.2 0 (by decide) (by decide) (by decide), h1.1 48 (by decide)]
    have e5 : A 48 5 = D 48 5 := by rw [h3.2.2.2.2.1, e66, h1.2.2.2.1]
    have e6 : A 48 6 = D 48 6 := by rw [h3.2.2.2.2.2, e66, h1.2.2.2.2]
    refine ⟨fun f hf p hp => ?_, fun f h5 h8 c hc => ?_, fun k => ?_⟩
    · rcases f with _ | _ | _ | _ | _ | f
      · exact congrFun e49 p
      · exact congrFun e50 p
      · exact e51 (3 * p) (by omega)
      · exact e51 (3 * p + 1) (by omega)
      · exact e51 (3 * p + 2) (by omega)
      · omega
    · have hf : f = 5 ∨ f = 6 ∨ f = 7 := by omega
      rcases hf with rfl | rfl | rfl
      · exact e52 (3 * c) (by omega)
      · exact e52 (3 * c + 1) (by omega)
      · exact e52 (3 * c + 2) (by omega)
    · rcases k with _ | _ | _ | k
      · exact e0
      · exact e5
      · exact e6
      · rfl
theorem jD.T {B C : Nat → Nat → Int32} (h : jD B C) : (∀ o, ¬ o = 48 → ¬ o = 51 → ¬ o = 52 → ¬ o = 64 → ¬ o = 65 → C o = B o) ∧ ∀ k, ¬ k = 5 → ¬ k = 6 → ¬ k = 34 → C 48 k = B 48 k := ⟨h.1, fun k h5 h6 _ => h.2 k h5 h6⟩
theorem kpM.v {B : Nat → Nat → Int32} (h : kpM A B) : vM B = vM A := vM_go (h.1 48 (by decide)) (h.1 49 (by decide)) (h.1 50 (by decide)) (h.1 51 (by decide)) (h.1 52 (by decide))
theorem kpM.L {B : Nat → Nat → Int32} (h : kpM A B) (hL : LMA A Λ) : LMA B Λ := hL.go (h.1 54 (by decide)) (h.1 55 (by decide)) (by rw [h.1 48 (by decide)])
theorem jT.L {B : Nat → Nat → Int32} (h : jT A B) (hL : LMA A Λ) : LMA B Λ := hL.go (h.1 54 (by decide) (by decide) (by decide) (by decide) (by decide) (by decide)) (h.1 55 (by decide) (by decide) (by decide) (by decide) (by decide) (by decide)) (h.2.1 12 (by decide) (by decide) (by decide))
theorem jT.rf : jT A A := ⟨fun _ _ _ _ _ _ _ => rfl, fun _ _ _ _ => rfl, eqV.rf⟩
theorem jT.tr {B C : Nat → Nat → Int32} (h : jT A B) (k : jT B C) : jT A C := ⟨fun o h1 h2 h3 h4 h5 h6 => (k.1 o h1 h2 h3 h4 h5 h6).trans (h.1 o h1 h2 h3 h4 h5 h6), fun j h1 h2 h3 => (k.2.1 j h1 h2 h3).trans (h.2.1 j h1 h2 h3), h.2.2.tr k.2.2⟩
theorem jM.T {B : Nat → Nat → Int32} (h : jM A B) : jT A B := ⟨fun o _ _ _ h4 h5 _ => h o h4 h5, fun k _ _ _ => by rw [h 48 (by decide) (by decide)], eqV.of h.v.symm⟩
theorem lX5_goes {E : aR} (hG : aGS G) (hL : LMA A Λ) {n m : Nat} (hn : A 48 0 = nI n) (hn6 : n ≤ 6) (hm : m ≤ 40) (hE : ∀ A', jD A A' → vM A' = (gosV Λ n (vM A) m).1 → E (some (.int (gosV Λ n (vM A) m).2)) (A', R, G)) :
    ∀ (i k : Nat) (B : Nat → Nat → Int32), k + i = m → jD A B → vM B = (gosV Λ n (vM A) k).1 → aw tX5_goes E 4 [some (.ref 48), some (.int (nI m)), some (.int (gosV Λ n (vM A) k).2), some (.int (nI k))] [] (B, R, G)
  | 0, k, B, hk, hj, hv => by
    have hk2 : k = m := by omega
    subst hk2
    exact sX5_goes_4 hG _ _ _ ⟨fun _ => hE B hj hv, fun h => absurd (nI_le (a := k) (b := k) (by omega) (by omega)) h⟩
  | i + 1, k, B, hk, hj, hv => by
    have h48 : B 48 0 = nI n := by rw [hj.2 0 (by decide) (by decide)]; exact hn
    obtain ⟨B1, ⟨hj1, hv1⟩, hC⟩ := qX5_dayOf (R := R) hG (hj.L hL) h48 hn6
    rw [hv] at hv1 hC
    refine sX5_goes_4 hG _ _ _ ⟨fun h => absurd h (nI_ge (a := k) (b := m) (by omega) (by omega)), fun _ => ⟨_, _, hC, sX5_goes_14 _ _ _ _ _ ?_⟩⟩
    rw [nI_1]
    exact lX5_goes hG hL hn hn6 hm hE i (k + 1) B1 (by omega) (hj.tr hj1) hv1
theorem qX5_goes (hG : aGS G) (hL : LMA A Λ) {n m : Nat} (hn : A 48 0 = nI n) (hn6 : n ≤ 6) (hm : m ≤ 40) : ∃ A', (jD A A' ∧ vM A' = (gosV Λ n (vM A) m).1) ∧ CX5_goes [.ref 48, .int (nI m)] (A, R, G) (some (.int (gosV Λ n (vM A) m).2)) (A', R, G) := by
  refine aC_exA vX5_goes (Nat.le_of_ble_eq_true rfl) fun E hE => ?_
  exact sX5_goes_0 _ (lX5_goes hG hL hn hn6 hm (fun A' h1 h2 => hE A' ⟨h1, h2⟩) m 0 A (by omega) jD.rf rfl)
end MD
