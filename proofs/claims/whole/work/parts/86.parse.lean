/-! the class's reader of a part, and the model's, at the same tokens -/
def jnA (l a : Nat) : Prop := (l = 0 ∧ a = 6) ∨ (l = 1 ∧ a = 7) ∨ (l = 2 ∧ (a = 9 ∨ a = 10)) ∨ (l = 3 ∧ (a = 11 ∨ a = 12)) ∨ (l = 4 ∧ a = 13)
def lr (l : Nat) : Nat := if l = 0 then 1 else if l = 1 then 2 else if l = 2 then 3 else if l = 3 then 5 else if l = 4 then 6 else 7
def tl (l : Nat) : Nat := if l = 0 then 0 else if l = 1 then 1 else if l = 2 then 3 else if l = 3 then 4 else if l = 4 then 5 else 7
def tpS (l : Nat) (S : List Nat) : Prop := ∀ s S', S = s :: S' → rk s ≤ tl l
def top4 (S O : List Nat) : Prop := ∃ s S', (uw 5 S O).1 = s :: S' ∧ rk s = 4
def jnU (l a : Nat) (S O : List Nat) : Prop := ∀ l', l ≤ l' → jnA l' a → l' = 2 ∧ top4 S O
/-- the class's tokens -/
def xH (A : Nat → Nat → Int32) (T : Nat → Nat) (N : Nat) : Prop := N ≤ 160 ∧ (∀ i, i ≤ N → A 33 i = tX (T i) ∧ okT (T i)) ∧ ∀ i, i ≤ N → ¬ T i = 25 → ¬ T i = 26 → i < N
def xB (A B : Nat → Nat → Int32) (C : List Nat) (i : Nat) : Prop := (∀ o, ¬ o = 31 → ¬ o = 35 → B o = A o) ∧ (∀ k, ¬ k = 6 → ¬ k = 7 → B 31 k = A 31 k) ∧ B 31 6 = nI i ∧ B 31 7 = nI C.length ∧ rowW wX (B 35) 0 C
def pC (T : Nat → Nat) (l o i : Nat) (m : Int32) (S O : List Nat) : Prop := (l ≤ 2 → ¬ m = 0) ∧ (3 ≤ l → T i = 8 → m = 0) ∧ tpS l S ∧ op S = o ∧ S.length + O.length ≤ i
/-- what the model's reader makes of it -/
def pM (T : Nat → Nat) (N l o i : Nat) (ok : Bool) (i' : Nat) (C : List Nat) : Prop := ∀ (E : aR) (A : Nat → Nat → Int32) (R : Nat → Nat → Option Nat) (G : Nat → Nat × Nat) (n z : Nat), aGS G → yH A n z T N → ∀ m S O, pC T l o i m S O →
  (ok = false → yK0 E A R G n z i' → yY E A R G n z 1 m S O i) ∧
  (ok = true → ∃ m1 S1 O1, S1.length + O1.length ≤ i' ∧ (∀ k, k ≤ lr l → uw k S1 O1 = uw k S (O ++ C)) ∧ jnU l (T i') S1 O1 ∧ (yY E A R G n z 0 m1 S1 O1 i' → yY E A R G n z 1 m S O i))
def pW (l o : Nat) (ok : Bool) (C : List Nat) : Prop := ok = true → ∀ d ws, okW (d + 1) ws → d + 6 + 5 * (5 - o) ≤ 38 + l → okW d (C ++ ws)
def pRes (T : Nat → Nat) (N : Nat) (A : Nat → Nat → Int32) (R : Nat → Nat → Option Nat) (G : Nat → Nat × Nat) (c : aC) (args : List Value) (l o i : Nat) (B : Nat → Nat → Int32) (C0 : List Nat) : Prop :=
  ∃ (ok : Bool) (i' : Nat) (C : List Nat) (B' : Nat → Nat → Int32), c args (B, R, G) (some (.int (if ok then 1 else 0))) (B', R, G) ∧ i ≤ i' ∧ (ok = true → i < i') ∧ i' ≤ N ∧ xB A B' (C0 ++ C) i' ∧ C.length ≤ i' - i ∧ pW l o ok C ∧ pM T N l o i ok i' C
def pLv (T : Nat → Nat) (N : Nat) (A : Nat → Nat → Int32) (R : Nat → Nat → Option Nat) (G : Nat → Nat × Nat) (l o : Nat) : Prop := ∀ i, i ≤ N → ∀ B C0, xB A B C0 i → C0.length ≤ i → ∀ d, 7 * (5 - o) + 8 ≤ d + l → pRes T N A R G (gR d).1 [.ref 31, .int (nI l), .int (nI o)] l o i B C0
section PP
variable {E : aR} {A B : Nat → Nat → Int32} {R : Nat → Nat → Option Nat} {G : Nat → Nat × Nat} {z n N i l o d : Nat} {T : Nat → Nat} {S O C C0 : List Nat} {w m : Int32}
theorem xB.tk (H : xH A T N) (h : xB A B C i) (hi : i ≤ N) : tkX B = tX (T i) ∧ 0 ≤ B 31 6 := by
  have hN := H.1
  have h6 := h.2.2.1
  unfold tkX
  rw [h6, if_pos (show nI i ≤ 160 from nI_le (a := i) (b := 160) (by omega) (by omega)), nI_clamp (by omega), h.1 33 (by decide) (by decide)]
  exact ⟨(H.2.1 i hi).1, nI_nn (by omega)⟩
theorem xB.at (h : xB A B C i) {j : Nat} : xB A (au B 31 6 (nI j)) C j := by
  obtain ⟨h1, h2, h3, h4, h5⟩ := h
  refine ⟨fun o a b => ?_, fun k a b => ?_, au_k, ?_, ?_⟩
  · rw [au_o a]; exact h1 o a b
  · rw [au_j a]; exact h2 k a b
  · rw [au_j (by decide)]; exact h4
  · rw [au_o (by decide)]; exact h5
theorem xB.add {w : Nat} (h : xB A B C i) {v : Int32} (hv : v = wX w) : xB A (au (au B 35 C.length v) 31 7 (nI (C.length + 1))) (C ++ [w]) i := by
  obtain ⟨h1, h2, h3, h4, h5⟩ := h
  refine ⟨fun o a b => ?_, fun k a b => ?_, ?_, ?_, ?_⟩
  · rw [au_o a, au_o b]; exact h1 o a b
  · rw [au_j b, aua (by decide)]; exact h2 k a b
  · rw [au_j (by decide), aua (by decide)]; exact h3
  · rw [au_k, List.length_append]; rfl
  · rw [au_o (by decide)]
    refine rowW_snoc C 0 (rowW_c C 0 (fun j _ hj => ?_) h5) ?_
    · rw [au_j (by omega)]
    · rw [Nat.zero_add, au_k]; exact hv
theorem qX1_add (hG : aGS G) (h : xB A B C i) (hl : C.length < 160) (v : Int32) : CX1_add [.ref 31, .int v] (B, R, G) none (au (au B 35 C.length v) 31 7 (nI (C.length + 1)), R, G) := by
  have h7 := h.2.2.2.1
  refine aC_of (Nat.le_of_ble_eq_true rfl) fun E hE => sX1_add_0 hG _ (br_f ?_ ?_)
  · rw [h7]; exact nI_ge (a := C.length) (b := 160) hl (by omega)
  · simp (disch := omega) only [h7, nI_clamp, aua, nI_1]
    exact ⟨vp_in_nI (by omega) (by omega), hE⟩
theorem qX1_skip1 (hG : aGS G) (H : xH A T N) (h : xB A B C i) (hi : i ≤ N) {x : Int32} (hx : tX (T i) = x) : CX1_skip [.ref 31, .int x] (B, R, G) (some (.int 1)) (au B 31 6 (nI (i + 1)), R, G) := by
  have ht := h.tk H hi
  refine aC_of (Nat.le_of_ble_eq_true rfl) fun E hE => sX1_skip_0 hG _ ⟨ht.2, br_t (by rw [ht.1]; exact hx) ?_⟩
  rw [h.2.2.1, nI_1]; exact hE
theorem qX1_skip0 (hG : aGS G) (H : xH A T N) (h : xB A B C i) (hi : i ≤ N) {x : Int32} (hx : ¬ tX (T i) = x) : CX1_skip [.ref 31, .int x] (B, R, G) (some (.int 0)) (B, R, G) := by
  have ht := h.tk H hi
  exact aC_of (Nat.le_of_ble_eq_true rfl) fun E hE => sX1_skip_0 hG _ ⟨ht.2, br_f (by rw [ht.1]; exact hx) hE⟩
theorem tX_eq : ∀ a, a < 27 → ∀ b, b < 27 → tX a = tX b → a = b := by decide +kernel
theorem tX_q {a b : Nat} (h : okT a) (hb : b < 27) : tX a = tX b ↔ a = b := by
  by_cases q : a < 27
  · exact ⟨tX_eq a q b hb, fun e => by rw [e]⟩
  · refine ⟨fun e => ?_, fun e => by rw [e]⟩
    unfold okT at h
    have h0 : (0 : Int32) ≤ tX b := by rw [← e, tX_n (by omega)]; exact nI_nn (by omega)
    have : ∀ b, b < 27 → ¬ (0 : Int32) ≤ tX b := by decide
    exact absurd h0 (this b hb)
theorem tX_atom : ∀ a, a < 27 → ((-6 : Int32) ≤ tX a ↔ a < 6) := by decide +kernel
theorem tX_at {a : Nat} (h : okT a) : (-6 : Int32) ≤ tX a ↔ isA a := by
  unfold isA
  by_cases q : a < 27
  · rw [tX_atom a q]; omega
  · unfold okT at h
    rw [tX_n (by omega)]
    exact ⟨fun _ => by omega, fun _ => Int32.le_trans (by decide) (nI_nn (by omega))⟩
theorem tX_w {a : Nat} (h : isA a) : tX a = wX (wdT a) ∧ (okT a → wdT a < 10015 ∧ (wdT a < 6 ∨ 15 ≤ wdT a)) := by
  unfold isA at h
  unfold okT wdT
  by_cases q : a < 6
  · rw [if_pos q]
    refine ⟨?_, fun _ => by omega⟩
    unfold tX wX
    rw [if_pos (by omega), if_pos (by omega)]
  · rw [if_neg q, tX_n (by omega), wX_n (by omega), show a - 85 - 15 = a - 100 by omega]
    exact ⟨rfl, fun _ => by omega⟩
theorem jnX_j {l a : Nat} (hl : l < 5) (h : okT a) : jnX (nI l) (tX a) ↔ jnA l a := by
  unfold jnX jnA
  have e0 : (nI l = 0) ↔ l = 0 := nI_eq (b := 0) (by omega) (by omega)
  have e1 : (nI l = 1) ↔ l = 1 := nI_eq (b := 1) (by omega) (by omega)
  have e2 : (nI l = 2) ↔ l = 2 := nI_eq (b := 2) (by omega) (by omega)
  have e3 : (nI l = 3) ↔ l = 3 := nI_eq (b := 3) (by omega) (by omega)
  have e4 : (nI l = 4) ↔ l = 4 := nI_eq (b := 4) (by omega) (by omega)
  have f (b : Nat) (hb : b < 27) := tX_q h hb
  rw [e0, e1, e2, e3, e4, show (-7 : Int32) = tX 6 from by decide, show (-8 : Int32) = tX 7 from by decide, show (-10 : Int32) = tX 9 from by decide, show (-11 : Int32) = tX 10 from by decide, show (-12 : Int32) = tX 11 from by decide, show (-13 : Int32) = tX 12 from by decide, show (-14 : Int32) = tX 13 from by decide, f 6 (by omega), f 7 (by omega), f 9 (by omega), f 10 (by omega), f 11 (by omega), f 12 (by omega), f 13 (by omega)]
/-- what is so of a sign that joins at a level -/
theorem jf {l a : Nat} (h : jnA l a) : lr l ≤ rk a ∧ (if rk a = 4 then 5 else rk a) ≤ lr (l + 1) ∧ tl l < (if rk a = 4 then 5 else rk a) ∧ rk a ≤ tl (l + 1) ∧ (rk a = 4 → l = 2) ∧ (l = 2 → rk a = 4) ∧ (a ≤ 7 ↔ l ≤ 1) ∧ (¬ l = 2 → (if rk a = 4 then 5 else rk a) ≤ lr l) ∧ tX a = wX a := by
  unfold jnA at h
  rcases h with ⟨rfl, rfl⟩ | ⟨rfl, rfl⟩ | ⟨rfl, rfl | rfl⟩ | ⟨rfl, rfl | rfl⟩ | ⟨rfl, rfl⟩ <;> decide +kernel
theorem lr_le : ∀ l, l < 5 → lr l ≤ lr (l + 1) ∧ tl l ≤ tl (l + 1) ∧ 1 ≤ lr l := by decide
theorem jnA_lt {l a : Nat} (h : jnA l a) : l < 5 ∧ a < 14 ∧ isJ a := by unfold jnA at h; unfold isJ; omega
theorem tpS_up {k : Nat} (h : tpS l S) (hk : tl l < k) (O : List Nat) : uw k S O = (S, O) := by
  cases S with
  | nil => rfl
  | cons s S' =>
    have := h s S' rfl
    rw [uw_s, if_neg (by omega)]
theorem okW_atom {w : Nat} (h : w < 10015) (h2 : w < 6 ∨ 15 ≤ w) {d : Nat} {ws : List Nat} (hd : d < 38) (hw : okW (d + 1) ws) : okW d (w :: ws) := by
  unfold okW
  exact ⟨h, by rw [if_pos h2]; exact ⟨hd, hw⟩⟩
theorem okW_un {w : Nat} (h : w = 8 ∨ w = 14) {d : Nat} {ws : List Nat} (hw : okW (d + 1) ws) : okW (d + 1) (w :: ws) := by
  unfold okW
  refine ⟨by omega, ?_⟩
  rw [if_neg (by omega), if_pos h]
  exact ⟨by omega, hw⟩
theorem okW_bin {w : Nat} (h : isJ w) {d : Nat} {ws : List Nat} (hw : okW (d + 1) ws) : okW (d + 2) (w :: ws) := by
  unfold isJ at h
  unfold okW
  refine ⟨by omega, ?_⟩
  rw [if_neg (by omega), if_neg (by omega)]
  exact ⟨by omega, hw⟩
end PP
