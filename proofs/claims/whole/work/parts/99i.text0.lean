/-! the first text: needs hard ; takes things ; judges mind ; -/
def runB (Q : Nat → Bool) : Nat → Nat → Nat
  | 0, p => p
  | f + 1, p => bif Q p then runB Q f (p + 1) else p
theorem ite_B {α : Sort _} {P : Prop} {b : Bool} (h : b = true ↔ P) {x y : α} : @ite _ P (Classical.propDecidable _) x y = bif b then x else y := by
  by_cases hp : P
  · rw [if_pos hp, h.mpr hp]; rfl
  · rw [if_neg hp]
    cases b with
    | true => exact absurd (h.mp rfl) hp
    | false => rfl
theorem runN_B {P : Nat → Prop} {Q : Nat → Bool} (h : ∀ p, Q p = true ↔ P p) : ∀ f p, runN P f p = runB Q f p
  | 0, p => by unfold runN runB; rfl
  | f + 1, p => by
    rw [runN_s, ite_B (h p), runN_B h f (p + 1)]
    rfl
def qL (t : Nat → Int32) (z p : Nat) : Bool := decide (p < z ∧ 97 ≤ t p ∧ t p ≤ 122)
def qD (t : Nat → Int32) (z p : Nat) : Bool := decide (p < z ∧ 48 ≤ t p ∧ t p ≤ 57)
def qK (t : Nat → Int32) (z p : Nat) : Bool := decide (p < z ∧ (t p = 32 ∨ t p = 10))
def qW (t : Nat → Int32) (p e i : Nat) : Bool := decide (e - p = aSle.getD i 0 ∧ ∀ k, k < aSle.getD i 0 → (aSby.getD i []).getD k 0 = t (p + k))
def skB (t : Nat → Int32) (z p : Nat) : Nat := runB (qK t z) (z - p) p
def teB (t : Nat → Int32) (z p : Nat) : Nat := bif qL t z p then runB (qL t z) (z - p) p else bif qD t z p then runB (qD t z) (z - p) p else if p < z then p + 1 else p
def wdB (t : Nat → Int32) (p e : Nat) : Nat → Nat → Int32
  | 0, _ => -27
  | m + 1, i => bif qW t p e i then wcode i else wdB t p e m (i + 1)
def tcB (t : Nat → Int32) (z p : Nat) : Int32 := bif decide (p < z) then (bif qL t z p then wdB t p (teB t z p) 12 0 else bif qD t z p then (if teB t z p - p ≤ 4 then numR t (teB t z p - p) p 0 else -27) else sgX (t p)) else -26
def tpB (t : Nat → Int32) (z : Nat) : Nat → Nat
  | 0 => skB t z 0
  | i + 1 => skB t z (teB t z (tpB t z i))
section T0
variable {t : Nat → Int32} {z : Nat} {A : Nat → Nat → Int32} {R : Nat → Nat → Option Nat} {G : Nat → Nat × Nat}
theorem qL_i {p : Nat} : qL t z p = true ↔ isL t z p := decide_eq_true_iff
theorem qD_i {p : Nat} : qD t z p = true ↔ isD t z p := decide_eq_true_iff
theorem qK_i {p : Nat} : qK t z p = true ↔ isBk t z p := decide_eq_true_iff
theorem qW_i {p e i : Nat} : qW t p e i = true ↔ isW t p e i := decide_eq_true_iff
theorem skB_e (p : Nat) : skipN t z p = skB t z p := runN_B (fun _ => qK_i) _ _
theorem teB_e (p : Nat) : tkEnd t z p = teB t z p := by
  unfold tkEnd teB
  rw [ite_B (qL_i (t := t) (z := z) (p := p)), ite_B (qD_i (t := t) (z := z) (p := p)), runN_B (fun _ => qL_i (t := t) (z := z)), runN_B (fun _ => qD_i (t := t) (z := z))]
theorem wdB_e (p e : Nat) : ∀ m i, wdR t p e m i = wdB t p e m i
  | 0, i => by unfold wdR wdB; rfl
  | m + 1, i => by
    have h : wdR t p e (m + 1) i = @ite _ (isW t p e i) (Classical.propDecidable _) (wcode i) (wdR t p e m (i + 1)) := by
      conv => lhs; unfold wdR
    rw [h, ite_B (qW_i (t := t) (p := p) (e := e) (i := i)), wdB_e p e m (i + 1)]
    rfl
theorem tcB_e (p : Nat) : tkCode t z p = tcB t z p := by
  unfold tkCode tcB
  rw [ite_B (P := p < z) (b := decide (p < z)) decide_eq_true_iff, ite_B (qL_i (t := t) (z := z) (p := p)), ite_B (qD_i (t := t) (z := z) (p := p)), teB_e, wdB_e]
theorem tpB_e : ∀ i, tkPl t z i = tpB t z i
  | 0 => by unfold tkPl tpB; exact skB_e 0
  | i + 1 => by
    have h : tkPl t z (i + 1) = skipN t z (tkEnd t z (tkPl t z i)) := by conv => lhs; unfold tkPl
    rw [h, tpB_e i, teB_e, skB_e]
    rfl
def lawB : List Int32 := [110, 101, 101, 100, 115, 32, 104, 97, 114, 100, 32, 59, 32, 116, 97, 107, 101, 115, 32, 116, 104, 105, 110, 103, 115, 32, 59, 32, 106, 117, 100, 103, 101, 115, 32, 109, 105, 110, 100, 32, 59]
def lawT (q : Nat) : Int32 := lawB.getD q 0
def tk0 (i : Nat) : Nat := [22, 0, 21, 23, 1, 21, 24, 2, 21].getD i 25
theorem tk0_ok : ∀ i, i ≤ 9 → tcB lawT 41 (tpB lawT 41 i) = tX (tk0 i) ∧ okT (tk0 i) := by
  have h : ∀ i, i ≤ 9 → tcB lawT 41 (tpB lawT 41 i) = tX (tk0 i) ∧ (tk0 i < 14 ∨ (18 < tk0 i ∧ tk0 i < 27)) := by decide +kernel
  intro i hi
  exact ⟨(h i hi).1, (h i hi).2.elim Or.inl fun w => Or.inr (Or.inl w)⟩
/-- the words of the first text -/
def W0 (q : Nat) : List Nat := if q < 3 then [q] else []
theorem tY0 {E : aR} {n p i : Nat} {W : Nat → List Nat} (hG : aGS G) (H : yH A n z tk0 9) (hp : p < 3) (hi : i = 3 * p) (hW : ∀ q, q < p → W0 q = W q) (hl : (jo W p).length ≤ i) (h : tY E A R G n z W0 (p + 1) (i + 3)) : tY E A R G n z W p i := by
  subst hi
  have k : p = 0 ∨ p = 1 ∨ p = 2 := by omega
  refine tY.part (i' := 3 * p + 3) (ok := true) (C' := W0 p) hG H hp (by rcases k with rfl | rfl | rfl <;> rfl) (by omega) hl (fun E A R G n z hG H O hO => ⟨fun w => (by cases w), fun _ hK => ?_⟩) (fun w => (by cases w)) hW rfl (fun _ => h)
  have hw : W0 p = [p] := if_pos hp
  rw [hw] at hK
  have e1 : tk0 (3 * p + 1) = p := by rcases k with rfl | rfl | rfl <;> rfl
  have e2 : tk0 (3 * p + 1 + 1) = 21 := by rcases k with rfl | rfl | rfl <;> rfl
  have e3 : wdT p = p := if_pos (by omega)
  refine yY.atom hG H (by omega) (by simp; omega) (by rw [e1]; exact Or.inl (by omega)) ?_
  rw [e1, e3]
  show yY E A R G n z 0 1 [] (O ++ [p]) (3 * p + 1 + 1)
  have hl2 : ([] : List Nat).length + (O ++ [p]).length ≤ 3 * p + 1 + 1 := by rw [List.length_append, List.length_nil, List.length_singleton]; omega
  exact yY.semi hG H (by omega) hl2 e2 rfl hK
theorem qX5_text0 (hG : aGS G) (h8 : A 48 8 = nI 41) (h11 : A 48 11 = nI 0) (hw : sCo A) (ht : ∀ q, q < 41 → A 53 q = lawT q) : ∃ F, (∃ D, mP A 0 41 W0 3 10 D ∧ F = au (au (au D 55 (4 * 0 + 3) (nI (jo W0 3).length)) 48 8 0) 48 11 (nI (0 + 1))) ∧ CX5_text [.ref 48] (A, R, G) (some (.int (nI 0))) (F, R, G) := by
  have hY : yH A 0 41 tk0 9 := ⟨by decide, by decide, h8, h11, hw, by decide, fun i hi => by
    rw [tkT_c (u := lawT) ht i]
    unfold tkT
    rw [tcB_e, tpB_e]
    exact tk0_ok i hi⟩
  refine qX5_textYes (i := 9) hG hY fun E hK => ?_
  refine tY0 hG hY (by decide) rfl (fun q hq => absurd hq (by omega)) (Nat.zero_le _) ?_
  refine tY0 hG hY (by decide) rfl (fun q hq => rfl) (by decide) ?_
  refine tY0 hG hY (by decide) rfl (fun q hq => rfl) (by decide) ?_
  exact tY.fin hG hY (by decide) (fun _ => hK) (fun w => absurd rfl w)
theorem W0_ok : ∀ q, q < 3 → okW 0 (W0 q) := by
  intro q hq
  have k : q = 0 ∨ q = 1 ∨ q = 2 := by omega
  rcases k with rfl | rfl | rfl <;> exact ⟨by decide, by simp [okW]⟩
theorem TXt0 {C S : Nat → Int32} (h0 : C 0 = -1) (h1 : C 1 = -2) (h2 : C 2 = -3) (s0 : S 0 = 1) (s1 : S 1 = 2) (s2 : S 2 = 3) : TXt C S 3 W0 := by
  refine ⟨by decide, fun part hp => ⟨part, fun w => w, fun w => ?_, ?_, ?_, W0_ok part hp, ?_⟩⟩
  · have k : part = 1 ∨ part = 2 := by omega
    rcases k with rfl | rfl
    · exact s0
    · exact s1
  · have k : part = 0 ∨ part = 1 ∨ part = 2 := by omega
    rcases k with rfl | rfl | rfl
    · exact s0
    · exact s1
    · exact s2
  · rw [show (W0 part).length = 1 by unfold W0; rw [if_pos hp]; rfl]; omega
  · have k : part = 0 ∨ part = 1 ∨ part = 2 := by omega
    rcases k with rfl | rfl | rfl
    · exact ⟨h0, trivial⟩
    · exact ⟨h1, trivial⟩
    · exact ⟨h2, trivial⟩
end T0
