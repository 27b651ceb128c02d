/-! the most that may sit: by a case (counted from behind) and who sits already -/
def setb (m p : Nat) : Nat := m ||| (1 <<< p)
noncomputable def stepM (who : Int32) (nx : Nat → Int32) (m : Nat) : Nat → Int32
  | 0 => nx m
  | p + 1 => if bt who p = true ∧ ¬ bt (nI m) p = true then (if stepM who nx m p < 1 + nx (setb m p) then 1 + nx (setb m p) else stepM who nx m p) else stepM who nx m p
noncomputable def mostV (who : Nat → Int32) : Nat → Nat → Int32
  | 0, _ => 0
  | d + 1, m => stepM (who (7 - d)) (mostV who d) m 6
noncomputable def whoC (Λ : aLm) (n : Nat) (v : aV) (c : Nat) : Int32 := if v 5 c = 0 then 0 else whoV Λ n v c
/-- the first digit that keeps what is wanted -/
noncomputable def digM (who : Int32) (nx : Nat → Int32) (m : Nat) (want : Int32) : Nat → Nat → Nat
  | 0, _ => 0
  | i + 1, p => if (bt who p = true ∧ ¬ bt (nI m) p = true) ∧ 1 + nx (setb m p) = want then p + 1 else digM who nx m want i (p + 1)
noncomputable def dig1 (who : Nat → Int32) (c m : Nat) : Nat := if mostV who (7 - c) m = mostV who (8 - c) m then 0 else digM (who c) (mostV who (7 - c)) m (mostV who (8 - c) m) 6 0
/-- the number told so far, and who sits -/
noncomputable def sitN (who : Nat → Int32) : Nat → Int32 × Nat
  | 0 => (0, 0)
  | c + 1 => (10 * (sitN who c).1 + nI (dig1 who c (sitN who c).2), if dig1 who c (sitN who c).2 = 0 then (sitN who c).2 else setb (sitN who c).2 (dig1 who c (sitN who c).2 - 1))
theorem setb_lt : ∀ m, m < 64 → ∀ p, p < 6 → setb m p < 64 := by unfold setb; decide +kernel
theorem setb_nI : ∀ m, m < 64 → ∀ p, p < 6 → nI m ||| ((1 : Int32) <<< (nI p &&& 31)) = nI (setb m p) := by unfold setb; decide +kernel
theorem shl6 : ∀ c, c < 10 → nI c <<< ((6 : Int32) &&& 31) = nI (64 * c) := by decide +kernel
theorem bit_at {x : Int32} {p : Nat} (hp : p < 32) : ¬ x &&& ((1 : Int32) <<< (nI p &&& 31)) = 0 ↔ bt x p = true := by
  constructor
  · intro h
    refine Classical.byContradiction fun q => h (b_ext fun i hi => ?_)
    rw [b_and, b_one hp hi, b_0]
    by_cases e : i = p
    · subst e; simp [Bool.eq_false_iff.mpr q]
    · simp [e]
  · intro h q
    have h1 : bt (x &&& ((1 : Int32) <<< (nI p &&& 31))) p = bt 0 p := by rw [q]
    rw [b_and, b_one hp hp, b_0, h] at h1
    simp at h1
theorem bit_an {x y : Int32} {p : Nat} (hp : p < 32) : ¬ (x &&& (y ^^^ (-1))) &&& ((1 : Int32) <<< (nI p &&& 31)) = 0 ↔ bt x p = true ∧ ¬ bt y p = true := by
  rw [bit_at hp, b_and, b_xor, b_m1 p hp]
  cases bt x p <;> cases bt y p <;> decide
theorem stepM_c {who : Int32} {x y : Nat → Int32} {m : Nat} (hm : m < 64) (h : ∀ j, j < 64 → x j = y j) : ∀ p, p ≤ 6 → stepM who x m p = stepM who y m p
  | 0, _ => h m hm
  | p + 1, hp => by
    unfold stepM
    rw [stepM_c hm h p (by omega), h _ (setb_lt m hm p (by omega))]
theorem stepM_at {who : Int32} {x : Nat → Int32} {m : Nat} : ∀ p, stepM who x m p = x m ∨ ∃ q, q < p ∧ (bt who q = true ∧ ¬ bt (nI m) q = true) ∧ 1 + x (setb m q) = stepM who x m p
  | 0 => Or.inl rfl
  | p + 1 => by
    have ih := stepM_at (who := who) (x := x) (m := m) p
    unfold stepM
    by_cases h : bt who p = true ∧ ¬ bt (nI m) p = true
    · rw [if_pos h]
      by_cases h2 : stepM who x m p < 1 + x (setb m p)
      · rw [if_pos h2]
        exact Or.inr ⟨p, by omega, h, rfl⟩
      · rw [if_neg h2]
        rcases ih with q | ⟨q, hq, h3, h4⟩
        · exact Or.inl q
        · exact Or.inr ⟨q, by omega, h3, h4⟩
    · rw [if_neg h]
      rcases ih with q | ⟨q, hq, h3, h4⟩
      · exact Or.inl q
      · exact Or.inr ⟨q, by omega, h3, h4⟩
theorem digM_pos {who : Int32} {x : Nat → Int32} {m : Nat} {want : Int32} : ∀ i p, (∃ q, p ≤ q ∧ q < p + i ∧ (bt who q = true ∧ ¬ bt (nI m) q = true) ∧ 1 + x (setb m q) = want) → 0 < digM who x m want i p
  | 0, p, ⟨q, h1, h2, _⟩ => absurd h1 (by omega)
  | i + 1, p, ⟨q, h1, h2, h3, h4⟩ => by
    unfold digM
    by_cases h : (bt who p = true ∧ ¬ bt (nI m) p = true) ∧ 1 + x (setb m p) = want
    · rw [if_pos h]; omega
    · rw [if_neg h]
      refine digM_pos i (p + 1) ⟨q, ?_, by omega, h3, h4⟩
      by_cases e : q = p
      · subst e; exact absurd ⟨h3, h4⟩ h
      · omega
theorem digM_le {who : Int32} {x : Nat → Int32} {m : Nat} {want : Int32} : ∀ i p, digM who x m want i p ≤ p + i
  | 0, p => by unfold digM; omega
  | i + 1, p => by
    unfold digM
    by_cases h : (bt who p = true ∧ ¬ bt (nI m) p = true) ∧ 1 + x (setb m p) = want
    · rw [if_pos h]; omega
    · rw [if_neg h]
      have := digM_le (who := who) (x := x) (m := m) (want := want) i (p + 1)
      omega
theorem dig1_le {who : Nat → Int32} {c m : Nat} : dig1 who c m ≤ 6 := by
  unfold dig1
  by_cases h : mostV who (7 - c) m = mostV who (8 - c) m
  · rw [if_pos h]; omega
  · rw [if_neg h]
    exact digM_le 6 0
theorem dig1_pos {who : Nat → Int32} {c m : Nat} (hc : c < 8) (h : ¬ mostV who (7 - c) m = mostV who (8 - c) m) : 0 < digM (who c) (mostV who (7 - c)) m (mostV who (8 - c) m) 6 0 := by
  have e : mostV who (8 - c) m = stepM (who c) (mostV who (7 - c)) m 6 := by
    rw [show 8 - c = (7 - c) + 1 by omega]
    conv => lhs; unfold mostV
    rw [show 7 - (7 - c) = c by omega]
  rcases stepM_at (who := who c) (x := mostV who (7 - c)) (m := m) 6 with q | ⟨q, h1, h2, h3⟩
  · exact absurd (by rw [e, q]) h
  · exact digM_pos 6 0 ⟨q, by omega, by omega, h2, by rw [e]; exact h3⟩
theorem sitN_lt {who : Nat → Int32} (c : Nat) : (sitN who c).2 < 64 := by
  induction c with
  | zero => exact (by decide : 0 < 64)
  | succ c ih =>
    have hd := dig1_le (who := who) (c := c) (m := (sitN who c).2)
    show (if dig1 who c (sitN who c).2 = 0 then (sitN who c).2 else setb (sitN who c).2 (dig1 who c (sitN who c).2 - 1)) < 64
    by_cases h : dig1 who c (sitN who c).2 = 0
    · rw [if_pos h]; exact ih
    · rw [if_neg h]; exact setb_lt _ ih _ (by omega)
