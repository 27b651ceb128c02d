/-! a text's words: k < 6 a name, 6 or, 7 and, 8 not, 9 below, 10 same, 11 plus, 12 minus, 13 times, 14 negated, 15 + n the number n -/
def wX (k : Nat) : Int32 := if k < 15 then -(nI (k + 1)) else nI (k - 15)
def wM (k : Nat) : Int32 := if k < 6 then nI k else if k < 15 then nI (k + 5) else nI (100000 + (k - 15))
def valW (F : Nat → Int32) (k : Nat) : Int32 := if k < 6 then F k else nI (k - 15)
def unW (k : Nat) (x : Int32) : Int32 := if k = 8 then (if x = 0 then 1 else 0) else -x
noncomputable def binW (k : Nat) (x y : Int32) : Int32 := if k = 6 then bI (¬ x = 0 ∨ ¬ y = 0) else if k = 7 then bI (¬ x = 0 ∧ ¬ y = 0) else if k = 9 then bI (x < y) else if k = 10 then bI (x = y) else if k = 11 then x + y else if k = 12 then x - y else x * y
noncomputable def evR (F : Nat → Int32) : List Nat → Nat → (Nat → Int32) → Nat → Int32
  | [], _, S => S
  | k :: ws, d, S => if k < 6 ∨ 15 ≤ k then evR F ws (d + 1) (upd S d (valW F k)) else if k = 8 ∨ k = 14 then evR F ws d (upd S (d - 1) (unW k (S (d - 1)))) else evR F ws (d - 1) (upd S (d - 2) (binW k (S (d - 2)) (S (d - 1))))
/-- these words stand well on a stack of d -/
def okW : Nat → List Nat → Prop
  | d, [] => d = 1
  | d, k :: ws => k < 10015 ∧ if k < 6 ∨ 15 ≤ k then d < 38 ∧ okW (d + 1) ws else if k = 8 ∨ k = 14 then 1 ≤ d ∧ okW d ws else 2 ≤ d ∧ okW (d - 1) ws
/-- the words stand in a row from a place on -/
def rowW (f : Nat → Int32) (C : Nat → Int32) : Nat → List Nat → Prop
  | _, [] => True
  | i, k :: ws => C i = f k ∧ rowW f C (i + 1) ws
noncomputable def LamW (W : Nat → List Nat) : aLm := fun part F => evR F (W part) 0 (fun _ => 0) 0
section TW
variable {A : Nat → Nat → Int32} {R : Nat → Nat → Option Nat} {G : Nat → Nat × Nat}
theorem upd_eq {S : Nat → Int32} {k j : Nat} {x : Int32} : upd S k x j = if j = k then x else S j := by
  unfold upd
  rfl
theorem ev_ag {F : Nat → Int32} : ∀ (ws : List Nat) (d : Nat) (S T : Nat → Int32), okW d ws → (∀ i, i < d → S i = T i) → evR F ws d S 0 = evR F ws d T 0
  | [], d, S, T, ho, h => h 0 (by have : d = 1 := ho; omega)
  | k :: ws, d, S, T, ho, h => by
    unfold okW at ho
    unfold evR
    by_cases h1 : k < 6 ∨ 15 ≤ k
    · rw [if_pos h1] at ho
      rw [if_pos h1, if_pos h1]
      refine ev_ag ws _ _ _ ho.2.2 (fun i hi => ?_)
      rw [upd_eq, upd_eq]
      by_cases e : i = d
      · rw [if_pos e, if_pos e]
      · rw [if_neg e, if_neg e]; exact h i (by omega)
    · rw [if_neg h1] at ho
      rw [if_neg h1, if_neg h1]
      by_cases h2 : k = 8 ∨ k = 14
      · rw [if_pos h2] at ho
        rw [if_pos h2, if_pos h2, h (d - 1) (by omega)]
        refine ev_ag ws _ _ _ ho.2.2 (fun i hi => ?_)
        rw [upd_eq, upd_eq]
        by_cases e : i = d - 1
        · rw [if_pos e, if_pos e]
        · rw [if_neg e, if_neg e]; exact h i (by omega)
      · rw [if_neg h2] at ho
        rw [if_neg h2, if_neg h2, h (d - 1) (by omega), h (d - 2) (by omega)]
        refine ev_ag ws _ _ _ ho.2.2 (fun i hi => ?_)
        rw [upd_eq, upd_eq]
        by_cases e : i = d - 2
        · rw [if_pos e, if_pos e]
        · rw [if_neg e, if_neg e]; exact h i (by omega)
theorem au_ap {o k : Nat} {S : Nat → Int32} {x : Int32} : au (ap A o S) o k x = ap A o (upd S k x) := by
  funext p
  unfold au
  by_cases h : p = o
  · subst h; rw [ap_at, ap_at, ap_at]
  · rw [ap_ne h, ap_ne h, ap_ne h]
theorem wX_n {k : Nat} (h : 15 ≤ k) : wX k = nI (k - 15) := if_neg (by omega)
theorem wM_n {k : Nat} (h : 15 ≤ k) : wM k = nI (100000 + (k - 15)) := by unfold wM; rw [if_neg (by omega), if_neg (by omega)]
end TW
