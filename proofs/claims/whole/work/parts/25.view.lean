/-! ===== Int32 by its bits: bt x i ===== -/
def bt (x : Int32) (i : Nat) : Bool := x.toBitVec.getLsbD i
theorem b_ext {x y : Int32} (h : ∀ i, i < 32 → bt x i = bt y i) : x = y := Int32.toBitVec_inj.mp (BitVec.eq_of_getLsbD_eq (fun i hi => h i hi))
theorem b_or (x y : Int32) (i : Nat) : bt (x ||| y) i = (bt x i || bt y i) := by unfold bt; rw [Int32.toBitVec_or, BitVec.getLsbD_or]
theorem b_and (x y : Int32) (i : Nat) : bt (x &&& y) i = (bt x i && bt y i) := by unfold bt; rw [Int32.toBitVec_and, BitVec.getLsbD_and]
theorem b_xor (x y : Int32) (i : Nat) : bt (x ^^^ y) i = (bt x i ^^ bt y i) := by unfold bt; rw [Int32.toBitVec_xor, BitVec.getLsbD_xor]
theorem b_big {x : Int32} {i : Nat} (h : 32 ≤ i) : bt x i = false := BitVec.getLsbD_of_ge _ _ h
theorem b_255 (i : Nat) : bt 255 i = decide (i < 8) := by
  rcases Nat.lt_or_ge i 32 with h | h
  · exact (by decide +kernel : ∀ i, i < 32 → bt 255 i = decide (i < 8)) i h
  · rw [b_big h, decide_eq_false (by omega)]
theorem b_65535 (i : Nat) : bt 65535 i = decide (i < 16) := by
  rcases Nat.lt_or_ge i 32 with h | h
  · exact (by decide +kernel : ∀ i, i < 32 → bt 65535 i = decide (i < 16)) i h
  · rw [b_big h, decide_eq_false (by omega)]
theorem b_m1 : ∀ i, i < 32 → bt (-1) i = true := by decide +kernel
theorem b_0 (i : Nat) : bt 0 i = false := BitVec.getLsbD_zero
theorem s_l : ∀ n, n < 32 → ((nI n &&& 31).toBitVec.smod 32).toNat = n := by decide +kernel
theorem s_u : ∀ n, n < 32 → (((nI n).toUInt32 &&& Int32.toUInt32 31).toBitVec % 32).toNat = n := by decide +kernel
theorem b_shl (n : Nat) (hn : n < 32) (x : Int32) {i : Nat} (hi : i < 32) : bt (x <<< (nI n &&& 31)) i = (decide (n ≤ i) && bt x (i - n)) := by
  unfold bt
  rw [Int32.toBitVec_shiftLeft]
  show (x.toBitVec <<< ((nI n &&& 31).toBitVec.smod 32).toNat).getLsbD i = _
  rw [s_l n hn, BitVec.getLsbD_shiftLeft]
  rcases Nat.lt_or_ge i n with h | h
  · simp [h, Nat.not_le.mpr h]
  · simp [hi, h, Nat.not_lt.mpr h]
theorem b_ushr (n : Nat) (hn : n < 32) (x : Int32) (i : Nat) : bt ((x.toUInt32 >>> ((nI n).toUInt32 &&& Int32.toUInt32 31)).toInt32) i = bt x (n + i) := by
  show (x.toUInt32 >>> ((nI n).toUInt32 &&& Int32.toUInt32 31)).toBitVec.getLsbD i = x.toUInt32.toBitVec.getLsbD (n + i)
  rw [UInt32.toBitVec_shiftRight]
  show (x.toUInt32.toBitVec >>> (((nI n).toUInt32 &&& Int32.toUInt32 31).toBitVec % 32).toNat).getLsbD i = _
  rw [s_u n hn, BitVec.getLsbD_ushiftRight]
theorem b_sshr (n : Nat) (hn : n < 32) (x : Int32) {i : Nat} (hi : i < 32) : bt (x >>> (nI n &&& 31)) i = if n + i < 32 then bt x (n + i) else bt x 31 := by
  unfold bt
  rw [Int32.toBitVec_shiftRight]
  show (x.toBitVec.sshiftRight ((nI n &&& 31).toBitVec.smod 32).toNat).getLsbD i = _
  rw [s_l n hn, BitVec.getLsbD_sshiftRight, BitVec.msb_eq_getLsbD_last]
  simp [hi]
theorem b_shl8 (x : Int32) {i : Nat} (hi : i < 32) : bt (x <<< ((8 : Int32) &&& 31)) i = (decide (8 ≤ i) && bt x (i - 8)) := b_shl 8 (by omega) x hi
theorem b_shl16 (x : Int32) {i : Nat} (hi : i < 32) : bt (x <<< ((16 : Int32) &&& 31)) i = (decide (16 ≤ i) && bt x (i - 16)) := b_shl 16 (by omega) x hi
theorem b_shl24 (x : Int32) {i : Nat} (hi : i < 32) : bt (x <<< ((24 : Int32) &&& 31)) i = (decide (24 ≤ i) && bt x (i - 24)) := b_shl 24 (by omega) x hi
theorem b_sshr8 (x : Int32) {i : Nat} (hi : i < 32) : bt (x >>> ((8 : Int32) &&& 31)) i = if 8 + i < 32 then bt x (8 + i) else bt x 31 := b_sshr 8 (by omega) x hi

theorem b_1 : ∀ i, i < 32 → bt 1 i = decide (i = 0) := by decide +kernel
theorem b_tst (x : Int32) {n : Nat} (hn : n < 32) : ((x >>> (nI n &&& 31)) &&& 1) = if bt x n = true then 1 else 0 := by
  refine b_ext fun i hi => ?_
  rw [b_and, b_sshr n hn x hi, b_1 i hi]
  by_cases h : i = 0
  · subst h
    rw [Nat.add_zero, if_pos hn, decide_eq_true rfl, Bool.and_true]
    by_cases h2 : bt x n = true
    · rw [if_pos h2, h2, b_1 0 (by omega)]; rfl
    · rw [if_neg h2, b_0]; simpa using h2
  · rw [decide_eq_false h, Bool.and_false]
    by_cases h2 : bt x n = true
    · rw [if_pos h2, b_1 i hi, decide_eq_false h]
    · rw [if_neg h2, b_0]
theorem b_tst1 (x : Int32) {n : Nat} (hn : n < 32) : ((x >>> (nI n &&& 31)) &&& 1) = 1 ↔ bt x n = true := by
  rw [b_tst x hn]
  by_cases h : bt x n = true
  · rw [if_pos h]; exact ⟨fun _ => h, fun _ => rfl⟩
  · rw [if_neg h]; exact ⟨fun q => absurd q (by decide), fun q => absurd q h⟩
theorem b_one {n : Nat} (hn : n < 32) {i : Nat} (hi : i < 32) : bt ((1 : Int32) <<< (nI n &&& 31)) i = decide (i = n) := by
  rw [b_shl n hn 1 hi, b_1 (i - n) (by omega)]
  by_cases h : i = n
  · subst h; simp
  · by_cases h2 : n ≤ i
    · have : ¬ i - n = 0 := by omega
      simp [h, this]
    · simp [h, h2]
/-! views of the bench: 0 kind, 1 more, 2 lost, 3 mind, 4 busy (by judges); 5 about (0: not there), 6 hard, 7 waited (by cases); 8: how many judges, day, heard -/
abbrev aV : Type := Nat → Nat → Int32
abbrev aLm : Type := Nat → (Nat → Int32) → Int32
def vM (A : Nat → Nat → Int32) : aV
  | 0, i => A 49 i
  | 1, i => A 50 i
  | 2, i => A 51 (3 * i)
  | 3, i => A 51 (3 * i + 1)
  | 4, i => A 51 (3 * i + 2)
  | 5, i => A 52 (3 * i)
  | 6, i => A 52 (3 * i + 1)
  | 7, i => A 52 (3 * i + 2)
  | 8, 0 => A 48 0
  | 8, 1 => A 48 5
  | 8, 2 => A 48 6
  | _, _ => 0
def fct (v : aV) (p c : Nat) : Nat → Int32
  | 0 => v 6 c
  | 1 => ones (v 5 c)
  | 2 => v 3 p
  | 3 => ones (v 2 p)
  | 4 => v 8 1
  | _ => v 1 p
def askV (Λ : aLm) (v : aV) (part p c : Nat) : Int32 := clI (Λ part (fct v p c)) (if part = 2 then -99 else 0) 99
def lackV (v : aV) (p c : Nat) : Int32 := ones (v 5 c &&& (v 2 p ^^^ (-1)))
def nwdV (v : aV) (p : Nat) : Prop := v 8 1 - v 8 1 / 10 * 10 < v 1 p
def mayV (Λ : aLm) (v : aV) (p c : Nat) : Prop :=
  if v 0 p = 1 then ¬ 1 < lackV v p c ∧ ¬ v 3 p < askV Λ v 0 p c
  else if v 0 p = 2 then lackV v p c = 0 ∧ ¬ v 3 p < askV Λ v 0 p c ∧ ¬ nwdV v p
  else if v 0 p = 3 then v 5 c = 1 <<< (v 1 p &&& 31) ∨ (¬ 1 < lackV v p c ∧ ¬ v 3 p < askV Λ v 0 p c ∧ ¬ ones (v 5 c) < 3)
  else if v 0 p = 4 then lackV v p c = 0 ∧ ¬ v 3 p < 2 * askV Λ v 0 p c ∧ ¬ nwdV v p
  else if v 0 p = 5 then v 8 1 - v 8 1 / 7 * 7 = v 1 p
  else lackV v p c = 0 ∧ ¬ v 3 p < askV Λ v 0 p c
def takV (Λ : aLm) (v : aV) (p c : Nat) : Int32 :=
  let t := askV Λ v 1 p c
  let u := if v 0 p = 1 then t + v 1 p else if v 0 p = 3 then t + v 1 p else if v 0 p = 4 then 2 * t else t
  if 1 ≤ u then u else 1
def judV (Λ : aLm) (v : aV) (p c : Nat) : Int32 :=
  let t := askV Λ v 2 p c
  if v 0 p = 2 then t + v 1 p else if v 0 p = 3 then t / 2 else if v 0 p = 4 then t + v 1 p else if v 0 p = 5 then -t else t
def canV (Λ : aLm) (v : aV) (p c : Nat) : Prop := v 4 p = 0 ∧ mayV Λ v p c
def losV (v : aV) (p c : Nat) : Int32 := v 2 p &&& (((v 2 p &&& v 5 c) &&& (-(v 2 p &&& v 5 c))) ^^^ (-1))
/-- a hearing -/
def holV (Λ : aLm) (v : aV) (p c : Nat) : aV :=
  au (au (au (au (au v 4 p (takV Λ v p c)) 2 p (losV v p c)) 3 p (clI (v 3 p + judV Λ v p c) 0 99)) 5 c 0) 8 2 (clI (v 8 2 + 1) 0 999)
/-- what the scratch rows hold is free -/
def jM (A A' : Nat → Nat → Int32) : Prop := ∀ o, ¬ o = 64 → ¬ o = 65 → A' o = A o
def LM (C S : Nat → Int32) (t : Nat) (Λ : aLm) : Prop := ∀ (A : Nat → Nat → Int32) (R : Nat → Nat → Option Nat) (G : Nat → Nat × Nat) (part : Nat) (F : Nat → Int32), aGS G → A 54 = C → A 55 = S → A 48 12 = nI t → part < 3 → (∀ i, i < 6 → A 65 i = F i) → ∃ st, CX5_says [.ref 48, .int (nI part)] (A, R, G) (some (.int (Λ part F))) (ap A 64 st, R, G)
def LMA (A : Nat → Nat → Int32) (Λ : aLm) : Prop := ∃ t, A 48 12 = nI t ∧ LM (A 54) (A 55) t Λ
theorem LMA.go {A A' : Nat → Nat → Int32} {Λ : aLm} (h : LMA A Λ) (h1 : A' 54 = A 54) (h2 : A' 55 = A 55) (h3 : A' 48 12 = A 48 12) : LMA A' Λ := by
  obtain ⟨t, e, hL⟩ := h
  exact ⟨t, h3.trans e, by rw [h1, h2]; exact hL⟩
theorem aC_exA {tb : aT} (hl : aVl tb) {n : Nat} {args : List Value} {A : Nat → Nat → Int32} {R : Nat → Nat → Option Nat} {G : Nat → Nat × Nat} {Q : (Nat → Nat → Int32) → Prop} {r : Option Value} (hf : aFit args n) (h : ∀ E : aR, (∀ A', Q A' → E r (A', R, G)) → aw tb E 0 (aent args n) [] (A, R, G)) : ∃ A', Q A' ∧ aCl tb n args (A, R, G) r (A', R, G) := by
  obtain ⟨r1, μ1, h1, h2⟩ := aC_ex hl (E := fun r1 μ1 => ∃ A', Q A' ∧ r1 = r ∧ μ1 = (A', R, G)) hf (h _ fun A' hA => ⟨A', hA, rfl, rfl⟩)
  obtain ⟨A', hA, e1, e2⟩ := h1
  subst e1
  subst e2
  exact ⟨A', hA, h2⟩
theorem au_o {A : Nat → Nat → Int32} {o k o' : Nat} {v : Int32} (h : ¬ o' = o) : au A o k v o' = A o' := ap_ne h
theorem au_k {A : Nat → Nat → Int32} {o k : Nat} {v : Int32} : au A o k v o k = v := by rw [au_eq, if_pos ⟨rfl, rfl⟩]
theorem au_j {A : Nat → Nat → Int32} {o k k' : Nat} {v : Int32} (h : ¬ k' = k) : au A o k v o k' = A o k' := by rw [au_eq, if_neg (fun q => h q.2)]
theorem jM.rf {A : Nat → Nat → Int32} : jM A A := fun _ _ _ => rfl
theorem jM.tr {A B C : Nat → Nat → Int32} (h : jM A B) (k : jM B C) : jM A C := fun o h1 h2 => (k o h1 h2).trans (h o h1 h2)
theorem vM_go {A A' : Nat → Nat → Int32} (h48 : A' 48 = A 48) (h49 : A' 49 = A 49) (h50 : A' 50 = A 50) (h51 : A' 51 = A 51) (h52 : A' 52 = A 52) : vM A' = vM A := by
  funext f i
  unfold vM
  rw [h48, h49, h50, h51, h52]
theorem jM.v {A A' : Nat → Nat → Int32} (h : jM A A') : vM A' = vM A := vM_go (h 48 (by decide) (by decide)) (h 49 (by decide) (by decide)) (h 50 (by decide) (by decide)) (h 51 (by decide) (by decide)) (h 52 (by decide) (by decide))
theorem jM.L {A A' : Nat → Nat → Int32} {Λ : aLm} (h : jM A A') (hL : LMA A Λ) : LMA A' Λ := hL.go (h 54 (by decide) (by decide)) (h 55 (by decide) (by decide)) (by rw [h 48 (by decide) (by decide)])
