/-! what the small methods answer -/
def clI (v lo hi : Int32) : Int32 := if v < lo then lo else if hi < v then hi else v
def onesN (x : Int32) : Nat → Int32
  | 0 => 0
  | k + 1 => onesN x k + ((x >>> (nI k &&& 31)) &&& 1)
def ones (x : Int32) : Int32 := onesN x 10
def ush (x y : Int32) : Int32 := (x.toUInt32 >>> (y.toUInt32 &&& Int32.toUInt32 31)).toInt32
def popc (x : Int32) : Int32 :=
  let a := x - (ush x 1 &&& 1431655765)
  let b := (a &&& 858993459) + (ush a 2 &&& 858993459)
  let c := (b + ush b 4) &&& 252645135
  let d := c + ush c 8
  let e := d + ush d 16
  e &&& 63
def rkM (s : Int32) : Int32 := if s = 0 then 0 else if s = 11 then 1 else if s = 12 then 2 else if s = 13 then 3 else if s ≤ 15 then 4 else if s ≤ 17 then 5 else if s = 18 then 6 else 7
noncomputable def twM (s a b : Int32) : Int32 := if s = 11 then bI (¬ a = 0 ∨ ¬ b = 0) else if s = 12 then bI (¬ a = 0 ∧ ¬ b = 0) else if s = 14 then bI (a < b) else if s = 15 then bI (a = b) else if s = 16 then a + b else if s = 17 then a - b else a * b
def sgM (t : Int32) : Int32 := if t = 4 then 11 else if t = 5 then 12 else if t = 60 then 14 else if t = 61 then 15 else if t = 43 then 16 else if t = 45 then 17 else if t = 42 then 18 else -1
def thM (A : Nat → Nat → Int32) (c : Int32) : Prop := ∃ k, k < 8 ∧ c = nI k ∧ ¬ A 52 (3 * k) = 0
noncomputable def csN (A : Nat → Nat → Int32) : Nat → Int32
  | 0 => 0
  | k + 1 => csN A k ||| (@ite Int32 (A 52 (3 * k) = 0) (Classical.propDecidable _) 0 ((1 : Int32) <<< (nI k &&& 31)))
noncomputable def csM (A : Nat → Nat → Int32) : Int32 := csN A 8
def thX (A : Nat → Nat → Int32) (b : Nat) (c : Int32) : Prop := ∃ k, k < 8 ∧ c = nI k ∧ ((A b 10) >>> (nI k &&& 31)) &&& 1 = 1
def jnX (l t : Int32) : Prop := (l = 0 ∧ t = -7) ∨ (l = 1 ∧ t = -8) ∨ (l = 2 ∧ (t = -10 ∨ t = -11)) ∨ (l = 3 ∧ (t = -12 ∨ t = -13)) ∨ (l = 4 ∧ t = -14)
def sgX (s : Int32) : Int32 := if s = 40 then -20 else if s = 41 then -21 else if s = 59 then -22 else if s = 43 then -12 else if s = 45 then -13 else if s = 42 then -14 else if s = 60 then -10 else if s = 61 then -11 else -27
def lotF (x : Int64) : Int64 := x * 48271 - x * 48271 / 2147483647 * 2147483647
def hdX (z f n : Int32) : Prop := 0 ≤ f ∧ 0 ≤ n ∧ n ≤ z ∧ f ≤ z - n
def cutX (s v : Int32) : Int32 := if s = 0 then v.toInt8.toInt32 else if s = 1 then v.toInt16.toInt32 else v
/-- a place of the tape that may be looked at -/
def inT (A : Nat → Nat → Int32) (q : Int32) : Prop := A 31 5 ≤ 160 ∧ 0 ≤ q
def ltX (A : Nat → Nat → Int32) (q : Int32) : Prop := q < A 31 5 ∧ 97 ≤ A 32 q.toNatClampNeg ∧ A 32 q.toNatClampNeg ≤ 122
def dgX (A : Nat → Nat → Int32) (q : Int32) : Prop := q < A 31 5 ∧ 48 ≤ A 32 q.toNatClampNeg ∧ A 32 q.toNatClampNeg ≤ 57
def tkX (A : Nat → Nat → Int32) : Int32 := if A 31 6 ≤ 160 then A 33 (A 31 6).toNatClampNeg else -26
def plX (A : Nat → Nat → Int32) : Int32 := if A 31 6 ≤ 160 then A 34 (A 31 6).toNatClampNeg else A 31 5
def mbX (A : Nat → Nat → Int32) (c m : Int32) : Int32 := A 39 (((c + 1) <<< ((6 : Int32) &&& 31)) + m).toNatClampNeg
theorem aC_of {tb : aT} {n : Nat} {args : List Value} {μ μ' : aM} {r : Option Value} (hf : aFit args n) (h : ∀ E : aR, E r μ' → aw tb E 0 (aent args n) [] μ) : aCl tb n args μ r μ' := ⟨hf, h _ ⟨rfl, rfl⟩⟩
theorem aE_b {E : aR} {P : Prop} {μ : aM} (hE : E (some (.int (bI P))) μ) (h : P) : E (some (.int 1)) μ := by rw [bI_t h] at hE; exact hE
theorem aE_n {E : aR} {P : Prop} {μ : aM} (hE : E (some (.int (bI P))) μ) (h : ¬ P) : E (some (.int 0)) μ := by rw [bI_f h] at hE; exact hE
theorem aE_e {E : aR} {v w : Int32} {μ : aM} (hE : E (some (.int v)) μ) (h : w = v) : E (some (.int w)) μ := by rw [h]; exact hE
