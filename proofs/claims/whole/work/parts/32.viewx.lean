/-! ===== the class's bench b under the same views; its text is at w ===== -/
def vX (A : Nat → Nat → Int32) (b : Nat) : aV
  | 0, i => A (b + 1) i
  | 1, i => A (b + 2) i
  | 2, i => A (b + 3) i
  | 3, i => A (b + 4) i
  | 4, i => A (b + 5) i
  | 5, i => if i < 8 ∧ bt (A b 10) i = true then A (b + 6) i else 0
  | 6, i => A (b + 7) i
  | 7, i => A (b + 8) i
  | 8, 0 => A b 9
  | 8, 1 => A b 11
  | 8, 2 => A b 12
  | _, _ => 0
/-- a set of the ten things -/
def isS (x : Int32) : Prop := x &&& 1023 = x
theorem isS_nI {x : Int32} (h : isS x) : ∃ n, n < 1024 ∧ x = nI n := by
  have h1 : x.toBitVec.toNat < 1024 := by
    have e : x.toBitVec = x.toBitVec &&& 1023#32 := by
      conv => lhs; rw [← h, Int32.toBitVec_and]
      rfl
    rw [e, BitVec.toNat_and]
    exact Nat.lt_of_le_of_lt Nat.and_le_right (by decide)
  refine ⟨x.toBitVec.toNat, h1, ?_⟩
  refine Int32.toBitVec_inj.mp ?_
  show x.toBitVec = BitVec.ofNat 32 x.toBitVec.toNat
  rw [BitVec.ofNat_toNat]
  exact (BitVec.setWidth_eq _).symm
theorem isS_dec : ∀ n, n < 1024 → isS (nI n) := by unfold isS; decide +kernel
theorem popc_dec : ∀ n, n < 1024 → popc (nI n) = ones (nI n) := by decide +kernel
theorem popc_S {x : Int32} (h : isS x) : popc x = ones x := by
  obtain ⟨n, hn, rfl⟩ := isS_nI h
  exact popc_dec n hn
theorem isS_and {x y : Int32} (h : isS x) : isS (x &&& y) := by
  unfold isS at *
  conv => rhs; rw [← h]
  rw [Int32.and_assoc, Int32.and_comm y 1023, ← Int32.and_assoc]
theorem isS_xor {x y : Int32} (h : isS x) (k : isS y) : isS (x ^^^ y) := by
  unfold isS at *
  refine b_ext fun i hi => ?_
  rw [b_and, b_xor]
  have h1 : (bt x i && bt 1023 i) = bt x i := by rw [← b_and, h]
  have h2 : (bt y i && bt 1023 i) = bt y i := by rw [← b_and, k]
  revert h1 h2
  cases bt x i <;> cases bt y i <;> cases bt 1023 i <;> decide
theorem isS_or {x y : Int32} (h : isS x) (k : isS y) : isS (x ||| y) := by
  unfold isS at *
  refine b_ext fun i hi => ?_
  rw [b_and, b_or]
  have h1 : (bt x i && bt 1023 i) = bt x i := by rw [← b_and, h]
  have h2 : (bt y i && bt 1023 i) = bt y i := by rw [← b_and, k]
  revert h1 h2
  cases bt x i <;> cases bt y i <;> cases bt 1023 i <;> decide
theorem isS_0 : isS 0 := isS_dec 0 (by omega)
/-- what holds of every bench -/
def invV (n : Nat) (v : aV) : Prop := (∀ p, p < n → (0 ≤ v 0 p ∧ v 0 p ≤ 5) ∧ isS (v 2 p) ∧ 0 ≤ v 4 p) ∧ ∀ c, c < 8 → isS (v 5 c)
def jX (b w : Nat) (A A' : Nat → Nat → Int32) : Prop := ∀ o, ¬ o = b + 9 → ¬ o = w + 3 → A' o = A o
def LX (C S : Nat → Int32) (w n1 : Nat) (Λ : aLm) : Prop := ∀ (A : Nat → Nat → Int32) (R : Nat → Nat → Option Nat) (G : Nat → Nat × Nat) (part f : Nat) (F : Nat → Int32), aGx G w n1 → (G f).1 = 1 → (G f).2 = 6 → ¬ f = w + 3 → A (w + 1) = C → A (w + 2) = S → part < 3 → (∀ i, i < 6 → A f i = F i) → ∃ st, CX3_valueOf [.ref w, .int (nI part), .ref f] (A, R, G) (some (.int (Λ part F))) (ap A (w + 3) st, R, G)
def LXA (A : Nat → Nat → Int32) (R : Nat → Nat → Option Nat) (G : Nat → Nat × Nat) (b w : Nat) (Λ : aLm) : Prop := b + 10 ≤ w ∧ R b 14 = some w ∧ ∃ n1, aGx G w n1 ∧ LX (A (w + 1)) (A (w + 2)) w n1 Λ
theorem LXA.go {A A' : Nat → Nat → Int32} {R : Nat → Nat → Option Nat} {G : Nat → Nat × Nat} {b w : Nat} {Λ : aLm} (h : LXA A R G b w Λ) (h1 : A' (w + 1) = A (w + 1)) (h2 : A' (w + 2) = A (w + 2)) : LXA A' R G b w Λ := by
  obtain ⟨h0, e, n1, hx, hL⟩ := h
  exact ⟨h0, e, n1, hx, by rw [h1, h2]; exact hL⟩
section VX
variable {A A' B : Nat → Nat → Int32} {R : Nat → Nat → Option Nat} {G : Nat → Nat × Nat} {b w : Nat} {Λ : aLm}
theorem jX.rf : jX b w A A := fun _ _ _ => rfl
theorem jX.tr (h : jX b w A A') (k : jX b w A' B) : jX b w A B := fun o h1 h2 => (k o h1 h2).trans (h o h1 h2)
theorem jX.e (h : jX b w A A') (hw : b + 10 ≤ w) {k : Nat} (hk : k < 9) : A' (b + k) = A (b + k) := h _ (by omega) (by omega)
theorem vX_go (h : ∀ k, k < 9 → A' (b + k) = A (b + k)) : vX A' b = vX A b := by
  funext f i
  have h0 : A' b = A b := h 0 (by omega)
  unfold vX
  rw [h0, h 1 (by omega), h 2 (by omega), h 3 (by omega), h 4 (by omega), h 5 (by omega), h 6 (by omega), h 7 (by omega), h 8 (by omega)]
theorem jX.v (h : jX b w A A') (hw : b + 10 ≤ w) : vX A' b = vX A b := vX_go fun k hk => h.e hw hk
theorem jX.L (h : jX b w A A') (hL : LXA A R G b w Λ) : LXA A' R G b w Λ := by
  have hw := hL.1
  exact hL.go (h _ (by omega) (by omega)) (h _ (by omega) (by omega))
/-- what a day may change -/
def jDX (b w : Nat) (A A' : Nat → Nat → Int32) : Prop := (∀ o, ¬ o = b → ¬ o = b + 3 → ¬ o = b + 4 → ¬ o = b + 5 → ¬ o = b + 8 → ¬ o = b + 9 → ¬ o = w + 3 → A' o = A o) ∧ (∀ k, ¬ k = 10 → ¬ k = 11 → ¬ k = 12 → A' b k = A b k) ∧ ∀ i, bt (A' b 10) i = true → bt (A b 10) i = true
theorem jDX.rf : jDX b w A A := ⟨fun _ _ _ _ _ _ _ _ => rfl, fun _ _ _ _ => rfl, fun _ h => h⟩
theorem jDX.tr (h : jDX b w A A') (k : jDX b w A' B) : jDX b w A B := ⟨fun o h1 h2 h3 h4 h5 h6 h7 => (k.1 o h1 h2 h3 h4 h5 h6 h7).trans (h.1 o h1 h2 h3 h4 h5 h6 h7), fun j h1 h2 h3 => (k.2.1 j h1 h2 h3).trans (h.2.1 j h1 h2 h3), fun i q => h.2.2 i (k.2.2 i q)⟩
theorem jX.d (h : jX b w A A') (hw : b + 10 ≤ w) : jDX b w A A' := ⟨fun o _ _ _ _ _ h6 h7 => h o h6 h7, fun k _ _ _ => by rw [h b (by omega) (by omega)], fun i q => by rw [h b (by omega) (by omega)] at q; exact q⟩
theorem jDX.L (h : jDX b w A A') (hL : LXA A R G b w Λ) : LXA A' R G b w Λ := by
  have hw := hL.1
  exact hL.go (h.1 _ (by omega) (by omega) (by omega) (by omega) (by omega) (by omega) (by omega)) (h.1 _ (by omega) (by omega) (by omega) (by omega) (by omega) (by omega) (by omega))
theorem jDX.a {o k : Nat} {x : Int32} (ho : o = b + 3 ∨ o = b + 4 ∨ o = b + 5 ∨ o = b + 8) : jDX b w A (au A o k x) := ⟨fun q _ h3 h4 h5 h8 _ _ => au_o (by omega), fun _ _ _ _ => by rw [au_o (by omega)], fun i q => by rw [au_o (by omega)] at q; exact q⟩
theorem jDX.f {k : Nat} {x : Int32} (hk : k = 11 ∨ k = 12) : jDX b w A (au A b k x) := ⟨fun q h0 _ _ _ _ _ _ => au_o h0, fun j _ _ _ => au_j (by omega), fun i q => by rw [au_j (by omega)] at q; exact q⟩
theorem jDX.g {y : Int32} : jDX b w A (au A b 10 (A b 10 &&& y)) := ⟨fun q h0 _ _ _ _ _ _ => au_o h0, fun j h _ _ => au_j h, fun i q => by rw [au_k, b_and, Bool.and_eq_true] at q; exact q.1⟩
theorem jDX.n (h : jDX b w A A') : A' b 9 = A b 9 := h.2.1 9 (by decide) (by decide) (by decide)
/-- a case that is there is about something -/
def tI (A : Nat → Nat → Int32) (b : Nat) : Prop := ∀ c, c < 8 → bt (A b 10) c = true → ¬ A (b + 6) c = 0
theorem jDX.t (h : jDX b w A A') (hw : b + 10 ≤ w) (ht : tI A b) : tI A' b := fun c hc q => by
  rw [h.1 (b + 6) (by omega) (by omega) (by omega) (by omega) (by omega) (by omega) (by omega)]
  exact ht c hc (h.2.2 c q)
theorem thX_bt {c : Nat} (hc : c < 8) : thX A b (nI c) ↔ bt (A b 10) c = true := by
  constructor
  · rintro ⟨j, hj, e, h⟩
    rw [nI_eq (by omega) (by omega)] at e
    subst e
    exact (b_tst1 _ (by omega)).mp h
  · intro h
    exact ⟨c, hc, rfl, (b_tst1 _ (by omega)).mpr h⟩
theorem bt_v5 {c : Nat} (ht : tI A b) (hc : c < 8) : bt (A b 10) c = true ↔ ¬ vX A b 5 c = 0 := by
  constructor
  · intro h
    show ¬ (if c < 8 ∧ bt (A b 10) c = true then A (b + 6) c else 0) = 0
    rw [if_pos ⟨hc, h⟩]
    exact ht c hc h
  · intro h
    refine Classical.byContradiction fun q => h ?_
    exact if_neg (fun z => q z.2)
theorem aua {o k o' k' : Nat} {x : Int32} (h : ¬ o' = o) : au A o k x o' k' = A o' k' := by rw [au_o h]
theorem vX_u {f p : Nat} {x : Int32} (hf : f < 5) : vX (au A (b + (f + 1)) p x) b = au (vX A b) f p x := by
  funext g i
  rw [au_eq]
  rcases f with _ | _ | _ | _ | _ | f <;> (try omega) <;> rcases g with _ | _ | _ | _ | _ | _ | _ | _ | _ | g
  all_goals try rcases i with _ | _ | _ | i
  all_goals (try simp only [vX]; first | (rw [au_eq]; simp; done) | (rw [aua (by omega)]; simp; done) | (simp; done) | (rw [aua (by omega), aua (by omega)]; simp; done))
theorem vX_7 {p : Nat} {x : Int32} : vX (au A (b + 8) p x) b = au (vX A b) 7 p x := by
  funext g i
  rw [au_eq]
  rcases g with _ | _ | _ | _ | _ | _ | _ | _ | _ | g
  all_goals try rcases i with _ | _ | _ | i
  all_goals (try simp only [vX]; first | (rw [au_eq]; simp; done) | (rw [aua (by omega)]; simp; done) | (simp; done) | (rw [aua (by omega), aua (by omega)]; simp; done))
theorem vX_8 {k j : Nat} {x : Int32} (hk : (k = 9 ∧ j = 0) ∨ (k = 11 ∧ j = 1) ∨ (k = 12 ∧ j = 2)) : vX (au A b k x) b = au (vX A b) 8 j x := by
  funext g i
  rw [au_eq]
  rcases hk with ⟨rfl, rfl⟩ | ⟨rfl, rfl⟩ | ⟨rfl, rfl⟩ <;> rcases g with _ | _ | _ | _ | _ | _ | _ | _ | _ | g
  all_goals try rcases i with _ | _ | _ | i
  all_goals (try simp only [vX]; first | (rw [au_eq]; simp; done) | (rw [aua (by omega)]; simp; done) | (simp; done) | (rw [au_j (by omega), aua (by omega)]; simp; done))
theorem vX_gone {c : Nat} (hc : c < 8) : vX (au A b 10 (A b 10 &&& ((1 <<< (nI c &&& 31)) ^^^ (-1)))) b = au (vX A b) 5 c 0 := by
  have hb : ∀ i, i < 8 → bt (A b 10 &&& ((1 <<< (nI c &&& 31)) ^^^ (-1))) i = (bt (A b 10) i && !decide (i = c)) := by
    intro i hi
    rw [b_and, b_xor, b_one (by omega) (by omega), b_m1 i (by omega)]
    cases decide (i = c) <;> rfl
  funext g i
  rw [au_eq]
  rcases g with _ | _ | _ | _ | _ | _ | _ | _ | _ | g
  all_goals try rcases i with _ | _ | _ | i
  all_goals try simp only [vX]
  all_goals try (first | (rw [aua (by omega)]; simp; done) | (simp; done) | (rw [au_j (by omega)]; simp; done))
  all_goals rw [au_k, aua (by omega)]
  · rw [hb 0 (by omega)]; by_cases h : 0 = c <;> simp [h]
  · rw [hb 1 (by omega)]; by_cases h : 1 = c <;> simp [h]
  · rw [hb 2 (by omega)]; by_cases h : 2 = c <;> simp [h]
  · by_cases hi : i + 3 < 8
    · rw [hb (i + 3) hi]; by_cases h : i + 3 = c <;> simp [h, hi]
    · simp [hi]
end VX
