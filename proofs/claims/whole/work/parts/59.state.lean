/-! ===== class and model together ===== -/
theorem br_i {P Q X Y : Prop} (e : P ↔ Q) (k1 : Q → X) (k2 : ¬ Q → Y) : (P → X) ∧ (¬ P → Y) := ⟨fun q => k1 (e.mp q), fun q => k2 (fun z => q (e.mpr z))⟩
def tw (t : Nat) : Nat := 80 + 4 * t
/-- the texts -/
def sTx (T : Nat) (W : Nat → Nat → List Nat) (A : Nat → Nat → Int32) (R : Nat → Nat → Option Nat) (G : Nat → Nat × Nat) : Prop := 1 ≤ T ∧ T ≤ 6 ∧ A 0 5 = nI T ∧ A 48 11 = nI T ∧ ∀ t, t < T → R 37 t = some (tw t) ∧ (∃ n1, aGx G (tw t) n1 ∧ TXt (A (tw t + 1)) (A (tw t + 2)) n1 (W t)) ∧ TMt (A 54) (A 55) t (W t)
/-- the bench -/
def sBn (n t : Nat) (A : Nat → Nat → Int32) (R : Nat → Nat → Option Nat) : Prop := n ≤ 6 ∧ A 1 9 = nI n ∧ A 48 0 = nI n ∧ invD n (vX A 1) ∧ tI A 1 ∧ hiB A 1 ∧ eqV n (vX A 1) (vM A) ∧ A 1 11 ≤ 999 ∧ A 1 13 = nI t ∧ A 48 12 = nI t ∧ R 1 14 = some (tw t)
/-- the model's image, as a view -/
def vI (A : Nat → Nat → Int32) : aV
  | 0, i => A 49 i
  | 1, i => A 50 i
  | 2, i => A 56 (3 * i)
  | 3, i => A 56 (3 * i + 1)
  | 4, i => A 56 (3 * i + 2)
  | 5, i => A 56 (18 + 3 * i)
  | 6, i => A 56 (18 + (3 * i + 1))
  | 7, i => A 56 (18 + (3 * i + 2))
  | 8, 0 => A 57 0
  | 8, 1 => A 57 1
  | 8, 2 => A 57 2
  | _, _ => 0
def sIm (n T : Nat) (A : Nat → Nat → Int32) (R : Nat → Nat → Option Nat) : Prop := (A 0 3 = 0 ∧ A 48 13 = 0) ∨ (A 0 3 = 1 ∧ A 48 13 = 1 ∧ ∃ m t, m ≤ n ∧ t < T ∧ A 21 9 = nI m ∧ A 57 0 = nI m ∧ invD m (vX A 21) ∧ tI A 21 ∧ hiB A 21 ∧ eqV m (vX A 21) (vI A) ∧ A 21 11 ≤ 999 ∧ A 21 13 = nI t ∧ A 57 3 = nI t ∧ R 21 14 = some (tw t))
def sTp (A : Nat → Nat → Int32) : Prop := ∃ z, z ≤ 160 ∧ A 31 5 = nI z ∧ A 48 8 = nI z ∧ ∀ i, i < z → A 32 i = A 53 i ∧ 0 ≤ A 32 i ∧ A 32 i ≤ 255
def sSh (A : Nat → Nat → Int32) (R : Nat → Nat → Option Nat) : Prop := ∀ s, s < 4 → R 38 s = some (40 + 2 * s) ∧ A (40 + 2 * s) 1 = A 58 s ∧ (∃ z, z ≤ 40 ∧ A (40 + 2 * s) 2 = nI z ∧ A 59 s = nI z) ∧ ∀ k, k < 40 → A (41 + 2 * s) k = A 60 (40 * s + k)
/-- the model's list of words -/
def mWd : List Int32 := [110, 101, 101, 100, 115, 32, 32, 32, 116, 97, 107, 101, 115, 32, 32, 32, 106, 117, 100, 103, 101, 115, 32, 32, 104, 97, 114, 100, 32, 32, 32, 32, 116, 104, 105, 110, 103, 115, 32, 32, 109, 105, 110, 100, 32, 32, 32, 32, 108, 111, 115, 116, 32, 32, 32, 32, 100, 97, 121, 32, 32, 32, 32, 32, 109, 111, 114, 101, 32, 32, 32, 32, 111, 114, 32, 32, 32, 32, 32, 32, 97, 110, 100, 32, 32, 32, 32, 32, 110, 111, 116, 32, 32, 32, 32, 32]
def sCo (A : Nat → Nat → Int32) : Prop := ∀ i, i < 96 → A 62 i = mWd.getD i 0
/-- the state of both -/
def sJ (n t T : Nat) (W : Nat → Nat → List Nat) (A : Nat → Nat → Int32) (R : Nat → Nat → Option Nat) (G : Nat → Nat × Nat) : Prop := aGS G ∧ t < T ∧ sTx T W A R G ∧ sBn n t A R ∧ sIm n T A R ∧ sTp A ∧ sSh A R ∧ sCo A
def sE (μ : aM) : Prop := ∃ n t T W, sJ n t T W μ.1 μ.2.1 μ.2.2
/-- both answer alike, and stand well behind it -/
def bthI (T : Nat) (W : Nat → Nat → List Nat) (CX CM : aC) (args : List Value) (A : Nat → Nat → Int32) (R : Nat → Nat → Option Nat) (G : Nat → Nat × Nat) : Prop := ∃ (v : Int32) (A1 : Nat → Nat → Int32) (R1 : Nat → Nat → Option Nat) (A2 : Nat → Nat → Int32) (R2 : Nat → Nat → Option Nat), CX (.ref 0 :: args) (A, R, G) (some (.int v)) (A1, R1, G) ∧ CM (.ref 48 :: args) (A1, R1, G) (some (.int v)) (A2, R2, G) ∧ ∃ n t, sJ n t T W A2 R2 G
def bthL (T : Nat) (W : Nat → Nat → List Nat) (CX CM : aC) (args : List Value) (A : Nat → Nat → Int32) (R : Nat → Nat → Option Nat) (G : Nat → Nat × Nat) : Prop := ∃ (v : Int64) (A1 : Nat → Nat → Int32) (R1 : Nat → Nat → Option Nat) (A2 : Nat → Nat → Int32) (R2 : Nat → Nat → Option Nat), CX (.ref 0 :: args) (A, R, G) (some (.long v)) (A1, R1, G) ∧ CM (.ref 48 :: args) (A1, R1, G) (some (.long v)) (A2, R2, G) ∧ ∃ n t, sJ n t T W A2 R2 G
/-- what the class's scratch is -/
def scX (A A' : Nat → Nat → Int32) : Prop := ∀ o, (o < 10 ∨ 21 ≤ o) → ¬ o = 39 → (o < 80 ∨ ¬ o % 4 = 3) → A' o = A o
def scR (R R' : Nat → Nat → Option Nat) : Prop := ∀ o, ¬ o = 11 → R' o = R o
/-- what the model's scratch is -/
def scM (A A' : Nat → Nat → Int32) : Prop := (∀ o, (o < 48 ∨ 52 < o) → (o < 64 ∨ 68 < o) → A' o = A o) ∧ (∀ k, ¬ k = 5 → ¬ k = 6 → ¬ k = 34 → A' 48 k = A 48 k) ∧ eqV 6 (vM A) (vM A')
section SJ
variable {A A' B : Nat → Nat → Int32} {R R' : Nat → Nat → Option Nat} {G : Nat → Nat × Nat} {n t T w : Nat} {W : Nat → Nat → List Nat} {Λ : aLm}
theorem scX.rf : scX A A := fun _ _ _ _ => rfl
theorem scX.tr (h : scX A A') (k : scX A' B) : scX A B := fun o h1 h2 h3 => (k o h1 h2 h3).trans (h o h1 h2 h3)
theorem scR.rf : scR R R := fun _ _ => rfl
theorem scR.th {x : Option Nat} : scR R (ar R 11 14 x) := fun _ h => ar_ne h
theorem scR.tr {R2 : Nat → Nat → Option Nat} (h : scR R R') (k : scR R' R2) : scR R R2 := fun o h1 => (k o h1).trans (h o h1)
theorem scM.rf : scM A A := ⟨fun _ _ _ => rfl, fun _ _ _ _ => rfl, eqV.rf⟩
theorem scM.tr (h : scM A A') (k : scM A' B) : scM A B := ⟨fun o h1 h2 => (k.1 o h1 h2).trans (h.1 o h1 h2), fun j h1 h2 h3 => (k.2.1 j h1 h2 h3).trans (h.2.1 j h1 h2 h3), h.2.2.tr k.2.2⟩
theorem jX.sc (h : jX 1 (tw t) A A') : scX A A' := fun o h1 _ h3 => h o (by omega) (by unfold tw; omega)
theorem jTH.sc (h : jTH (tw t) A A') : scX A A' := fun o h1 _ h3 => h o (by omega) (by unfold tw; omega)
theorem jSX.sc (h : jSX (tw t) A A') : scX A A' := fun o h1 h2 h3 => h o h2 (by omega) (by unfold tw; omega)
theorem jT.sc (h : jT A A') : scM A A' := ⟨fun o h1 h2 => h.1 o (by omega) (by omega) (by omega) (by omega) (by omega) (by omega), h.2.1, h.2.2⟩
theorem jM.sc (h : jM A A') : scM A A' := h.T.sc
theorem jSM.sc (h : jSM A A') : scM A A' := ⟨fun o h1 h2 => h o (by omega) (by omega) (by omega) (by omega), fun k _ _ _ => by rw [h.e], eqV.of h.v.symm⟩
theorem scX.hM (h : scX A A') : vM A' = vM A := vM_go (h 48 (by omega) (by omega) (by omega)) (h 49 (by omega) (by omega) (by omega)) (h 50 (by omega) (by omega) (by omega)) (h 51 (by omega) (by omega) (by omega)) (h 52 (by omega) (by omega) (by omega))
theorem scX.hX (h : scX A A') : vX A' 1 = vX A 1 := vX_go fun k hk => h _ (by omega) (by omega) (by omega)
theorem sTx.go (h : sTx T W A R G) (h0 : A' 0 5 = A 0 5) (h48 : A' 48 11 = A 48 11) (h54 : A' 54 = A 54) (h55 : A' 55 = A 55) (hR : R' 37 = R 37) (h1 : ∀ t, t < T → A' (tw t + 1) = A (tw t + 1) ∧ A' (tw t + 2) = A (tw t + 2)) : sTx T W A' R' G := by
  obtain ⟨a, b, c, d, e⟩ := h
  refine ⟨a, b, h0.trans c, h48.trans d, fun t ht => ?_⟩
  obtain ⟨e1, e2, e3⟩ := e t ht
  rw [hR, h54, h55, (h1 t ht).1, (h1 t ht).2]
  exact ⟨e1, e2, e3⟩
theorem tI.go {b : Nat} (h : tI A b) (h0 : A' b 10 = A b 10) (h6 : A' (b + 6) = A (b + 6)) : tI A' b := by
  unfold tI
  rw [h0, h6]
  exact h
theorem hiB.go {b : Nat} (h : hiB A b) (h0 : A' b 10 = A b 10) : hiB A' b := by
  unfold hiB
  rw [h0]
  exact h
theorem sBn.goX (h : sBn n t A R) (hA : ∀ o, 1 ≤ o → o < 10 → A' o = A o) (h48 : ∀ k, (k = 0 ∨ k = 12) → A' 48 k = A 48 k) (hv : eqV n (vM A) (vM A')) (hR : R' 1 = R 1) : sBn n t A' R' := by
  obtain ⟨a, b, c, d, e, f, g, i, j, k, l⟩ := h
  have hv1 : vX A' 1 = vX A 1 := vX_go fun k hk => hA _ (by omega) (by omega)
  have h1 : A' 1 = A 1 := hA 1 (by omega) (by omega)
  refine ⟨a, by rw [h1]; exact b, (h48 0 (by omega)).trans c, by rw [hv1]; exact d, e.go (by rw [h1]) (hA _ (by omega) (by omega)), f.go (by rw [h1]), by rw [hv1]; exact g.tr hv, by rw [h1]; exact i, by rw [h1]; exact j, (h48 12 (by omega)).trans k, by rw [hR]; exact l⟩
theorem vI_go (h49 : A' 49 = A 49) (h50 : A' 50 = A 50) (h56 : A' 56 = A 56) (h57 : A' 57 = A 57) : vI A' = vI A := by
  funext f i
  unfold vI
  rw [h49, h50, h56, h57]
theorem sIm.go (h : sIm n T A R) (hA : ∀ o, 21 ≤ o → o < 30 → A' o = A o) (h0 : A' 0 3 = A 0 3) (h48 : A' 48 13 = A 48 13) (h57 : A' 57 = A 57) (hI : eqV n (vI A) (vI A')) (hR : R' 21 = R 21) : sIm n T A' R' := by
  rcases h with ⟨a, b⟩ | ⟨a, b, m, t, c, d, e, f, g, i, j, k, l, o, p, q⟩
  · exact Or.inl ⟨h0.trans a, h48.trans b⟩
  · have hv : vX A' 21 = vX A 21 := vX_go fun k hk => hA _ (by omega) (by omega)
    have h1 : A' 21 = A 21 := hA 21 (by omega) (by omega)
    refine Or.inr ⟨h0.trans a, h48.trans b, m, t, c, d, by rw [h1]; exact e, by rw [h57]; exact f, by rw [hv]; exact g, i.go (by rw [h1]) (hA _ (by omega) (by omega)), j.go (by rw [h1]), by rw [hv]; exact k.tr (hI.le c), by rw [h1]; exact l, by rw [h1]; exact o, by rw [h57]; exact p, by rw [hR]; exact q⟩
theorem eqI (h : eqV n (vM A) (vM A')) (h56 : A' 56 = A 56) (h57 : A' 57 = A 57) : eqV n (vI A) (vI A') := by
  refine ⟨fun f hf p hp => ?_, fun f h5 h8 c hc => ?_, fun k => ?_⟩
  · rcases f with _ | _ | _ | _ | _ | f
    · exact h.1 0 (by omega) p hp
    · exact h.1 1 (by omega) p hp
    · show A 56 _ = A' 56 _; rw [h56]
    · show A 56 _ = A' 56 _; rw [h56]
    · show A 56 _ = A' 56 _; rw [h56]
    · omega
  · have hf : f = 5 ∨ f = 6 ∨ f = 7 := by omega
    rcases hf with rfl | rfl | rfl
    · show A 56 _ = A' 56 _; rw [h56]
    · show A 56 _ = A' 56 _; rw [h56]
    · show A 56 _ = A' 56 _; rw [h56]
  · rcases k with _ | _ | _ | k
    · show A 57 _ = A' 57 _; rw [h57]
    · show A 57 _ = A' 57 _; rw [h57]
    · show A 57 _ = A' 57 _; rw [h57]
    · rfl
theorem sTp.go (h : sTp A) (h31 : A' 31 5 = A 31 5) (h48 : A' 48 8 = A 48 8) (h32 : A' 32 = A 32) (h53 : A' 53 = A 53) : sTp A' := by
  unfold sTp
  rw [h31, h48, h32, h53]
  exact h
theorem sSh.go (h : sSh A R) (hA : ∀ o, 40 ≤ o → o < 48 → A' o = A o) (h58 : A' 58 = A 58) (h59 : A' 59 = A 59) (h60 : A' 60 = A 60) (hR : R' 38 = R 38) : sSh A' R' := by
  intro s hs
  have h1 := h s hs
  rw [hR, hA (40 + 2 * s) (by omega) (by omega), hA (41 + 2 * s) (by omega) (by omega), h58, h59, h60]
  exact h1
theorem sCo.go (h : sCo A) (h62 : A' 62 = A 62) : sCo A' := by
  unfold sCo
  rw [h62]
  exact h
theorem sJ.goX (h : sJ n t T W A R G) (hA : scX A A') (hR : scR R R') : sJ n t T W A' R' G := by
  obtain ⟨a, b, c, d, e, f, g, i⟩ := h
  have k : ∀ o, (o < 10 ∨ 21 ≤ o) → ¬ o = 39 → o < 80 → A' o = A o := fun o h1 h2 h3 => hA o h1 h2 (Or.inl h3)
  have k0 := k 0 (by omega) (by omega) (by omega)
  have k48 := k 48 (by omega) (by omega) (by omega)
  refine ⟨a, b, c.go (by rw [k0]) (by rw [k48]) (k _ (by omega) (by omega) (by omega)) (k _ (by omega) (by omega) (by omega)) (hR _ (by omega)) (fun t ht => ⟨hA _ (by unfold tw; omega) (by unfold tw; omega) (by unfold tw; omega), hA _ (by unfold tw; omega) (by unfold tw; omega) (by unfold tw; omega)⟩), ?_, ?_, ?_, ?_, i.go (k _ (by omega) (by omega) (by omega))⟩
  · exact d.goX (fun o h1 h2 => k o (by omega) (by omega) (by omega)) (fun j _ => by rw [k48]) (eqV.of hA.hM.symm) (hR _ (by omega))
  · exact e.go (fun o h1 h2 => k o (by omega) (by omega) (by omega)) (by rw [k0]) (by rw [k48]) (k _ (by omega) (by omega) (by omega)) (eqV.of (vI_go (k _ (by omega) (by omega) (by omega)) (k _ (by omega) (by omega) (by omega)) (k _ (by omega) (by omega) (by omega)) (k _ (by omega) (by omega) (by omega))).symm) (hR _ (by omega))
  · exact f.go (by rw [k 31 (by omega) (by omega) (by omega)]) (by rw [k48]) (k _ (by omega) (by omega) (by omega)) (k _ (by omega) (by omega) (by omega))
  · exact g.go (fun o h1 h2 => k o (by omega) (by omega) (by omega)) (k _ (by omega) (by omega) (by omega)) (k _ (by omega) (by omega) (by omega)) (k _ (by omega) (by omega) (by omega)) (hR _ (by omega))
theorem sJ.goM (h : sJ n t T W A R G) (hA : scM A A') : sJ n t T W A' R G := by
  obtain ⟨a, b, c, d, e, f, g, i⟩ := h
  have k : ∀ o, (o < 48 ∨ (52 < o ∧ o < 64) ∨ 68 < o) → A' o = A o := fun o h1 => hA.1 o (by omega) (by omega)
  have k48 : ∀ j, ¬ j = 5 → ¬ j = 6 → ¬ j = 34 → A' 48 j = A 48 j := hA.2.1
  have k0 := k 0 (by omega)
  refine ⟨a, b, c.go (by rw [k0]) (k48 11 (by omega) (by omega) (by omega)) (k _ (by omega)) (k _ (by omega)) rfl (fun t ht => ⟨k _ (by unfold tw; omega), k _ (by unfold tw; omega)⟩), ?_, ?_, ?_, ?_, i.go (k _ (by omega))⟩
  · exact d.goX (fun o h1 h2 => k o (by omega)) (fun j hj => k48 j (by omega) (by omega) (by omega)) (hA.2.2.le d.1) rfl
  · exact e.go (fun o h1 h2 => k o (by omega)) (by rw [k0]) (k48 13 (by omega) (by omega) (by omega)) (k _ (by omega)) (eqI (hA.2.2.le d.1) (k _ (by omega)) (k _ (by omega))) rfl
  · exact f.go (by rw [k 31 (by omega)]) (k48 8 (by omega) (by omega) (by omega)) (k _ (by omega)) (k _ (by omega))
  · exact g.go (fun o h1 h2 => k o (by omega)) (k _ (by omega)) (k _ (by omega)) (k _ (by omega)) rfl
/-! what stands in a state -/
theorem sJ.gs (h : sJ n t T W A R G) : aGS G := h.1
theorem sJ.n6 (h : sJ n t T W A R G) : n ≤ 6 := h.2.2.2.1.1
theorem sJ.x9 (h : sJ n t T W A R G) : A 1 9 = nI n := h.2.2.2.1.2.1
theorem sJ.m0 (h : sJ n t T W A R G) : A 48 0 = nI n := h.2.2.2.1.2.2.1
theorem sJ.inv (h : sJ n t T W A R G) : invD n (vX A 1) := h.2.2.2.1.2.2.2.1
theorem sJ.ti (h : sJ n t T W A R G) : tI A 1 := h.2.2.2.1.2.2.2.2.1
theorem sJ.hi (h : sJ n t T W A R G) : hiB A 1 := h.2.2.2.1.2.2.2.2.2.1
theorem sJ.vv (h : sJ n t T W A R G) : eqV n (vX A 1) (vM A) := h.2.2.2.1.2.2.2.2.2.2.1
theorem sJ.lx (h : sJ n t T W A R G) : LXA A R G 1 (tw t) (LamW (W t)) := by
  obtain ⟨a, b, c, d, _⟩ := h
  obtain ⟨n1, h1, h2⟩ := (c.2.2.2.2 t b).2.1
  exact ⟨by unfold tw; omega, d.2.2.2.2.2.2.2.2.2.2, n1, h1, h2.L⟩
theorem sJ.lm (h : sJ n t T W A R G) : LMA A (LamW (W t)) := by
  obtain ⟨a, b, c, d, _⟩ := h
  exact ⟨t, d.2.2.2.2.2.2.2.2.2.1, ((c.2.2.2.2 t b).2.2).L (by have := c.2.1; omega)⟩
theorem sJ.bn (h : sJ n t T W A R G) : bnA 1 (tw t) n (LamW (W t)) A R G := ⟨h.lx, h.x9, h.inv, h.ti⟩
theorem tw80 : 80 ≤ tw t := by unfold tw; omega
theorem isP_x (h : sJ n t T W A R G) {x : Int32} : (0 ≤ x ∧ x < A 1 9) ↔ ∃ k, k < n ∧ x = nI k := by
  have hn := h.n6
  rw [h.x9]
  constructor
  · rintro ⟨h0, h1⟩
    obtain ⟨k, hk, rfl⟩ := nI_of (Int32.not_lt.mpr h0)
    exact ⟨k, (nI_ltI hk (by omega)).mp h1, rfl⟩
  · rintro ⟨k, hk, rfl⟩
    exact ⟨nI_nn (by omega), nI_lt hk (by omega)⟩
theorem isP_m (h : sJ n t T W A R G) {x : Int32} : (0 ≤ x ∧ x ≤ A 48 0 - 1) ↔ ∃ k, k < n ∧ x = nI k := by
  have hn := h.n6
  rw [h.m0]
  constructor
  · rintro ⟨h0, h1⟩
    obtain ⟨k, hk, rfl⟩ := nI_of (Int32.not_lt.mpr h0)
    cases n with
    | zero => exact absurd (Int32.le_trans h0 h1) (by decide)
    | succ n =>
      rw [nI_pre2 n (by omega)] at h1
      exact ⟨k, by have := (nI_leI hk (by omega)).mp h1; omega, rfl⟩
  · rintro ⟨k, hk, rfl⟩
    cases n with
    | zero => omega
    | succ n =>
      rw [nI_pre2 n (by omega)]
      exact ⟨nI_nn (by omega), nI_le (by omega) (by omega)⟩
theorem thX_x (h : sJ n t T W A R G) {x : Int32} : thX A 1 x ↔ ∃ k, k < 8 ∧ x = nI k ∧ ¬ vX A 1 5 k = 0 := by
  constructor
  · rintro ⟨k, hk, rfl, hb⟩
    exact ⟨k, hk, rfl, (bt_v5 h.ti hk).mp ((thX_bt hk).mp ⟨k, hk, rfl, hb⟩)⟩
  · rintro ⟨k, hk, rfl, hb⟩
    exact (thX_bt hk).mpr ((bt_v5 h.ti hk).mpr hb)
theorem thM_x (h : sJ n t T W A R G) {x : Int32} : thM A x ↔ ∃ k, k < 8 ∧ x = nI k ∧ ¬ vX A 1 5 k = 0 := by
  constructor
  · rintro ⟨k, hk, rfl, hb⟩
    exact ⟨k, hk, rfl, by rw [h.vv.2.1 5 (by omega) (by omega) k hk]; exact hb⟩
  · rintro ⟨k, hk, rfl, hb⟩
    exact ⟨k, hk, rfl, by rw [h.vv.2.1 5 (by omega) (by omega) k hk] at hb; exact hb⟩
theorem sJ.bt1 (h : sJ n t T W A R G) {k : Nat} (hk : k < 8) (h5 : ¬ vX A 1 5 k = 0) : bt (A 1 10) k = true := (bt_v5 h.ti hk).mpr h5
/-- a call that leaves the state -/
theorem qry {CX CM : aC} {args : List Value} (hJ : sJ n t T W A R G) (v : Int32) (h1 : ∃ A' R', (scX A A' ∧ scR R R') ∧ CX (.ref 0 :: args) (A, R, G) (some (.int v)) (A', R', G)) (h2 : ∀ A' R', sJ n t T W A' R' G → scX A A' → vM A' = vM A → ∃ A'', scM A' A'' ∧ CM (.ref 48 :: args) (A', R', G) (some (.int v)) (A'', R', G)) : bthI T W CX CM args A R G := by
  obtain ⟨A1, R1, ⟨h3, h4⟩, h5⟩ := h1
  obtain ⟨A2, h6, h7⟩ := h2 A1 R1 (hJ.goX h3 h4) h3 h3.hM
  exact ⟨v, A1, R1, A2, R1, h5, h7, n, t, (hJ.goX h3 h4).goM h6⟩
theorem qryL {CX CM : aC} {args : List Value} (hJ : sJ n t T W A R G) (v : Int64) (h1 : ∃ A' R', (scX A A' ∧ scR R R') ∧ CX (.ref 0 :: args) (A, R, G) (some (.long v)) (A', R', G)) (h2 : ∀ A' R', sJ n t T W A' R' G → scX A A' → vM A' = vM A → ∃ A'', scM A' A'' ∧ CM (.ref 48 :: args) (A', R', G) (some (.long v)) (A'', R', G)) : bthL T W CX CM args A R G := by
  obtain ⟨A1, R1, ⟨h3, h4⟩, h5⟩ := h1
  obtain ⟨A2, h6, h7⟩ := h2 A1 R1 (hJ.goX h3 h4) h3 h3.hM
  exact ⟨v, A1, R1, A2, R1, h5, h7, n, t, (hJ.goX h3 h4).goM h6⟩
/-- nothing at all is written -/
theorem qry0 {CX CM : aC} {args : List Value} (hJ : sJ n t T W A R G) (v : Int32) (h1 : CX (.ref 0 :: args) (A, R, G) (some (.int v)) (A, R, G)) (h2 : CM (.ref 48 :: args) (A, R, G) (some (.int v)) (A, R, G)) : bthI T W CX CM args A R G := ⟨v, A, R, A, R, h1, h2, n, t, hJ⟩
theorem qry0L {CX CM : aC} {args : List Value} (hJ : sJ n t T W A R G) (v : Int64) (h1 : CX (.ref 0 :: args) (A, R, G) (some (.long v)) (A, R, G)) (h2 : CM (.ref 48 :: args) (A, R, G) (some (.long v)) (A, R, G)) : bthL T W CX CM args A R G := ⟨v, A, R, A, R, h1, h2, n, t, hJ⟩
end SJ
