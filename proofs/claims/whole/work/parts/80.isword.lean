section IW
variable {E : aR} {A : Nat → Nat → Int32} {R : Nat → Nat → Option Nat} {G : Nat → Nat × Nat} {μ : aM}
theorem shr0 (x : Int32) : x >>> ((0 : Int32) &&& 31) = x := by
  refine b_ext fun i hi => ?_
  have := b_sshr 0 (by omega) x hi
  rw [Nat.zero_add, if_pos hi] at this
  exact this
theorem pJ0_coder {i : Nat} (hi : i < 12) : CJ0_coder_7d493 [.ref (1001 + i)] μ (some (.int 0)) μ := aC_of (Nat.le_of_ble_eq_true rfl) fun E hE => ⟨7, Or.inr (And.intro (by decide) (Exists.intro i (And.intro hi (And.intro rfl (And.intro rfl hE)))))⟩
theorem pJ0_length {i : Nat} (hi : i < 12) : CJ0_length_8abf5 [.ref (1001 + i)] μ (some (.int (nI (aSle.getD i 0)))) μ := aC_of (Nat.le_of_ble_eq_true rfl) fun E hE => by
  refine ⟨8, Exists.intro i (And.intro hi (And.intro rfl (Exists.intro i (And.intro hi (And.intro rfl (Exists.intro _ (Exists.intro _ (Exists.intro _ (Exists.intro _ (And.intro rfl (And.intro (Exists.intro i (And.intro hi rfl)) (And.intro (Nat.le_of_ble_eq_true rfl) (And.intro (pJ0_coder hi) ?_)))))))))))))⟩
  show E (some (.int (Int32.ofNat (aSle.getD i 0) >>> ((0 : Int32) &&& 31)))) μ
  rw [shr0]
  exact hE
theorem pJ0_isLatin1 {i : Nat} (hi : i < 12) : CJ0_isLatin1_aae02 [.ref (1001 + i)] μ (some (.int 1)) μ := aC_of (Nat.le_of_ble_eq_true rfl) fun E hE => ⟨9, Or.inr (And.intro (by decide) (Exists.intro i (And.intro hi (And.intro rfl (Or.inr (And.intro (by decide) (And.intro (Or.inr rfl) hE)))))))⟩
theorem pJ3_check {a n : Int32} (h0 : ¬ a < 0) (h : a < n) (v : Value) (hv : v = .null ∨ v = .ref 1200) : CJ3_checkIndex_8e157 [.int a, .int n, v] μ (some (.int a)) μ := by
  rcases hv with rfl | rfl
  · exact aC_of (Nat.le_of_ble_eq_true rfl) fun E hE => ⟨8, Or.inr (And.intro h0 (Or.inl (And.intro h hE)))⟩
  · exact aC_of (Nat.le_of_ble_eq_true rfl) fun E hE => ⟨8, Or.inr (And.intro h0 (Or.inl (And.intro h hE)))⟩
theorem pJ0_check {a n : Int32} (h0 : ¬ a < 0) (h : a < n) : CJ0_checkIndex_df160 [.int a, .int n] μ none μ := aC_of (Nat.le_of_ble_eq_true rfl) fun E hE => ⟨7, And.intro (Exists.intro _ (Exists.intro _ (And.intro (Nat.le_of_ble_eq_true rfl) (And.intro (Nat.le_of_ble_eq_true rfl) (And.intro (pJ3_check h0 h _ (Or.inl rfl)) (And.intro rfl hE)))))) (Exists.intro _ (Exists.intro _ (And.intro (Nat.le_of_ble_eq_true rfl) (And.intro (Nat.le_of_ble_eq_true rfl) (And.intro (pJ3_check h0 h _ (Or.inr rfl)) (And.intro rfl hE))))))⟩
theorem aSle6 : ∀ i, i < 12 → 2 ≤ aSle.getD i 0 ∧ aSle.getD i 0 ≤ 6 := by decide
theorem byt_c : ∀ i, i < 12 → ∀ k, k < 6 → k < aSle.getD i 0 → ((((aSby.getD i []).getD k 0) &&& 255).toUInt32 % 65536).toInt32 = (aSby.getD i []).getD k 0 ∧ narrow .char (.int ((aSby.getD i []).getD k 0)) = .int ((aSby.getD i []).getD k 0) := by decide +kernel
theorem pJ1_charAt {i k : Nat} (hi : i < 12) (hk : k < aSle.getD i 0) : CJ1_charAt_3b067 [.ref (1101 + i), .int (nI k)] μ (some (.int ((aSby.getD i []).getD k 0))) μ := aC_of (Nat.le_of_ble_eq_true rfl) fun E hE => by
  have h6 := (aSle6 i hi).2
  obtain ⟨e1, e2⟩ := byt_c i hi k (by omega) hk
  have hv : vp_in (nI k) (aSle.getD i 0) := vp_in_nI hk (by omega)
  have hcl : (nI k).toNatClampNeg = k := nI_clamp (by omega)
  refine ⟨12, Exists.intro i (And.intro hi (And.intro rfl (Exists.intro _ (Exists.intro _ (And.intro (Nat.le_of_ble_eq_true rfl) (And.intro (Nat.le_of_ble_eq_true rfl) (And.intro (pJ0_check (nI_pos (by omega)) (nI_lt hk (by omega))) (Exists.intro i (And.intro hi (And.intro rfl (And.intro hv ?_)))))))))))⟩
  show narrow .char (.int ((((aSby.getD i []).getD (nI k).toNatClampNeg 0 &&& 255).toUInt32 % 65536).toInt32)) = .int ((((aSby.getD i []).getD (nI k).toNatClampNeg 0 &&& 255).toUInt32 % 65536).toInt32) ∧ E (some (.int ((((aSby.getD i []).getD (nI k).toNatClampNeg 0 &&& 255).toUInt32 % 65536).toInt32))) μ
  rw [hcl, e1]
  exact ⟨e2, hE⟩
theorem pJ0_charAt {i k : Nat} (hi : i < 12) (hk : k < aSle.getD i 0) : CJ0_charAt_5068e [.ref (1001 + i), .int (nI k)] μ (some (.int ((aSby.getD i []).getD k 0))) μ := aC_of (Nat.le_of_ble_eq_true rfl) fun E hE => by
  have h6 := (aSle6 i hi).2
  obtain ⟨e1, e2⟩ := byt_c i hi k (by omega) hk
  exact ⟨9, Exists.intro _ (Exists.intro _ (Exists.intro _ (Exists.intro _ (And.intro rfl (And.intro (Exists.intro i (And.intro hi rfl)) (And.intro (Nat.le_of_ble_eq_true rfl) (And.intro (pJ0_isLatin1 hi) (Or.inr (And.intro (by decide) (Exists.intro i (And.intro hi (And.intro rfl (Exists.intro _ (Exists.intro _ (And.intro (Nat.le_of_ble_eq_true rfl) (And.intro (Nat.le_of_ble_eq_true rfl) (And.intro (pJ1_charAt hi hk) (And.intro e2 hE))))))))))))))))))⟩
/-- the word i stands from p to e -/
def isW (t : Nat → Int32) (p e i : Nat) : Prop := e - p = aSle.getD i 0 ∧ ∀ k, k < aSle.getD i 0 → (aSby.getD i []).getD k 0 = t (p + k)
theorem sX1_isWord_15 (hG : aGS G) {i k p : Nat} (d3 : Option Value) (hi : i < 12) (hk : k < aSle.getD i 0) (hp : p + k < 160)
    (h : ((aSby.getD i []).getD k 0 = A 32 (p + k) → aw tX1_isWord E 15 [some (.ref 31), some (.ref (1001 + i)), some (.int (nI p)), none, some (.int (nI (k + 1)))] [] (A, R, G)) ∧ (¬ (aSby.getD i []).getD k 0 = A 32 (p + k) → E (some (.int 0)) (A, R, G))) :
    aw tX1_isWord E 15 [some (.ref 31), some (.ref (1001 + i)), some (.int (nI p)), d3, some (.int (nI k))] [] (A, R, G) := by
  have h6 := (aSle6 i hi).2
  have hge : ¬ nI (aSle.getD i 0) ≤ nI k := nI_ge hk (by omega)
  have hcl : (nI p + nI k).toNatClampNeg = p + k := by rw [nI_add]; exact nI_clamp (by omega)
  have hv : vp_in (nI p + nI k) 160 := by rw [nI_add]; exact vp_in_nI hp (by omega)
  by_cases c : (aSby.getD i []).getD k 0 = A 32 (p + k)
  · obtain ⟨n, h⟩ := h.1 c
    rw [← nI_1] at h
    have c2 : (aSby.getD i []).getD k 0 = A 32 (nI p + nI k).toNatClampNeg := by rw [hcl]; exact c
    exact ⟨n + 16, Exists.intro _ (Exists.intro _ (Exists.intro _ (Exists.intro _ (And.intro rfl (And.intro (Exists.intro i (And.intro hi rfl)) (And.intro (Nat.le_of_ble_eq_true rfl) (And.intro (pJ0_length hi) (Or.inr (And.intro hge (Exists.intro _ (Exists.intro _ (Exists.intro _ (Exists.intro _ (And.intro rfl (And.intro (Exists.intro i (And.intro hi rfl)) (And.intro (Nat.le_of_ble_eq_true rfl) (And.intro (pJ0_charAt hi hk) (And.intro (gt31 hG) (And.intro (gt32 hG) (And.intro (vin_len (gl32 hG) hv) (Or.inl (And.intro c2 h))))))))))))))))))))))⟩
  · have h := h.2 c
    have c2 : ¬ (aSby.getD i []).getD k 0 = A 32 (nI p + nI k).toNatClampNeg := by rw [hcl]; exact c
    exact ⟨16, Exists.intro _ (Exists.intro _ (Exists.intro _ (Exists.intro _ (And.intro rfl (And.intro (Exists.intro i (And.intro hi rfl)) (And.intro (Nat.le_of_ble_eq_true rfl) (And.intro (pJ0_length hi) (Or.inr (And.intro hge (Exists.intro _ (Exists.intro _ (Exists.intro _ (Exists.intro _ (And.intro rfl (And.intro (Exists.intro i (And.intro hi rfl)) (And.intro (Nat.le_of_ble_eq_true rfl) (And.intro (pJ0_charAt hi hk) (And.intro (gt31 hG) (And.intro (gt32 hG) (And.intro (vin_len (gl32 hG) hv) (Or.inr (And.intro c2 (And.intro (Or.inl rfl) h)))))))))))))))))))))))⟩
theorem lX1_isW (hG : aGS G) {i p : Nat} (hi : i < 12) (r : Prop) (hp : p + aSle.getD i 0 ≤ 160) (hr : ∀ k, k < aSle.getD i 0 → ¬ (aSby.getD i []).getD k 0 = A 32 (p + k) → ¬ r) (hE : E (some (.int (bI r))) (A, R, G)) :
    ∀ (m k : Nat) (d3 : Option Value), k + m = aSle.getD i 0 → ((∀ j, j < aSle.getD i 0 → k ≤ j → (aSby.getD i []).getD j 0 = A 32 (p + j)) → r) → aw tX1_isWord E 15 [some (.ref 31), some (.ref (1001 + i)), some (.int (nI p)), d3, some (.int (nI k))] [] (A, R, G)
  | 0, k, d3, hk, hok => by
    have h6 := (aSle6 i hi).2
    have hk2 : nI (aSle.getD i 0) ≤ nI k := nI_le (by omega) (by omega)
    have hr2 : r := hok (fun j h1 h2 => absurd h1 (by omega))
    rw [bI_t hr2] at hE
    exact ⟨6, Exists.intro _ (Exists.intro _ (Exists.intro _ (Exists.intro _ (And.intro rfl (And.intro (Exists.intro i (And.intro hi rfl)) (And.intro (Nat.le_of_ble_eq_true rfl) (And.intro (pJ0_length hi) (Or.inl (And.intro hk2 (And.intro (Or.inr rfl) hE))))))))))⟩
  | m + 1, k, d3, hk, hok => by
    refine sX1_isWord_15 hG d3 hi (by omega) (by omega) ⟨fun q => ?_, fun q => ?_⟩
    · refine lX1_isW hG hi r hp hr hE m (k + 1) none (by omega) (fun h => hok fun j h1 h2 => ?_)
      by_cases e : j = k
      · subst e; exact q
      · exact h j h1 (by omega)
    · rw [bI_f (hr k (by omega) q)] at hE
      exact hE
theorem qX1_isWord (hG : aGS G) {i p e : Nat} (hi : i < 12) (hpe : p ≤ e) (he : e ≤ 160) : CX1_isWord [.ref 31, .ref (1001 + i), .int (nI p), .int (nI e)] (A, R, G) (some (.int (bI (isW (A 32) p e i)))) (A, R, G) := by
  have h6 := (aSle6 i hi).2
  have es : nI e - nI p = nI (e - p) := pk_sub hpe
  refine aC_of (Nat.le_of_ble_eq_true rfl) fun E hE => ?_
  by_cases c : e - p = aSle.getD i 0
  · have c2 : nI e - nI p = nI (aSle.getD i 0) := by rw [es, c]
    obtain ⟨n, h⟩ := lX1_isW (E := E) (A := A) (R := R) hG hi (isW (A 32) p e i) (by omega) (fun k hk q z => q (z.2 k hk)) hE (aSle.getD i 0) 0 (some (.int (nI e))) (by omega) (fun h => ⟨c, fun k hk => h k hk (by omega)⟩)
    exact ⟨n + 8, Exists.intro _ (Exists.intro _ (Exists.intro _ (Exists.intro _ (And.intro rfl (And.intro (Exists.intro i (And.intro hi rfl)) (And.intro (Nat.le_of_ble_eq_true rfl) (And.intro (pJ0_length hi) (Or.inl (And.intro c2 h)))))))))⟩
  · have c2 : ¬ nI e - nI p = nI (aSle.getD i 0) := by
      rw [es]
      exact fun q => c ((nI_eq (by omega) (by omega)).mp q)
    rw [bI_f (fun q => c q.1)] at hE
    exact ⟨8, Exists.intro _ (Exists.intro _ (Exists.intro _ (Exists.intro _ (And.intro rfl (And.intro (Exists.intro i (And.intro hi rfl)) (And.intro (Nat.le_of_ble_eq_true rfl) (And.intro (pJ0_length hi) (Or.inr (And.intro c2 (And.intro (Or.inl rfl) hE))))))))))⟩
end IW
