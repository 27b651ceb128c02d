/-! two views that agree on n judges and the eight cases -/
def eqV (n : Nat) (v w : aV) : Prop := (∀ f, f < 5 → ∀ p, p < n → v f p = w f p) ∧ (∀ f, 5 ≤ f → f < 8 → ∀ c, c < 8 → v f c = w f c) ∧ ∀ k, v 8 k = w 8 k
section CG
variable {n : Nat} {v w u : aV} {Λ : aLm}
theorem eqV.rf : eqV n v v := ⟨fun _ _ _ _ => rfl, fun _ _ _ _ _ => rfl, fun _ => rfl⟩
theorem eqV.sy (h : eqV n v w) : eqV n w v := ⟨fun f hf p hp => (h.1 f hf p hp).symm, fun f h5 h8 c hc => (h.2.1 f h5 h8 c hc).symm, fun k => (h.2.2 k).symm⟩
theorem eqV.tr (h : eqV n v w) (k : eqV n w u) : eqV n v u := ⟨fun f hf p hp => (h.1 f hf p hp).trans (k.1 f hf p hp), fun f h5 h8 c hc => (h.2.1 f h5 h8 c hc).trans (k.2.1 f h5 h8 c hc), fun j => (h.2.2 j).trans (k.2.2 j)⟩
theorem eqV.of (h : v = w) : eqV n v w := by rw [h]; exact eqV.rf
theorem eqV.au (h : eqV n v w) {f p : Nat} {x y : Int32} (e : x = y) : eqV n (au v f p x) (au w f p y) := by
  subst e
  refine ⟨fun g hg q hq => ?_, fun g h5 h8 c hc => ?_, fun k => ?_⟩ <;> rw [au_eq, au_eq]
  · rw [h.1 g hg q hq]
  · rw [h.2.1 g h5 h8 c hc]
  · rw [h.2.2 k]
theorem eqV.le {m : Nat} (h : eqV n v w) (hm : m ≤ n) : eqV m v w := ⟨fun f hf p hp => h.1 f hf p (by omega), h.2⟩
variable {p c : Nat}
theorem fct_c (h : eqV n v w) (hp : p < n) (hc : c < 8) : fct v p c = fct w p c := by
  funext i
  rcases i with _ | _ | _ | _ | _ | i
  · exact h.2.1 6 (by omega) (by omega) c hc
  · exact congrArg ones (h.2.1 5 (by omega) (by omega) c hc)
  · exact h.1 3 (by omega) p hp
  · exact congrArg ones (h.1 2 (by omega) p hp)
  · exact h.2.2 1
  · exact h.1 1 (by omega) p hp
theorem askV_c (h : eqV n v w) (hp : p < n) (hc : c < 8) (part : Nat) : askV Λ v part p c = askV Λ w part p c := by
  unfold askV
  rw [fct_c h hp hc]
theorem lackV_c (h : eqV n v w) (hp : p < n) (hc : c < 8) : lackV v p c = lackV w p c := by
  unfold lackV
  rw [h.2.1 5 (by omega) (by omega) c hc, h.1 2 (by omega) p hp]
theorem nwdV_c (h : eqV n v w) (hp : p < n) : nwdV v p = nwdV w p := by
  unfold nwdV
  rw [h.2.2 1, h.1 1 (by omega) p hp]
theorem mayV_c (h : eqV n v w) (hp : p < n) (hc : c < 8) : mayV Λ v p c = mayV Λ w p c := by
  unfold mayV
  rw [h.1 0 (by omega) p hp, h.1 1 (by omega) p hp, h.1 3 (by omega) p hp, h.2.2 1, h.2.1 5 (by omega) (by omega) c hc, lackV_c h hp hc, nwdV_c h hp, askV_c h hp hc]
theorem takV_c (h : eqV n v w) (hp : p < n) (hc : c < 8) : takV Λ v p c = takV Λ w p c := by
  unfold takV
  rw [h.1 0 (by omega) p hp, h.1 1 (by omega) p hp, askV_c h hp hc]
theorem judV_c (h : eqV n v w) (hp : p < n) (hc : c < 8) : judV Λ v p c = judV Λ w p c := by
  unfold judV
  rw [h.1 0 (by omega) p hp, h.1 1 (by omega) p hp, askV_c h hp hc]
theorem canV_c (h : eqV n v w) (hp : p < n) (hc : c < 8) : canV Λ v p c = canV Λ w p c := by
  unfold canV
  rw [h.1 4 (by omega) p hp, mayV_c h hp hc]
theorem losV_c (h : eqV n v w) (hp : p < n) (hc : c < 8) : losV v p c = losV w p c := by
  unfold losV
  rw [h.1 2 (by omega) p hp, h.2.1 5 (by omega) (by omega) c hc]
theorem holV_c (h : eqV n v w) (hp : p < n) (hc : c < 8) : eqV n (holV Λ v p c) (holV Λ w p c) := by
  unfold holV
  refine ((((h.au (takV_c h hp hc)).au (losV_c h hp hc)).au ?_).au rfl).au ?_
  · rw [h.1 3 (by omega) p hp, judV_c h hp hc]
  · rw [h.2.2 2]
theorem fstV_c (h : eqV n v w) (hc : c < 8) : ∀ m k, k + m ≤ n → fstV Λ v c m k = fstV Λ w c m k
  | 0, _, _ => rfl
  | m + 1, k, hk => by
    unfold fstV
    rw [canV_c h (p := k) (by omega) hc, fstV_c h hc m (k + 1) (by omega)]
theorem decV_c (h : eqV n v w) : ∀ k, k ≤ n → eqV n (decV v k) (decV w k)
  | 0, _ => h
  | k + 1, hk => by
    have ih := decV_c h k (by omega)
    show eqV n (decV1 (decV v k) k) (decV1 (decV w k) k)
    unfold decV1
    refine ih.au ?_
    rw [ih.1 4 (by omega) k (by omega)]
theorem stpV_c {s t : aV × Int32} (h : eqV n s.1 t.1) (e : s.2 = t.2) (hc : c < 8) : eqV n (stpV Λ n s c).1 (stpV Λ n t c).1 ∧ (stpV Λ n s c).2 = (stpV Λ n t c).2 := by
  unfold stpV
  rw [h.2.1 5 (by omega) (by omega) c hc, fstV_c h hc n 0 (by omega)]
  by_cases h5 : t.1 5 c = 0
  · rw [if_pos h5, if_pos h5]; exact ⟨h, e⟩
  · rw [if_neg h5, if_neg h5]
    cases hf : fstV Λ t.1 c n 0 with
    | none =>
      refine ⟨h.au ?_, e⟩
      rw [h.2.1 7 (by omega) (by omega) c hc]
    | some p =>
      have hp := fst_lt n 0 hf
      refine ⟨holV_c h (by omega) hc, ?_⟩
      show s.2 ||| _ = t.2 ||| _
      rw [e]
theorem casV_c (h : eqV n v w) : ∀ k, k ≤ 8 → eqV n (casV Λ n v k).1 (casV Λ n w k).1 ∧ (casV Λ n v k).2 = (casV Λ n w k).2
  | 0, _ => ⟨h, rfl⟩
  | k + 1, hk => stpV_c (casV_c h k (by omega)).1 (casV_c h k (by omega)).2 (by omega)
theorem dayV_c (h : eqV n v w) : eqV n (dayV Λ n v).1 (dayV Λ n w).1 ∧ (dayV Λ n v).2 = (dayV Λ n w).2 := by
  rw [dayV_1, dayV_1, dayV_2, dayV_2]
  have h1 := casV_c (Λ := Λ) (decV_c h n (by omega)) 8 (by omega)
  exact ⟨h1.1.au (by rw [h1.1.2.2 1]), h1.2⟩
theorem invD_c (h : eqV n v w) (k : invD n v) : invD n w := by
  refine ⟨⟨fun q hq => ⟨?_, ?_, ?_⟩, fun d hd => ?_⟩, fun d hd => ?_, ?_⟩
  · rw [← h.1 0 (by omega) q hq]; exact (k.1.1 q hq).1
  · rw [← h.1 2 (by omega) q hq]; exact (k.1.1 q hq).2.1
  · rw [← h.1 4 (by omega) q hq]; exact (k.1.1 q hq).2.2
  · rw [← h.2.1 5 (by omega) (by omega) d hd]; exact k.1.2 d hd
  · rw [← h.2.1 7 (by omega) (by omega) d hd]; exact k.2.1 d hd
  · rw [← h.2.2 2]; exact k.2.2
end CG
