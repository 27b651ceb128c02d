/-! the views move with the rows -/
section VU
variable {A : Nat → Nat → Int32} {p : Nat} {x : Int32}
theorem vM_2 : vM (au A 51 (3 * p) x) = au (vM A) 2 p x := by
  funext f i
  rcases f with _ | _ | _ | _ | _ | _ | _ | _ | _ | f
  · rfl
  · rfl
  · show (au A 51 (3 * p) x) 51 (3 * i) = au (vM A) 2 p x 2 i
    rw [au_eq, au_eq]
    by_cases h : i = p
    · rw [if_pos ⟨rfl, by omega⟩, if_pos ⟨rfl, h⟩]
    · rw [if_neg (fun q => h (by omega)), if_neg (fun q => h q.2)]
      rfl
  · show (au A 51 (3 * p) x) 51 (3 * i + 1) = _
    rw [au_j (by omega)]
    rfl
  · show (au A 51 (3 * p) x) 51 (3 * i + 2) = _
    rw [au_j (by omega)]
    rfl
  · rfl
  · rfl
  · rfl
  · rcases i with _ | _ | _ | i
    · rfl
    · rfl
    · rfl
    · rfl
  · rfl
theorem vM_3 : vM (au A 51 (3 * p + 1) x) = au (vM A) 3 p x := by
  funext f i
  rcases f with _ | _ | _ | _ | _ | _ | _ | _ | _ | f
  · rfl
  · rfl
  · show (au A 51 (3 * p + 1) x) 51 (3 * i) = _
    rw [au_j (by omega)]
    rfl
  · show (au A 51 (3 * p + 1) x) 51 (3 * i + 1) = au (vM A) 3 p x 3 i
    rw [au_eq, au_eq]
    by_cases h : i = p
    · rw [if_pos ⟨rfl, by omega⟩, if_pos ⟨rfl, h⟩]
    · rw [if_neg (fun q => h (by omega)), if_neg (fun q => h q.2)]
      rfl
  · show (au A 51 (3 * p + 1) x) 51 (3 * i + 2) = _
    rw [au_j (by omega)]
    rfl
  · rfl
  · rfl
  · rfl
  · rcases i with _ | _ | _ | i
    · rfl
    · rfl
    · rfl
    · rfl
  · rfl
theorem vM_4 : vM (au A 51 (3 * p + 2) x) = au (vM A) 4 p x := by
  funext f i
  rcases f with _ | _ | _ | _ | _ | _ | _ | _ | _ | f
  · rfl
  · rfl
  · show (au A 51 (3 * p + 2) x) 51 (3 * i) = _
    rw [au_j (by omega)]
    rfl
  · show (au A 51 (3 * p + 2) x) 51 (3 * i + 1) = _
    rw [au_j (by omega)]
    rfl
  · show (au A 51 (3 * p + 2) x) 51 (3 * i + 2) = au (vM A) 4 p x 4 i
    rw [au_eq, au_eq]
    by_cases h : i = p
    · rw [if_pos ⟨rfl, by omega⟩, if_pos ⟨rfl, h⟩]
    · rw [if_neg (fun q => h (by omega)), if_neg (fun q => h q.2)]
      rfl
  · rfl
  · rfl
  · rfl
  · rcases i with _ | _ | _ | i
    · rfl
    · rfl
    · rfl
    · rfl
  · rfl
theorem vM_5 : vM (au A 52 (3 * p) x) = au (vM A) 5 p x := by
  funext f i
  rcases f with _ | _ | _ | _ | _ | _ | _ | _ | _ | f
  · rfl
  · rfl
  · rfl
  · rfl
  · rfl
  · show (au A 52 (3 * p) x) 52 (3 * i) = au (vM A) 5 p x 5 i
    rw [au_eq, au_eq]
    by_cases h : i = p
    · rw [if_pos ⟨rfl, by omega⟩, if_pos ⟨rfl, h⟩]
    · rw [if_neg (fun q => h (by omega)), if_neg (fun q => h q.2)]
      rfl
  · show (au A 52 (3 * p) x) 52 (3 * i + 1) = _
    rw [au_j (by omega)]
    rfl
  · show (au A 52 (3 * p) x) 52 (3 * i + 2) = _
    rw [au_j (by omega)]
    rfl
  · rcases i with _ | _ | _ | i
    · rfl
    · rfl
    · rfl
    · rfl
  · rfl
theorem vM_6 : vM (au A 52 (3 * p + 1) x) = au (vM A) 6 p x := by
  funext f i
  rcases f with _ | _ | _ | _ | _ | _ | _ | _ | _ | f
  · rfl
  · rfl
  · rfl
  · rfl
  · rfl
  · show (au A 52 (3 * p + 1) x) 52 (3 * i) = _
    rw [au_j (by omega)]
    rfl
  · show (au A 52 (3 * p + 1) x) 52 (3 * i + 1) = au (vM A) 6 p x 6 i
    rw [au_eq, au_eq]
    by_cases h : i = p
    · rw [if_pos ⟨rfl, by omega⟩, if_pos ⟨rfl, h⟩]
    · rw [if_neg (fun q => h (by omega)), if_neg (fun q => h q.2)]
      rfl
  · show (au A 52 (3 * p + 1) x) 52 (3 * i + 2) = _
    rw [au_j (by omega)]
    rfl
  · rcases i with _ | _ | _ | i
    · rfl
    · rfl
    · rfl
    · rfl
  · rfl
theorem vM_7 : vM (au A 52 (3 * p + 2) x) = au (vM A) 7 p x := by
  funext f i
  rcases f with _ | _ | _ | _ | _ | _ | _ | _ | _ | f
  · rfl
  · rfl
  · rfl
  · rfl
  · rfl
  · show (au A 52 (3 * p + 2) x) 52 (3 * i) = _
    rw [au_j (by omega)]
    rfl
  · show (au A 52 (3 * p + 2) x) 52 (3 * i + 1) = _
    rw [au_j (by omega)]
    rfl
  · show (au A 52 (3 * p + 2) x) 52 (3 * i + 2) = au (vM A) 7 p x 7 i
    rw [au_eq, au_eq]
    by_cases h : i = p
    · rw [if_pos ⟨rfl, by omega⟩, if_pos ⟨rfl, h⟩]
    · rw [if_neg (fun q => h (by omega)), if_neg (fun q => h q.2)]
      rfl
  · rcases i with _ | _ | _ | i
    · rfl
    · rfl
    · rfl
    · rfl
  · rfl
theorem vM_8 {k j : Nat} (hk : (k = 0 ∧ j = 0) ∨ (k = 5 ∧ j = 1) ∨ (k = 6 ∧ j = 2)) : vM (au A 48 k x) = au (vM A) 8 j x := by
  funext f i
  rcases f with _ | _ | _ | _ | _ | _ | _ | _ | _ | f
  · rfl
  · rfl
  · rfl
  · rfl
  · rfl
  · rfl
  · rfl
  · rfl
  · rcases hk with ⟨rfl, rfl⟩ | ⟨rfl, rfl⟩ | ⟨rfl, rfl⟩
    · rcases i with _ | _ | _ | i
      · rfl
      · rfl
      · rfl
      · exact (au_j (A := vM A) (o := 8) (k := 0) (k' := i + 3) (v := x) (by omega)).symm
    · rcases i with _ | _ | _ | i
      · rfl
      · rfl
      · rfl
      · exact (au_j (A := vM A) (o := 8) (k := 1) (k' := i + 3) (v := x) (by omega)).symm
    · rcases i with _ | _ | _ | i
      · rfl
      · rfl
      · rfl
      · exact (au_j (A := vM A) (o := 8) (k := 2) (k' := i + 3) (v := x) (by omega)).symm
  · rfl
theorem vM_no {k : Nat} (h0 : ¬ k = 0) (h5 : ¬ k = 5) (h6 : ¬ k = 6) : vM (au A 48 k x) = vM A := by
  funext f i
  rcases f with _ | _ | _ | _ | _ | _ | _ | _ | _ | f
  · rfl
  · rfl
  · rfl
  · rfl
  · rfl
  · rfl
  · rfl
  · rfl
  · rcases i with _ | _ | _ | i
    · exact au_j (by omega)
    · exact au_j (by omega)
    · exact au_j (by omega)
    · rfl
  · rfl
end VU
