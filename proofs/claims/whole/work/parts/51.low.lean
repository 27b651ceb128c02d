section LW
variable {A : Nat → Nat → Int32} {R : Nat → Nat → Option Nat} {G : Nat → Nat × Nat}
theorem cmp_0 {x : Int64} : lg_cmp x 0 = 0 ↔ x = 0 := by
  unfold lg_cmp
  by_cases h1 : x > 0
  · rw [if_pos h1]
    refine ⟨fun q => absurd q (by decide), fun q => ?_⟩
    rw [q] at h1
    exact absurd h1 (by decide)
  · rw [if_neg h1]
    by_cases h2 : x = 0
    · rw [if_pos h2]; exact ⟨fun _ => h2, fun _ => rfl⟩
    · rw [if_neg h2]; exact ⟨fun q => absurd q (by decide), fun q => absurd q h2⟩
theorem l_0 {x : Int64} : x = 0 ↔ x.toInt = 0 := ⟨fun h => by rw [h]; rfl, fun h => Int64.toInt_inj.mp (by rw [h]; rfl)⟩
theorem nL_toInt {k : Nat} (hk : k < 2147483648) : (nI k).toInt64.toInt = (k : Int) := by
  rw [Int32.toInt_toInt64, nI_toInt hk]
theorem l_div {x y : Int64} {a g : Nat} (hx : x.toInt = (a : Int)) (hy : y.toInt = (g : Int)) (ha : a < 1000) : x / y = (nI (a / g)).toInt64 := by
  have h : a / g ≤ a := Nat.div_le_self a g
  refine Int64.toInt_inj.mp ?_
  rw [nL_toInt (by omega), Int64.toInt_div, hx, hy, Int.tdiv_eq_ediv_of_nonneg (by omega), ← Int.natCast_ediv]
  generalize a / g = q at *
  exact Int.bmod_eq_of_le (by omega) (by omega)
theorem lX5_low {E : aR} {a b part g : Nat} {x0 x2 : Int64} (ha : x0.toInt = (a : Int)) (hb : x2.toInt = (b : Int)) (ha2 : a < 1000) (hb2 : b < 1000) (hg0 : 0 < g) (hp : part < 2) (hE : E (some (.long (nI ((if part = 0 then a else b) / g)).toInt64)) (A, R, G)) :
    ∀ (y x : Nat) (x5 x7 : Int64) (d9 d10 : Option Value), x < 1000 → y < 1000 → x5.toInt = (x : Int) → x7.toInt = (y : Int) → Nat.gcd y x = g → aw tX5_lowest E 16 [some (.long x0), none, some (.long x2), none, some (.int (nI part)), some (.long x5), none, some (.long x7), none, d9, d10] [] (A, R, G) := by
  intro y
  induction y using Nat.strongRecOn with
  | _ y ih =>
    intro x x5 x7 d9 d10 hx hy h5 h7 hg
    refine sX5_lowest_16 _ _ _ _ _ _ _ ⟨fun h => ?_, fun h => ?_⟩
    · rw [cmp_0, l_0, h7] at h
      have h0 : y = 0 := by omega
      subst h0
      rw [Nat.gcd_zero_left] at hg
      have h50 : ¬ x5 = 0 := fun q => by rw [l_0, h5] at q; omega
      rw [hg] at h5
      refine ⟨fun hz => ⟨h50, ?_⟩, fun hz => ⟨h50, ?_⟩⟩
      · have hp0 : part = 0 := (nI_eq (a := part) (b := 0) (by omega) (by omega)).mp hz
        rw [if_pos hp0] at hE
        rw [l_div ha h5 ha2]
        exact hE
      · rw [if_neg (fun q => hz (by rw [q]; rfl))] at hE
        rw [l_div hb h5 hb2]
        exact hE
    · rw [cmp_0] at h
      have h0 : 0 < y := Nat.pos_of_ne_zero fun q => h (l_0.mpr (by rw [h7, q]; rfl))
      have hlt := Nat.mod_lt x h0
      refine ⟨h, ih (x % y) hlt y x7 _ _ _ hy (by omega) h7 ?_ (by rw [← hg]; exact (Nat.gcd_rec y x).symm)⟩
      rw [lot_mod (by rw [h5]; omega) h7 (by omega) (by omega) (by rw [h5]; omega), h5]
      exact (Int.natCast_emod x y).symm
theorem qX5_lowest {a b part : Nat} {x0 x2 : Int64} (ha : x0.toInt = (a : Int)) (hb : x2.toInt = (b : Int)) (ha2 : a < 1000) (hb0 : 0 < b) (hb2 : b < 1000) (hp : part < 2) : CX5_lowest [.long x0, .long x2, .int (nI part)] (A, R, G) (some (.long (nI (lowN a b part)).toInt64)) (A, R, G) := by
  refine aC_of (Nat.le_of_ble_eq_true rfl) fun E hE => ?_
  refine sX5_lowest_0 _ _ _ ⟨fun h => ?_, fun h => ?_⟩
  · rw [cmp_0, l_0, ha] at h
    have h0 : a = 0 := by omega
    subst h0
    unfold lowN at hE
    rw [Nat.gcd_zero_right] at hE
    have hp2 : part = 0 ∨ part = 1 := by omega
    rcases hp2 with rfl | rfl
    · rw [if_pos rfl, Nat.zero_div] at hE
      exact hE
    · rw [if_neg (by omega), Nat.div_self hb0] at hE
      exact hE
  · exact lX5_low ha hb ha2 hb2 (gcd_pos hb0) hp hE b a x0 x2 _ _ ha2 hb2 ha hb rfl
end LW
