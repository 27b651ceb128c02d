section FR
variable {A : Nat → Nat → Int32} {R : Nat → Nat → Option Nat} {G : Nat → Nat × Nat}
theorem nI_div {x y : Nat} (hx : x < 2147483648) (hy : y < 2147483648) : nI x / nI y = nI (x / y) := by
  have h : x / y ≤ x := Nat.div_le_self x y
  refine Int32.toInt_inj.mp ?_
  rw [Int32.toInt_div, nI_toInt hx, nI_toInt hy, nI_toInt (by omega), Int.tdiv_eq_ediv_of_nonneg (by omega), ← Int.natCast_ediv]
  generalize x / y = q at *
  exact Int.bmod_eq_of_le (by omega) (by omega)
theorem nI_sub {x y : Nat} (hx : x < 2147483648) (hy : y ≤ x) : nI x - nI y = nI (x - y) := by
  refine Int32.toInt_inj.mp ?_
  rw [Int32.toInt_sub, nI_toInt hx, nI_toInt (by omega), nI_toInt (by omega), Int.bmod_eq_of_le (by omega) (by omega)]
  omega
theorem nI_mod {x y : Nat} (hx : x < 2147483648) (hy : y < 2147483648) : nI x - nI x / nI y * nI y = nI (x % y) := by
  have h : x / y * y ≤ x := Nat.div_mul_le_self x y
  rw [nI_div hx hy, nI_mulc, nI_sub hx h]
  congr 1
  have := Nat.div_add_mod x y
  rw [Nat.mul_comm] at this
  omega
theorem lX4_gcd {E : aR} {g : Nat} (hE : E (some (.int (nI g))) (A, R, G)) : ∀ (y x i : Nat) (d0 d1 d5 : Option Value), x < 1000 → y + i < 50 → Nat.gcd y x = g → aw tX4_commonDivisor E 7 [d0, d1, some (.int (nI x)), some (.int (nI y)), some (.int (nI i)), d5] [] (A, R, G) := by
  intro y
  induction y using Nat.strongRecOn with
  | _ y ih =>
    intro x i d0 d1 d5 hx hy hg
    refine sX4_commonDivisor_7 _ _ _ _ _ _ ⟨fun h => absurd h (nI_ge (a := i) (b := 50) (by omega) (by omega)), fun _ => ⟨fun h => ?_, fun h => ⟨h, ?_⟩⟩⟩
    · have h0 : y = 0 := (nI_eq (a := y) (b := 0) (by omega) (by omega)).mp h
      subst h0
      rw [Nat.gcd_zero_left] at hg
      rw [hg]
      exact hE
    · have h0 : 0 < y := Nat.pos_of_ne_zero fun q => h (by rw [q]; rfl)
      have hlt := Nat.mod_lt x h0
      rw [nI_mod (by omega) (by omega), nI_1]
      exact ih (x % y) hlt y (i + 1) _ _ _ (by omega) (by omega) (by rw [← hg]; exact (Nat.gcd_rec y x).symm)
theorem qX4_commonDivisor {a b : Nat} (ha : a < 1000) (hb : b < 50) : CX4_commonDivisor [.int (nI a), .int (nI b)] (A, R, G) (some (.int (nI (Nat.gcd b a)))) (A, R, G) :=
  aC_of (Nat.le_of_ble_eq_true rfl) fun E hE => sX4_commonDivisor_0 _ _ (lX4_gcd hE b a 0 _ _ _ ha (by omega) rfl)
theorem gcd_pos {a b : Nat} (hb : 0 < b) : 0 < Nat.gcd b a := Nat.gcd_pos_of_pos_left a hb
/-- a part of a fraction in lowest terms -/
def lowN (a b part : Nat) : Nat := (if part = 0 then a else b) / Nat.gcd b a
theorem qX4_part {a b part : Nat} (ha : a < 1000) (hb : 0 < b) (hb2 : b < 50) (hp : part < 2) : CX4_partOfFraction [.int (nI a), .int (nI b), .int (nI part)] (A, R, G) (some (.long (nI (lowN a b part)).toInt64)) (A, R, G) := by
  have hg := gcd_pos (a := a) hb
  have hgl := Nat.gcd_le_left a hb
  refine aC_of (Nat.le_of_ble_eq_true rfl) fun E hE => ?_
  refine sX4_partOfFraction_0 _ _ _ ⟨_, _, qX4_commonDivisor ha hb2, sX4_partOfFraction_5 _ _ _ _ _ ?_⟩
  have hn : ¬ nI (Nat.gcd b a) = 0 := fun q => by
    have := (nI_eq (a := Nat.gcd b a) (b := 0) (by omega) (by omega)).mp q
    omega
  rw [nI_div (by omega) (by omega), nI_div (by omega) (by omega)]
  unfold lowN at hE
  refine ⟨fun h => absurd h hn, fun _ => ⟨fun h => ⟨hn, ?_⟩, fun h => ⟨hn, ?_⟩⟩⟩
  · have h0 : part = 0 := (nI_eq (a := part) (b := 0) (by omega) (by omega)).mp h
    rw [if_pos h0] at hE
    exact hE
  · rw [if_neg (fun q => h (by rw [q]; rfl))] at hE
    exact hE
end FR
