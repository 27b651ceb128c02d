/-! what the Statement gives of the start -/
def nrF : List Cond := flatC (Jvm.Cond.and given_1 narrow_1)
def nr_S (i : Nat) : Term := .string RX1 (aSix.getD i 0)
def nr_T : Term := .static RX0 "IS_ONE_OF" "[I"
set_option maxRecDepth 100000 in
theorem nr_ex : ∀ i, i < 12 → Cond.exactly (nr_S i) "java/lang/String" ∈ nrF := by decide +kernel
set_option maxRecDepth 100000 in
theorem nr_co : ∀ i, i < 12 → Cond.eq (.field (nr_S i) "java/lang/String" "coder" "B") (.int 0) ∈ nrF := by decide +kernel
set_option maxRecDepth 100000 in
theorem nr_ar : ∀ i, i < 12 → Cond.arrayOf (.field (nr_S i) "java/lang/String" "value" "[B") .byte ∈ nrF := by decide +kernel
set_option maxRecDepth 100000 in
theorem nr_le : ∀ i, i < 12 → Cond.eq (.length (.field (nr_S i) "java/lang/String" "value" "[B")) (.int (Int32.ofNat (aSle.getD i 0))) ∈ nrF := by decide +kernel
set_option maxRecDepth 100000 in
theorem nr_el : ∀ i, i < 12 → ∀ j, j < aSle.getD i 0 → Cond.eq (.elem (.field (nr_S i) "java/lang/String" "value" "[B") (.int (Int32.ofNat j))) (.int ((aSby.getD i []).getD j 0)) ∈ nrF := by decide +kernel
set_option maxRecDepth 100000 in
theorem nr_ne : ∀ i, i < 12 → ∀ j, j < 12 → i ≠ j → Cond.not (Cond.eq (nr_S i) (nr_S j)) ∈ nrF ∨ Cond.not (Cond.eq (nr_S j) (nr_S i)) ∈ nrF := by decide +kernel
set_option maxRecDepth 100000 in
theorem nr_e6 : ∀ j, j < 6 → Cond.eq (.elem nr_T (.int (Int32.ofNat j))) (.int (aTab j)) ∈ nrF := by decide +kernel
set_option maxRecDepth 100000 in
theorem nr_l6 : Cond.eq (.length nr_T) (.int (Int32.ofNat 6)) ∈ nrF := by decide +kernel
set_option maxRecDepth 100000 in
theorem nr_a6 : Cond.arrayOf nr_T .int ∈ nrF := by decide +kernel
set_option maxRecDepth 100000 in
theorem nr_cs : Cond.eq (.static "java/lang/String" "COMPACT_STRINGS" "Z") (.int 1) ∈ nrF := by decide +kernel
set_option maxRecDepth 100000 in
theorem nr_sf : Cond.isRef (.static "jdk/internal/util/Preconditions" "SIOOBE_FORMATTER" "Ljava/util/function/BiFunction;") ∈ nrF := by decide +kernel
set_option maxRecDepth 100000 in
theorem nr_sr : ∀ i, i < 12 → Cond.stringRef RX1 (aSix.getD i 0) (aStx.getD i "") ∈ tables_1 := by decide +kernel
set_option maxRecDepth 100000 in
theorem nr_t1 : Cond.laysStatic RX0 "IS_ONE_OF" "[I" ∈ tables_1 := by decide +kernel
set_option maxRecDepth 100000 in
theorem nr_t2 : Cond.initialized RX0 ∈ tables_1 := by decide +kernel
set_option maxRecDepth 100000 in
theorem nr_t3 : Cond.laysStatic "java/lang/String" "COMPACT_STRINGS" "Z" ∈ tables_1 := by decide +kernel
set_option maxRecDepth 100000 in
theorem nr_t4 : Cond.initialized "java/lang/String" ∈ tables_1 := by decide +kernel
set_option maxRecDepth 100000 in
theorem nr_t5 : Cond.laysStatic "jdk/internal/util/Preconditions" "SIOOBE_FORMATTER" "Ljava/util/function/BiFunction;" ∈ tables_1 := by decide +kernel
set_option maxRecDepth 100000 in
theorem nr_t6 : Cond.initialized "jdk/internal/util/Preconditions" ∈ tables_1 := by decide +kernel
set_option maxRecDepth 100000 in
theorem nr_i0 : Cond.instantiable RX0 15 ∈ tables_1 := by decide +kernel
set_option maxRecDepth 100000 in
theorem nr_i1 : Cond.instantiable RX1 8 ∈ tables_1 := by decide +kernel
set_option maxRecDepth 100000 in
theorem nr_i2 : Cond.instantiable RX2 3 ∈ tables_1 := by decide +kernel
set_option maxRecDepth 100000 in
theorem nr_i3 : Cond.instantiable RX3 3 ∈ tables_1 := by decide +kernel
set_option maxRecDepth 100000 in
theorem nr_i4 : Cond.instantiable RX4 9 ∈ tables_1 := by decide +kernel
set_option maxRecDepth 100000 in
theorem nr_i5 : Cond.instantiable RX5 35 ∈ tables_1 := by decide +kernel
set_option maxRecDepth 100000 in
theorem nr_c1 : Cond.arrayClass .int ∈ tables_1 := by decide +kernel
set_option maxRecDepth 100000 in
theorem nr_c2 : Cond.arrayOver (.object RX3) ∈ tables_1 := by decide +kernel
set_option maxRecDepth 100000 in
theorem nr_c3 : Cond.arrayOver (.object RX2) ∈ tables_1 := by decide +kernel
set_option maxRecDepth 100000 in
theorem nr_c4 : Cond.castable "[I" "java/lang/Cloneable" ∈ tables_1 := by decide +kernel
set_option maxRecDepth 100000 in
theorem nr_c5 : Cond.methodLinkNest RX4 21 yX1_init RX4 ∈ tables_1 := by decide +kernel
set_option maxRecDepth 100000 in
theorem nr_c6 : Cond.methodLinkNest RX4 54 yX2_init RX4 ∈ tables_1 := by decide +kernel
theorem nr_tb {w : Cond} (h : w ∈ tables_1) : w ∈ lw_tbl := List.mem_append_right _ h
def adS (b t q : Nat) (adK adV : Nat → Nat) (k : Nat) : Nat := if k = 1300 then b else if k = 1200 then q else if k = 1000 then t else if k < 1100 then adK (k - 1001) else adV (k - 1101)
section NR
variable {s : State} {args : Array Value}
theorem nr_I : "[" ++ (FieldType.int).toString = "[I" := by decide +kernel
theorem start_K (hts : ∀ w ∈ lw_tbl, w.before args s = true) : ∃ (D : va_G) (Z : aZ), va_K D vwCl (aTy Z) s ∧ s.vm.findClass "[I" = some Z.1 := by
  obtain ⟨c0, i0, k0⟩ := u_known (C := RX0) (T := TX0) (N := 15) (n := 15) hts (fun w h => wsL_law_in w (inlX0 w h)) (hts _ (nr_tb nr_i0))
  obtain ⟨c1, i1, k1⟩ := u_known (C := RX1) (T := TX1) (N := 8) (n := 8) hts (fun w h => wsL_law_in w (inlX1 w h)) (hts _ (nr_tb nr_i1))
  obtain ⟨c2, i2, k2⟩ := u_known (C := RX2) (T := TX2) (N := 3) (n := 3) hts (fun w h => wsL_law_in w (inlX2 w h)) (hts _ (nr_tb nr_i2))
  obtain ⟨c3, i3, k3⟩ := u_known (C := RX3) (T := TX3) (N := 3) (n := 3) hts (fun w h => wsL_law_in w (inlX3 w h)) (hts _ (nr_tb nr_i3))
  obtain ⟨c4, i4, k4⟩ := u_known (C := RX4) (T := TX4) (N := 9) (n := 9) hts (fun w h => wsL_law_in w (inlX4 w h)) (hts _ (nr_tb nr_i4))
  obtain ⟨c5, i5, k5⟩ := u_known (C := RX5) (T := TX5) (N := 35) (n := 35) hts (fun w h => wsL_law_in w (inlX5 w h)) (hts _ (nr_tb nr_i5))
  obtain ⟨ca, ka, pa, a1, a2, a3⟩ := Cond.arrayClass_spec (hts _ (nr_tb nr_c1))
  obtain ⟨pt, ct, kt, t1, t2, t3, t4, t5⟩ := Cond.arrayOver_spec (hts _ (nr_tb nr_c2))
  obtain ⟨ps, cs, ks, s1, s2, s3, s4, s5⟩ := Cond.arrayOver_spec (hts _ (nr_tb nr_c3))
  refine ⟨(fun k => if k = 0 then c0 else if k = 1 then c1 else if k = 2 then c2 else if k = 3 then c3 else if k = 4 then c4 else c5, fun k => if k = 0 then i0 else if k = 1 then i1 else if k = 2 then i2 else if k = 3 then i3 else if k = 4 then i4 else i5), (ca, ct, cs), ⟨fun k q hq => ?_, fun k q hq => ?_⟩, by rw [← nr_I]; exact a1⟩
  · match k, hq with
    | 0, hq => cases hq; exact k0
    | 1, hq => cases hq; exact k1
    | 2, hq => cases hq; exact k2
    | 3, hq => cases hq; exact k3
    | 4, hq => cases hq; exact k4
    | 5, hq => cases hq; exact k5
    | k + 6, hq => simp [vwCl] at hq
  · match k, hq with
    | 0, hq => cases hq; exact ⟨fun n z => ⟨fun k h => (by cases h), ka, a2, pa, a3⟩, a1⟩
    | 1, hq => cases hq; exact ⟨fun n z => ⟨fun k h => (by cases h), kt, t3, pt, t4⟩, kt, pt, t3, t4, t1, t5⟩
    | 2, hq => cases hq; exact ⟨fun n z => ⟨fun k h => (by cases h), ks, s3, ps, s4⟩, ks, ps, s3, s4, s1, s5⟩
    | k + 3, hq => simp [aTy] at hq
theorem start_N {Z : aZ} (hts : ∀ w ∈ lw_tbl, w.before args s = true) (h : s.vm.findClass "[I" = some Z.1) : bN Z s :=
  ⟨h, va_Nw.of rfl (hts _ (nr_tb nr_c4)), va_AO.of (hts _ (nr_tb nr_c2)), va_AO.of (hts _ (nr_tb nr_c3)), va_Nw.of rfl (hts _ (nr_tb nr_c5)), va_Nw.of rfl (hts _ (nr_tb nr_c6))⟩
theorem start_G {A : Nat → Prop} (hts : ∀ w ∈ lw_tbl, w.before args s = true) (hnr : ∀ w ∈ nrF, w.before args s = true) (hA : ∀ a : Nat, a < s.heap.size → ¬ A a) (b : Nat) : ∃ ad0 : Nat → Nat, ad0 1300 = b ∧ aGl ad0 A s s.heap := by
  obtain ⟨t, e1, hT⟩ := va_Tof (tm := nr_T) (ty := .int) (N := 6) (f := fun j => .int (aTab j)) (A := A) (by decide) (hnr _ nr_a6) (va_eqt (hnr _ nr_l6)) (fun j hj => va_eqt (hnr _ (nr_e6 j hj))) hA
  have hN : ∀ i : Nat, i < 12 → aSle.getD i 0 < 2 ^ 31 := by decide
  obtain ⟨adK, adV, hS, hSe⟩ := vk_Sof (args := args) (s := s) (N := 12) (tm := nr_S) (len := aSle) (byt := aSby) (A := A) hN (fun i hi => hnr _ (nr_ex i hi)) (fun i hi => hnr _ (nr_co i hi)) (fun i hi => hnr _ (nr_ar i hi)) (fun i hi => hnr _ (nr_le i hi)) (fun i hi j hj => hnr _ (nr_el i hi j hj)) (fun i j hi hj hij => (nr_ne i hi j hj hij).imp (fun h => hnr _ h) (fun h => hnr _ h)) hA
  have hq : ∃ q : Nat, va_Z "jdk/internal/util/Preconditions" "SIOOBE_FORMATTER" "Ljava/util/function/BiFunction;" .null A s s.heap ∨ va_Z "jdk/internal/util/Preconditions" "SIOOBE_FORMATTER" "Ljava/util/function/BiFunction;" (.ref q) A s s.heap := by
    rcases va_Zqof (A := A) (hts _ (nr_tb nr_t5)) (hts _ (nr_tb nr_t6)) (hnr _ nr_sf) hA with h | ⟨q, h⟩
    · exact ⟨0, Or.inl h⟩
    · exact ⟨q, Or.inr h⟩
  obtain ⟨q, hq⟩ := hq
  have u0 : adS b t q adK adV 1300 = b := if_pos rfl
  have u1 : adS b t q adK adV 1200 = q := rfl
  have u2 : adS b t q adK adV 1000 = t := rfl
  have u3 : ∀ i, i < 12 → adS b t q adK adV (1001 + i) = adK i := fun i hi => by
    unfold adS
    rw [if_neg (by omega), if_neg (by omega), if_neg (by omega), if_pos (by omega), Nat.add_sub_cancel_left]
  have u4 : ∀ i, i < 12 → adS b t q adK adV (1101 + i) = adV i := fun i hi => by
    unfold adS
    rw [if_neg (by omega), if_neg (by omega), if_neg (by omega), if_neg (by omega), Nat.add_sub_cancel_left]
  refine ⟨adS b t q adK adV, u0, ?_, ?_, ⟨fun i hi => ?_, fun i j hi hj e => ?_⟩, fun i hi => ?_, va_Zof (hts _ (nr_tb nr_t3)) (hts _ (nr_tb nr_t4)) (va_eqt (hnr _ nr_cs)) hA, by rw [u1]; exact hq⟩
  · rw [u2]
    exact va_Zof (hts _ (nr_tb nr_t1)) (hts _ (nr_tb nr_t2)) e1 hA
  · rw [u2]
    exact hT
  · have h := hS.1 i hi
    dsimp only
    rw [u3 i hi, u4 i hi]
    exact h
  · have e : adS b t q adK adV (1001 + i) = adS b t q adK adV (1001 + j) := e
    rw [u3 i hi, u3 j hj] at e
    exact hS.2 i j hi hj e
  · rw [u3 i hi]
    exact vk_R.of (hts _ (nr_tb (nr_sr i hi))) (hSe i hi)
end NR
