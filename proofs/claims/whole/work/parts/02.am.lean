/-! THE ABSTRACT MACHINE: memory = ints by place and index, references by place and index, shapes by place; locals; stack. An instruction is an op. -/
abbrev aM : Type := (Nat → Nat → Int32) × (Nat → Nat → Option Nat) × (Nat → Nat × Nat)
abbrev aL : Type := List (Option Value)
abbrev aK : Type := Nat → aL → List Value → aM → Prop
abbrev aR : Type := Option Value → aM → Prop
abbrev aO : Type := aL → List Value → aM → aK → aR → Prop
abbrev aC : Type := List Value → aM → Option Value → aM → Prop
def ag : aL → Nat → Option Value
  | [], _ => none
  | x :: _, 0 => x
  | _ :: L, i + 1 => ag L i
def ac2 : Option Value → Bool
  | some (.long _) => true
  | some (.double _) => true
  | _ => false
def as1 : aL → Nat → Value → aL
  | [], _, _ => []
  | _ :: L, 0, v => some v :: L
  | x :: L, i + 1, v => (bif Nat.beq i 0 then (bif ac2 x then none else x) else x) :: as1 L i v
def a0 : aL → aL
  | [] => []
  | _ :: L => none :: L
def as2 : aL → Nat → Value → aL
  | [], _, _ => []
  | _ :: L, 0, v => some v :: a0 L
  | x :: L, i + 1, v => (bif Nat.beq i 0 then (bif ac2 x then none else x) else x) :: as2 L i v
/-- forget what a mask says -/
def amk : List Bool → aL → aL
  | true :: b, _ :: L => none :: amk b L
  | false :: b, x :: L => x :: amk b L
  | [], L => L
  | _, [] => []
def ap (A : Nat → Nat → Int32) (o : Nat) (f : Nat → Int32) : Nat → Nat → Int32 := fun o' => if o' = o then f else A o'
def au (A : Nat → Nat → Int32) (o k : Nat) (v : Int32) : Nat → Nat → Int32 := ap A o (upd (A o) k v)
def ar (R : Nat → Nat → Option Nat) (o k : Nat) (v : Option Nat) : Nat → Nat → Option Nat := fun o' k' => if o' = o ∧ k' = k then v else R o' k'
def cv (ad : Nat → Nat) : Value → Value
  | .ref a => .ref (ad a)
  | v => v
/-! ops -/
def o_no : aO := fun _ _ _ _ _ => False
def o_mk (b : List Bool) (o : aO) : aO := fun L st μ K E => o (amk b L) st μ K E
def o_ii (v : Int32) (nx : Nat) : aO := fun L st μ K _ => K nx L (.int v :: st) μ
def o_lc (v : Int64) (nx : Nat) : aO := fun L st μ K _ => K nx L (.long v :: st) μ
def o_il (i nx : Nat) : aO := fun L st μ K _ => match ag L i with
  | some (.int x) => K nx L (.int x :: st) μ
  | _ => False
def o_ll (i nx : Nat) : aO := fun L st μ K _ => match ag L i with
  | some (.long x) => K nx L (.long x :: st) μ
  | _ => False
def o_al (i nx : Nat) : aO := fun L st μ K _ => match ag L i with
  | some (.ref x) => K nx L (.ref x :: st) μ
  | some .null => K nx L (.null :: st) μ
  | _ => False
def o_is (i nx : Nat) : aO := fun L st μ K _ => match st with
  | .int x :: t => K nx (as1 L i (.int x)) t μ
  | _ => False
def o_ls (i nx : Nat) : aO := fun L st μ K _ => match st with
  | .long x :: t => K nx (as2 L i (.long x)) t μ
  | _ => False
def o_as (i nx : Nat) : aO := fun L st μ K _ => match st with
  | .ref x :: t => K nx (as1 L i (.ref x)) t μ
  | .null :: t => K nx (as1 L i .null) t μ
  | _ => False
def o_inc (i : Nat) (v : Int32) (nx : Nat) : aO := fun L st μ K _ => match ag L i with
  | some (.int x) => K nx (as1 L i (.int (x + v))) st μ
  | _ => False
def o_bi (f : Int32 → Int32 → Int32) (nx : Nat) : aO := fun L st μ K _ => match st with
  | .int y :: .int x :: t => K nx L (.int (f x y) :: t) μ
  | _ => False
def o_ui (f : Int32 → Int32) (nx : Nat) : aO := fun L st μ K _ => match st with
  | .int x :: t => K nx L (.int (f x) :: t) μ
  | _ => False
def o_dv (nx : Nat) : aO := fun L st μ K _ => match st with
  | .int y :: .int x :: t => ¬ y = 0 ∧ K nx L (.int (x / y) :: t) μ
  | _ => False
def o_rm (nx : Nat) : aO := fun L st μ K _ => match st with
  | .int y :: .int x :: t => ¬ y = 0 ∧ K nx L (.int (x - x / y * y) :: t) μ
  | _ => False
def o_tl (f : Int32 → Int64) (nx : Nat) : aO := fun L st μ K _ => match st with
  | .int x :: t => K nx L (.long (f x) :: t) μ
  | _ => False
def o_ti (f : Int64 → Int32) (nx : Nat) : aO := fun L st μ K _ => match st with
  | .long x :: t => K nx L (.int (f x) :: t) μ
  | _ => False
def o_bl (f : Int64 → Int64 → Int64) (nx : Nat) : aO := fun L st μ K _ => match st with
  | .long y :: .long x :: t => K nx L (.long (f x y) :: t) μ
  | _ => False
def o_ldv (nx : Nat) : aO := fun L st μ K _ => match st with
  | .long y :: .long x :: t => ¬ y = 0 ∧ K nx L (.long (x / y) :: t) μ
  | _ => False
def o_lrm (nx : Nat) : aO := fun L st μ K _ => match st with
  | .long y :: .long x :: t => ¬ y = 0 ∧ K nx L (.long (x - x / y * y) :: t) μ
  | _ => False
def o_lcm (nx : Nat) : aO := fun L st μ K _ => match st with
  | .long y :: .long x :: t => K nx L (.int (lg_cmp x y) :: t) μ
  | _ => False
def o_dup (nx : Nat) : aO := fun L st μ K _ => match st with
  | v :: t => v.category = 1 ∧ K nx L (v :: v :: t) μ
  | _ => False
def o_dup2 (nx : Nat) : aO := fun L st μ K _ => match st with
  | v :: w :: t => v.category = 1 ∧ w.category = 1 ∧ K nx L (v :: w :: v :: w :: t) μ
  | _ => False
def o_pop (nx : Nat) : aO := fun L st μ K _ => match st with
  | v :: t => v.category = 1 ∧ K nx L t μ
  | _ => False
def o_if (q : Int32 → Prop) (tg nx : Nat) : aO := fun L st μ K _ => match st with
  | .int x :: t => (q x ∧ K tg L t μ) ∨ (¬ q x ∧ K nx L t μ)
  | _ => False
def o_ic (q : Int32 → Int32 → Prop) (tg nx : Nat) : aO := fun L st μ K _ => match st with
  | .int y :: .int x :: t => (q x y ∧ K tg L t μ) ∨ (¬ q x y ∧ K nx L t μ)
  | _ => False
def o_go (tg : Nat) : aO := fun L st μ K _ => K tg L st μ
def o_nul (tg nx : Nat) : aO := fun L st μ K _ => match st with
  | .ref _ :: t => K nx L t μ
  | .null :: t => K tg L t μ
  | _ => False
def aSw (x : Int32) (k : Nat → Prop) : List (Int32 × Nat) → Nat → Prop
  | [], d => k d
  | q :: l, d => (x = q.1 ∧ k q.2) ∨ (¬ x = q.1 ∧ aSw x k l d)
def o_sw (l : List (Int32 × Nat)) (d : Nat) : aO := fun L st μ K _ => match st with
  | .int x :: t => aSw x (fun pc => K pc L t μ) l d
  | _ => False
def o_gI (g k nx : Nat) : aO := fun L st μ K _ => match st with
  | .ref o :: t => (μ.2.2 o).1 = g + 4 ∧ K nx L (.int (μ.1 o k) :: t) μ
  | _ => False
def o_gF (g off nx : Nat) : aO := fun L st μ K _ => match st with
  | .ref o :: t => (μ.2.2 o).1 = g + 4 ∧ K nx L (.ref (o + off) :: t) μ
  | _ => False
def o_gR (g k nx : Nat) : aO := fun L st μ K _ => match st with
  | .ref o :: t => (μ.2.2 o).1 = g + 4 ∧ ((μ.2.1 o k = none ∧ K nx L (.null :: t) μ) ∨ ∃ a, μ.2.1 o k = some a ∧ K nx L (.ref a :: t) μ)
  | _ => False
def o_pI (g k nx : Nat) : aO := fun L st μ K _ => match st with
  | .int v :: .ref o :: t => (μ.2.2 o).1 = g + 4 ∧ K nx L t (au μ.1 o k v, μ.2)
  | _ => False
def o_pZ (g k nx : Nat) : aO := fun L st μ K _ => match st with
  | .int v :: .ref o :: t => (v = 0 ∨ v = 1) ∧ (μ.2.2 o).1 = g + 4 ∧ K nx L t (au μ.1 o k v, μ.2)
  | _ => False
def o_pR (g k nx : Nat) : aO := fun L st μ K _ => match st with
  | .ref a :: .ref o :: t => (μ.2.2 o).1 = g + 4 ∧ K nx L t (μ.1, ar μ.2.1 o k (some a), μ.2.2)
  | _ => False
def o_iald (nx : Nat) : aO := fun L st μ K _ => match st with
  | .int i :: .ref a :: t => (μ.2.2 a).1 = 1 ∧ vp_in i (μ.2.2 a).2 ∧ K nx L (.int (μ.1 a i.toNatClampNeg) :: t) μ
  | _ => False
def o_iast (nx : Nat) : aO := fun L st μ K _ => match st with
  | .int x :: .int i :: .ref a :: t => (μ.2.2 a).1 = 1 ∧ vp_in i (μ.2.2 a).2 ∧ K nx L t (au μ.1 a i.toNatClampNeg x, μ.2)
  | _ => False
def o_aald (g nx : Nat) : aO := fun L st μ K _ => match st with
  | .int i :: .ref a :: t => (μ.2.2 a).1 = g ∧ vp_in i (μ.2.2 a).2 ∧ ∃ b, μ.2.1 a i.toNatClampNeg = some b ∧ K nx L (.ref b :: t) μ
  | _ => False
def o_alen (nx : Nat) : aO := fun L st μ K _ => match st with
  | .ref a :: t => (μ.2.2 a).1 = 1 ∧ K nx L (.int (Int32.ofNat (μ.2.2 a).2) :: t) μ
  | _ => False
def o_max (nx : Nat) : aO := fun L st μ K _ => match st with
  | .int y :: .int x :: t => (t.map fun v => v.category).sum ≤ 8 ∧ K nx L (.int (if x < y then y else x) :: t) μ
  | _ => False
def o_min (nx : Nat) : aO := fun L st μ K _ => match st with
  | .int y :: .int x :: t => (t.map fun v => v.category).sum ≤ 8 ∧ K nx L (.int (if y < x then y else x) :: t) μ
  | _ => False
def o_cpy (nx : Nat) : aO := fun L st μ K _ => match st with
  | .int n :: .int dp :: .ref b :: .int sp :: .ref a :: t => (t.map fun v => v.category).sum ≤ 8 ∧ (μ.2.2 a).1 = 1 ∧ (μ.2.2 b).1 = 1 ∧ ¬ sp < 0 ∧ ¬ dp < 0 ∧ ¬ n < 0 ∧ sp.toNatClampNeg + n.toNatClampNeg ≤ (μ.2.2 a).2 ∧ dp.toNatClampNeg + n.toNatClampNeg ≤ (μ.2.2 b).2 ∧
      K nx L t (ap μ.1 b (va_cpy (μ.1 a) (μ.1 b) sp.toNatClampNeg dp.toNatClampNeg n.toNatClampNeg), μ.2)
  | _ => False
def aRest (t : List Value) : Prop := (t.map fun v => v.category).sum ≤ 8
/-- a call of a static method of n arguments -/
def o_cS (C : aC) (n nx : Nat) : aO := fun L st μ K _ => ∃ (r : Option Value) (μ' : aM), n ≤ st.length ∧ aRest (st.drop n) ∧ C (st.take n).reverse μ r μ' ∧ K nx L (r.toList ++ st.drop n) μ'
/-- a call of a method of an object of class g, n arguments behind it -/
def o_cV (C : aC) (g n nx : Nat) : aO := fun L st μ K _ => ∃ (b : Nat) (t : List Value) (r : Option Value) (μ' : aM), st.drop n = .ref b :: t ∧ (μ.2.2 b).1 = g + 4 ∧ aRest t ∧ C (.ref b :: (st.take n).reverse) μ r μ' ∧ K nx L (r.toList ++ t) μ'
def o_ri : aO := fun _ st μ _ E => match st with
  | [.int v] => E (some (.int v)) μ
  | _ => False
def o_rz : aO := fun _ st μ _ E => match st with
  | [.int v] => (v = 0 ∨ v = 1) ∧ E (some (.int v)) μ
  | _ => False
def o_rl : aO := fun _ st μ _ E => match st with
  | [.long v] => E (some (.long v)) μ
  | _ => False
def o_rv : aO := fun _ st μ _ E => match st with
  | [] => E none μ
  | _ => False
/-! running -/
abbrev aT : Type := List (Nat × (Instr × Nat) × aO)
def alk : aT → Nat → aO
  | [], _ => o_no
  | q :: l, pc => bif Nat.beq q.1 pc then q.2.2 else alk l pc
def arun (tb : aT) (E : aR) : Nat → aK
  | 0 => fun _ _ _ _ => False
  | n + 1 => fun pc L st μ => alk tb pc L st μ (arun tb E n) E
def aw (tb : aT) (E : aR) (pc : Nat) (L : aL) (st : List Value) (μ : aM) : Prop := ∃ n, arun tb E n pc L st μ
/-- the locals at a method's entry -/
def aent : List Value → Nat → aL
  | [], n => List.replicate n none
  | v :: l, n => some v :: (bif Nat.beq v.category 2 then none :: aent l (n - 2) else aent l (n - 1))
def aCal (tb : aT) (n : Nat) : aC := fun args μ r μ' => aw tb (fun r1 μ1 => r1 = r ∧ μ1 = μ') 0 (aent args n) [] μ
/-! soundness: the locals -/
theorem ac2_cat (w : Value) : ac2 (some w) = (w.category == 2) := by cases w <;> rfl
theorem cv_cat (ad : Nat → Nat) (w : Value) : (cv ad w).category = w.category := by cases w <;> rfl
theorem ag_as1 : ∀ (L : aL) (i k : Nat) (v w : Value), ag (as1 L i v) k = some w → (k = i ∧ w = v) ∨ (¬ k = i ∧ ag L k = some w ∧ ¬ (k + 1 = i ∧ ac2 (some w) = true))
  | [], i, k, v, w, h => by simp [as1, ag] at h
  | x :: L, 0, 0, v, w, h => by
    simp only [as1, ag, Option.some.injEq] at h
    exact Or.inl ⟨rfl, h.symm⟩
  | x :: L, 0, k + 1, v, w, h => Or.inr ⟨by omega, h, by omega⟩
  | x :: L, i + 1, 0, v, w, h => by
    refine Or.inr ⟨by omega, ?_⟩
    cases i with
    | zero =>
      have h2 : (bif ac2 x then none else x) = some w := h
      cases hx : ac2 x with
      | true => rw [hx] at h2; cases h2
      | false =>
        rw [hx] at h2
        have h3 : x = some w := h2
        refine ⟨h3, fun q => ?_⟩
        rw [← h3, hx] at q
        exact Bool.false_ne_true q.2
    | succ i => exact ⟨h, by omega⟩
  | x :: L, i + 1, k + 1, v, w, h => by
    rcases ag_as1 L i k v w h with ⟨h1, h2⟩ | ⟨h1, h2, h3⟩
    · exact Or.inl ⟨by omega, h2⟩
    · exact Or.inr ⟨by omega, h2, fun q => h3 ⟨by omega, q.2⟩⟩
theorem ag_a0 (L : aL) (k : Nat) (w : Value) (h : ag (a0 L) k = some w) : ¬ k = 0 ∧ ag L k = some w := by
  cases L with
  | nil => cases h
  | cons x L =>
    cases k with
    | zero => cases h
    | succ k => exact ⟨by omega, h⟩
theorem ag_as2 : ∀ (L : aL) (i k : Nat) (v w : Value), ag (as2 L i v) k = some w → (k = i ∧ w = v) ∨ (¬ k = i ∧ ¬ k = i + 1 ∧ ag L k = some w ∧ ¬ (k + 1 = i ∧ ac2 (some w) = true))
  | [], i, k, v, w, h => by simp [as2, ag] at h
  | x :: L, 0, 0, v, w, h => by
    simp only [as2, ag, Option.some.injEq] at h
    exact Or.inl ⟨rfl, h.symm⟩
  | x :: L, 0, k + 1, v, w, h => by
    obtain ⟨h1, h2⟩ := ag_a0 L k w h
    exact Or.inr ⟨by omega, by omega, h2, by omega⟩
  | x :: L, i + 1, 0, v, w, h => by
    refine Or.inr ⟨by omega, by omega, ?_⟩
    cases i with
    | zero =>
      have h2 : (bif ac2 x then none else x) = some w := h
      cases hx : ac2 x with
      | true => rw [hx] at h2; cases h2
      | false =>
        rw [hx] at h2
        have h3 : x = some w := h2
        refine ⟨h3, fun q => ?_⟩
        rw [← h3, hx] at q
        exact Bool.false_ne_true q.2
    | succ i => exact ⟨h, by omega⟩
  | x :: L, i + 1, k + 1, v, w, h => by
    rcases ag_as2 L i k v w h with ⟨h1, h2⟩ | ⟨h1, h2, h3, h4⟩
    · exact Or.inl ⟨by omega, h2⟩
    · exact Or.inr ⟨by omega, by omega, h3, fun q => h4 ⟨by omega, q.2⟩⟩
theorem ag_amk : ∀ (b : List Bool) (L : aL) (k : Nat) (w : Value), ag (amk b L) k = some w → ag L k = some w
  | [], L, k, w, h => by cases L <;> exact h
  | true :: b, [], k, w, h => by cases h
  | false :: b, [], k, w, h => by cases h
  | true :: b, x :: L, 0, w, h => by cases h
  | true :: b, x :: L, k + 1, w, h => ag_amk b L k w h
  | false :: b, x :: L, 0, w, h => h
  | false :: b, x :: L, k + 1, w, h => ag_amk b L k w h
theorem as1_len : ∀ (L : aL) (i : Nat) (v : Value), (as1 L i v).length = L.length
  | [], _, _ => rfl
  | _ :: _, 0, _ => rfl
  | _ :: L, i + 1, v => congrArg (· + 1) (as1_len L i v)
theorem a0_len (L : aL) : (a0 L).length = L.length := by cases L <;> rfl
theorem as2_len : ∀ (L : aL) (i : Nat) (v : Value), (as2 L i v).length = L.length
  | [], _, _ => rfl
  | _ :: L, 0, _ => congrArg (· + 1) (a0_len L)
  | _ :: L, i + 1, v => congrArg (· + 1) (as2_len L i v)
theorem amk_len : ∀ (b : List Bool) (L : aL), (amk b L).length = L.length
  | [], L => by cases L <;> rfl
  | true :: b, [] => rfl
  | false :: b, [] => rfl
  | true :: b, _ :: L => congrArg (· + 1) (amk_len b L)
  | false :: b, _ :: L => congrArg (· + 1) (amk_len b L)
def aLv (ad : Nat → Nat) (n : Nat) (ls : Array Slot) (L : aL) : Prop := ls.size = n ∧ lv_wf ls ∧ ∀ (k : Nat) (v : Value), ag L k = some v → ls[k]? = some (.val (cv ad v))
def asc (ad : Nat → Nat) : Nat → aL → List (Nat × Value)
  | _, [] => []
  | i, none :: L => asc ad (i + 1) L
  | i, some v :: L => (i, cv ad v) :: asc ad (i + 1) L
theorem asc_mem {ad : Nat → Nat} : ∀ (L : aL) (i : Nat) (q : Nat × Value), q ∈ asc ad i L → ∃ (k : Nat) (v : Value), q = (i + k, cv ad v) ∧ ag L k = some v
  | [], _, _, h => by cases h
  | none :: L, i, q, h => by
    obtain ⟨k, v, h1, h2⟩ := asc_mem L (i + 1) q h
    exact ⟨k + 1, v, by rw [h1, show i + 1 + k = i + (k + 1) by omega], h2⟩
  | some v :: L, i, q, h => by
    rcases List.mem_cons.mp h with h | h
    · exact ⟨0, v, h, rfl⟩
    · obtain ⟨k, v, h1, h2⟩ := asc_mem L (i + 1) q h
      exact ⟨k + 1, v, by rw [h1, show i + 1 + k = i + (k + 1) by omega], h2⟩
theorem asc_of {ad : Nat → Nat} : ∀ (L : aL) (i k : Nat) (v : Value), ag L k = some v → (i + k, cv ad v) ∈ asc ad i L
  | [], _, _, _, h => by cases h
  | none :: L, i, 0, v, h => by cases h
  | some x :: L, i, 0, v, h => by
    cases h
    exact List.mem_cons_self
  | none :: L, i, k + 1, v, h => by
    have := asc_of (ad := ad) L (i + 1) k v h
    rw [show i + 1 + k = i + (k + 1) by omega] at this
    exact this
  | some x :: L, i, k + 1, v, h => by
    have := asc_of (ad := ad) L (i + 1) k v h
    rw [show i + 1 + k = i + (k + 1) by omega] at this
    exact List.mem_cons_of_mem _ this
theorem aLv.has {ad : Nat → Nat} {n : Nat} {ls : Array Slot} {L : aL} (h : aLv ad n ls L) : lv_has ls n (asc ad 0 L) := by
  refine ⟨h.1, h.2.1, fun q hq => ?_⟩
  obtain ⟨k, v, rfl, h2⟩ := asc_mem L 0 q hq
  rw [Nat.zero_add]
  exact h.2.2 k v h2
theorem aLv.st1 {ad : Nat → Nat} {n i : Nat} {ls : Array Slot} {L : aL} {v : Value} (h : lv_has ls n ((i, cv ad v) :: (asc ad 0 L).filter (fun q => !(q.1 == i) && !(q.1 + 1 == i && q.2.category == 2)))) : aLv ad n ls (as1 L i v) := by
  refine ⟨h.1, h.2.1, fun k w hk => ?_⟩
  rcases ag_as1 L i k v w hk with ⟨rfl, rfl⟩ | ⟨h1, h2, h3⟩
  · exact h.2.2 (k, cv ad w) List.mem_cons_self
  · have hm := asc_of (ad := ad) L 0 k w h2
    rw [Nat.zero_add] at hm
    refine h.2.2 (k, cv ad w) (List.mem_cons_of_mem _ (List.mem_filter.mpr ⟨hm, ?_⟩))
    rw [ac2_cat] at h3
    simp only [cv_cat, Bool.and_eq_true, Bool.not_eq_true', beq_eq_false_iff_ne, ne_eq, Bool.and_eq_false_iff]
    refine ⟨h1, ?_⟩
    by_cases q : k + 1 = i
    · exact Or.inr (fun z => h3 ⟨q, by rw [z]; rfl⟩)
    · exact Or.inl q
theorem aLv.st2 {ad : Nat → Nat} {n i : Nat} {ls : Array Slot} {L : aL} {v : Value} (h : lv_has ls n ((i, cv ad v) :: (asc ad 0 L).filter (fun q => !(q.1 == i) && (!(q.1 == i + 1) && !(q.1 + 1 == i && q.2.category == 2))))) : aLv ad n ls (as2 L i v) := by
  refine ⟨h.1, h.2.1, fun k w hk => ?_⟩
  rcases ag_as2 L i k v w hk with ⟨rfl, rfl⟩ | ⟨h1, h0, h2, h3⟩
  · exact h.2.2 (k, cv ad w) List.mem_cons_self
  · have hm := asc_of (ad := ad) L 0 k w h2
    rw [Nat.zero_add] at hm
    refine h.2.2 (k, cv ad w) (List.mem_cons_of_mem _ (List.mem_filter.mpr ⟨hm, ?_⟩))
    rw [ac2_cat] at h3
    simp only [cv_cat, Bool.and_eq_true, Bool.not_eq_true', beq_eq_false_iff_ne, ne_eq, Bool.and_eq_false_iff]
    refine ⟨h1, h0, ?_⟩
    by_cases q : k + 1 = i
    · exact Or.inr (fun z => h3 ⟨q, by rw [z]; rfl⟩)
    · exact Or.inl q
theorem aLv.mk {ad : Nat → Nat} {n : Nat} {ls : Array Slot} {L : aL} (b : List Bool) (h : aLv ad n ls L) : aLv ad n ls (amk b L) := ⟨h.1, h.2.1, fun k v hk => h.2.2 k v (ag_amk b L k v hk)⟩
/-! soundness: the world -/
abbrev aZ : Type := ClassId × ClassId × ClassId
/-- of a class and a field: 0 an int, 1 a reference that changes, o + 2 the place behind by o -/
def alay : Nat → Nat → Nat
  | 0, k => if k < 9 then k + 3 else if k < 14 then 0 else 1
  | 1, k => if k < 5 then k + 3 else 0
  | 2, k => if k = 0 then 3 else 0
  | 3, k => k + 3
  | 4, k => [3, 13, 23, 0, 39, 0, 33, 40, 41].getD k 0
  | _, k => [0, 3, 4, 5, 6, 0, 0, 7, 0, 8, 9, 0, 0, 0, 10, 11, 12, 13, 14, 15, 0, 0, 0, 0, 16, 17, 0, 0, 0, 18, 19, 20, 21, 22, 0].getD k 0
def anf : Nat → Nat
  | 0 => 15
  | 1 => 8
  | 2 => 3
  | 3 => 3
  | 4 => 9
  | _ => 35
def aFv (ad : Nat → Nat) (μ : aM) (g o k : Nat) : Value := match alay g k with
  | 0 => .int (μ.1 o k)
  | 1 => va_rf ((μ.2.1 o k).map ad)
  | j + 2 => .ref (ad (o + j))
def aF (ad : Nat → Nat) (μ : aM) (g o : Nat) : List Value := (List.range (anf g)).map (aFv ad μ g o)
/-- an object in the making: its fields as they stand -/
def aRv (ad : Nat → Nat) (μ : aM) (g o k : Nat) : Value := match alay g k with
  | 0 => .int (μ.1 o k)
  | _ => va_rf ((μ.2.1 o k).map ad)
def aRw (ad : Nat → Nat) (μ : aM) (g o : Nat) : List Value := (List.range (anf g)).map (aRv ad μ g o)
/-- a place of shape 0: no thing at all, or with (0, g + 1) an object of class g in the making -/
def aE0 (ad : Nat → Nat) (μ : aM) (o : Nat) : va_E := match (μ.2.2 o).2 with
  | 0 => .inr (0, [])
  | g + 1 => .inr (g, aRw ad μ g o)
def aE (Z : aZ) (ad : Nat → Nat) (μ : aM) (o : Nat) : va_E := match (μ.2.2 o).1 with
  | 0 => aE0 ad μ o
  | 1 => .inl (Z.1, (μ.2.2 o).2, .inl (μ.1 o))
  | 2 => .inl (Z.2.1, (μ.2.2 o).2, .inr (.inr (.inr (.inr (fun i => (μ.2.1 o i).map ad)))))
  | 3 => .inl (Z.2.2, (μ.2.2 o).2, .inr (.inr (.inr (.inr (fun i => (μ.2.1 o i).map ad)))))
  | g + 4 => .inr (g, aF ad μ g o)
def aWs (Z : aZ) (ad : Nat → Nat) (P : List Nat) (μ : aM) : va_W := P.map (fun o => (ad o, aE Z ad μ o))
def aWd (D : va_G) (Z : aZ) (ad : Nat → Nat) (P : List Nat) (μ : aM) (H : Heap) : Prop := va_P D vwCl (aWs Z ad P μ) H
def aTy (Z : aZ) : List (ClassId × FieldType) := [(Z.1, .int), (Z.2.1, .object RX3), (Z.2.2, .object RX2)]
theorem aE_int {Z : aZ} {ad : Nat → Nat} {μ : aM} {o : Nat} (h : (μ.2.2 o).1 = 1) : aE Z ad μ o = .inl (Z.1, (μ.2.2 o).2, .inl (μ.1 o)) := by
  unfold aE; rw [h]
theorem aE_r2 {Z : aZ} {ad : Nat → Nat} {μ : aM} {o : Nat} (h : (μ.2.2 o).1 = 2) : aE Z ad μ o = .inl (Z.2.1, (μ.2.2 o).2, .inr (.inr (.inr (.inr (fun i => (μ.2.1 o i).map ad))))) := by
  unfold aE; rw [h]
theorem aE_r3 {Z : aZ} {ad : Nat → Nat} {μ : aM} {o : Nat} (h : (μ.2.2 o).1 = 3) : aE Z ad μ o = .inl (Z.2.2, (μ.2.2 o).2, .inr (.inr (.inr (.inr (fun i => (μ.2.1 o i).map ad))))) := by
  unfold aE; rw [h]
theorem aE_obj {Z : aZ} {ad : Nat → Nat} {μ : aM} {o g : Nat} (h : (μ.2.2 o).1 = g + 4) : aE Z ad μ o = .inr (g, aF ad μ g o) := by
  unfold aE; rw [h]
theorem aFv_congr {ad : Nat → Nat} {μ μ' : aM} {g o k : Nat} (h1 : μ'.1 o k = μ.1 o k) (h2 : μ'.2.1 o k = μ.2.1 o k) : aFv ad μ' g o k = aFv ad μ g o k := by
  unfold aFv; rw [h1, h2]
theorem aE_congr {Z : aZ} {ad : Nat → Nat} {μ μ' : aM} {o : Nat} (h1 : μ'.1 o = μ.1 o) (h2 : μ'.2.1 o = μ.2.1 o) (h3 : μ'.2.2 o = μ.2.2 o) : aE Z ad μ' o = aE Z ad μ o := by
  have h5 : ∀ g, aRv ad μ' g o = aRv ad μ g o := fun g => funext fun k => by unfold aRv; rw [h1, h2]
  have h6 : aE0 ad μ' o = aE0 ad μ o := by
    unfold aE0 aRw
    rw [h3]
    simp only [h5]
  unfold aE aF
  rw [h1, h2, h3, h6]
  have h4 : ∀ g, aFv ad μ' g o = aFv ad μ g o := fun g => funext fun k => aFv_congr (by rw [h1]) (by rw [h2])
  simp only [h4]
theorem aWs_at {Z : aZ} {ad : Nat → Nat} {P : List Nat} {μ : aM} {o : Nat} (h : o ∈ P) : ∃ q : Nat, P[q]? = some o ∧ (aWs Z ad P μ)[q]? = some (ad o, aE Z ad μ o) := by
  obtain ⟨q, hq⟩ := List.getElem?_of_mem h
  exact ⟨q, hq, by unfold aWs; rw [List.getElem?_map, hq]; rfl⟩
theorem aWs_set {Z : aZ} {ad : Nat → Nat} {P : List Nat} {μ μ' : aM} {o q : Nat} {e : va_E} (hn : P.Nodup) (hq : P[q]? = some o) (he : aE Z ad μ' o = e) (ho : ∀ o', ¬ o' = o → aE Z ad μ' o' = aE Z ad μ o') : (aWs Z ad P μ).set q (ad o, e) = aWs Z ad P μ' := by
  unfold aWs
  refine List.ext_getElem? fun i => ?_
  rw [List.getElem?_set]
  have hql : q < P.length := (List.getElem?_eq_some_iff.mp hq).1
  by_cases hi : q = i
  · subst hi
    rw [if_pos rfl, if_pos (by rw [List.length_map]; exact hql), List.getElem?_map, hq, ← he]
    rfl
  · rw [if_neg hi, List.getElem?_map, List.getElem?_map]
    cases hx : P[i]? with
    | none => rfl
    | some x =>
      have hne : ¬ x = o := by
        intro hxo
        subst hxo
        have hil : i < P.length := (List.getElem?_eq_some_iff.mp hx).1
        exact hi ((List.getElem?_inj hql hn).mp (hq.trans hx.symm))
      show some (ad x, aE Z ad μ x) = some (ad x, aE Z ad μ' x)
      rw [ho x hne]
theorem aF_len {ad : Nat → Nat} {μ : aM} {g o : Nat} : (aF ad μ g o).length = anf g := by unfold aF; rw [List.length_map, List.length_range]
theorem aF_at {ad : Nat → Nat} {μ : aM} {g o k : Nat} (hk : k < anf g) : (aF ad μ g o)[k]? = some (aFv ad μ g o k) := by
  unfold aF
  rw [List.getElem?_map, List.getElem?_range hk]
  rfl
theorem aF_set {ad : Nat → Nat} {μ μ' : aM} {g o k : Nat} {v : Value} (hk : k < anf g) (hv : aFv ad μ' g o k = v) (ho : ∀ j, ¬ j = k → aFv ad μ' g o j = aFv ad μ g o j) : (aF ad μ g o).set k v = aF ad μ' g o := by
  refine List.ext_getElem? fun i => ?_
  rw [List.getElem?_set, aF_len]
  by_cases hi : k = i
  · subst hi
    rw [if_pos rfl, if_pos hk, aF_at hk, hv]
  · rw [if_neg hi]
    by_cases hl : i < anf g
    · rw [aF_at hl, aF_at hl, ho i (fun z => hi z.symm)]
    · rw [List.getElem?_eq_none (by rw [aF_len]; omega), List.getElem?_eq_none (by rw [aF_len]; omega)]
theorem ap_ne {A : Nat → Nat → Int32} {o o' : Nat} {f : Nat → Int32} (h : ¬ o' = o) : ap A o f o' = A o' := by unfold ap; rw [if_neg h]
theorem ap_eq {A : Nat → Nat → Int32} {o : Nat} {f : Nat → Int32} : ap A o f o = f := by unfold ap; rw [if_pos rfl]
theorem au_eq {A : Nat → Nat → Int32} {o k o' k' : Nat} {v : Int32} : au A o k v o' k' = if o' = o ∧ k' = k then v else A o' k' := by
  unfold au ap upd
  by_cases h : o' = o
  · subst h
    by_cases h2 : k' = k
    · simp [h2]
    · simp [h2]
  · simp [h]
theorem ar_ne {R : Nat → Nat → Option Nat} {o k o' : Nat} {v : Option Nat} (h : ¬ o' = o) : ar R o k v o' = R o' := by
  funext j
  unfold ar
  rw [if_neg (fun z => h z.1)]
def aA (ad : Nat → Nat) (P : List Nat) (sz : Nat) : Nat → Prop := fun q => (∃ k, k ∈ P ∧ q = ad k) ∨ sz ≤ q
theorem aD_of {Z : aZ} {ad : Nat → Nat} {P : List Nat} {μ : aM} {A : Nat → Prop} (hn : P.Nodup) (hi : ∀ i j, i ∈ P → j ∈ P → ad i = ad j → i = j) (hA : ∀ k ∈ P, A (ad k)) : va_D A (aWs Z ad P μ) := by
  unfold aWs
  have key : ∀ (k : Nat) (q : Nat × va_E), (P.map (fun o => (ad o, aE Z ad μ o)))[k]? = some q → ∃ o, P[k]? = some o ∧ q.1 = ad o := by
    intro k q hk
    rw [List.getElem?_map] at hk
    cases hx : P[k]? with
    | none => rw [hx] at hk; cases hk
    | some o => rw [hx] at hk; cases hk; exact ⟨o, rfl, rfl⟩
  refine ⟨fun i j p q hp hq h => ?_, fun k q hk => ?_⟩
  · obtain ⟨a, h1, h2⟩ := key i p hp
    obtain ⟨b, h3, h4⟩ := key j q hq
    have hab := hi a b (List.mem_of_getElem? h1) (List.mem_of_getElem? h3) (h2.symm.trans (h.trans h4))
    subst hab
    exact (List.getElem?_inj (List.getElem?_eq_some_iff.mp h1).1 hn).mp (h1.trans h3.symm)
  · obtain ⟨a, h1, h2⟩ := key k q hk
    rw [h2]
    exact hA a (List.mem_of_getElem? h1)
/-! what lies outside: the static table, the words -/
def aTab (j : Nat) : Int32 := [1, 3, 5, 11, 21, 33].getD j 0
def aStx : List String := ["needs", "takes", "judges", "or", "and", "not", "hard", "things", "mind", "lost", "day", "more"]
def aSix : List Nat := [113, 119, 121, 123, 125, 127, 129, 131, 133, 135, 137, 139]
def aSby : List (List Int32) := [[110, 101, 101, 100, 115], [116, 97, 107, 101, 115], [106, 117, 100, 103, 101, 115], [111, 114], [97, 110, 100], [110, 111, 116], [104, 97, 114, 100], [116, 104, 105, 110, 103, 115], [109, 105, 110, 100], [108, 111, 115, 116], [100, 97, 121], [109, 111, 114, 101]]
def aSle : List Nat := [5, 5, 6, 2, 3, 3, 4, 6, 4, 4, 3, 4]
def aGl (ad : Nat → Nat) (A : Nat → Prop) (U : State) (H : Heap) : Prop :=
  va_Z RX0 "IS_ONE_OF" "[I" (.ref (ad 1000)) A U H ∧ va_T .int (ad 1000) 6 (fun j => .int (aTab j)) A U H ∧
  vk_S 12 aSle aSby (fun i => ad (1001 + i)) (fun i => ad (1101 + i)) A U H ∧ (∀ i, i < 12 → vk_R RX1 (aSix.getD i 0) (aStx.getD i "") (ad (1001 + i)) U) ∧
  va_Z "java/lang/String" "COMPACT_STRINGS" "Z" (.int 1) A U H ∧ (va_Z "jdk/internal/util/Preconditions" "SIOOBE_FORMATTER" "Ljava/util/function/BiFunction;" .null A U H ∨ va_Z "jdk/internal/util/Preconditions" "SIOOBE_FORMATTER" "Ljava/util/function/BiFunction;" (.ref (ad 1200)) A U H)
theorem aGl.go {ad : Nat → Nat} {A B : Nat → Prop} {s U : State} {H : Heap} (h : aGl ad A s s.heap) (hq : ∀ a : Nat, a < s.heap.size → ¬ A a → H[a]? = s.heap[a]?) (hW : s.WarmedH U.vm) (hU : U.heap = H) (hAB : ∀ q, B q → A q) : aGl ad B U U.heap := by
  obtain ⟨h1, h2, h3, h4, h5, h6⟩ := h
  have hvm := hW.alike
  rw [hU]
  exact ⟨((h1.kept hq).moved hvm).narrow hAB, ((h2.kept hq).moved hvm).narrow hAB, ((h3.kept hq).moved hvm).narrow hAB, fun i hi => (h4 i hi).warm hW, ((h5.kept hq).moved hvm).narrow hAB, h6.elim (fun z => Or.inl (((z.kept hq).moved hvm).narrow hAB)) (fun z => Or.inr (((z.kept hq).moved hvm).narrow hAB))⟩
