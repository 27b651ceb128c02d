/-- the first case that isn't there, of m from k on -/
def freV (v : aV) : Nat → Nat → Option Nat
  | 0, _ => none
  | m + 1, k => if v 5 k = 0 then some k else freV v m (k + 1)
def filV (v : aV) (c : Nat) (x y : Int32) : aV := au (au (au v 5 c x) 6 c y) 7 c 0
section MD
variable {A A' A1 A2 B C D : Nat → Nat → Int32} {R R' R1 : Nat → Nat → Option Nat} {G : Nat → Nat × Nat} {n n' t T w t' : Nat} {W : Nat → Nat → List Nat} {Λ : aLm} {v u vx vm : aV}
theorem fre_lt : ∀ (m k : Nat) {c : Nat}, freV v m k = some c → c < k + m ∧ v 5 c = 0
  | 0, _, _, h => by cases h
  | m + 1, k, c, h => by
    unfold freV at h
    by_cases h5 : v 5 k = 0
    · rw [if_pos h5] at h
      cases h
      exact ⟨by omega, h5⟩
    · rw [if_neg h5] at h
      have := fre_lt m (k + 1) h
      exact ⟨by omega, this.2⟩
theorem lX4_fil {E : aR} (hJ : sJ n t T W A R G) {x1 x2 : Int32} (r : Option Nat) (hN : r = none → E (some (.int (-4))) (A, R, G)) (hS : ∀ c, r = some c → E (some (.int (nI c))) (au (au (au (au A 7 c x1) 8 c x2) 9 c 0) 1 10 (A 1 10 ||| ((1 : Int32) <<< (nI c &&& 31))), R, G)) :
    ∀ (m k : Nat), k + m = 8 → freV (vX A 1) m k = r → aw tX4_file E 26 [some (.ref 0), some (.int x1), some (.int x2), some (.int (nI k))] [] (A, R, G)
  | 0, k, hk, hr => by
    have hk2 : k = 8 := by omega
    subst hk2
    exact sX4_file_26 hJ.gs _ _ _ (br_t (by decide) (hN hr.symm))
  | m + 1, k, hk, hr => by
    unfold freV at hr
    refine sX4_file_26 hJ.gs _ _ _ (br_f (nI_ge (a := k) (b := 8) (by omega) (by omega)) ?_)
    by_cases h5 : vX A 1 5 k = 0
    · rw [if_pos h5] at hr
      refine br_f (fun q => ?_) ⟨vp_in_nI (by omega) (by omega), sX4_file_88 _ _ _ ?_⟩
      · obtain ⟨j, hj, he, h6⟩ := (thX_x hJ).mp q
        have he2 := (nI_eq (a := k) (b := j) (by omega) (by omega)).mp he
        subst he2
        exact h6 h5
      · simp (disch := omega) only [aua, nI_clamp]
        exact hS k hr.symm
    · rw [if_neg h5] at hr
      refine br_t (yCx hJ (by omega) h5) ?_
      rw [nI_1]
      exact lX4_fil hJ r hN hS m (k + 1) (by omega) hr
theorem lX5_fil {E : aR} (hG : aGS G) {x1 x2 : Int32} (r : Option Nat) (hN : r = none → E (some (.int (-4))) (A, R, G)) (hS : ∀ c, r = some c → E (some (.int (nI c))) (au (au (au A 52 (3 * c) x1) 52 (3 * c + 1) x2) 52 (3 * c + 2) 0, R, G)) :
    ∀ (m k : Nat), k + m = 8 → freV (vM A) m k = r → aw tX5_file E 26 [some (.ref 48), some (.int x1), some (.int x2), some (.int (nI k))] [] (A, R, G)
  | 0, k, hk, hr => by
    have hk2 : k = 8 := by omega
    subst hk2
    exact sX5_file_26 hG _ _ _ (br_t (by decide) (br_t rfl (hN hr.symm)))
  | m + 1, k, hk, hr => by
    unfold freV at hr
    refine sX5_file_26 hG _ _ _ (br_f (nI_ge (a := k) (b := 8) (by omega) (by omega)) ?_)
    by_cases h5 : vM A 5 k = 0
    · rw [if_pos h5] at hr
      refine br_f (fun q => (thM_iff (by omega)).mp q h5) (br_f (fun q => ?_) ?_)
      · have := (nI_eq (a := k) (b := 8) (by omega) (by omega)).mp q
        omega
      · simp (disch := omega) only [nI_mul3, nI_1, nI_2, nI_clamp]
        exact ⟨vp_in_nI (by omega) (by omega), vp_in_nI (by omega) (by omega), vp_in_nI (by omega) (by omega), hS k hr.symm⟩
    · rw [if_neg h5] at hr
      refine br_t ((thM_iff (by omega)).mpr h5) ?_
      rw [nI_1]
      exact lX5_fil hG r hN hS m (k + 1) (by omega) hr
theorem fre_c (h : eqV n v u) : ∀ m k, k + m ≤ 8 → freV v m k = freV u m k
  | 0, _, _ => rfl
  | m + 1, k, hk => by
    unfold freV
    rw [h.2.1 5 (by omega) (by omega) k (by omega), fre_c h m (k + 1) (by omega)]
theorem bt_or1 {x : Int32} {c i : Nat} (hc : c < 8) (hi : i < 32) : bt (x ||| ((1 : Int32) <<< (nI c &&& 31))) i = (bt x i || decide (i = c)) := by rw [b_or, b_one (by omega) hi]
theorem c_file (hJ : sJ n t T W A R G) (x1 x2 : Int32) : bthI T W CX4_file CX5_file [.int x1, .int x2] A R G := by
  have hG := hJ.gs
  have hn6 := hJ.n6
  by_cases h1 : 1 ≤ x1 ∧ x1 ≤ 1023
  case neg => exact qry0 hJ _ (aC_of (Nat.le_of_ble_eq_true rfl) fun E hE => sX4_file_0 _ _ (br_f h1 hE)) (aC_of (Nat.le_of_ble_eq_true rfl) fun E hE => sX5_file_0 _ _ (br_f h1 hE))
  by_cases h2 : 0 ≤ x2 ∧ x2 ≤ 99
  case neg => exact qry0 hJ _ (aC_of (Nat.le_of_ble_eq_true rfl) fun E hE => sX4_file_0 _ _ (br_t h1 (br_f h2 hE))) (aC_of (Nat.le_of_ble_eq_true rfl) fun E hE => sX5_file_0 _ _ (br_t h1 (br_f h2 hE)))
  have hfc := fre_c hJ.vv 8 0 (by omega)
  cases hr : freV (vX A 1) 8 0 with
  | none => exact qry0 hJ (-4) (aC_of (Nat.le_of_ble_eq_true rfl) fun E hE => sX4_file_0 _ _ (br_t h1 (br_t h2 (lX4_fil hJ none (fun _ => hE) (fun c h => by cases h) 8 0 (by omega) hr)))) (aC_of (Nat.le_of_ble_eq_true rfl) fun E hE => sX5_file_0 _ _ (br_t h1 (br_t h2 (lX5_fil hG none (fun _ => hE) (fun c h => by cases h) 8 0 (by omega) (hfc.symm.trans hr)))))
  | some c =>
    obtain ⟨hc, h5⟩ := fre_lt 8 0 hr
    have hc : c < 8 := by omega
    obtain ⟨k, hk1, hk, rfl⟩ := rgB (b := 1) (c := 1023) (by omega) h1 (by omega)
    have hX : ∀ o, (o < 1 ∨ 10 ≤ o) → au (au (au (au A 7 c (nI k)) 8 c x2) 9 c 0) 1 10 (A 1 10 ||| ((1 : Int32) <<< (nI c &&& 31))) o = A o := fun o h => by rw [au_o (by omega), au_o (by omega), au_o (by omega), au_o (by omega)]
    have hvm1 : vM (au (au (au (au A 7 c (nI k)) 8 c x2) 9 c 0) 1 10 (A 1 10 ||| ((1 : Int32) <<< (nI c &&& 31)))) = vM A := vM_go (hX _ (by omega)) (hX _ (by omega)) (hX _ (by omega)) (hX _ (by omega)) (hX _ (by omega))
    have hvx1 : vX (au (au (au (au A 7 c (nI k)) 8 c x2) 9 c 0) 1 10 (A 1 10 ||| ((1 : Int32) <<< (nI c &&& 31)))) 1 = filV (vX A 1) c (nI k) x2 := by
      generalize hB : au (au (au (au A 7 c (nI k)) 8 c x2) 9 c 0) 1 10 (A 1 10 ||| ((1 : Int32) <<< (nI c &&& 31))) = B
      have b10 : B 1 10 = A 1 10 ||| ((1 : Int32) <<< (nI c &&& 31)) := by rw [← hB, au_k]
      have b1 : ∀ j, ¬ j = 10 → B 1 j = A 1 j := fun j hj => by rw [← hB, au_j hj, au_o (by omega), au_o (by omega), au_o (by omega)]
      have b2 : ∀ o, 2 ≤ o → o < 7 → B o = A o := fun o h3 h4 => by rw [← hB, au_o (by omega), au_o (by omega), au_o (by omega), au_o (by omega)]
      have b7 : ∀ i, B 7 i = if i = c then nI k else A 7 i := fun i => by
        rw [← hB, au_o (by omega), au_o (by omega), au_o (by omega), au_eq]
        by_cases e : i = c
        · rw [if_pos ⟨rfl, e⟩, if_pos e]
        · rw [if_neg (fun q => e q.2), if_neg e]
      have b8 : ∀ i, B 8 i = if i = c then x2 else A 8 i := fun i => by
        rw [← hB, au_o (by omega), au_o (by omega), au_eq]
        by_cases e : i = c
        · rw [if_pos ⟨rfl, e⟩, if_pos e]
        · rw [if_neg (fun q => e q.2), if_neg e, au_o (by omega)]
      have b9 : ∀ i, B 9 i = if i = c then 0 else A 9 i := fun i => by
        rw [← hB, au_o (by omega), au_eq]
        by_cases e : i = c
        · rw [if_pos ⟨rfl, e⟩, if_pos e]
        · rw [if_neg (fun q => e q.2), if_neg e, au_o (by omega), au_o (by omega)]
      funext f i
      unfold filV
      rw [au_eq, au_eq, au_eq]
      rcases f with _ | _ | _ | _ | _ | _ | _ | _ | _ | f
      · rw [if_neg (by omega), if_neg (by omega), if_neg (by omega)]; exact congrFun (b2 2 (by omega) (by omega)) i
      · rw [if_neg (by omega), if_neg (by omega), if_neg (by omega)]; exact congrFun (b2 3 (by omega) (by omega)) i
      · rw [if_neg (by omega), if_neg (by omega), if_neg (by omega)]; exact congrFun (b2 4 (by omega) (by omega)) i
      · rw [if_neg (by omega), if_neg (by omega), if_neg (by omega)]; exact congrFun (b2 5 (by omega) (by omega)) i
      · rw [if_neg (by omega), if_neg (by omega), if_neg (by omega)]; exact congrFun (b2 6 (by omega) (by omega)) i
      · rw [if_neg (by omega), if_neg (by omega)]
        show (if i < 8 ∧ bt (B 1 10) i = true then B 7 i else 0) = _
        rw [b10, b7]
        by_cases e : i = c
        · subst e
          have hb : i < 8 ∧ bt (A 1 10 ||| ((1 : Int32) <<< (nI i &&& 31))) i = true := ⟨hc, by rw [bt_or1 hc (by omega), decide_eq_true rfl, Bool.or_true]⟩
          conv => rhs; rw [if_pos ⟨rfl, rfl⟩]
          rw [if_pos hb, if_pos rfl]
        · conv => rhs; rw [if_neg (fun q => e q.2)]
          rw [if_neg e]
          show _ = (if i < 8 ∧ bt (A 1 10) i = true then A 7 i else 0)
          by_cases h8 : i < 8
          · rw [bt_or1 hc (by omega), decide_eq_false e, Bool.or_false]
          · rw [if_neg (fun q => h8 q.1), if_neg (fun q => h8 q.1)]
      · rw [if_neg (by omega)]
        show B 8 i = _
        rw [b8]
        by_cases e : i = c
        · rw [if_pos e, if_pos ⟨rfl, e⟩]
        · rw [if_neg e, if_neg (fun q => e q.2), if_neg (by omega)]; rfl
      · show B 9 i = _
        rw [b9]
        by_cases e : i = c
        · rw [if_pos e, if_pos ⟨rfl, e⟩]
        · rw [if_neg e, if_neg (fun q => e q.2), if_neg (by omega), if_neg (by omega)]; rfl
      · rw [if_neg (by omega), if_neg (by omega), if_neg (by omega)]
        rcases i with _ | _ | _ | i
        · exact b1 9 (by omega)
        · exact b1 11 (by omega)
        · exact b1 12 (by omega)
        · rfl
      · rw [if_neg (by omega), if_neg (by omega), if_neg (by omega)]; rfl
    generalize hA1 : au (au (au (au A 7 c (nI k)) 8 c x2) 9 c 0) 1 10 (A 1 10 ||| ((1 : Int32) <<< (nI c &&& 31))) = A1 at hX hvm1 hvx1
    have hA2 : ∀ o, ¬ o = 52 → au (au (au A1 52 (3 * c) (nI k)) 52 (3 * c + 1) x2) 52 (3 * c + 2) 0 o = A1 o := fun o h => by rw [au_o h, au_o h, au_o h]
    have hvm2 : vM (au (au (au A1 52 (3 * c) (nI k)) 52 (3 * c + 1) x2) 52 (3 * c + 2) 0) = filV (vM A) c (nI k) x2 := by
      rw [vM_7, vM_6, vM_5, hvm1]
      rfl
    have hvx2 : vX (au (au (au A1 52 (3 * c) (nI k)) 52 (3 * c + 1) x2) 52 (3 * c + 2) 0) 1 = filV (vX A 1) c (nI k) x2 := by rw [vX_go (A := A1) (fun j hj => hA2 _ (by omega))]; exact hvx1
    have h1k : ∀ j, ¬ j = 10 → A1 1 j = A 1 j := fun j hj => by rw [← hA1, au_j hj, au_o (by omega), au_o (by omega), au_o (by omega)]
    have h10 : A1 1 10 = A 1 10 ||| ((1 : Int32) <<< (nI c &&& 31)) := by rw [← hA1, au_k]
    refine fin (v := nI c) (A1 := A1) (aC_of (Nat.le_of_ble_eq_true rfl) fun E hE => sX4_file_0 _ _ (br_t h1 (br_t h2 (lX4_fil hJ (some c) (fun h => by cases h) (fun d h => by cases h; rw [hA1]; exact hE) 8 0 (by omega) hr)))) (aC_of (Nat.le_of_ble_eq_true rfl) fun E hE => sX5_file_0 _ _ (br_t h1 (br_t h2 (lX5_fil hG (some c) (fun h => by cases h) (fun d h => by cases h; exact hE) 8 0 (by omega) (by rw [hvm1, ← hfc]; exact hr))))) (hJ.bench (n' := n) (fun o ha hb hc hd => (hA2 o (by omega)).trans (hX o (by omega))) (fun j ha hb hc hd => by rw [hA2 48 (by omega), hX 48 (by omega)]) ?_ (by omega) (vI_eq ((hA2 _ (by omega)).trans (hX _ (by omega))) ((hA2 _ (by omega)).trans (hX _ (by omega))) ((hA2 _ (by omega)).trans (hX _ (by omega))) ((hA2 _ (by omega)).trans (hX _ (by omega)))))
    refine ⟨hn6, by rw [hA2 1 (by omega), h1k 9 (by omega)]; exact hJ.x9, by rw [hA2 48 (by omega), hX 48 (by omega)]; exact hJ.m0, ?_, ?_, ?_, ?_, by rw [hA2 1 (by omega), h1k 11 (by omega)]; exact hJ.d9, by rw [hA2 1 (by omega), h1k 13 (by omega)]; exact hJ.x13, by rw [hA2 48 (by omega), hX 48 (by omega)]; exact hJ.m12, hJ.r1⟩
    · rw [hvx2]
      unfold filV
      have hi := hJ.inv
      refine ⟨⟨fun q hq => ⟨?_, ?_, ?_⟩, fun d hd => ?_⟩, fun d hd => ?_, ?_⟩
      · rw [au_v (by omega), au_v (by omega), au_v (by omega)]; exact (hi.1.1 q hq).1
      · rw [au_v (by omega), au_v (by omega), au_v (by omega)]; exact (hi.1.1 q hq).2.1
      · rw [au_v (by omega), au_v (by omega), au_v (by omega)]; exact (hi.1.1 q hq).2.2
      · rw [au_v (by omega), au_v (by omega)]
        by_cases e : d = c
        · subst e; rw [au_k]; exact isS_dec k (by omega)
        · rw [au_j e]; exact hi.1.2 d hd
      · by_cases e : d = c
        · subst e; rw [au_k]; decide
        · rw [au_j e, au_v (by omega), au_v (by omega)]; exact hi.2.1 d hd
      · rw [au_v (by omega), au_v (by omega), au_v (by omega)]; exact hi.2.2
    · intro d hd hb
      rw [hA2 1 (by omega), h10, bt_or1 hc (by omega)] at hb
      rw [hA2 7 (by omega)]
      have e7 : A1 7 d = if d = c then nI k else A 7 d := by
        rw [← hA1, au_o (by omega), au_o (by omega), au_o (by omega), au_eq]
        by_cases e : d = c
        · rw [if_pos ⟨rfl, e⟩, if_pos e]
        · rw [if_neg (fun q => e q.2), if_neg e]
      rw [e7]
      by_cases e : d = c
      · rw [if_pos e]; exact nI_ne0 (by omega) (by omega)
      · rw [if_neg e]
        rw [decide_eq_false e, Bool.or_false] at hb
        exact hJ.ti d hd hb
    · intro i hi
      rw [hA2 1 (by omega), h10]
      by_cases h32 : i < 32
      · rw [bt_or1 hc h32, hJ.hi i hi, decide_eq_false (by omega)]; rfl
      · exact b_big (by omega)
    · rw [hvx2, hvm2]
      exact ((hJ.vv.au rfl).au rfl).au rfl
end MD
