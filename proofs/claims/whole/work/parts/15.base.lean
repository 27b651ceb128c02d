/-! pure facts for the segments: a truth as an int, the shapes of the places -/
noncomputable def bI (P : Prop) : Int32 := @ite _ P (Classical.propDecidable P) 1 0
theorem bI_t {P : Prop} (h : P) : bI P = 1 := by unfold bI; exact if_pos h
theorem bI_f {P : Prop} (h : ¬ P) : bI P = 0 := by unfold bI; exact if_neg h
theorem bI_ne {P : Prop} (h : P) : ¬ bI P = 0 := by rw [bI_t h]; decide
theorem bI_eq {P : Prop} (h : ¬ P) : bI P = 0 := bI_f h
theorem bI_nne {P : Prop} (h : ¬ P) : ¬ ¬ bI P = 0 := fun z => z (bI_f h)
theorem bI_neq {P : Prop} (h : P) : ¬ bI P = 0 := bI_ne h
theorem bI_01 (P : Prop) : bI P = 0 ∨ bI P = 1 := (Classical.em P).elim (fun h => Or.inr (bI_t h)) (fun h => Or.inl (bI_f h))
theorem bI_congr {P Q : Prop} (h : P ↔ Q) : bI P = bI Q := by rw [propext h]
theorem vin_len {n m : Nat} {i : Int32} (h : m = n) (k : vp_in i n) : vp_in i m := by rw [h]; exact k
theorem le_len {n m k : Nat} (h : m = n) (q : k ≤ n) : k ≤ m := by rw [h]; exact q
def gtb (k : Nat) : Nat × Nat := [(8, 0), (4, 0), (1, 6), (1, 6), (1, 6), (1, 6), (1, 6), (1, 8), (1, 8), (1, 8), (1, 6), (4, 0), (1, 6), (1, 6), (1, 6), (1, 6), (1, 6), (1, 8), (1, 8), (1, 8), (1, 6), (4, 0), (1, 6), (1, 6), (1, 6), (1, 6), (1, 6), (1, 8), (1, 8), (1, 8), (1, 6), (5, 0), (1, 160), (1, 161), (1, 161), (1, 160), (1, 3), (2, 6), (3, 4), (1, 576), (6, 0), (1, 40), (6, 0), (1, 40), (6, 0), (1, 40), (6, 0), (1, 40), (9, 0), (1, 6), (1, 6), (1, 18), (1, 24), (1, 160), (1, 1200), (1, 24), (1, 42), (1, 4), (1, 4), (1, 4), (1, 160), (1, 41), (1, 96), (1, 200), (1, 200), (1, 6), (1, 44), (1, 576), (1, 8), (0, 0), (0, 0), (0, 0), (0, 0), (0, 0), (0, 0), (0, 0), (0, 0), (0, 0), (0, 0), (0, 0)].getD k (0, 0)
def aGS (G : Nat → Nat × Nat) : Prop := ∀ k, k < 80 → G k = gtb k
def aGb (G : Nat → Nat × Nat) (b : Nat) : Prop := ∀ k, k < 10 → G (b + k) = gtb (1 + k)
def aGs (G : Nat → Nat × Nat) (o : Nat) : Prop := G o = (6, 0) ∧ G (o + 1) = (1, 40)
def aGx (G : Nat → Nat × Nat) (o n : Nat) : Prop := G o = (7, 0) ∧ G (o + 1) = (1, n) ∧ G (o + 2) = (1, 3) ∧ G (o + 3) = (1, 40)
section GG
variable {G : Nat → Nat × Nat}
theorem gt0 (h : aGS G) : (G 0).1 = 8 := by rw [h 0 (by decide)]; rfl
theorem gt1 (h : aGS G) : (G 1).1 = 4 := by rw [h 1 (by decide)]; rfl
theorem gt2 (h : aGS G) : (G 2).1 = 1 := by rw [h 2 (by decide)]; rfl
theorem gl2 (h : aGS G) : (G 2).2 = 6 := by rw [h 2 (by decide)]; rfl
theorem gt3 (h : aGS G) : (G 3).1 = 1 := by rw [h 3 (by decide)]; rfl
theorem gl3 (h : aGS G) : (G 3).2 = 6 := by rw [h 3 (by decide)]; rfl
theorem gt4 (h : aGS G) : (G 4).1 = 1 := by rw [h 4 (by decide)]; rfl
theorem gl4 (h : aGS G) : (G 4).2 = 6 := by rw [h 4 (by decide)]; rfl
theorem gt5 (h : aGS G) : (G 5).1 = 1 := by rw [h 5 (by decide)]; rfl
theorem gl5 (h : aGS G) : (G 5).2 = 6 := by rw [h 5 (by decide)]; rfl
theorem gt6 (h : aGS G) : (G 6).1 = 1 := by rw [h 6 (by decide)]; rfl
theorem gl6 (h : aGS G) : (G 6).2 = 6 := by rw [h 6 (by decide)]; rfl
theorem gt7 (h : aGS G) : (G 7).1 = 1 := by rw [h 7 (by decide)]; rfl
theorem gl7 (h : aGS G) : (G 7).2 = 8 := by rw [h 7 (by decide)]; rfl
theorem gt8 (h : aGS G) : (G 8).1 = 1 := by rw [h 8 (by decide)]; rfl
theorem gl8 (h : aGS G) : (G 8).2 = 8 := by rw [h 8 (by decide)]; rfl
theorem gt9 (h : aGS G) : (G 9).1 = 1 := by rw [h 9 (by decide)]; rfl
theorem gl9 (h : aGS G) : (G 9).2 = 8 := by rw [h 9 (by decide)]; rfl
theorem gt10 (h : aGS G) : (G 10).1 = 1 := by rw [h 10 (by decide)]; rfl
theorem gl10 (h : aGS G) : (G 10).2 = 6 := by rw [h 10 (by decide)]; rfl
theorem gt11 (h : aGS G) : (G 11).1 = 4 := by rw [h 11 (by decide)]; rfl
theorem gt12 (h : aGS G) : (G 12).1 = 1 := by rw [h 12 (by decide)]; rfl
theorem gl12 (h : aGS G) : (G 12).2 = 6 := by rw [h 12 (by decide)]; rfl
theorem gt13 (h : aGS G) : (G 13).1 = 1 := by rw [h 13 (by decide)]; rfl
theorem gl13 (h : aGS G) : (G 13).2 = 6 := by rw [h 13 (by decide)]; rfl
theorem gt14 (h : aGS G) : (G 14).1 = 1 := by rw [h 14 (by decide)]; rfl
theorem gl14 (h : aGS G) : (G 14).2 = 6 := by rw [h 14 (by decide)]; rfl
theorem gt15 (h : aGS G) : (G 15).1 = 1 := by rw [h 15 (by decide)]; rfl
theorem gl15 (h : aGS G) : (G 15).2 = 6 := by rw [h 15 (by decide)]; rfl
theorem gt16 (h : aGS G) : (G 16).1 = 1 := by rw [h 16 (by decide)]; rfl
theorem gl16 (h : aGS G) : (G 16).2 = 6 := by rw [h 16 (by decide)]; rfl
theorem gt17 (h : aGS G) : (G 17).1 = 1 := by rw [h 17 (by decide)]; rfl
theorem gl17 (h : aGS G) : (G 17).2 = 8 := by rw [h 17 (by decide)]; rfl
theorem gt18 (h : aGS G) : (G 18).1 = 1 := by rw [h 18 (by decide)]; rfl
theorem gl18 (h : aGS G) : (G 18).2 = 8 := by rw [h 18 (by decide)]; rfl
theorem gt19 (h : aGS G) : (G 19).1 = 1 := by rw [h 19 (by decide)]; rfl
theorem gl19 (h : aGS G) : (G 19).2 = 8 := by rw [h 19 (by decide)]; rfl
theorem gt20 (h : aGS G) : (G 20).1 = 1 := by rw [h 20 (by decide)]; rfl
theorem gl20 (h : aGS G) : (G 20).2 = 6 := by rw [h 20 (by decide)]; rfl
theorem gt21 (h : aGS G) : (G 21).1 = 4 := by rw [h 21 (by decide)]; rfl
theorem gt22 (h : aGS G) : (G 22).1 = 1 := by rw [h 22 (by decide)]; rfl
theorem gl22 (h : aGS G) : (G 22).2 = 6 := by rw [h 22 (by decide)]; rfl
theorem gt23 (h : aGS G) : (G 23).1 = 1 := by rw [h 23 (by decide)]; rfl
theorem gl23 (h : aGS G) : (G 23).2 = 6 := by rw [h 23 (by decide)]; rfl
theorem gt24 (h : aGS G) : (G 24).1 = 1 := by rw [h 24 (by decide)]; rfl
theorem gl24 (h : aGS G) : (G 24).2 = 6 := by rw [h 24 (by decide)]; rfl
theorem gt25 (h : aGS G) : (G 25).1 = 1 := by rw [h 25 (by decide)]; rfl
theorem gl25 (h : aGS G) : (G 25).2 = 6 := by rw [h 25 (by decide)]; rfl
theorem gt26 (h : aGS G) : (G 26).1 = 1 := by rw [h 26 (by decide)]; rfl
theorem gl26 (h : aGS G) : (G 26).2 = 6 := by rw [h 26 (by decide)]; rfl
theorem gt27 (h : aGS G) : (G 27).1 = 1 := by rw [h 27 (by decide)]; rfl
theorem gl27 (h : aGS G) : (G 27).2 = 8 := by rw [h 27 (by decide)]; rfl
theorem gt28 (h : aGS G) : (G 28).1 = 1 := by rw [h 28 (by decide)]; rfl
theorem gl28 (h : aGS G) : (G 28).2 = 8 := by rw [h 28 (by decide)]; rfl
theorem gt29 (h : aGS G) : (G 29).1 = 1 := by rw [h 29 (by decide)]; rfl
theorem gl29 (h : aGS G) : (G 29).2 = 8 := by rw [h 29 (by decide)]; rfl
theorem gt30 (h : aGS G) : (G 30).1 = 1 := by rw [h 30 (by decide)]; rfl
theorem gl30 (h : aGS G) : (G 30).2 = 6 := by rw [h 30 (by decide)]; rfl
theorem gt31 (h : aGS G) : (G 31).1 = 5 := by rw [h 31 (by decide)]; rfl
theorem gt32 (h : aGS G) : (G 32).1 = 1 := by rw [h 32 (by decide)]; rfl
theorem gl32 (h : aGS G) : (G 32).2 = 160 := by rw [h 32 (by decide)]; rfl
theorem gt33 (h : aGS G) : (G 33).1 = 1 := by rw [h 33 (by decide)]; rfl
theorem gl33 (h : aGS G) : (G 33).2 = 161 := by rw [h 33 (by decide)]; rfl
theorem gt34 (h : aGS G) : (G 34).1 = 1 := by rw [h 34 (by decide)]; rfl
theorem gl34 (h : aGS G) : (G 34).2 = 161 := by rw [h 34 (by decide)]; rfl
theorem gt35 (h : aGS G) : (G 35).1 = 1 := by rw [h 35 (by decide)]; rfl
theorem gl35 (h : aGS G) : (G 35).2 = 160 := by rw [h 35 (by decide)]; rfl
theorem gt36 (h : aGS G) : (G 36).1 = 1 := by rw [h 36 (by decide)]; rfl
theorem gl36 (h : aGS G) : (G 36).2 = 3 := by rw [h 36 (by decide)]; rfl
theorem gt37 (h : aGS G) : (G 37).1 = 2 := by rw [h 37 (by decide)]; rfl
theorem gl37 (h : aGS G) : (G 37).2 = 6 := by rw [h 37 (by decide)]; rfl
theorem gt38 (h : aGS G) : (G 38).1 = 3 := by rw [h 38 (by decide)]; rfl
theorem gl38 (h : aGS G) : (G 38).2 = 4 := by rw [h 38 (by decide)]; rfl
theorem gt39 (h : aGS G) : (G 39).1 = 1 := by rw [h 39 (by decide)]; rfl
theorem gl39 (h : aGS G) : (G 39).2 = 576 := by rw [h 39 (by decide)]; rfl
theorem gt40 (h : aGS G) : (G 40).1 = 6 := by rw [h 40 (by decide)]; rfl
theorem gt41 (h : aGS G) : (G 41).1 = 1 := by rw [h 41 (by decide)]; rfl
theorem gl41 (h : aGS G) : (G 41).2 = 40 := by rw [h 41 (by decide)]; rfl
theorem gt42 (h : aGS G) : (G 42).1 = 6 := by rw [h 42 (by decide)]; rfl
theorem gt43 (h : aGS G) : (G 43).1 = 1 := by rw [h 43 (by decide)]; rfl
theorem gl43 (h : aGS G) : (G 43).2 = 40 := by rw [h 43 (by decide)]; rfl
theorem gt44 (h : aGS G) : (G 44).1 = 6 := by rw [h 44 (by decide)]; rfl
theorem gt45 (h : aGS G) : (G 45).1 = 1 := by rw [h 45 (by decide)]; rfl
theorem gl45 (h : aGS G) : (G 45).2 = 40 := by rw [h 45 (by decide)]; rfl
theorem gt46 (h : aGS G) : (G 46).1 = 6 := by rw [h 46 (by decide)]; rfl
theorem gt47 (h : aGS G) : (G 47).1 = 1 := by rw [h 47 (by decide)]; rfl
theorem gl47 (h : aGS G) : (G 47).2 = 40 := by rw [h 47 (by decide)]; rfl
theorem gt48 (h : aGS G) : (G 48).1 = 9 := by rw [h 48 (by decide)]; rfl
theorem gt49 (h : aGS G) : (G 49).1 = 1 := by rw [h 49 (by decide)]; rfl
theorem gl49 (h : aGS G) : (G 49).2 = 6 := by rw [h 49 (by decide)]; rfl
theorem gt50 (h : aGS G) : (G 50).1 = 1 := by rw [h 50 (by decide)]; rfl
theorem gl50 (h : aGS G) : (G 50).2 = 6 := by rw [h 50 (by decide)]; rfl
theorem gt51 (h : aGS G) : (G 51).1 = 1 := by rw [h 51 (by decide)]; rfl
theorem gl51 (h : aGS G) : (G 51).2 = 18 := by rw [h 51 (by decide)]; rfl
theorem gt52 (h : aGS G) : (G 52).1 = 1 := by rw [h 52 (by decide)]; rfl
theorem gl52 (h : aGS G) : (G 52).2 = 24 := by rw [h 52 (by decide)]; rfl
theorem gt53 (h : aGS G) : (G 53).1 = 1 := by rw [h 53 (by decide)]; rfl
theorem gl53 (h : aGS G) : (G 53).2 = 160 := by rw [h 53 (by decide)]; rfl
theorem gt54 (h : aGS G) : (G 54).1 = 1 := by rw [h 54 (by decide)]; rfl
theorem gl54 (h : aGS G) : (G 54).2 = 1200 := by rw [h 54 (by decide)]; rfl
theorem gt55 (h : aGS G) : (G 55).1 = 1 := by rw [h 55 (by decide)]; rfl
theorem gl55 (h : aGS G) : (G 55).2 = 24 := by rw [h 55 (by decide)]; rfl
theorem gt56 (h : aGS G) : (G 56).1 = 1 := by rw [h 56 (by decide)]; rfl
theorem gl56 (h : aGS G) : (G 56).2 = 42 := by rw [h 56 (by decide)]; rfl
theorem gt57 (h : aGS G) : (G 57).1 = 1 := by rw [h 57 (by decide)]; rfl
theorem gl57 (h : aGS G) : (G 57).2 = 4 := by rw [h 57 (by decide)]; rfl
theorem gt58 (h : aGS G) : (G 58).1 = 1 := by rw [h 58 (by decide)]; rfl
theorem gl58 (h : aGS G) : (G 58).2 = 4 := by rw [h 58 (by decide)]; rfl
theorem gt59 (h : aGS G) : (G 59).1 = 1 := by rw [h 59 (by decide)]; rfl
theorem gl59 (h : aGS G) : (G 59).2 = 4 := by rw [h 59 (by decide)]; rfl
theorem gt60 (h : aGS G) : (G 60).1 = 1 := by rw [h 60 (by decide)]; rfl
theorem gl60 (h : aGS G) : (G 60).2 = 160 := by rw [h 60 (by decide)]; rfl
theorem gt61 (h : aGS G) : (G 61).1 = 1 := by rw [h 61 (by decide)]; rfl
theorem gl61 (h : aGS G) : (G 61).2 = 41 := by rw [h 61 (by decide)]; rfl
theorem gt62 (h : aGS G) : (G 62).1 = 1 := by rw [h 62 (by decide)]; rfl
theorem gl62 (h : aGS G) : (G 62).2 = 96 := by rw [h 62 (by decide)]; rfl
theorem gt63 (h : aGS G) : (G 63).1 = 1 := by rw [h 63 (by decide)]; rfl
theorem gl63 (h : aGS G) : (G 63).2 = 200 := by rw [h 63 (by decide)]; rfl
theorem gt64 (h : aGS G) : (G 64).1 = 1 := by rw [h 64 (by decide)]; rfl
theorem gl64 (h : aGS G) : (G 64).2 = 200 := by rw [h 64 (by decide)]; rfl
theorem gt65 (h : aGS G) : (G 65).1 = 1 := by rw [h 65 (by decide)]; rfl
theorem gl65 (h : aGS G) : (G 65).2 = 6 := by rw [h 65 (by decide)]; rfl
theorem gt66 (h : aGS G) : (G 66).1 = 1 := by rw [h 66 (by decide)]; rfl
theorem gl66 (h : aGS G) : (G 66).2 = 44 := by rw [h 66 (by decide)]; rfl
theorem gt67 (h : aGS G) : (G 67).1 = 1 := by rw [h 67 (by decide)]; rfl
theorem gl67 (h : aGS G) : (G 67).2 = 576 := by rw [h 67 (by decide)]; rfl
theorem gt68 (h : aGS G) : (G 68).1 = 1 := by rw [h 68 (by decide)]; rfl
theorem gl68 (h : aGS G) : (G 68).2 = 8 := by rw [h 68 (by decide)]; rfl
theorem gb0 {b : Nat} (h : aGb G b) : (G b).1 = 4 := congrArg Prod.fst (h 0 (by decide))
theorem gb1 {b : Nat} (h : aGb G b) : (G (b + 1)).1 = 1 := congrArg Prod.fst (h 1 (by decide))
theorem gbl1 {b : Nat} (h : aGb G b) : (G (b + 1)).2 = 6 := congrArg Prod.snd (h 1 (by decide))
theorem gb2 {b : Nat} (h : aGb G b) : (G (b + 2)).1 = 1 := congrArg Prod.fst (h 2 (by decide))
theorem gbl2 {b : Nat} (h : aGb G b) : (G (b + 2)).2 = 6 := congrArg Prod.snd (h 2 (by decide))
theorem gb3 {b : Nat} (h : aGb G b) : (G (b + 3)).1 = 1 := congrArg Prod.fst (h 3 (by decide))
theorem gbl3 {b : Nat} (h : aGb G b) : (G (b + 3)).2 = 6 := congrArg Prod.snd (h 3 (by decide))
theorem gb4 {b : Nat} (h : aGb G b) : (G (b + 4)).1 = 1 := congrArg Prod.fst (h 4 (by decide))
theorem gbl4 {b : Nat} (h : aGb G b) : (G (b + 4)).2 = 6 := congrArg Prod.snd (h 4 (by decide))
theorem gb5 {b : Nat} (h : aGb G b) : (G (b + 5)).1 = 1 := congrArg Prod.fst (h 5 (by decide))
theorem gbl5 {b : Nat} (h : aGb G b) : (G (b + 5)).2 = 6 := congrArg Prod.snd (h 5 (by decide))
theorem gb6 {b : Nat} (h : aGb G b) : (G (b + 6)).1 = 1 := congrArg Prod.fst (h 6 (by decide))
theorem gbl6 {b : Nat} (h : aGb G b) : (G (b + 6)).2 = 8 := congrArg Prod.snd (h 6 (by decide))
theorem gb7 {b : Nat} (h : aGb G b) : (G (b + 7)).1 = 1 := congrArg Prod.fst (h 7 (by decide))
theorem gbl7 {b : Nat} (h : aGb G b) : (G (b + 7)).2 = 8 := congrArg Prod.snd (h 7 (by decide))
theorem gb8 {b : Nat} (h : aGb G b) : (G (b + 8)).1 = 1 := congrArg Prod.fst (h 8 (by decide))
theorem gbl8 {b : Nat} (h : aGb G b) : (G (b + 8)).2 = 8 := congrArg Prod.snd (h 8 (by decide))
theorem gb9 {b : Nat} (h : aGb G b) : (G (b + 9)).1 = 1 := congrArg Prod.fst (h 9 (by decide))
theorem gbl9 {b : Nat} (h : aGb G b) : (G (b + 9)).2 = 6 := congrArg Prod.snd (h 9 (by decide))
theorem gs0 {o : Nat} (h : aGs G o) : (G o).1 = 6 := congrArg Prod.fst h.1
theorem gs1 {o : Nat} (h : aGs G o) : (G (o + 1)).1 = 1 := congrArg Prod.fst h.2
theorem gsl1 {o : Nat} (h : aGs G o) : (G (o + 1)).2 = 40 := congrArg Prod.snd h.2
theorem gx0 {o n : Nat} (h : aGx G o n) : (G o).1 = 7 := congrArg Prod.fst h.1
theorem gx1 {o n : Nat} (h : aGx G o n) : (G (o + 1)).1 = 1 := congrArg Prod.fst h.2.1
theorem gxl1 {o n : Nat} (h : aGx G o n) : (G (o + 1)).2 = n := congrArg Prod.snd h.2.1
theorem gx2 {o n : Nat} (h : aGx G o n) : (G (o + 2)).1 = 1 := congrArg Prod.fst h.2.2.1
theorem gxl2 {o n : Nat} (h : aGx G o n) : (G (o + 2)).2 = 3 := congrArg Prod.snd h.2.2.1
theorem gx3 {o n : Nat} (h : aGx G o n) : (G (o + 3)).1 = 1 := congrArg Prod.fst h.2.2.2
theorem gxl3 {o n : Nat} (h : aGx G o n) : (G (o + 3)).2 = 40 := congrArg Prod.snd h.2.2.2
theorem gB1 (h : aGS G) : aGb G 1 := fun k hk => h (1 + k) (by omega)
theorem gB11 (h : aGS G) : aGb G 11 := fun k hk => by
  rw [h (11 + k) (by omega)]
  revert k
  decide
theorem gB21 (h : aGS G) : aGb G 21 := fun k hk => by
  rw [h (21 + k) (by omega)]
  revert k
  decide
end GG
