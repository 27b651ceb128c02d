theorem kJ6_bitCount_0f7a4 : aKl tJ6_bitCount_0f7a4 := by
  unfold tJ6_bitCount_0f7a4
  refine aK_c (ex lin_il cls_il) ?_
  refine aK_c (ex lin_il cls_il) ?_
  refine aK_c (ex lin_ii cls_ii) ?_
  refine aK_c (ex lin_bi cls_bi) ?_
  refine aK_c (ex lin_ii cls_ii) ?_
  refine aK_c (ex lin_bi cls_bi) ?_
  refine aK_c (ex lin_bi cls_bi) ?_
  refine aK_c (ex lin_is cls_is) ?_
  refine aK_c (ex lin_il cls_il) ?_
  refine aK_c (ex lin_ii cls_ii) ?_
  refine aK_c (ex lin_bi cls_bi) ?_
  refine aK_c (ex lin_il cls_il) ?_
  refine aK_c (ex lin_ii cls_ii) ?_
  refine aK_c (ex lin_bi cls_bi) ?_
  refine aK_c (ex lin_ii cls_ii) ?_
  refine aK_c (ex lin_bi cls_bi) ?_
  refine aK_c (ex lin_bi cls_bi) ?_
  refine aK_c (ex lin_is cls_is) ?_
  refine aK_c (ex lin_il cls_il) ?_
  refine aK_c (ex lin_il cls_il) ?_
  refine aK_c (ex lin_ii cls_ii) ?_
  refine aK_c (ex lin_bi cls_bi) ?_
  refine aK_c (ex lin_bi cls_bi) ?_
  refine aK_c (ex lin_ii cls_ii) ?_
  refine aK_c (ex lin_bi cls_bi) ?_
  refine aK_c (ex lin_is cls_is) ?_
  refine aK_c (ex lin_il cls_il) ?_
  refine aK_c (ex lin_il cls_il) ?_
  refine aK_c (ex lin_ii cls_ii) ?_
  refine aK_c (ex lin_bi cls_bi) ?_
  refine aK_c (ex lin_bi cls_bi) ?_
  refine aK_c (ex lin_is cls_is) ?_
  refine aK_c (ex lin_il cls_il) ?_
  refine aK_c (ex lin_il cls_il) ?_
  refine aK_c (ex lin_ii cls_ii) ?_
  refine aK_c (ex lin_bi cls_bi) ?_
  refine aK_c (ex lin_bi cls_bi) ?_
  refine aK_c (ex lin_is cls_is) ?_
  refine aK_c (ex lin_il cls_il) ?_
  refine aK_c (ex lin_ii cls_ii) ?_
  refine aK_c (ex lin_bi cls_bi) ?_
  refine aK_c (ex lin_ri cls_ri) ?_
  exact aK_n
theorem zJ6_bitCount_0f7a4 : aCC CJ6_bitCount_0f7a4 := aCC.of kJ6_bitCount_0f7a4
theorem kX4_count : aKl tX4_count := by
  unfold tX4_count
  refine aK_c (ex lin_il cls_il) ?_
  refine aK_c (ex lin_sw cls_sw) ?_
  refine aK_c (ex lin_al cls_al) ?_
  refine aK_c (ex lin_gF (cls_gF 0 rfl (Nat.le_of_ble_eq_true rfl))) ?_
  refine aK_c (ex lin_gI cls_gI) ?_
  refine aK_c (ex lin_ri cls_ri) ?_
  refine aK_c (ex lin_al cls_al) ?_
  refine aK_c (ex lin_gF (cls_gF 0 rfl (Nat.le_of_ble_eq_true rfl))) ?_
  refine aK_c (ex lin_gI cls_gI) ?_
  refine aK_c (ex lin_cS (cls_cS zJ6_bitCount_0f7a4)) ?_
  refine aK_c (ex lin_ri cls_ri) ?_
  refine aK_c (ex lin_al cls_al) ?_
  refine aK_c (ex lin_gF (cls_gF 0 rfl (Nat.le_of_ble_eq_true rfl))) ?_
  refine aK_c (ex lin_gI cls_gI) ?_
  refine aK_c (ex lin_ri cls_ri) ?_
  refine aK_c (ex lin_al cls_al) ?_
  refine aK_c (ex lin_gI cls_gI) ?_
  refine aK_c (ex lin_ri cls_ri) ?_
  refine aK_c (ex lin_al cls_al) ?_
  refine aK_c (ex lin_gF (cls_gF 0 rfl (Nat.le_of_ble_eq_true rfl))) ?_
  refine aK_c (ex lin_gI cls_gI) ?_
  refine aK_c (ex lin_ri cls_ri) ?_
  refine aK_c (ex lin_al cls_al) ?_
  refine aK_c (ex lin_gF (cls_gF 6 rfl (Nat.le_of_ble_eq_true rfl))) ?_
  refine aK_c (ex lin_gI cls_gI) ?_
  refine aK_c (ex lin_ri cls_ri) ?_
  refine aK_c (ex lin_al cls_al) ?_
  refine aK_c (ex lin_gF (cls_gF 0 rfl (Nat.le_of_ble_eq_true rfl))) ?_
  refine aK_c (ex lin_gI cls_gI) ?_
  refine aK_c (ex lin_ri cls_ri) ?_
  refine aK_c (ex lin_ii cls_ii) ?_
  refine aK_c (ex lin_ri cls_ri) ?_
  exact aK_n
theorem zX4_count : aCC CX4_count := aCC.of kX4_count
theorem kX4_within : aKl tX4_within := by
  unfold tX4_within
  refine aK_c (ex lin_il cls_il) ?_
  refine aK_c (ex lin_il cls_il) ?_
  refine aK_c (ex lin_ic cls_ic) ?_
  refine aK_c (ex lin_il cls_il) ?_
  refine aK_c (ex lin_il cls_il) ?_
  refine aK_c (ex lin_ic cls_ic) ?_
  refine aK_c (ex lin_ii cls_ii) ?_
  refine aK_c (ex lin_go cls_go) ?_
  refine aK_c (ex lin_ii cls_ii) ?_
  refine aK_c (ex lin_rz cls_rz) ?_
  exact aK_n
theorem zX4_within : aCC CX4_within := aCC.of kX4_within
theorem kX4_dawn : aKl tX4_dawn := by
  unfold tX4_dawn
  refine aK_c (ex lin_il cls_il) ?_
  refine aK_c (ex lin_ii cls_ii) ?_
  refine aK_c (ex lin_ii cls_ii) ?_
  refine aK_c (ex lin_cS (cls_cS zX4_within)) ?_
  refine aK_c (ex lin_if cls_if) ?_
  refine aK_c (ex lin_ii cls_ii) ?_
  refine aK_c (ex lin_ri cls_ri) ?_
  refine aK_c (ex lin_al cls_al) ?_
  refine aK_c (ex lin_gF (cls_gF 0 rfl (Nat.le_of_ble_eq_true rfl))) ?_
  refine aK_c (ex lin_gI cls_gI) ?_
  refine aK_c (ex lin_is cls_is) ?_
  refine aK_c (ex lin_al cls_al) ?_
  refine aK_c (ex lin_gF (cls_gF 0 rfl (Nat.le_of_ble_eq_true rfl))) ?_
  refine aK_c (ex lin_il cls_il) ?_
  refine aK_c (ex lin_pI cls_pI) ?_
  refine aK_c (ex lin_il cls_il) ?_
  refine aK_c (ex lin_ri cls_ri) ?_
  exact aK_n
theorem zX4_dawn : aCC CX4_dawn := aCC.of kX4_dawn
theorem kX4_isByte : aKl tX4_isByte := by
  unfold tX4_isByte
  refine aK_c (ex lin_il cls_il) ?_
  refine aK_c (ex lin_ii cls_ii) ?_
  refine aK_c (ex lin_ii cls_ii) ?_
  refine aK_c (ex lin_cS (cls_cS zX4_within)) ?_
  refine aK_c (ex lin_rz cls_rz) ?_
  exact aK_n
theorem zX4_isByte : aCC CX4_isByte := aCC.of kX4_isByte
theorem kX1_addByte : aKl tX1_addByte := by
  unfold tX1_addByte
  refine aK_c (ex lin_al cls_al) ?_
  refine aK_c (ex lin_gI cls_gI) ?_
  refine aK_c (ex lin_ii cls_ii) ?_
  refine aK_c (ex lin_ic cls_ic) ?_
  refine aK_c (ex lin_al cls_al) ?_
  refine aK_c (ex lin_gF (cls_gF 0 rfl (Nat.le_of_ble_eq_true rfl))) ?_
  refine aK_c (ex lin_al cls_al) ?_
  refine aK_c (ex lin_gI cls_gI) ?_
  refine aK_c (ex lin_il cls_il) ?_
  refine aK_c (ex lin_iast cls_iast) ?_
  refine aK_c (ex lin_al cls_al) ?_
  refine aK_c (ex lin_dup cls_dup) ?_
  refine aK_c (ex lin_gI cls_gI) ?_
  refine aK_c (ex lin_ii cls_ii) ?_
  refine aK_c (ex lin_bi cls_bi) ?_
  refine aK_c (ex lin_pI cls_pI) ?_
  refine aK_c (ex lin_rv cls_rv) ?_
  exact aK_n
theorem zX1_addByte : aCC CX1_addByte := aCC.of kX1_addByte
theorem kX4_feed : aKl tX4_feed := by
  unfold tX4_feed
  refine aK_c (ex lin_il cls_il) ?_
  refine aK_c (ex lin_ii cls_ii) ?_
  refine aK_c (ex lin_ii cls_ii) ?_
  refine aK_c (ex lin_cS (cls_cS zX4_within)) ?_
  refine aK_c (ex lin_if cls_if) ?_
  refine aK_c (ex lin_il cls_il) ?_
  refine aK_c (ex lin_cS (cls_cS zX4_isByte)) ?_
  refine aK_c (ex lin_if cls_if) ?_
  refine aK_c (ex lin_il cls_il) ?_
  refine aK_c (ex lin_cS (cls_cS zX4_isByte)) ?_
  refine aK_c (ex lin_if cls_if) ?_
  refine aK_c (ex lin_il cls_il) ?_
  refine aK_c (ex lin_cS (cls_cS zX4_isByte)) ?_
  refine aK_c (ex lin_if cls_if) ?_
  refine aK_c (ex lin_il cls_il) ?_
  refine aK_c (ex lin_cS (cls_cS zX4_isByte)) ?_
  refine aK_c (ex lin_if cls_if) ?_
  refine aK_c (ex lin_il cls_il) ?_
  refine aK_c (ex lin_cS (cls_cS zX4_isByte)) ?_
  refine aK_c (ex lin_if cls_if) ?_
  refine aK_c (ex lin_ii cls_ii) ?_
  refine aK_c (ex lin_ri cls_ri) ?_
  refine aK_c (ex lin_al cls_al) ?_
  refine aK_c (ex lin_gF (cls_gF 6 rfl (Nat.le_of_ble_eq_true rfl))) ?_
  refine aK_c (ex lin_gI cls_gI) ?_
  refine aK_c (ex lin_il cls_il) ?_
  refine aK_c (ex lin_bi cls_bi) ?_
  refine aK_c (ex lin_ii cls_ii) ?_
  refine aK_c (ex lin_ic cls_ic) ?_
  refine aK_c (ex lin_ii cls_ii) ?_
  refine aK_c (ex lin_ri cls_ri) ?_
  refine aK_c (ex lin_al cls_al) ?_
  refine aK_c (ex lin_gF (cls_gF 6 rfl (Nat.le_of_ble_eq_true rfl))) ?_
  refine aK_c (ex lin_il cls_il) ?_
  refine aK_c (ex lin_cV (cls_cV zX1_addByte)) ?_
  refine aK_c (ex lin_il cls_il) ?_
  refine aK_c (ex lin_ii cls_ii) ?_
  refine aK_c (ex lin_ic cls_ic) ?_
  refine aK_c (ex lin_al cls_al) ?_
  refine aK_c (ex lin_gF (cls_gF 6 rfl (Nat.le_of_ble_eq_true rfl))) ?_
  refine aK_c (ex lin_il cls_il) ?_
  refine aK_c (ex lin_cV (cls_cV zX1_addByte)) ?_
  refine aK_c (ex lin_il cls_il) ?_
  refine aK_c (ex lin_ii cls_ii) ?_
  refine aK_c (ex lin_ic cls_ic) ?_
  refine aK_c (ex lin_al cls_al) ?_
  refine aK_c (ex lin_gF (cls_gF 6 rfl (Nat.le_of_ble_eq_true rfl))) ?_
  refine aK_c (ex lin_il cls_il) ?_
  refine aK_c (ex lin_cV (cls_cV zX1_addByte)) ?_
  refine aK_c (ex lin_il cls_il) ?_
  refine aK_c (ex lin_ii cls_ii) ?_
  refine aK_c (ex lin_ic cls_ic) ?_
  refine aK_c (ex lin_al cls_al) ?_
  refine aK_c (ex lin_gF (cls_gF 6 rfl (Nat.le_of_ble_eq_true rfl))) ?_
  refine aK_c (ex lin_il cls_il) ?_
  refine aK_c (ex lin_cV (cls_cV zX1_addByte)) ?_
  refine aK_c (ex lin_il cls_il) ?_
  refine aK_c (ex lin_ii cls_ii) ?_
  refine aK_c (ex lin_ic cls_ic) ?_
  refine aK_c (ex lin_al cls_al) ?_
  refine aK_c (ex lin_gF (cls_gF 6 rfl (Nat.le_of_ble_eq_true rfl))) ?_
  refine aK_c (ex lin_il cls_il) ?_
  refine aK_c (ex lin_cV (cls_cV zX1_addByte)) ?_
  refine aK_c (ex lin_al cls_al) ?_
  refine aK_c (ex lin_gF (cls_gF 6 rfl (Nat.le_of_ble_eq_true rfl))) ?_
  refine aK_c (ex lin_gI cls_gI) ?_
  refine aK_c (ex lin_ri cls_ri) ?_
  exact aK_n
theorem zX4_feed : aCC CX4_feed := aCC.of kX4_feed
theorem kX1_isLetter : aKl tX1_isLetter := by
  unfold tX1_isLetter
  refine aK_c (ex lin_il cls_il) ?_
  refine aK_c (ex lin_al cls_al) ?_
  refine aK_c (ex lin_gI cls_gI) ?_
  refine aK_c (ex lin_ic cls_ic) ?_
  refine aK_c (ex lin_al cls_al) ?_
  refine aK_c (ex lin_gF (cls_gF 0 rfl (Nat.le_of_ble_eq_true rfl))) ?_
  refine aK_c (ex lin_il cls_il) ?_
  refine aK_c (ex lin_iald cls_iald) ?_
  refine aK_c (ex lin_ii cls_ii) ?_
  refine aK_c (ex lin_ic cls_ic) ?_
  refine aK_c (ex lin_al cls_al) ?_
  refine aK_c (ex lin_gF (cls_gF 0 rfl (Nat.le_of_ble_eq_true rfl))) ?_
  refine aK_c (ex lin_il cls_il) ?_
  refine aK_c (ex lin_iald cls_iald) ?_
  refine aK_c (ex lin_ii cls_ii) ?_
  refine aK_c (ex lin_ic cls_ic) ?_
  refine aK_c (ex lin_ii cls_ii) ?_
  refine aK_c (ex lin_go cls_go) ?_
  refine aK_c (ex lin_ii cls_ii) ?_
  refine aK_c (ex lin_rz cls_rz) ?_
  exact aK_n
theorem zX1_isLetter : aCC CX1_isLetter := aCC.of kX1_isLetter
theorem kX1_isDigit : aKl tX1_isDigit := by
  unfold tX1_isDigit
  refine aK_c (ex lin_il cls_il) ?_
  refine aK_c (ex lin_al cls_al) ?_
  refine aK_c (ex lin_gI cls_gI) ?_
  refine aK_c (ex lin_ic cls_ic) ?_
  refine aK_c (ex lin_al cls_al) ?_
  refine aK_c (ex lin_gF (cls_gF 0 rfl (Nat.le_of_ble_eq_true rfl))) ?_
  refine aK_c (ex lin_il cls_il) ?_
  refine aK_c (ex lin_iald cls_iald) ?_
  refine aK_c (ex lin_ii cls_ii) ?_
  refine aK_c (ex lin_ic cls_ic) ?_
  refine aK_c (ex lin_al cls_al) ?_
  refine aK_c (ex lin_gF (cls_gF 0 rfl (Nat.le_of_ble_eq_true rfl))) ?_
  refine aK_c (ex lin_il cls_il) ?_
  refine aK_c (ex lin_iald cls_iald) ?_
  refine aK_c (ex lin_ii cls_ii) ?_
  refine aK_c (ex lin_ic cls_ic) ?_
  refine aK_c (ex lin_ii cls_ii) ?_
  refine aK_c (ex lin_go cls_go) ?_
  refine aK_c (ex lin_ii cls_ii) ?_
  refine aK_c (ex lin_rz cls_rz) ?_
  exact aK_n
theorem zX1_isDigit : aCC CX1_isDigit := aCC.of kX1_isDigit
theorem kX1_endOfToken : aKl tX1_endOfToken := by
  unfold tX1_endOfToken
  refine aK_c (ex lin_il cls_il) ?_
  refine aK_c (ex lin_is cls_is) ?_
  refine aK_c (ex lin_al cls_al) ?_
  refine aK_c (ex lin_il cls_il) ?_
  refine aK_c (ex lin_cV (cls_cV zX1_isLetter)) ?_
  refine aK_c (ex lin_if cls_if) ?_
  refine aK_c (ex (lin_mk lin_il) (cls_mk cls_il)) ?_
  refine aK_c (ex lin_al cls_al) ?_
  refine aK_c (ex lin_gI cls_gI) ?_
  refine aK_c (ex lin_ic cls_ic) ?_
  refine aK_c (ex lin_al cls_al) ?_
  refine aK_c (ex lin_il cls_il) ?_
  refine aK_c (ex lin_cV (cls_cV zX1_isLetter)) ?_
  refine aK_c (ex lin_if cls_if) ?_
  refine aK_c (ex lin_inc cls_inc) ?_
  refine aK_c (ex lin_go cls_go) ?_
  refine aK_c (ex lin_al cls_al) ?_
  refine aK_c (ex lin_il cls_il) ?_
  refine aK_c (ex lin_cV (cls_cV zX1_isDigit)) ?_
  refine aK_c (ex lin_if cls_if) ?_
  refine aK_c (ex (lin_mk lin_il) (cls_mk cls_il)) ?_
  refine aK_c (ex lin_al cls_al) ?_
  refine aK_c (ex lin_gI cls_gI) ?_
  refine aK_c (ex lin_ic cls_ic) ?_
  refine aK_c (ex lin_al cls_al) ?_
  refine aK_c (ex lin_il cls_il) ?_
  refine aK_c (ex lin_cV (cls_cV zX1_isDigit)) ?_
  refine aK_c (ex lin_if cls_if) ?_
  refine aK_c (ex lin_inc cls_inc) ?_
  refine aK_c (ex lin_go cls_go) ?_
  refine aK_c (ex lin_il cls_il) ?_
  refine aK_c (ex lin_al cls_al) ?_
  refine aK_c (ex lin_gI cls_gI) ?_
  refine aK_c (ex lin_ic cls_ic) ?_
  refine aK_c (ex lin_inc cls_inc) ?_
  refine aK_c (ex lin_il cls_il) ?_
  refine aK_c (ex lin_ri cls_ri) ?_
  exact aK_n
theorem zX1_endOfToken : aCC CX1_endOfToken := aCC.of kX1_endOfToken
theorem kJ0_coder_7d493 : aKl tJ0_coder_7d493 := by
  unfold tJ0_coder_7d493
  refine aK_c (ex lin_cmp cls_cmp) ?_
  refine aK_c (ex lin_if cls_if) ?_
  refine aK_c (ex lin_al cls_al) ?_
  refine aK_c (ex lin_sgc cls_sgc) ?_
  refine aK_c (ex lin_go cls_go) ?_
  refine aK_c (ex lin_ii cls_ii) ?_
  refine aK_c (ex lin_rt cls_rt) ?_
  exact aK_n
theorem zJ0_coder_7d493 : aCC CJ0_coder_7d493 := aCC.of kJ0_coder_7d493
theorem kJ0_length_8abf5 : aKl tJ0_length_8abf5 := by
  unfold tJ0_length_8abf5
  refine aK_c (ex lin_al cls_al) ?_
  refine aK_c (ex lin_sgv cls_sgv) ?_
  refine aK_c (ex lin_sal cls_sal) ?_
  refine aK_c (ex lin_al cls_al) ?_
  refine aK_c (ex lin_cVs (cls_cVs zJ0_coder_7d493)) ?_
  refine aK_c (ex lin_bi cls_bi) ?_
  refine aK_c (ex lin_ri cls_ri) ?_
  exact aK_n
theorem zJ0_length_8abf5 : aCC CJ0_length_8abf5 := aCC.of kJ0_length_8abf5
theorem kJ0_isLatin1_aae02 : aKl tJ0_isLatin1_aae02 := by
  unfold tJ0_isLatin1_aae02
  refine aK_c (ex lin_cmp cls_cmp) ?_
  refine aK_c (ex lin_if cls_if) ?_
  refine aK_c (ex lin_al cls_al) ?_
  refine aK_c (ex lin_sgc cls_sgc) ?_
  refine aK_c (ex lin_if cls_if) ?_
  refine aK_c (ex lin_ii cls_ii) ?_
  refine aK_c (ex lin_go cls_go) ?_
  refine aK_c (ex lin_ii cls_ii) ?_
  refine aK_c (ex lin_rz cls_rz) ?_
  exact aK_n
theorem zJ0_isLatin1_aae02 : aCC CJ0_isLatin1_aae02 := aCC.of kJ0_isLatin1_aae02
theorem kJ3_checkIndex_8e157 : aKl tJ3_checkIndex_8e157 := by
  unfold tJ3_checkIndex_8e157
  refine aK_c (ex lin_il cls_il) ?_
  refine aK_c (ex lin_if cls_if) ?_
  refine aK_c (ex lin_il cls_il) ?_
  refine aK_c (ex lin_il cls_il) ?_
  refine aK_c (ex lin_ic cls_ic) ?_
  refine aK_c (ex lin_no cls_no) ?_
  refine aK_c (ex lin_no cls_no) ?_
  refine aK_c (ex lin_no cls_no) ?_
  refine aK_c (ex lin_no cls_no) ?_
  refine aK_c (ex lin_no cls_no) ?_
  refine aK_c (ex lin_il cls_il) ?_
  refine aK_c (ex lin_ri cls_ri) ?_
  exact aK_n
theorem zJ3_checkIndex_8e157 : aCC CJ3_checkIndex_8e157 := aCC.of kJ3_checkIndex_8e157
theorem kJ0_checkIndex_df160 : aKl tJ0_checkIndex_df160 := by
  unfold tJ0_checkIndex_df160
  refine aK_c (ex lin_il cls_il) ?_
  refine aK_c (ex lin_il cls_il) ?_
  refine aK_c ex_gsq ?_
  refine aK_c (ex lin_cS (cls_cS zJ3_checkIndex_8e157)) ?_
  refine aK_c (ex lin_pop cls_pop) ?_
  refine aK_c (ex lin_rv cls_rv) ?_
  exact aK_n
theorem zJ0_checkIndex_df160 : aCC CJ0_checkIndex_df160 := aCC.of kJ0_checkIndex_df160
theorem kJ1_charAt_3b067 : aKl tJ1_charAt_3b067 := by
  unfold tJ1_charAt_3b067
  refine aK_c (ex lin_il cls_il) ?_
  refine aK_c (ex lin_al cls_al) ?_
  refine aK_c (ex lin_sal cls_sal) ?_
  refine aK_c (ex lin_cS (cls_cS zJ0_checkIndex_df160)) ?_
  refine aK_c (ex lin_al cls_al) ?_
  refine aK_c (ex lin_il cls_il) ?_
  refine aK_c (ex lin_sbl cls_sbl) ?_
  refine aK_c (ex lin_ii cls_ii) ?_
  refine aK_c (ex lin_bi cls_bi) ?_
  refine aK_c (ex lin_ui cls_ui) ?_
  refine aK_c (ex lin_rt cls_rt) ?_
  exact aK_n
theorem zJ1_charAt_3b067 : aCC CJ1_charAt_3b067 := aCC.of kJ1_charAt_3b067
theorem kJ0_charAt_5068e : aKl tJ0_charAt_5068e := by
  unfold tJ0_charAt_5068e
  refine aK_c (ex lin_al cls_al) ?_
  refine aK_c (ex lin_cVs (cls_cVs zJ0_isLatin1_aae02)) ?_
  refine aK_c (ex lin_if cls_if) ?_
  refine aK_c (ex lin_al cls_al) ?_
  refine aK_c (ex lin_sgv cls_sgv) ?_
  refine aK_c (ex lin_il cls_il) ?_
  refine aK_c (ex lin_cS (cls_cS zJ1_charAt_3b067)) ?_
  refine aK_c (ex lin_rt cls_rt) ?_
  refine aK_c (ex lin_no cls_no) ?_
  refine aK_c (ex lin_sgv cls_sgv) ?_
  refine aK_c (ex lin_no cls_no) ?_
  refine aK_c (ex lin_no cls_no) ?_
  refine aK_c (ex lin_no cls_no) ?_
  exact aK_n
theorem zJ0_charAt_5068e : aCC CJ0_charAt_5068e := aCC.of kJ0_charAt_5068e
theorem kX1_isWord : aKl tX1_isWord := by
  unfold tX1_isWord
  refine aK_c (ex lin_il cls_il) ?_
  refine aK_c (ex lin_il cls_il) ?_
  refine aK_c (ex lin_bi cls_bi) ?_
  refine aK_c (ex lin_al cls_al) ?_
  refine aK_c (ex lin_cVs (cls_cVs zJ0_length_8abf5)) ?_
  refine aK_c (ex lin_ic cls_ic) ?_
  refine aK_c (ex lin_ii cls_ii) ?_
  refine aK_c (ex lin_rz cls_rz) ?_
  refine aK_c (ex lin_ii cls_ii) ?_
  refine aK_c (ex lin_is cls_is) ?_
  refine aK_c (ex (lin_mk lin_il) (cls_mk cls_il)) ?_
  refine aK_c (ex lin_al cls_al) ?_
  refine aK_c (ex lin_cVs (cls_cVs zJ0_length_8abf5)) ?_
  refine aK_c (ex lin_ic cls_ic) ?_
  refine aK_c (ex lin_al cls_al) ?_
  refine aK_c (ex lin_il cls_il) ?_
  refine aK_c (ex lin_cVs (cls_cVs zJ0_charAt_5068e)) ?_
  refine aK_c (ex lin_al cls_al) ?_
  refine aK_c (ex lin_gF (cls_gF 0 rfl (Nat.le_of_ble_eq_true rfl))) ?_
  refine aK_c (ex lin_il cls_il) ?_
  refine aK_c (ex lin_il cls_il) ?_
  refine aK_c (ex lin_bi cls_bi) ?_
  refine aK_c (ex lin_iald cls_iald) ?_
  refine aK_c (ex lin_ic cls_ic) ?_
  refine aK_c (ex lin_ii cls_ii) ?_
  refine aK_c (ex lin_rz cls_rz) ?_
  refine aK_c (ex lin_inc cls_inc) ?_
  refine aK_c (ex lin_go cls_go) ?_
  refine aK_c (ex lin_ii cls_ii) ?_
  refine aK_c (ex lin_rz cls_rz) ?_
  exact aK_n
theorem zX1_isWord : aCC CX1_isWord := aCC.of kX1_isWord
theorem kX1_wordBetween : aKl tX1_wordBetween := by
  unfold tX1_wordBetween
  refine aK_c (ex lin_al cls_al) ?_
  refine aK_c (ex lin_ldS cls_ldS) ?_
  refine aK_c (ex lin_il cls_il) ?_
  refine aK_c (ex lin_il cls_il) ?_
  refine aK_c (ex lin_cV (cls_cV zX1_isWord)) ?_
  refine aK_c (ex lin_if cls_if) ?_
  refine aK_c (ex lin_ii cls_ii) ?_
  refine aK_c (ex lin_ri cls_ri) ?_
  refine aK_c (ex lin_al cls_al) ?_
  refine aK_c (ex lin_ldS cls_ldS) ?_
  refine aK_c (ex lin_il cls_il) ?_
  refine aK_c (ex lin_il cls_il) ?_
  refine aK_c (ex lin_cV (cls_cV zX1_isWord)) ?_
  refine aK_c (ex lin_if cls_if) ?_
  refine aK_c (ex lin_ii cls_ii) ?_
  refine aK_c (ex lin_ri cls_ri) ?_
  refine aK_c (ex lin_al cls_al) ?_
  refine aK_c (ex lin_ldS cls_ldS) ?_
  refine aK_c (ex lin_il cls_il) ?_
  refine aK_c (ex lin_il cls_il) ?_
  refine aK_c (ex lin_cV (cls_cV zX1_isWord)) ?_
  refine aK_c (ex lin_if cls_if) ?_
  refine aK_c (ex lin_ii cls_ii) ?_
  refine aK_c (ex lin_ri cls_ri) ?_
  refine aK_c (ex lin_al cls_al) ?_
  refine aK_c (ex lin_ldS cls_ldS) ?_
  refine aK_c (ex lin_il cls_il) ?_
  refine aK_c (ex lin_il cls_il) ?_
  refine aK_c (ex lin_cV (cls_cV zX1_isWord)) ?_
  refine aK_c (ex lin_if cls_if) ?_
  refine aK_c (ex lin_ii cls_ii) ?_
  refine aK_c (ex lin_ri cls_ri) ?_
  refine aK_c (ex lin_al cls_al) ?_
  refine aK_c (ex lin_ldS cls_ldS) ?_
  refine aK_c (ex lin_il cls_il) ?_
  refine aK_c (ex lin_il cls_il) ?_
  refine aK_c (ex lin_cV (cls_cV zX1_isWord)) ?_
  refine aK_c (ex lin_if cls_if) ?_
  refine aK_c (ex lin_ii cls_ii) ?_
  refine aK_c (ex lin_ri cls_ri) ?_
  refine aK_c (ex lin_al cls_al) ?_
  refine aK_c (ex lin_ldS cls_ldS) ?_
  refine aK_c (ex lin_il cls_il) ?_
  refine aK_c (ex lin_il cls_il) ?_
  refine aK_c (ex lin_cV (cls_cV zX1_isWord)) ?_
  refine aK_c (ex lin_if cls_if) ?_
  refine aK_c (ex lin_ii cls_ii) ?_
  refine aK_c (ex lin_ri cls_ri) ?_
  refine aK_c (ex lin_al cls_al) ?_
  refine aK_c (ex lin_ldS cls_ldS) ?_
  refine aK_c (ex lin_il cls_il) ?_
  refine aK_c (ex lin_il cls_il) ?_
  refine aK_c (ex lin_cV (cls_cV zX1_isWord)) ?_
  refine aK_c (ex lin_if cls_if) ?_
  refine aK_c (ex lin_ii cls_ii) ?_
  refine aK_c (ex lin_ri cls_ri) ?_
  refine aK_c (ex lin_al cls_al) ?_
  refine aK_c (ex lin_ldS cls_ldS) ?_
  refine aK_c (ex lin_il cls_il) ?_
  refine aK_c (ex lin_il cls_il) ?_
  refine aK_c (ex lin_cV (cls_cV zX1_isWord)) ?_
  refine aK_c (ex lin_if cls_if) ?_
  refine aK_c (ex lin_ii cls_ii) ?_
  refine aK_c (ex lin_ri cls_ri) ?_
  refine aK_c (ex lin_al cls_al) ?_
  refine aK_c (ex lin_ldS cls_ldS) ?_
  refine aK_c (ex lin_il cls_il) ?_
  refine aK_c (ex lin_il cls_il) ?_
  refine aK_c (ex lin_cV (cls_cV zX1_isWord)) ?_
  refine aK_c (ex lin_if cls_if) ?_
  refine aK_c (ex lin_ii cls_ii) ?_
  refine aK_c (ex lin_ri cls_ri) ?_
  refine aK_c (ex lin_al cls_al) ?_
  refine aK_c (ex lin_ldS cls_ldS) ?_
  refine aK_c (ex lin_il cls_il) ?_
  refine aK_c (ex lin_il cls_il) ?_
  refine aK_c (ex lin_cV (cls_cV zX1_isWord)) ?_
  refine aK_c (ex lin_if cls_if) ?_
  refine aK_c (ex lin_ii cls_ii) ?_
  refine aK_c (ex lin_ri cls_ri) ?_
  refine aK_c (ex lin_al cls_al) ?_
  refine aK_c (ex lin_ldS cls_ldS) ?_
  refine aK_c (ex lin_il cls_il) ?_
  refine aK_c (ex lin_il cls_il) ?_
  refine aK_c (ex lin_cV (cls_cV zX1_isWord)) ?_
  refine aK_c (ex lin_if cls_if) ?_
  refine aK_c (ex lin_ii cls_ii) ?_
  refine aK_c (ex lin_ri cls_ri) ?_
  refine aK_c (ex lin_al cls_al) ?_
  refine aK_c (ex lin_ldS cls_ldS) ?_
  refine aK_c (ex lin_il cls_il) ?_
  refine aK_c (ex lin_il cls_il) ?_
  refine aK_c (ex lin_cV (cls_cV zX1_isWord)) ?_
  refine aK_c (ex lin_if cls_if) ?_
  refine aK_c (ex lin_ii cls_ii) ?_
  refine aK_c (ex lin_go cls_go) ?_
  refine aK_c (ex lin_ii cls_ii) ?_
  refine aK_c (ex lin_ri cls_ri) ?_
  exact aK_n
theorem zX1_wordBetween : aCC CX1_wordBetween := aCC.of kX1_wordBetween
theorem kX1_numberBetween : aKl tX1_numberBetween := by
  unfold tX1_numberBetween
  refine aK_c (ex lin_il cls_il) ?_
  refine aK_c (ex lin_il cls_il) ?_
  refine aK_c (ex lin_bi cls_bi) ?_
  refine aK_c (ex lin_ii cls_ii) ?_
  refine aK_c (ex lin_ic cls_ic) ?_
  refine aK_c (ex lin_ii cls_ii) ?_
  refine aK_c (ex lin_ri cls_ri) ?_
  refine aK_c (ex lin_ii cls_ii) ?_
  refine aK_c (ex lin_is cls_is) ?_
  refine aK_c (ex lin_il cls_il) ?_
  refine aK_c (ex lin_is cls_is) ?_
  refine aK_c (ex (lin_mk lin_il) (cls_mk cls_il)) ?_
  refine aK_c (ex lin_il cls_il) ?_
  refine aK_c (ex lin_ic cls_ic) ?_
  refine aK_c (ex lin_ii cls_ii) ?_
  refine aK_c (ex lin_il cls_il) ?_
  refine aK_c (ex lin_bi cls_bi) ?_
  refine aK_c (ex lin_al cls_al) ?_
  refine aK_c (ex lin_gF (cls_gF 0 rfl (Nat.le_of_ble_eq_true rfl))) ?_
  refine aK_c (ex lin_il cls_il) ?_
  refine aK_c (ex lin_iald cls_iald) ?_
  refine aK_c (ex lin_bi cls_bi) ?_
  refine aK_c (ex lin_ii cls_ii) ?_
  refine aK_c (ex lin_bi cls_bi) ?_
  refine aK_c (ex lin_is cls_is) ?_
  refine aK_c (ex lin_inc cls_inc) ?_
  refine aK_c (ex lin_go cls_go) ?_
  refine aK_c (ex lin_il cls_il) ?_
  refine aK_c (ex lin_ri cls_ri) ?_
  exact aK_n
theorem zX1_numberBetween : aCC CX1_numberBetween := aCC.of kX1_numberBetween
theorem kX1_signOf : aKl tX1_signOf := by
  unfold tX1_signOf
  refine aK_c (ex lin_il cls_il) ?_
  refine aK_c (ex lin_sw cls_sw) ?_
  refine aK_c (ex lin_ii cls_ii) ?_
  refine aK_c (ex lin_ri cls_ri) ?_
  refine aK_c (ex lin_ii cls_ii) ?_
  refine aK_c (ex lin_ri cls_ri) ?_
  refine aK_c (ex lin_ii cls_ii) ?_
  refine aK_c (ex lin_ri cls_ri) ?_
  refine aK_c (ex lin_ii cls_ii) ?_
  refine aK_c (ex lin_ri cls_ri) ?_
  refine aK_c (ex lin_ii cls_ii) ?_
  refine aK_c (ex lin_ri cls_ri) ?_
  refine aK_c (ex lin_ii cls_ii) ?_
  refine aK_c (ex lin_ri cls_ri) ?_
  refine aK_c (ex lin_ii cls_ii) ?_
  refine aK_c (ex lin_ri cls_ri) ?_
  refine aK_c (ex lin_ii cls_ii) ?_
  refine aK_c (ex lin_ri cls_ri) ?_
  refine aK_c (ex lin_ii cls_ii) ?_
  refine aK_c (ex lin_ri cls_ri) ?_
  exact aK_n
theorem zX1_signOf : aCC CX1_signOf := aCC.of kX1_signOf
theorem kX1_tokenBetween : aKl tX1_tokenBetween := by
  unfold tX1_tokenBetween
  refine aK_c (ex lin_il cls_il) ?_
  refine aK_c (ex lin_al cls_al) ?_
  refine aK_c (ex lin_gI cls_gI) ?_
  refine aK_c (ex lin_ic cls_ic) ?_
  refine aK_c (ex lin_ii cls_ii) ?_
  refine aK_c (ex lin_ri cls_ri) ?_
  refine aK_c (ex lin_al cls_al) ?_
  refine aK_c (ex lin_il cls_il) ?_
  refine aK_c (ex lin_cV (cls_cV zX1_isLetter)) ?_
  refine aK_c (ex lin_if cls_if) ?_
  refine aK_c (ex lin_al cls_al) ?_
  refine aK_c (ex lin_il cls_il) ?_
  refine aK_c (ex lin_il cls_il) ?_
  refine aK_c (ex lin_cV (cls_cV zX1_wordBetween)) ?_
  refine aK_c (ex lin_ri cls_ri) ?_
  refine aK_c (ex lin_al cls_al) ?_
  refine aK_c (ex lin_il cls_il) ?_
  refine aK_c (ex lin_cV (cls_cV zX1_isDigit)) ?_
  refine aK_c (ex lin_if cls_if) ?_
  refine aK_c (ex lin_al cls_al) ?_
  refine aK_c (ex lin_il cls_il) ?_
  refine aK_c (ex lin_il cls_il) ?_
  refine aK_c (ex lin_cV (cls_cV zX1_numberBetween)) ?_
  refine aK_c (ex lin_ri cls_ri) ?_
  refine aK_c (ex lin_al cls_al) ?_
  refine aK_c (ex lin_gF (cls_gF 0 rfl (Nat.le_of_ble_eq_true rfl))) ?_
  refine aK_c (ex lin_il cls_il) ?_
  refine aK_c (ex lin_iald cls_iald) ?_
  refine aK_c (ex lin_cS (cls_cS zX1_signOf)) ?_
  refine aK_c (ex lin_ri cls_ri) ?_
  exact aK_n
theorem zX1_tokenBetween : aCC CX1_tokenBetween := aCC.of kX1_tokenBetween
theorem kX1_scan : aKl tX1_scan := by
  unfold tX1_scan
  refine aK_c (ex lin_ii cls_ii) ?_
  refine aK_c (ex lin_is cls_is) ?_
  refine aK_c (ex lin_ii cls_ii) ?_
  refine aK_c (ex lin_is cls_is) ?_
  refine aK_c (ex (lin_mk lin_il) (cls_mk cls_il)) ?_
  refine aK_c (ex lin_ii cls_ii) ?_
  refine aK_c (ex lin_ic cls_ic) ?_
  refine aK_c (ex (lin_mk lin_il) (cls_mk cls_il)) ?_
  refine aK_c (ex lin_al cls_al) ?_
  refine aK_c (ex lin_gI cls_gI) ?_
  refine aK_c (ex lin_ic cls_ic) ?_
  refine aK_c (ex lin_al cls_al) ?_
  refine aK_c (ex lin_gF (cls_gF 0 rfl (Nat.le_of_ble_eq_true rfl))) ?_
  refine aK_c (ex lin_il cls_il) ?_
  refine aK_c (ex lin_iald cls_iald) ?_
  refine aK_c (ex lin_ii cls_ii) ?_
  refine aK_c (ex lin_ic cls_ic) ?_
  refine aK_c (ex lin_al cls_al) ?_
  refine aK_c (ex lin_gF (cls_gF 0 rfl (Nat.le_of_ble_eq_true rfl))) ?_
  refine aK_c (ex lin_il cls_il) ?_
  refine aK_c (ex lin_iald cls_iald) ?_
  refine aK_c (ex lin_ii cls_ii) ?_
  refine aK_c (ex lin_ic cls_ic) ?_
  refine aK_c (ex lin_inc cls_inc) ?_
  refine aK_c (ex lin_go cls_go) ?_
  refine aK_c (ex lin_al cls_al) ?_
  refine aK_c (ex lin_gF (cls_gF 2 rfl (Nat.le_of_ble_eq_true rfl))) ?_
  refine aK_c (ex lin_il cls_il) ?_
  refine aK_c (ex lin_il cls_il) ?_
  refine aK_c (ex lin_iast cls_iast) ?_
  refine aK_c (ex lin_al cls_al) ?_
  refine aK_c (ex lin_il cls_il) ?_
  refine aK_c (ex lin_cV (cls_cV zX1_endOfToken)) ?_
  refine aK_c (ex lin_is cls_is) ?_
  refine aK_c (ex lin_al cls_al) ?_
  refine aK_c (ex lin_gF (cls_gF 1 rfl (Nat.le_of_ble_eq_true rfl))) ?_
  refine aK_c (ex lin_il cls_il) ?_
  refine aK_c (ex lin_al cls_al) ?_
  refine aK_c (ex lin_il cls_il) ?_
  refine aK_c (ex lin_il cls_il) ?_
  refine aK_c (ex lin_cV (cls_cV zX1_tokenBetween)) ?_
  refine aK_c (ex lin_iast cls_iast) ?_
  refine aK_c (ex lin_al cls_al) ?_
  refine aK_c (ex lin_gF (cls_gF 1 rfl (Nat.le_of_ble_eq_true rfl))) ?_
  refine aK_c (ex lin_il cls_il) ?_
  refine aK_c (ex lin_iald cls_iald) ?_
  refine aK_c (ex lin_ii cls_ii) ?_
  refine aK_c (ex lin_ic cls_ic) ?_
  refine aK_c (ex lin_al cls_al) ?_
  refine aK_c (ex lin_gF (cls_gF 1 rfl (Nat.le_of_ble_eq_true rfl))) ?_
  refine aK_c (ex lin_il cls_il) ?_
  refine aK_c (ex lin_iald cls_iald) ?_
  refine aK_c (ex lin_ii cls_ii) ?_
  refine aK_c (ex lin_ic cls_ic) ?_
  refine aK_c (ex lin_rv cls_rv) ?_
  refine aK_c (ex lin_il cls_il) ?_
  refine aK_c (ex lin_is cls_is) ?_
  refine aK_c (ex lin_inc cls_inc) ?_
  refine aK_c (ex lin_go cls_go) ?_
  refine aK_c (ex lin_rv cls_rv) ?_
  exact aK_n
theorem zX1_scan : aCC CX1_scan := aCC.of kX1_scan
theorem kX1_token : aKl tX1_token := by
  unfold tX1_token
  refine aK_c (ex lin_al cls_al) ?_
  refine aK_c (ex lin_gI cls_gI) ?_
  refine aK_c (ex lin_ii cls_ii) ?_
  refine aK_c (ex lin_ic cls_ic) ?_
  refine aK_c (ex lin_al cls_al) ?_
  refine aK_c (ex lin_gF (cls_gF 1 rfl (Nat.le_of_ble_eq_true rfl))) ?_
  refine aK_c (ex lin_al cls_al) ?_
  refine aK_c (ex lin_gI cls_gI) ?_
  refine aK_c (ex lin_iald cls_iald) ?_
  refine aK_c (ex lin_go cls_go) ?_
  refine aK_c (ex lin_ii cls_ii) ?_
  refine aK_c (ex lin_ri cls_ri) ?_
  exact aK_n
theorem zX1_token : aCC CX1_token := aCC.of kX1_token
theorem kX1_skip : aKl tX1_skip := by
  unfold tX1_skip
  refine aK_c (ex lin_al cls_al) ?_
  refine aK_c (ex lin_cV (cls_cV zX1_token)) ?_
  refine aK_c (ex lin_il cls_il) ?_
  refine aK_c (ex lin_ic cls_ic) ?_
  refine aK_c (ex lin_ii cls_ii) ?_
  refine aK_c (ex lin_rz cls_rz) ?_
  refine aK_c (ex lin_al cls_al) ?_
  refine aK_c (ex lin_dup cls_dup) ?_
  refine aK_c (ex lin_gI cls_gI) ?_
  refine aK_c (ex lin_ii cls_ii) ?_
  refine aK_c (ex lin_bi cls_bi) ?_
  refine aK_c (ex lin_pI cls_pI) ?_
  refine aK_c (ex lin_ii cls_ii) ?_
  refine aK_c (ex lin_rz cls_rz) ?_
  exact aK_n
theorem zX1_skip : aCC CX1_skip := aCC.of kX1_skip
theorem kX1_add : aKl tX1_add := by
  unfold tX1_add
  refine aK_c (ex lin_al cls_al) ?_
  refine aK_c (ex lin_gI cls_gI) ?_
  refine aK_c (ex lin_ii cls_ii) ?_
  refine aK_c (ex lin_ic cls_ic) ?_
  refine aK_c (ex lin_al cls_al) ?_
  refine aK_c (ex lin_gF (cls_gF 3 rfl (Nat.le_of_ble_eq_true rfl))) ?_
  refine aK_c (ex lin_al cls_al) ?_
  refine aK_c (ex lin_gI cls_gI) ?_
  refine aK_c (ex lin_il cls_il) ?_
  refine aK_c (ex lin_iast cls_iast) ?_
  refine aK_c (ex lin_al cls_al) ?_
  refine aK_c (ex lin_dup cls_dup) ?_
  refine aK_c (ex lin_gI cls_gI) ?_
  refine aK_c (ex lin_ii cls_ii) ?_
  refine aK_c (ex lin_bi cls_bi) ?_
  refine aK_c (ex lin_pI cls_pI) ?_
  refine aK_c (ex lin_rv cls_rv) ?_
  exact aK_n
theorem zX1_add : aCC CX1_add := aCC.of kX1_add
theorem kX1_joins : aKl tX1_joins := by
  unfold tX1_joins
  refine aK_c (ex lin_il cls_il) ?_
  refine aK_c (ex lin_sw cls_sw) ?_
  refine aK_c (ex lin_il cls_il) ?_
  refine aK_c (ex lin_ii cls_ii) ?_
  refine aK_c (ex lin_ic cls_ic) ?_
  refine aK_c (ex lin_ii cls_ii) ?_
  refine aK_c (ex lin_go cls_go) ?_
  refine aK_c (ex lin_ii cls_ii) ?_
  refine aK_c (ex lin_rz cls_rz) ?_
  refine aK_c (ex lin_il cls_il) ?_
  refine aK_c (ex lin_ii cls_ii) ?_
  refine aK_c (ex lin_ic cls_ic) ?_
  refine aK_c (ex lin_ii cls_ii) ?_
  refine aK_c (ex lin_go cls_go) ?_
  refine aK_c (ex lin_ii cls_ii) ?_
  refine aK_c (ex lin_rz cls_rz) ?_
  refine aK_c (ex lin_il cls_il) ?_
  refine aK_c (ex lin_ii cls_ii) ?_
  refine aK_c (ex lin_ic cls_ic) ?_
  refine aK_c (ex lin_il cls_il) ?_
  refine aK_c (ex lin_ii cls_ii) ?_
  refine aK_c (ex lin_ic cls_ic) ?_
  refine aK_c (ex lin_ii cls_ii) ?_
  refine aK_c (ex lin_go cls_go) ?_
  refine aK_c (ex lin_ii cls_ii) ?_
  refine aK_c (ex lin_rz cls_rz) ?_
  refine aK_c (ex lin_il cls_il) ?_
  refine aK_c (ex lin_ii cls_ii) ?_
  refine aK_c (ex lin_ic cls_ic) ?_
  refine aK_c (ex lin_il cls_il) ?_
  refine aK_c (ex lin_ii cls_ii) ?_
  refine aK_c (ex lin_ic cls_ic) ?_
  refine aK_c (ex lin_ii cls_ii) ?_
  refine aK_c (ex lin_go cls_go) ?_
  refine aK_c (ex lin_ii cls_ii) ?_
  refine aK_c (ex lin_rz cls_rz) ?_
  refine aK_c (ex lin_il cls_il) ?_
  refine aK_c (ex lin_ii cls_ii) ?_
  refine aK_c (ex lin_ic cls_ic) ?_
  refine aK_c (ex lin_ii cls_ii) ?_
  refine aK_c (ex lin_go cls_go) ?_
  refine aK_c (ex lin_ii cls_ii) ?_
  refine aK_c (ex lin_rz cls_rz) ?_
  refine aK_c (ex lin_ii cls_ii) ?_
  refine aK_c (ex lin_rz cls_rz) ?_
  exact aK_n
theorem zX1_joins : aCC CX1_joins := aCC.of kX1_joins
theorem kX1_readLevel {cL cO cP : aC} (hL : aCC cL) (hO : aCC cO) (hP : aCC cP) : aKl (tX1_readLevel cL cO cP) := by
  unfold tX1_readLevel
  refine aK_c (ex lin_il cls_il) ?_
  refine aK_c (ex lin_ii cls_ii) ?_
  refine aK_c (ex lin_ic cls_ic) ?_
  refine aK_c (ex lin_al cls_al) ?_
  refine aK_c (ex lin_il cls_il) ?_
  refine aK_c (ex lin_cS (cls_cS hO)) ?_
  refine aK_c (ex lin_rz cls_rz) ?_
  refine aK_c (ex lin_il cls_il) ?_
  refine aK_c (ex lin_ii cls_ii) ?_
  refine aK_c (ex lin_ic cls_ic) ?_
  refine aK_c (ex lin_al cls_al) ?_
  refine aK_c (ex lin_cV (cls_cV zX1_token)) ?_
  refine aK_c (ex lin_ii cls_ii) ?_
  refine aK_c (ex lin_ic cls_ic) ?_
  refine aK_c (ex lin_al cls_al) ?_
  refine aK_c (ex lin_ii cls_ii) ?_
  refine aK_c (ex lin_ii cls_ii) ?_
  refine aK_c (ex lin_il cls_il) ?_
  refine aK_c (ex lin_cS (cls_cS hP)) ?_
  refine aK_c (ex lin_rz cls_rz) ?_
  refine aK_c (ex lin_al cls_al) ?_
  refine aK_c (ex lin_il cls_il) ?_
  refine aK_c (ex lin_ii cls_ii) ?_
  refine aK_c (ex lin_bi cls_bi) ?_
  refine aK_c (ex lin_il cls_il) ?_
  refine aK_c (ex lin_cS (cls_cS hL)) ?_
  refine aK_c (ex lin_if cls_if) ?_
  refine aK_c (ex lin_ii cls_ii) ?_
  refine aK_c (ex lin_rz cls_rz) ?_
  refine aK_c (ex lin_il cls_il) ?_
  refine aK_c (ex lin_ii cls_ii) ?_
  refine aK_c (ex lin_ic cls_ic) ?_
  refine aK_c (ex lin_ii cls_ii) ?_
  refine aK_c (ex lin_go cls_go) ?_
  refine aK_c (ex lin_ii cls_ii) ?_
  refine aK_c (ex lin_is cls_is) ?_
  refine aK_c (ex lin_ii cls_ii) ?_
  refine aK_c (ex lin_is cls_is) ?_
  refine aK_c (ex (lin_mk lin_il) (cls_mk cls_il)) ?_
  refine aK_c (ex lin_il cls_il) ?_
  refine aK_c (ex lin_ic cls_ic) ?_
  refine aK_c (ex lin_il cls_il) ?_
  refine aK_c (ex lin_al cls_al) ?_
  refine aK_c (ex lin_cV (cls_cV zX1_token)) ?_
  refine aK_c (ex lin_cS (cls_cS zX1_joins)) ?_
  refine aK_c (ex lin_if cls_if) ?_
  refine aK_c (ex lin_al cls_al) ?_
  refine aK_c (ex lin_cV (cls_cV zX1_token)) ?_
  refine aK_c (ex lin_is cls_is) ?_
  refine aK_c (ex lin_al cls_al) ?_
  refine aK_c (ex lin_dup cls_dup) ?_
  refine aK_c (ex lin_gI cls_gI) ?_
  refine aK_c (ex lin_ii cls_ii) ?_
  refine aK_c (ex lin_bi cls_bi) ?_
  refine aK_c (ex lin_pI cls_pI) ?_
  refine aK_c (ex lin_al cls_al) ?_
  refine aK_c (ex lin_il cls_il) ?_
  refine aK_c (ex lin_ii cls_ii) ?_
  refine aK_c (ex lin_bi cls_bi) ?_
  refine aK_c (ex lin_il cls_il) ?_
  refine aK_c (ex lin_cS (cls_cS hL)) ?_
  refine aK_c (ex lin_if cls_if) ?_
  refine aK_c (ex lin_ii cls_ii) ?_
  refine aK_c (ex lin_rz cls_rz) ?_
  refine aK_c (ex lin_al cls_al) ?_
  refine aK_c (ex lin_il cls_il) ?_
  refine aK_c (ex lin_cV (cls_cV zX1_add)) ?_
  refine aK_c (ex lin_inc cls_inc) ?_
  refine aK_c (ex lin_go cls_go) ?_
  refine aK_c (ex lin_ii cls_ii) ?_
  refine aK_c (ex lin_rz cls_rz) ?_
  exact aK_n
theorem kX1_readOne {cL cO cP : aC} (hL : aCC cL) (hO : aCC cO) (hP : aCC cP) : aKl (tX1_readOne cL cO cP) := by
  unfold tX1_readOne
  refine aK_c (ex lin_al cls_al) ?_
  refine aK_c (ex lin_cV (cls_cV zX1_token)) ?_
  refine aK_c (ex lin_is cls_is) ?_
  refine aK_c (ex lin_il cls_il) ?_
  refine aK_c (ex lin_ii cls_ii) ?_
  refine aK_c (ex lin_ic cls_ic) ?_
  refine aK_c (ex lin_al cls_al) ?_
  refine aK_c (ex lin_ii cls_ii) ?_
  refine aK_c (ex lin_ii cls_ii) ?_
  refine aK_c (ex lin_il cls_il) ?_
  refine aK_c (ex lin_cS (cls_cS hP)) ?_
  refine aK_c (ex lin_rz cls_rz) ?_
  refine aK_c (ex lin_il cls_il) ?_
  refine aK_c (ex lin_ii cls_ii) ?_
  refine aK_c (ex lin_ic cls_ic) ?_
  refine aK_c (ex lin_il cls_il) ?_
  refine aK_c (ex lin_ii cls_ii) ?_
  refine aK_c (ex lin_ic cls_ic) ?_
  refine aK_c (ex lin_ii cls_ii) ?_
  refine aK_c (ex lin_rz cls_rz) ?_
  refine aK_c (ex lin_al cls_al) ?_
  refine aK_c (ex lin_dup cls_dup) ?_
  refine aK_c (ex lin_gI cls_gI) ?_
  refine aK_c (ex lin_ii cls_ii) ?_
  refine aK_c (ex lin_bi cls_bi) ?_
  refine aK_c (ex lin_pI cls_pI) ?_
  refine aK_c (ex lin_al cls_al) ?_
  refine aK_c (ex lin_ii cls_ii) ?_
  refine aK_c (ex lin_il cls_il) ?_
  refine aK_c (ex lin_ii cls_ii) ?_
  refine aK_c (ex lin_bi cls_bi) ?_
  refine aK_c (ex lin_cS (cls_cS hL)) ?_
  refine aK_c (ex lin_if cls_if) ?_
  refine aK_c (ex lin_al cls_al) ?_
  refine aK_c (ex lin_ii cls_ii) ?_
  refine aK_c (ex lin_cV (cls_cV zX1_skip)) ?_
  refine aK_c (ex lin_if cls_if) ?_
  refine aK_c (ex lin_ii cls_ii) ?_
  refine aK_c (ex lin_go cls_go) ?_
  refine aK_c (ex lin_ii cls_ii) ?_
  refine aK_c (ex lin_rz cls_rz) ?_
  refine aK_c (ex lin_il cls_il) ?_
  refine aK_c (ex lin_ii cls_ii) ?_
  refine aK_c (ex lin_ic cls_ic) ?_
  refine aK_c (ex lin_ii cls_ii) ?_
  refine aK_c (ex lin_rz cls_rz) ?_
  refine aK_c (ex lin_al cls_al) ?_
  refine aK_c (ex lin_il cls_il) ?_
  refine aK_c (ex lin_cV (cls_cV zX1_add)) ?_
  refine aK_c (ex lin_al cls_al) ?_
  refine aK_c (ex lin_dup cls_dup) ?_
  refine aK_c (ex lin_gI cls_gI) ?_
  refine aK_c (ex lin_ii cls_ii) ?_
  refine aK_c (ex lin_bi cls_bi) ?_
  refine aK_c (ex lin_pI cls_pI) ?_
  refine aK_c (ex lin_ii cls_ii) ?_
  refine aK_c (ex lin_rz cls_rz) ?_
  exact aK_n
theorem kX1_readPrefixed {cL cO cP : aC} (hL : aCC cL) (hO : aCC cO) (hP : aCC cP) : aKl (tX1_readPrefixed cL cO cP) := by
  unfold tX1_readPrefixed
  refine aK_c (ex lin_il cls_il) ?_
  refine aK_c (ex lin_ii cls_ii) ?_
  refine aK_c (ex lin_ic cls_ic) ?_
  refine aK_c (ex lin_ii cls_ii) ?_
  refine aK_c (ex lin_rz cls_rz) ?_
  refine aK_c (ex lin_al cls_al) ?_
  refine aK_c (ex lin_dup cls_dup) ?_
  refine aK_c (ex lin_gI cls_gI) ?_
  refine aK_c (ex lin_ii cls_ii) ?_
  refine aK_c (ex lin_bi cls_bi) ?_
  refine aK_c (ex lin_pI cls_pI) ?_
  refine aK_c (ex lin_al cls_al) ?_
  refine aK_c (ex lin_il cls_il) ?_
  refine aK_c (ex lin_il cls_il) ?_
  refine aK_c (ex lin_ii cls_ii) ?_
  refine aK_c (ex lin_bi cls_bi) ?_
  refine aK_c (ex lin_cS (cls_cS hL)) ?_
  refine aK_c (ex lin_if cls_if) ?_
  refine aK_c (ex lin_ii cls_ii) ?_
  refine aK_c (ex lin_rz cls_rz) ?_
  refine aK_c (ex lin_al cls_al) ?_
  refine aK_c (ex lin_il cls_il) ?_
  refine aK_c (ex lin_cV (cls_cV zX1_add)) ?_
  refine aK_c (ex lin_ii cls_ii) ?_
  refine aK_c (ex lin_rz cls_rz) ?_
  exact aK_n
theorem zR : ∀ d, aCC (gR d).1 ∧ aCC (gR d).2.1 ∧ aCC (gR d).2.2
  | 0 => ⟨fun _ _ _ _ h => h.elim, fun _ _ _ _ h => h.elim, fun _ _ _ _ h => h.elim⟩
  | d + 1 => ⟨aCC.of (kX1_readLevel (zR d).1 (zR d).2.1 (zR d).2.2), aCC.of (kX1_readOne (zR d).1 (zR d).2.1 (zR d).2.2), aCC.of (kX1_readPrefixed (zR d).1 (zR d).2.1 (zR d).2.2)⟩
theorem kX1_place : aKl tX1_place := by
  unfold tX1_place
  refine aK_c (ex lin_al cls_al) ?_
  refine aK_c (ex lin_gI cls_gI) ?_
  refine aK_c (ex lin_ii cls_ii) ?_
  refine aK_c (ex lin_ic cls_ic) ?_
  refine aK_c (ex lin_al cls_al) ?_
  refine aK_c (ex lin_gF (cls_gF 2 rfl (Nat.le_of_ble_eq_true rfl))) ?_
  refine aK_c (ex lin_al cls_al) ?_
  refine aK_c (ex lin_gI cls_gI) ?_
  refine aK_c (ex lin_iald cls_iald) ?_
  refine aK_c (ex lin_go cls_go) ?_
  refine aK_c (ex lin_al cls_al) ?_
  refine aK_c (ex lin_gI cls_gI) ?_
  refine aK_c (ex lin_ri cls_ri) ?_
  exact aK_n
theorem zX1_place : aCC CX1_place := aCC.of kX1_place
theorem kX0_obey : aKl tX0_obey := by
  unfold tX0_obey
  refine aK_c (ex lin_al cls_al) ?_
  refine aK_c (ex lin_nul cls_nul) ?_
  refine aK_c (ex lin_al cls_al) ?_
  refine aK_c (ex lin_al cls_al) ?_
  refine aK_c (ex lin_pR cls_pR) ?_
  refine aK_c (ex lin_al cls_al) ?_
  refine aK_c (ex lin_il cls_il) ?_
  refine aK_c (ex lin_pI cls_pI) ?_
  refine aK_c (ex lin_rv cls_rv) ?_
  exact aK_n
theorem zX0_obey : aCC CX0_obey := aCC.of kX0_obey
theorem kX4_force : aKl tX4_force := by
  unfold tX4_force
  refine aK_c (ex lin_il cls_il) ?_
  refine aK_c (ex lin_ii cls_ii) ?_
  refine aK_c (ex lin_al cls_al) ?_
  refine aK_c (ex lin_gI cls_gI) ?_
  refine aK_c (ex lin_ii cls_ii) ?_
  refine aK_c (ex lin_bi cls_bi) ?_
  refine aK_c (ex lin_cS (cls_cS zX4_within)) ?_
  refine aK_c (ex lin_if cls_if) ?_
  refine aK_c (ex lin_ii cls_ii) ?_
  refine aK_c (ex lin_ri cls_ri) ?_
  refine aK_c (ex lin_al cls_al) ?_
  refine aK_c (ex lin_gF (cls_gF 0 rfl (Nat.le_of_ble_eq_true rfl))) ?_
  refine aK_c (ex lin_gI cls_gI) ?_
  refine aK_c (ex lin_is cls_is) ?_
  refine aK_c (ex lin_al cls_al) ?_
  refine aK_c (ex lin_gF (cls_gF 0 rfl (Nat.le_of_ble_eq_true rfl))) ?_
  refine aK_c (ex lin_al cls_al) ?_
  refine aK_c (ex lin_gF (cls_gF 4 rfl (Nat.le_of_ble_eq_true rfl))) ?_
  refine aK_c (ex lin_il cls_il) ?_
  refine aK_c (ex lin_aald cls_aald) ?_
  refine aK_c (ex lin_il cls_il) ?_
  refine aK_c (ex lin_cV (cls_cV zX0_obey)) ?_
  refine aK_c (ex lin_il cls_il) ?_
  refine aK_c (ex lin_ri cls_ri) ?_
  exact aK_n
theorem zX4_force : aCC CX4_force := aCC.of kX4_force
theorem kX0_hasJudge : aKl tX0_hasJudge := by
  unfold tX0_hasJudge
  refine aK_c (ex lin_il cls_il) ?_
  refine aK_c (ex lin_if cls_if) ?_
  refine aK_c (ex lin_il cls_il) ?_
  refine aK_c (ex lin_al cls_al) ?_
  refine aK_c (ex lin_gI cls_gI) ?_
  refine aK_c (ex lin_ic cls_ic) ?_
  refine aK_c (ex lin_ii cls_ii) ?_
  refine aK_c (ex lin_go cls_go) ?_
  refine aK_c (ex lin_ii cls_ii) ?_
  refine aK_c (ex lin_rz cls_rz) ?_
  exact aK_n
theorem zX0_hasJudge : aCC CX0_hasJudge := aCC.of kX0_hasJudge
theorem kX0_hasCase : aKl tX0_hasCase := by
  unfold tX0_hasCase
  refine aK_c (ex lin_il cls_il) ?_
  refine aK_c (ex lin_if cls_if) ?_
  refine aK_c (ex lin_il cls_il) ?_
  refine aK_c (ex lin_ii cls_ii) ?_
  refine aK_c (ex lin_ic cls_ic) ?_
  refine aK_c (ex lin_al cls_al) ?_
  refine aK_c (ex lin_gI cls_gI) ?_
  refine aK_c (ex lin_il cls_il) ?_
  refine aK_c (ex lin_bi cls_bi) ?_
  refine aK_c (ex lin_ii cls_ii) ?_
  refine aK_c (ex lin_bi cls_bi) ?_
  refine aK_c (ex lin_ii cls_ii) ?_
  refine aK_c (ex lin_ic cls_ic) ?_
  refine aK_c (ex lin_ii cls_ii) ?_
  refine aK_c (ex lin_go cls_go) ?_
  refine aK_c (ex lin_ii cls_ii) ?_
  refine aK_c (ex lin_rz cls_rz) ?_
  exact aK_n
theorem zX0_hasCase : aCC CX0_hasCase := aCC.of kX0_hasCase
theorem kX3_valueOf : aKl tX3_valueOf := by
  unfold tX3_valueOf
  refine aK_c (ex lin_al cls_al) ?_
  refine aK_c (ex lin_gF (cls_gF 1 rfl (Nat.le_of_ble_eq_true rfl))) ?_
  refine aK_c (ex lin_il cls_il) ?_
  refine aK_c (ex lin_iald cls_iald) ?_
  refine aK_c (ex lin_al cls_al) ?_
  refine aK_c (ex lin_gF (cls_gF 0 rfl (Nat.le_of_ble_eq_true rfl))) ?_
  refine aK_c (ex lin_alen cls_alen) ?_
  refine aK_c (ex lin_min cls_min) ?_
  refine aK_c (ex lin_is cls_is) ?_
  refine aK_c (ex lin_ii cls_ii) ?_
  refine aK_c (ex lin_is cls_is) ?_
  refine aK_c (ex lin_il cls_il) ?_
  refine aK_c (ex lin_if cls_if) ?_
  refine aK_c (ex lin_ii cls_ii) ?_
  refine aK_c (ex lin_go cls_go) ?_
  refine aK_c (ex lin_al cls_al) ?_
  refine aK_c (ex lin_gF (cls_gF 1 rfl (Nat.le_of_ble_eq_true rfl))) ?_
  refine aK_c (ex lin_il cls_il) ?_
  refine aK_c (ex lin_ii cls_ii) ?_
  refine aK_c (ex lin_bi cls_bi) ?_
  refine aK_c (ex lin_iald cls_iald) ?_
  refine aK_c (ex lin_is cls_is) ?_
  refine aK_c (ex (lin_mk lin_il) (cls_mk cls_il)) ?_
  refine aK_c (ex lin_il cls_il) ?_
  refine aK_c (ex lin_ic cls_ic) ?_
  refine aK_c (ex lin_al cls_al) ?_
  refine aK_c (ex lin_gF (cls_gF 0 rfl (Nat.le_of_ble_eq_true rfl))) ?_
  refine aK_c (ex lin_il cls_il) ?_
  refine aK_c (ex lin_iald cls_iald) ?_
  refine aK_c (ex lin_is cls_is) ?_
  refine aK_c (ex lin_il cls_il) ?_
  refine aK_c (ex lin_ii cls_ii) ?_
  refine aK_c (ex lin_ic cls_ic) ?_
  refine aK_c (ex lin_il cls_il) ?_
  refine aK_c (ex lin_ii cls_ii) ?_
  refine aK_c (ex lin_ic cls_ic) ?_
  refine aK_c (ex lin_inc cls_inc) ?_
  refine aK_c (ex lin_al cls_al) ?_
  refine aK_c (ex lin_gF (cls_gF 2 rfl (Nat.le_of_ble_eq_true rfl))) ?_
  refine aK_c (ex lin_il cls_il) ?_
  refine aK_c (ex lin_il cls_il) ?_
  refine aK_c (ex lin_if cls_if) ?_
  refine aK_c (ex lin_il cls_il) ?_
  refine aK_c (ex lin_go cls_go) ?_
  refine aK_c (ex lin_al cls_al) ?_
  refine aK_c (ex lin_ii cls_ii) ?_
  refine aK_c (ex lin_il cls_il) ?_
  refine aK_c (ex lin_bi cls_bi) ?_
  refine aK_c (ex lin_iald cls_iald) ?_
  refine aK_c (ex lin_iast cls_iast) ?_
  refine aK_c (ex lin_go cls_go) ?_
  refine aK_c (ex lin_il cls_il) ?_
  refine aK_c (ex lin_if cls_if) ?_
  refine aK_c (ex lin_il cls_il) ?_
  refine aK_c (ex lin_ii cls_ii) ?_
  refine aK_c (ex lin_ic cls_ic) ?_
  refine aK_c (ex lin_il cls_il) ?_
  refine aK_c (ex lin_ii cls_ii) ?_
  refine aK_c (ex lin_ic cls_ic) ?_
  refine aK_c (ex lin_al cls_al) ?_
  refine aK_c (ex lin_gF (cls_gF 2 rfl (Nat.le_of_ble_eq_true rfl))) ?_
  refine aK_c (ex lin_il cls_il) ?_
  refine aK_c (ex lin_il cls_il) ?_
  refine aK_c (ex lin_ii cls_ii) ?_
  refine aK_c (ex lin_ic cls_ic) ?_
  refine aK_c (ex lin_al cls_al) ?_
  refine aK_c (ex lin_gF (cls_gF 2 rfl (Nat.le_of_ble_eq_true rfl))) ?_
  refine aK_c (ex lin_il cls_il) ?_
  refine aK_c (ex lin_iald cls_iald) ?_
  refine aK_c (ex lin_ui cls_ui) ?_
  refine aK_c (ex lin_go cls_go) ?_
  refine aK_c (ex lin_al cls_al) ?_
  refine aK_c (ex lin_gF (cls_gF 2 rfl (Nat.le_of_ble_eq_true rfl))) ?_
  refine aK_c (ex lin_il cls_il) ?_
  refine aK_c (ex lin_iald cls_iald) ?_
  refine aK_c (ex lin_if cls_if) ?_
  refine aK_c (ex lin_ii cls_ii) ?_
  refine aK_c (ex lin_go cls_go) ?_
  refine aK_c (ex lin_ii cls_ii) ?_
  refine aK_c (ex lin_iast cls_iast) ?_
  refine aK_c (ex lin_go cls_go) ?_
  refine aK_c (ex lin_il cls_il) ?_
  refine aK_c (ex lin_ii cls_ii) ?_
  refine aK_c (ex lin_ic cls_ic) ?_
  refine aK_c (ex lin_inc cls_inc) ?_
  refine aK_c (ex lin_al cls_al) ?_
  refine aK_c (ex lin_gF (cls_gF 2 rfl (Nat.le_of_ble_eq_true rfl))) ?_
  refine aK_c (ex lin_il cls_il) ?_
  refine aK_c (ex lin_iald cls_iald) ?_
  refine aK_c (ex lin_is cls_is) ?_
  refine aK_c (ex lin_al cls_al) ?_
  refine aK_c (ex lin_gF (cls_gF 2 rfl (Nat.le_of_ble_eq_true rfl))) ?_
  refine aK_c (ex lin_il cls_il) ?_
  refine aK_c (ex lin_ii cls_ii) ?_
  refine aK_c (ex lin_bi cls_bi) ?_
  refine aK_c (ex lin_iald cls_iald) ?_
  refine aK_c (ex lin_is cls_is) ?_
  refine aK_c (ex lin_il cls_il) ?_
  refine aK_c (ex lin_sw cls_sw) ?_
  refine aK_c (ex lin_al cls_al) ?_
  refine aK_c (ex lin_gF (cls_gF 2 rfl (Nat.le_of_ble_eq_true rfl))) ?_
  refine aK_c (ex lin_il cls_il) ?_
  refine aK_c (ex lin_il cls_il) ?_
  refine aK_c (ex lin_if cls_if) ?_
  refine aK_c (ex lin_il cls_il) ?_
  refine aK_c (ex lin_if cls_if) ?_
  refine aK_c (ex lin_ii cls_ii) ?_
  refine aK_c (ex lin_go cls_go) ?_
  refine aK_c (ex lin_ii cls_ii) ?_
  refine aK_c (ex lin_iast cls_iast) ?_
  refine aK_c (ex lin_go cls_go) ?_
  refine aK_c (ex lin_al cls_al) ?_
  refine aK_c (ex lin_gF (cls_gF 2 rfl (Nat.le_of_ble_eq_true rfl))) ?_
  refine aK_c (ex lin_il cls_il) ?_
  refine aK_c (ex lin_il cls_il) ?_
  refine aK_c (ex lin_if cls_if) ?_
  refine aK_c (ex lin_il cls_il) ?_
  refine aK_c (ex lin_if cls_if) ?_
  refine aK_c (ex lin_ii cls_ii) ?_
  refine aK_c (ex lin_go cls_go) ?_
  refine aK_c (ex lin_ii cls_ii) ?_
  refine aK_c (ex lin_iast cls_iast) ?_
  refine aK_c (ex lin_go cls_go) ?_
  refine aK_c (ex lin_al cls_al) ?_
  refine aK_c (ex lin_gF (cls_gF 2 rfl (Nat.le_of_ble_eq_true rfl))) ?_
  refine aK_c (ex lin_il cls_il) ?_
  refine aK_c (ex lin_il cls_il) ?_
  refine aK_c (ex lin_il cls_il) ?_
  refine aK_c (ex lin_ic cls_ic) ?_
  refine aK_c (ex lin_ii cls_ii) ?_
  refine aK_c (ex lin_go cls_go) ?_
  refine aK_c (ex lin_ii cls_ii) ?_
  refine aK_c (ex lin_iast cls_iast) ?_
  refine aK_c (ex lin_go cls_go) ?_
  refine aK_c (ex lin_al cls_al) ?_
  refine aK_c (ex lin_gF (cls_gF 2 rfl (Nat.le_of_ble_eq_true rfl))) ?_
  refine aK_c (ex lin_il cls_il) ?_
  refine aK_c (ex lin_il cls_il) ?_
  refine aK_c (ex lin_il cls_il) ?_
  refine aK_c (ex lin_ic cls_ic) ?_
  refine aK_c (ex lin_ii cls_ii) ?_
  refine aK_c (ex lin_go cls_go) ?_
  refine aK_c (ex lin_ii cls_ii) ?_
  refine aK_c (ex lin_iast cls_iast) ?_
  refine aK_c (ex lin_go cls_go) ?_
  refine aK_c (ex lin_al cls_al) ?_
  refine aK_c (ex lin_gF (cls_gF 2 rfl (Nat.le_of_ble_eq_true rfl))) ?_
  refine aK_c (ex lin_il cls_il) ?_
  refine aK_c (ex lin_il cls_il) ?_
  refine aK_c (ex lin_il cls_il) ?_
  refine aK_c (ex lin_bi cls_bi) ?_
  refine aK_c (ex lin_iast cls_iast) ?_
  refine aK_c (ex lin_go cls_go) ?_
  refine aK_c (ex lin_al cls_al) ?_
  refine aK_c (ex lin_gF (cls_gF 2 rfl (Nat.le_of_ble_eq_true rfl))) ?_
  refine aK_c (ex lin_il cls_il) ?_
  refine aK_c (ex lin_il cls_il) ?_
  refine aK_c (ex lin_il cls_il) ?_
  refine aK_c (ex lin_bi cls_bi) ?_
  refine aK_c (ex lin_iast cls_iast) ?_
  refine aK_c (ex lin_go cls_go) ?_
  refine aK_c (ex lin_al cls_al) ?_
  refine aK_c (ex lin_gF (cls_gF 2 rfl (Nat.le_of_ble_eq_true rfl))) ?_
  refine aK_c (ex lin_il cls_il) ?_
  refine aK_c (ex lin_il cls_il) ?_
  refine aK_c (ex lin_il cls_il) ?_
  refine aK_c (ex lin_bi cls_bi) ?_
  refine aK_c (ex lin_iast cls_iast) ?_
  refine aK_c (ex lin_inc cls_inc) ?_
  refine aK_c (ex lin_go cls_go) ?_
  refine aK_c (ex lin_il cls_il) ?_
  refine aK_c (ex lin_if cls_if) ?_
  refine aK_c (ex lin_al cls_al) ?_
  refine aK_c (ex lin_gF (cls_gF 2 rfl (Nat.le_of_ble_eq_true rfl))) ?_
  refine aK_c (ex lin_il cls_il) ?_
  refine aK_c (ex lin_iald cls_iald) ?_
  refine aK_c (ex lin_go cls_go) ?_
  refine aK_c (ex lin_ii cls_ii) ?_
  refine aK_c (ex lin_ri cls_ri) ?_
  exact aK_n
theorem zX3_valueOf : aCC CX3_valueOf := aCC.of kX3_valueOf
theorem kX0_says : aKl tX0_says := by
  unfold tX0_says
  refine aK_c (ex lin_al cls_al) ?_
  refine aK_c (ex lin_gF (cls_gF 8 rfl (Nat.le_of_ble_eq_true rfl))) ?_
  refine aK_c (ex lin_ii cls_ii) ?_
  refine aK_c (ex lin_al cls_al) ?_
  refine aK_c (ex lin_gF (cls_gF 6 rfl (Nat.le_of_ble_eq_true rfl))) ?_
  refine aK_c (ex lin_il cls_il) ?_
  refine aK_c (ex lin_iald cls_iald) ?_
  refine aK_c (ex lin_iast cls_iast) ?_
  refine aK_c (ex lin_al cls_al) ?_
  refine aK_c (ex lin_gF (cls_gF 8 rfl (Nat.le_of_ble_eq_true rfl))) ?_
  refine aK_c (ex lin_ii cls_ii) ?_
  refine aK_c (ex lin_al cls_al) ?_
  refine aK_c (ex lin_gF (cls_gF 5 rfl (Nat.le_of_ble_eq_true rfl))) ?_
  refine aK_c (ex lin_il cls_il) ?_
  refine aK_c (ex lin_iald cls_iald) ?_
  refine aK_c (ex lin_cS (cls_cS zJ6_bitCount_0f7a4)) ?_
  refine aK_c (ex lin_iast cls_iast) ?_
  refine aK_c (ex lin_al cls_al) ?_
  refine aK_c (ex lin_gF (cls_gF 8 rfl (Nat.le_of_ble_eq_true rfl))) ?_
  refine aK_c (ex lin_ii cls_ii) ?_
  refine aK_c (ex lin_al cls_al) ?_
  refine aK_c (ex lin_gF (cls_gF 3 rfl (Nat.le_of_ble_eq_true rfl))) ?_
  refine aK_c (ex lin_il cls_il) ?_
  refine aK_c (ex lin_iald cls_iald) ?_
  refine aK_c (ex lin_iast cls_iast) ?_
  refine aK_c (ex lin_al cls_al) ?_
  refine aK_c (ex lin_gF (cls_gF 8 rfl (Nat.le_of_ble_eq_true rfl))) ?_
  refine aK_c (ex lin_ii cls_ii) ?_
  refine aK_c (ex lin_al cls_al) ?_
  refine aK_c (ex lin_gF (cls_gF 2 rfl (Nat.le_of_ble_eq_true rfl))) ?_
  refine aK_c (ex lin_il cls_il) ?_
  refine aK_c (ex lin_iald cls_iald) ?_
  refine aK_c (ex lin_cS (cls_cS zJ6_bitCount_0f7a4)) ?_
  refine aK_c (ex lin_iast cls_iast) ?_
  refine aK_c (ex lin_al cls_al) ?_
  refine aK_c (ex lin_gF (cls_gF 8 rfl (Nat.le_of_ble_eq_true rfl))) ?_
  refine aK_c (ex lin_ii cls_ii) ?_
  refine aK_c (ex lin_al cls_al) ?_
  refine aK_c (ex lin_gI cls_gI) ?_
  refine aK_c (ex lin_iast cls_iast) ?_
  refine aK_c (ex lin_al cls_al) ?_
  refine aK_c (ex lin_gF (cls_gF 8 rfl (Nat.le_of_ble_eq_true rfl))) ?_
  refine aK_c (ex lin_ii cls_ii) ?_
  refine aK_c (ex lin_al cls_al) ?_
  refine aK_c (ex lin_gF (cls_gF 1 rfl (Nat.le_of_ble_eq_true rfl))) ?_
  refine aK_c (ex lin_il cls_il) ?_
  refine aK_c (ex lin_iald cls_iald) ?_
  refine aK_c (ex lin_iast cls_iast) ?_
  refine aK_c (ex lin_il cls_il) ?_
  refine aK_c (ex lin_ii cls_ii) ?_
  refine aK_c (ex lin_ic cls_ic) ?_
  refine aK_c (ex lin_ii cls_ii) ?_
  refine aK_c (ex lin_go cls_go) ?_
  refine aK_c (ex lin_ii cls_ii) ?_
  refine aK_c (ex lin_is cls_is) ?_
  refine aK_c (ex lin_il cls_il) ?_
  refine aK_c (ex lin_ii cls_ii) ?_
  refine aK_c (ex lin_al cls_al) ?_
  refine aK_c (ex lin_gR cls_gR) ?_
  refine aK_c (ex lin_il cls_il) ?_
  refine aK_c (ex lin_al cls_al) ?_
  refine aK_c (ex lin_gF (cls_gF 8 rfl (Nat.le_of_ble_eq_true rfl))) ?_
  refine aK_c (ex lin_cV (cls_cV zX3_valueOf)) ?_
  refine aK_c (ex lin_min cls_min) ?_
  refine aK_c (ex lin_max cls_max) ?_
  refine aK_c (ex lin_ri cls_ri) ?_
  exact aK_n
theorem zX0_says : aCC CX0_says := aCC.of kX0_says
theorem kX4_asks : aKl tX4_asks := by
  unfold tX4_asks
  refine aK_c (ex lin_il cls_il) ?_
  refine aK_c (ex lin_ii cls_ii) ?_
  refine aK_c (ex lin_ii cls_ii) ?_
  refine aK_c (ex lin_cS (cls_cS zX4_within)) ?_
  refine aK_c (ex lin_if cls_if) ?_
  refine aK_c (ex lin_al cls_al) ?_
  refine aK_c (ex lin_gF (cls_gF 0 rfl (Nat.le_of_ble_eq_true rfl))) ?_
  refine aK_c (ex lin_il cls_il) ?_
  refine aK_c (ex lin_cV (cls_cV zX0_hasJudge)) ?_
  refine aK_c (ex lin_if cls_if) ?_
  refine aK_c (ex lin_al cls_al) ?_
  refine aK_c (ex lin_gF (cls_gF 0 rfl (Nat.le_of_ble_eq_true rfl))) ?_
  refine aK_c (ex lin_il cls_il) ?_
  refine aK_c (ex lin_cV (cls_cV zX0_hasCase)) ?_
  refine aK_c (ex lin_if cls_if) ?_
  refine aK_c (ex lin_ii cls_ii) ?_
  refine aK_c (ex lin_ri cls_ri) ?_
  refine aK_c (ex lin_al cls_al) ?_
  refine aK_c (ex lin_gF (cls_gF 0 rfl (Nat.le_of_ble_eq_true rfl))) ?_
  refine aK_c (ex lin_il cls_il) ?_
  refine aK_c (ex lin_il cls_il) ?_
  refine aK_c (ex lin_il cls_il) ?_
  refine aK_c (ex lin_cV (cls_cV zX0_says)) ?_
  refine aK_c (ex lin_ri cls_ri) ?_
  exact aK_n
theorem zX4_asks : aCC CX4_asks := aCC.of kX4_asks
theorem kX4_isSet : aKl tX4_isSet := by
  unfold tX4_isSet
  refine aK_c (ex lin_il cls_il) ?_
  refine aK_c (ex lin_ii cls_ii) ?_
  refine aK_c (ex lin_ii cls_ii) ?_
  refine aK_c (ex lin_cS (cls_cS zX4_within)) ?_
  refine aK_c (ex lin_rz cls_rz) ?_
  exact aK_n
theorem zX4_isSet : aCC CX4_isSet := aCC.of kX4_isSet
theorem kX4_judge : aKl tX4_judge := by
  unfold tX4_judge
  refine aK_c (ex lin_il cls_il) ?_
  refine aK_c (ex lin_ii cls_ii) ?_
  refine aK_c (ex lin_ii cls_ii) ?_
  refine aK_c (ex lin_cS (cls_cS zX4_within)) ?_
  refine aK_c (ex lin_if cls_if) ?_
  refine aK_c (ex lin_il cls_il) ?_
  refine aK_c (ex lin_cS (cls_cS zX4_isSet)) ?_
  refine aK_c (ex lin_if cls_if) ?_
  refine aK_c (ex lin_il cls_il) ?_
  refine aK_c (ex lin_ii cls_ii) ?_
  refine aK_c (ex lin_ii cls_ii) ?_
  refine aK_c (ex lin_cS (cls_cS zX4_within)) ?_
  refine aK_c (ex lin_if cls_if) ?_
  refine aK_c (ex lin_ii cls_ii) ?_
  refine aK_c (ex lin_ri cls_ri) ?_
  refine aK_c (ex lin_al cls_al) ?_
  refine aK_c (ex lin_gF (cls_gF 0 rfl (Nat.le_of_ble_eq_true rfl))) ?_
  refine aK_c (ex lin_gI cls_gI) ?_
  refine aK_c (ex lin_ii cls_ii) ?_
  refine aK_c (ex lin_ic cls_ic) ?_
  refine aK_c (ex lin_ii cls_ii) ?_
  refine aK_c (ex lin_ri cls_ri) ?_
  refine aK_c (ex lin_al cls_al) ?_
  refine aK_c (ex lin_gF (cls_gF 0 rfl (Nat.le_of_ble_eq_true rfl))) ?_
  refine aK_c (ex lin_gI cls_gI) ?_
  refine aK_c (ex lin_is cls_is) ?_
  refine aK_c (ex lin_al cls_al) ?_
  refine aK_c (ex lin_gF (cls_gF 0 rfl (Nat.le_of_ble_eq_true rfl))) ?_
  refine aK_c (ex lin_gF (cls_gF 0 rfl (Nat.le_of_ble_eq_true rfl))) ?_
  refine aK_c (ex lin_il cls_il) ?_
  refine aK_c (ex lin_il cls_il) ?_
  refine aK_c (ex lin_ii cls_ii) ?_
  refine aK_c (ex lin_dv cls_dv) ?_
  refine aK_c (ex lin_iast cls_iast) ?_
  refine aK_c (ex lin_al cls_al) ?_
  refine aK_c (ex lin_gF (cls_gF 0 rfl (Nat.le_of_ble_eq_true rfl))) ?_
  refine aK_c (ex lin_gF (cls_gF 1 rfl (Nat.le_of_ble_eq_true rfl))) ?_
  refine aK_c (ex lin_il cls_il) ?_
  refine aK_c (ex lin_il cls_il) ?_
  refine aK_c (ex lin_ii cls_ii) ?_
  refine aK_c (ex lin_rm cls_rm) ?_
  refine aK_c (ex lin_iast cls_iast) ?_
  refine aK_c (ex lin_al cls_al) ?_
  refine aK_c (ex lin_gF (cls_gF 0 rfl (Nat.le_of_ble_eq_true rfl))) ?_
  refine aK_c (ex lin_gF (cls_gF 2 rfl (Nat.le_of_ble_eq_true rfl))) ?_
  refine aK_c (ex lin_il cls_il) ?_
  refine aK_c (ex lin_il cls_il) ?_
  refine aK_c (ex lin_iast cls_iast) ?_
  refine aK_c (ex lin_al cls_al) ?_
  refine aK_c (ex lin_gF (cls_gF 0 rfl (Nat.le_of_ble_eq_true rfl))) ?_
  refine aK_c (ex lin_gF (cls_gF 3 rfl (Nat.le_of_ble_eq_true rfl))) ?_
  refine aK_c (ex lin_il cls_il) ?_
  refine aK_c (ex lin_il cls_il) ?_
  refine aK_c (ex lin_iast cls_iast) ?_
  refine aK_c (ex lin_al cls_al) ?_
  refine aK_c (ex lin_gF (cls_gF 0 rfl (Nat.le_of_ble_eq_true rfl))) ?_
  refine aK_c (ex lin_gF (cls_gF 4 rfl (Nat.le_of_ble_eq_true rfl))) ?_
  refine aK_c (ex lin_il cls_il) ?_
  refine aK_c (ex lin_ii cls_ii) ?_
  refine aK_c (ex lin_iast cls_iast) ?_
  refine aK_c (ex lin_al cls_al) ?_
  refine aK_c (ex lin_gF (cls_gF 0 rfl (Nat.le_of_ble_eq_true rfl))) ?_
  refine aK_c (ex lin_dup cls_dup) ?_
  refine aK_c (ex lin_gI cls_gI) ?_
  refine aK_c (ex lin_ii cls_ii) ?_
  refine aK_c (ex lin_bi cls_bi) ?_
  refine aK_c (ex lin_pI cls_pI) ?_
  refine aK_c (ex lin_il cls_il) ?_
  refine aK_c (ex lin_ri cls_ri) ?_
  exact aK_n
theorem zX4_judge : aCC CX4_judge := aCC.of kX4_judge
theorem kX4_file : aKl tX4_file := by
  unfold tX4_file
  refine aK_c (ex lin_il cls_il) ?_
  refine aK_c (ex lin_ii cls_ii) ?_
  refine aK_c (ex lin_ii cls_ii) ?_
  refine aK_c (ex lin_cS (cls_cS zX4_within)) ?_
  refine aK_c (ex lin_if cls_if) ?_
  refine aK_c (ex lin_il cls_il) ?_
  refine aK_c (ex lin_ii cls_ii) ?_
  refine aK_c (ex lin_ii cls_ii) ?_
  refine aK_c (ex lin_cS (cls_cS zX4_within)) ?_
  refine aK_c (ex lin_if cls_if) ?_
  refine aK_c (ex lin_ii cls_ii) ?_
  refine aK_c (ex lin_ri cls_ri) ?_
  refine aK_c (ex lin_ii cls_ii) ?_
  refine aK_c (ex lin_is cls_is) ?_
  refine aK_c (ex lin_il cls_il) ?_
  refine aK_c (ex lin_ii cls_ii) ?_
  refine aK_c (ex lin_ic cls_ic) ?_
  refine aK_c (ex lin_al cls_al) ?_
  refine aK_c (ex lin_gF (cls_gF 0 rfl (Nat.le_of_ble_eq_true rfl))) ?_
  refine aK_c (ex lin_il cls_il) ?_
  refine aK_c (ex lin_cV (cls_cV zX0_hasCase)) ?_
  refine aK_c (ex lin_if cls_if) ?_
  refine aK_c (ex lin_al cls_al) ?_
  refine aK_c (ex lin_gF (cls_gF 0 rfl (Nat.le_of_ble_eq_true rfl))) ?_
  refine aK_c (ex lin_gF (cls_gF 5 rfl (Nat.le_of_ble_eq_true rfl))) ?_
  refine aK_c (ex lin_il cls_il) ?_
  refine aK_c (ex lin_il cls_il) ?_
  refine aK_c (ex lin_iast cls_iast) ?_
  refine aK_c (ex lin_al cls_al) ?_
  refine aK_c (ex lin_gF (cls_gF 0 rfl (Nat.le_of_ble_eq_true rfl))) ?_
  refine aK_c (ex lin_gF (cls_gF 6 rfl (Nat.le_of_ble_eq_true rfl))) ?_
  refine aK_c (ex lin_il cls_il) ?_
  refine aK_c (ex lin_il cls_il) ?_
  refine aK_c (ex lin_iast cls_iast) ?_
  refine aK_c (ex lin_al cls_al) ?_
  refine aK_c (ex lin_gF (cls_gF 0 rfl (Nat.le_of_ble_eq_true rfl))) ?_
  refine aK_c (ex lin_gF (cls_gF 7 rfl (Nat.le_of_ble_eq_true rfl))) ?_
  refine aK_c (ex lin_il cls_il) ?_
  refine aK_c (ex lin_ii cls_ii) ?_
  refine aK_c (ex lin_iast cls_iast) ?_
  refine aK_c (ex lin_al cls_al) ?_
  refine aK_c (ex lin_gF (cls_gF 0 rfl (Nat.le_of_ble_eq_true rfl))) ?_
  refine aK_c (ex lin_dup cls_dup) ?_
  refine aK_c (ex lin_gI cls_gI) ?_
  refine aK_c (ex lin_ii cls_ii) ?_
  refine aK_c (ex lin_il cls_il) ?_
  refine aK_c (ex lin_bi cls_bi) ?_
  refine aK_c (ex lin_bi cls_bi) ?_
  refine aK_c (ex lin_pI cls_pI) ?_
  refine aK_c (ex lin_il cls_il) ?_
  refine aK_c (ex lin_ri cls_ri) ?_
  refine aK_c (ex lin_inc cls_inc) ?_
  refine aK_c (ex lin_go cls_go) ?_
  refine aK_c (ex lin_ii cls_ii) ?_
  refine aK_c (ex lin_ri cls_ri) ?_
  exact aK_n
theorem zX4_file : aCC CX4_file := aCC.of kX4_file
theorem kX4_put : aKl tX4_put := by
  unfold tX4_put
  refine aK_c (ex lin_al cls_al) ?_
  refine aK_c (ex lin_gF (cls_gF 0 rfl (Nat.le_of_ble_eq_true rfl))) ?_
  refine aK_c (ex lin_il cls_il) ?_
  refine aK_c (ex lin_cV (cls_cV zX0_hasJudge)) ?_
  refine aK_c (ex lin_if cls_if) ?_
  refine aK_c (ex lin_ii cls_ii) ?_
  refine aK_c (ex lin_ri cls_ri) ?_
  refine aK_c (ex lin_il cls_il) ?_
  refine aK_c (ex lin_ii cls_ii) ?_
  refine aK_c (ex lin_ii cls_ii) ?_
  refine aK_c (ex lin_cS (cls_cS zX4_within)) ?_
  refine aK_c (ex lin_if cls_if) ?_
  refine aK_c (ex lin_il cls_il) ?_
  refine aK_c (ex lin_ii cls_ii) ?_
  refine aK_c (ex lin_il cls_il) ?_
  refine aK_c (ex lin_if cls_if) ?_
  refine aK_c (ex lin_ii cls_ii) ?_
  refine aK_c (ex lin_go cls_go) ?_
  refine aK_c (ex lin_ii cls_ii) ?_
  refine aK_c (ex lin_cS (cls_cS zX4_within)) ?_
  refine aK_c (ex lin_if cls_if) ?_
  refine aK_c (ex lin_ii cls_ii) ?_
  refine aK_c (ex lin_ri cls_ri) ?_
  refine aK_c (ex lin_il cls_il) ?_
  refine aK_c (ex lin_if cls_if) ?_
  refine aK_c (ex lin_al cls_al) ?_
  refine aK_c (ex lin_gF (cls_gF 0 rfl (Nat.le_of_ble_eq_true rfl))) ?_
  refine aK_c (ex lin_gF (cls_gF 2 rfl (Nat.le_of_ble_eq_true rfl))) ?_
  refine aK_c (ex lin_go cls_go) ?_
  refine aK_c (ex lin_il cls_il) ?_
  refine aK_c (ex lin_ii cls_ii) ?_
  refine aK_c (ex lin_ic cls_ic) ?_
  refine aK_c (ex lin_al cls_al) ?_
  refine aK_c (ex lin_gF (cls_gF 0 rfl (Nat.le_of_ble_eq_true rfl))) ?_
  refine aK_c (ex lin_gF (cls_gF 3 rfl (Nat.le_of_ble_eq_true rfl))) ?_
  refine aK_c (ex lin_go cls_go) ?_
  refine aK_c (ex lin_al cls_al) ?_
  refine aK_c (ex lin_gF (cls_gF 0 rfl (Nat.le_of_ble_eq_true rfl))) ?_
  refine aK_c (ex lin_gF (cls_gF 4 rfl (Nat.le_of_ble_eq_true rfl))) ?_
  refine aK_c (ex lin_as cls_as) ?_
  refine aK_c (ex lin_al cls_al) ?_
  refine aK_c (ex lin_il cls_il) ?_
  refine aK_c (ex lin_iald cls_iald) ?_
  refine aK_c (ex lin_is cls_is) ?_
  refine aK_c (ex lin_al cls_al) ?_
  refine aK_c (ex lin_il cls_il) ?_
  refine aK_c (ex lin_il cls_il) ?_
  refine aK_c (ex lin_iast cls_iast) ?_
  refine aK_c (ex lin_il cls_il) ?_
  refine aK_c (ex lin_ri cls_ri) ?_
  exact aK_n
theorem zX4_put : aCC CX4_put := aCC.of kX4_put
theorem kX0_burden : aKl tX0_burden := by
  unfold tX0_burden
  refine aK_c (ex lin_al cls_al) ?_
  refine aK_c (ex lin_gF (cls_gF 5 rfl (Nat.le_of_ble_eq_true rfl))) ?_
  refine aK_c (ex lin_il cls_il) ?_
  refine aK_c (ex lin_iald cls_iald) ?_
  refine aK_c (ex lin_al cls_al) ?_
  refine aK_c (ex lin_gF (cls_gF 2 rfl (Nat.le_of_ble_eq_true rfl))) ?_
  refine aK_c (ex lin_il cls_il) ?_
  refine aK_c (ex lin_iald cls_iald) ?_
  refine aK_c (ex lin_ii cls_ii) ?_
  refine aK_c (ex lin_bi cls_bi) ?_
  refine aK_c (ex lin_bi cls_bi) ?_
  refine aK_c (ex lin_cS (cls_cS zJ6_bitCount_0f7a4)) ?_
  refine aK_c (ex lin_is cls_is) ?_
  refine aK_c (ex lin_al cls_al) ?_
  refine aK_c (ex lin_gF (cls_gF 0 rfl (Nat.le_of_ble_eq_true rfl))) ?_
  refine aK_c (ex lin_il cls_il) ?_
  refine aK_c (ex lin_iald cls_iald) ?_
  refine aK_c (ex lin_sw cls_sw) ?_
  refine aK_c (ex lin_il cls_il) ?_
  refine aK_c (ex lin_if cls_if) ?_
  refine aK_c (ex lin_ii cls_ii) ?_
  refine aK_c (ex lin_go cls_go) ?_
  refine aK_c (ex lin_ii cls_ii) ?_
  refine aK_c (ex lin_ri cls_ri) ?_
  refine aK_c (ex lin_il cls_il) ?_
  refine aK_c (ex lin_ii cls_ii) ?_
  refine aK_c (ex lin_ic cls_ic) ?_
  refine aK_c (ex lin_ii cls_ii) ?_
  refine aK_c (ex lin_go cls_go) ?_
  refine aK_c (ex lin_ii cls_ii) ?_
  refine aK_c (ex lin_ri cls_ri) ?_
  refine aK_c (ex lin_il cls_il) ?_
  refine aK_c (ex lin_if cls_if) ?_
  refine aK_c (ex lin_al cls_al) ?_
  refine aK_c (ex lin_gI cls_gI) ?_
  refine aK_c (ex lin_ii cls_ii) ?_
  refine aK_c (ex lin_rm cls_rm) ?_
  refine aK_c (ex lin_al cls_al) ?_
  refine aK_c (ex lin_gF (cls_gF 1 rfl (Nat.le_of_ble_eq_true rfl))) ?_
  refine aK_c (ex lin_il cls_il) ?_
  refine aK_c (ex lin_iald cls_iald) ?_
  refine aK_c (ex lin_ic cls_ic) ?_
  refine aK_c (ex lin_ii cls_ii) ?_
  refine aK_c (ex lin_go cls_go) ?_
  refine aK_c (ex lin_ii cls_ii) ?_
  refine aK_c (ex lin_ri cls_ri) ?_
  refine aK_c (ex lin_al cls_al) ?_
  refine aK_c (ex lin_gF (cls_gF 5 rfl (Nat.le_of_ble_eq_true rfl))) ?_
  refine aK_c (ex lin_il cls_il) ?_
  refine aK_c (ex lin_iald cls_iald) ?_
  refine aK_c (ex lin_ii cls_ii) ?_
  refine aK_c (ex lin_al cls_al) ?_
  refine aK_c (ex lin_gF (cls_gF 1 rfl (Nat.le_of_ble_eq_true rfl))) ?_
  refine aK_c (ex lin_il cls_il) ?_
  refine aK_c (ex lin_iald cls_iald) ?_
  refine aK_c (ex lin_bi cls_bi) ?_
  refine aK_c (ex lin_ic cls_ic) ?_
  refine aK_c (ex lin_ii cls_ii) ?_
  refine aK_c (ex lin_ri cls_ri) ?_
  refine aK_c (ex lin_il cls_il) ?_
  refine aK_c (ex lin_ii cls_ii) ?_
  refine aK_c (ex lin_ic cls_ic) ?_
  refine aK_c (ex lin_al cls_al) ?_
  refine aK_c (ex lin_gF (cls_gF 5 rfl (Nat.le_of_ble_eq_true rfl))) ?_
  refine aK_c (ex lin_il cls_il) ?_
  refine aK_c (ex lin_iald cls_iald) ?_
  refine aK_c (ex lin_cS (cls_cS zJ6_bitCount_0f7a4)) ?_
  refine aK_c (ex lin_ii cls_ii) ?_
  refine aK_c (ex lin_ic cls_ic) ?_
  refine aK_c (ex lin_ii cls_ii) ?_
  refine aK_c (ex lin_go cls_go) ?_
  refine aK_c (ex lin_ii cls_ii) ?_
  refine aK_c (ex lin_ri cls_ri) ?_
  refine aK_c (ex lin_il cls_il) ?_
  refine aK_c (ex lin_if cls_if) ?_
  refine aK_c (ex lin_al cls_al) ?_
  refine aK_c (ex lin_gI cls_gI) ?_
  refine aK_c (ex lin_ii cls_ii) ?_
  refine aK_c (ex lin_rm cls_rm) ?_
  refine aK_c (ex lin_al cls_al) ?_
  refine aK_c (ex lin_gF (cls_gF 1 rfl (Nat.le_of_ble_eq_true rfl))) ?_
  refine aK_c (ex lin_il cls_il) ?_
  refine aK_c (ex lin_iald cls_iald) ?_
  refine aK_c (ex lin_ic cls_ic) ?_
  refine aK_c (ex lin_ii cls_ii) ?_
  refine aK_c (ex lin_go cls_go) ?_
  refine aK_c (ex lin_ii cls_ii) ?_
  refine aK_c (ex lin_ri cls_ri) ?_
  refine aK_c (ex lin_al cls_al) ?_
  refine aK_c (ex lin_gI cls_gI) ?_
  refine aK_c (ex lin_ii cls_ii) ?_
  refine aK_c (ex lin_rm cls_rm) ?_
  refine aK_c (ex lin_al cls_al) ?_
  refine aK_c (ex lin_gF (cls_gF 1 rfl (Nat.le_of_ble_eq_true rfl))) ?_
  refine aK_c (ex lin_il cls_il) ?_
  refine aK_c (ex lin_iald cls_iald) ?_
  refine aK_c (ex lin_ic cls_ic) ?_
  refine aK_c (ex lin_ii cls_ii) ?_
  refine aK_c (ex lin_go cls_go) ?_
  refine aK_c (ex lin_ii cls_ii) ?_
  refine aK_c (ex lin_ri cls_ri) ?_
  refine aK_c (ex lin_ii cls_ii) ?_
  refine aK_c (ex lin_ri cls_ri) ?_
  exact aK_n
theorem zX0_burden : aCC CX0_burden := aCC.of kX0_burden
theorem kX0_may : aKl tX0_may := by
  unfold tX0_may
  refine aK_c (ex lin_al cls_al) ?_
  refine aK_c (ex lin_il cls_il) ?_
  refine aK_c (ex lin_il cls_il) ?_
  refine aK_c (ex lin_cV (cls_cV zX0_burden)) ?_
  refine aK_c (ex lin_is cls_is) ?_
  refine aK_c (ex lin_il cls_il) ?_
  refine aK_c (ex lin_ii cls_ii) ?_
  refine aK_c (ex lin_ic cls_ic) ?_
  refine aK_c (ex lin_il cls_il) ?_
  refine aK_c (ex lin_if cls_if) ?_
  refine aK_c (ex lin_al cls_al) ?_
  refine aK_c (ex lin_gF (cls_gF 3 rfl (Nat.le_of_ble_eq_true rfl))) ?_
  refine aK_c (ex lin_il cls_il) ?_
  refine aK_c (ex lin_iald cls_iald) ?_
  refine aK_c (ex lin_il cls_il) ?_
  refine aK_c (ex lin_al cls_al) ?_
  refine aK_c (ex lin_ii cls_ii) ?_
  refine aK_c (ex lin_il cls_il) ?_
  refine aK_c (ex lin_il cls_il) ?_
  refine aK_c (ex lin_cV (cls_cV zX0_says)) ?_
  refine aK_c (ex lin_bi cls_bi) ?_
  refine aK_c (ex lin_ic cls_ic) ?_
  refine aK_c (ex lin_ii cls_ii) ?_
  refine aK_c (ex lin_go cls_go) ?_
  refine aK_c (ex lin_ii cls_ii) ?_
  refine aK_c (ex lin_rz cls_rz) ?_
  exact aK_n
theorem zX0_may : aCC CX0_may := aCC.of kX0_may
theorem kX0_casesFor : aKl tX0_casesFor := by
  unfold tX0_casesFor
  refine aK_c (ex lin_ii cls_ii) ?_
  refine aK_c (ex lin_is cls_is) ?_
  refine aK_c (ex lin_ii cls_ii) ?_
  refine aK_c (ex lin_is cls_is) ?_
  refine aK_c (ex lin_il cls_il) ?_
  refine aK_c (ex lin_ii cls_ii) ?_
  refine aK_c (ex lin_ic cls_ic) ?_
  refine aK_c (ex lin_al cls_al) ?_
  refine aK_c (ex lin_il cls_il) ?_
  refine aK_c (ex lin_cV (cls_cV zX0_hasCase)) ?_
  refine aK_c (ex lin_if cls_if) ?_
  refine aK_c (ex lin_al cls_al) ?_
  refine aK_c (ex lin_il cls_il) ?_
  refine aK_c (ex lin_il cls_il) ?_
  refine aK_c (ex lin_cV (cls_cV zX0_may)) ?_
  refine aK_c (ex lin_if cls_if) ?_
  refine aK_c (ex lin_il cls_il) ?_
  refine aK_c (ex lin_ii cls_ii) ?_
  refine aK_c (ex lin_il cls_il) ?_
  refine aK_c (ex lin_bi cls_bi) ?_
  refine aK_c (ex lin_bi cls_bi) ?_
  refine aK_c (ex lin_is cls_is) ?_
  refine aK_c (ex lin_inc cls_inc) ?_
  refine aK_c (ex lin_go cls_go) ?_
  refine aK_c (ex lin_il cls_il) ?_
  refine aK_c (ex lin_ri cls_ri) ?_
  exact aK_n
theorem zX0_casesFor : aCC CX0_casesFor := aCC.of kX0_casesFor
theorem kX4_told : aKl tX4_told := by
  unfold tX4_told
  refine aK_c (ex lin_al cls_al) ?_
  refine aK_c (ex lin_gF (cls_gF 0 rfl (Nat.le_of_ble_eq_true rfl))) ?_
  refine aK_c (ex lin_il cls_il) ?_
  refine aK_c (ex lin_cV (cls_cV zX0_hasJudge)) ?_
  refine aK_c (ex lin_if cls_if) ?_
  refine aK_c (ex lin_ii cls_ii) ?_
  refine aK_c (ex lin_ri cls_ri) ?_
  refine aK_c (ex lin_il cls_il) ?_
  refine aK_c (ex lin_sw cls_sw) ?_
  refine aK_c (ex lin_al cls_al) ?_
  refine aK_c (ex lin_gF (cls_gF 0 rfl (Nat.le_of_ble_eq_true rfl))) ?_
  refine aK_c (ex lin_gF (cls_gF 2 rfl (Nat.le_of_ble_eq_true rfl))) ?_
  refine aK_c (ex lin_il cls_il) ?_
  refine aK_c (ex lin_iald cls_iald) ?_
  refine aK_c (ex lin_ri cls_ri) ?_
  refine aK_c (ex lin_al cls_al) ?_
  refine aK_c (ex lin_gF (cls_gF 0 rfl (Nat.le_of_ble_eq_true rfl))) ?_
  refine aK_c (ex lin_gF (cls_gF 3 rfl (Nat.le_of_ble_eq_true rfl))) ?_
  refine aK_c (ex lin_il cls_il) ?_
  refine aK_c (ex lin_iald cls_iald) ?_
  refine aK_c (ex lin_ri cls_ri) ?_
  refine aK_c (ex lin_al cls_al) ?_
  refine aK_c (ex lin_gF (cls_gF 0 rfl (Nat.le_of_ble_eq_true rfl))) ?_
  refine aK_c (ex lin_gF (cls_gF 4 rfl (Nat.le_of_ble_eq_true rfl))) ?_
  refine aK_c (ex lin_il cls_il) ?_
  refine aK_c (ex lin_iald cls_iald) ?_
  refine aK_c (ex lin_ri cls_ri) ?_
  refine aK_c (ex lin_al cls_al) ?_
  refine aK_c (ex lin_gF (cls_gF 0 rfl (Nat.le_of_ble_eq_true rfl))) ?_
  refine aK_c (ex lin_gF (cls_gF 0 rfl (Nat.le_of_ble_eq_true rfl))) ?_
  refine aK_c (ex lin_il cls_il) ?_
  refine aK_c (ex lin_iald cls_iald) ?_
  refine aK_c (ex lin_ri cls_ri) ?_
  refine aK_c (ex lin_al cls_al) ?_
  refine aK_c (ex lin_gF (cls_gF 0 rfl (Nat.le_of_ble_eq_true rfl))) ?_
  refine aK_c (ex lin_gF (cls_gF 1 rfl (Nat.le_of_ble_eq_true rfl))) ?_
  refine aK_c (ex lin_il cls_il) ?_
  refine aK_c (ex lin_iald cls_iald) ?_
  refine aK_c (ex lin_ri cls_ri) ?_
  refine aK_c (ex lin_al cls_al) ?_
  refine aK_c (ex lin_gF (cls_gF 0 rfl (Nat.le_of_ble_eq_true rfl))) ?_
  refine aK_c (ex lin_il cls_il) ?_
  refine aK_c (ex lin_cV (cls_cV zX0_casesFor)) ?_
  refine aK_c (ex lin_ri cls_ri) ?_
  refine aK_c (ex lin_ii cls_ii) ?_
  refine aK_c (ex lin_ri cls_ri) ?_
  exact aK_n
theorem zX4_told : aCC CX4_told := aCC.of kX4_told
theorem kX0_judgesFor : aKl tX0_judgesFor := by
  unfold tX0_judgesFor
  refine aK_c (ex lin_ii cls_ii) ?_
  refine aK_c (ex lin_is cls_is) ?_
  refine aK_c (ex lin_ii cls_ii) ?_
  refine aK_c (ex lin_is cls_is) ?_
  refine aK_c (ex lin_il cls_il) ?_
  refine aK_c (ex lin_al cls_al) ?_
  refine aK_c (ex lin_gI cls_gI) ?_
  refine aK_c (ex lin_ic cls_ic) ?_
  refine aK_c (ex lin_al cls_al) ?_
  refine aK_c (ex lin_il cls_il) ?_
  refine aK_c (ex lin_il cls_il) ?_
  refine aK_c (ex lin_cV (cls_cV zX0_may)) ?_
  refine aK_c (ex lin_if cls_if) ?_
  refine aK_c (ex lin_il cls_il) ?_
  refine aK_c (ex lin_ii cls_ii) ?_
  refine aK_c (ex lin_il cls_il) ?_
  refine aK_c (ex lin_bi cls_bi) ?_
  refine aK_c (ex lin_bi cls_bi) ?_
  refine aK_c (ex lin_is cls_is) ?_
  refine aK_c (ex lin_inc cls_inc) ?_
  refine aK_c (ex lin_go cls_go) ?_
  refine aK_c (ex lin_il cls_il) ?_
  refine aK_c (ex lin_ri cls_ri) ?_
  exact aK_n
theorem zX0_judgesFor : aCC CX0_judgesFor := aCC.of kX0_judgesFor
theorem kX4_paper : aKl tX4_paper := by
  unfold tX4_paper
  refine aK_c (ex lin_al cls_al) ?_
  refine aK_c (ex lin_gF (cls_gF 0 rfl (Nat.le_of_ble_eq_true rfl))) ?_
  refine aK_c (ex lin_il cls_il) ?_
  refine aK_c (ex lin_cV (cls_cV zX0_hasCase)) ?_
  refine aK_c (ex lin_if cls_if) ?_
  refine aK_c (ex lin_ii cls_ii) ?_
  refine aK_c (ex lin_ri cls_ri) ?_
  refine aK_c (ex lin_il cls_il) ?_
  refine aK_c (ex lin_sw cls_sw) ?_
  refine aK_c (ex lin_al cls_al) ?_
  refine aK_c (ex lin_gF (cls_gF 0 rfl (Nat.le_of_ble_eq_true rfl))) ?_
  refine aK_c (ex lin_gF (cls_gF 5 rfl (Nat.le_of_ble_eq_true rfl))) ?_
  refine aK_c (ex lin_il cls_il) ?_
  refine aK_c (ex lin_iald cls_iald) ?_
  refine aK_c (ex lin_ri cls_ri) ?_
  refine aK_c (ex lin_al cls_al) ?_
  refine aK_c (ex lin_gF (cls_gF 0 rfl (Nat.le_of_ble_eq_true rfl))) ?_
  refine aK_c (ex lin_gF (cls_gF 6 rfl (Nat.le_of_ble_eq_true rfl))) ?_
  refine aK_c (ex lin_il cls_il) ?_
  refine aK_c (ex lin_iald cls_iald) ?_
  refine aK_c (ex lin_ri cls_ri) ?_
  refine aK_c (ex lin_al cls_al) ?_
  refine aK_c (ex lin_gF (cls_gF 0 rfl (Nat.le_of_ble_eq_true rfl))) ?_
  refine aK_c (ex lin_gF (cls_gF 7 rfl (Nat.le_of_ble_eq_true rfl))) ?_
  refine aK_c (ex lin_il cls_il) ?_
  refine aK_c (ex lin_iald cls_iald) ?_
  refine aK_c (ex lin_ri cls_ri) ?_
  refine aK_c (ex lin_al cls_al) ?_
  refine aK_c (ex lin_gF (cls_gF 0 rfl (Nat.le_of_ble_eq_true rfl))) ?_
  refine aK_c (ex lin_il cls_il) ?_
  refine aK_c (ex lin_cV (cls_cV zX0_judgesFor)) ?_
  refine aK_c (ex lin_ri cls_ri) ?_
  refine aK_c (ex lin_ii cls_ii) ?_
  refine aK_c (ex lin_ri cls_ri) ?_
  exact aK_n
theorem zX4_paper : aCC CX4_paper := aCC.of kX4_paper
theorem kX0_daysFor : aKl tX0_daysFor := by
  unfold tX0_daysFor
  refine aK_c (ex lin_al cls_al) ?_
  refine aK_c (ex lin_ii cls_ii) ?_
  refine aK_c (ex lin_il cls_il) ?_
  refine aK_c (ex lin_il cls_il) ?_
  refine aK_c (ex lin_cV (cls_cV zX0_says)) ?_
  refine aK_c (ex lin_is cls_is) ?_
  refine aK_c (ex lin_al cls_al) ?_
  refine aK_c (ex lin_gF (cls_gF 0 rfl (Nat.le_of_ble_eq_true rfl))) ?_
  refine aK_c (ex lin_il cls_il) ?_
  refine aK_c (ex lin_iald cls_iald) ?_
  refine aK_c (ex lin_sw cls_sw) ?_
  refine aK_c (ex lin_ii cls_ii) ?_
  refine aK_c (ex lin_il cls_il) ?_
  refine aK_c (ex lin_al cls_al) ?_
  refine aK_c (ex lin_gF (cls_gF 1 rfl (Nat.le_of_ble_eq_true rfl))) ?_
  refine aK_c (ex lin_il cls_il) ?_
  refine aK_c (ex lin_iald cls_iald) ?_
  refine aK_c (ex lin_bi cls_bi) ?_
  refine aK_c (ex lin_max cls_max) ?_
  refine aK_c (ex lin_ri cls_ri) ?_
  refine aK_c (ex lin_ii cls_ii) ?_
  refine aK_c (ex lin_ii cls_ii) ?_
  refine aK_c (ex lin_il cls_il) ?_
  refine aK_c (ex lin_bi cls_bi) ?_
  refine aK_c (ex lin_max cls_max) ?_
  refine aK_c (ex lin_ri cls_ri) ?_
  refine aK_c (ex lin_ii cls_ii) ?_
  refine aK_c (ex lin_il cls_il) ?_
  refine aK_c (ex lin_max cls_max) ?_
  refine aK_c (ex lin_ri cls_ri) ?_
  exact aK_n
theorem zX0_daysFor : aCC CX0_daysFor := aCC.of kX0_daysFor
theorem kX0_hardnessOf : aKl tX0_hardnessOf := by
  unfold tX0_hardnessOf
  refine aK_c (ex lin_al cls_al) ?_
  refine aK_c (ex lin_ii cls_ii) ?_
  refine aK_c (ex lin_il cls_il) ?_
  refine aK_c (ex lin_il cls_il) ?_
  refine aK_c (ex lin_cV (cls_cV zX0_says)) ?_
  refine aK_c (ex lin_is cls_is) ?_
  refine aK_c (ex lin_al cls_al) ?_
  refine aK_c (ex lin_gF (cls_gF 0 rfl (Nat.le_of_ble_eq_true rfl))) ?_
  refine aK_c (ex lin_il cls_il) ?_
  refine aK_c (ex lin_iald cls_iald) ?_
  refine aK_c (ex lin_sw cls_sw) ?_
  refine aK_c (ex lin_il cls_il) ?_
  refine aK_c (ex lin_al cls_al) ?_
  refine aK_c (ex lin_gF (cls_gF 1 rfl (Nat.le_of_ble_eq_true rfl))) ?_
  refine aK_c (ex lin_il cls_il) ?_
  refine aK_c (ex lin_iald cls_iald) ?_
  refine aK_c (ex lin_bi cls_bi) ?_
  refine aK_c (ex lin_ri cls_ri) ?_
  refine aK_c (ex lin_il cls_il) ?_
  refine aK_c (ex lin_ii cls_ii) ?_
  refine aK_c (ex lin_dv cls_dv) ?_
  refine aK_c (ex lin_ri cls_ri) ?_
  refine aK_c (ex lin_il cls_il) ?_
  refine aK_c (ex lin_ui cls_ui) ?_
  refine aK_c (ex lin_ri cls_ri) ?_
  refine aK_c (ex lin_il cls_il) ?_
  refine aK_c (ex lin_ri cls_ri) ?_
  exact aK_n
theorem zX0_hardnessOf : aCC CX0_hardnessOf := aCC.of kX0_hardnessOf
theorem kX4_hearing : aKl tX4_hearing := by
  unfold tX4_hearing
  refine aK_c (ex lin_al cls_al) ?_
  refine aK_c (ex lin_gF (cls_gF 0 rfl (Nat.le_of_ble_eq_true rfl))) ?_
  refine aK_c (ex lin_il cls_il) ?_
  refine aK_c (ex lin_cV (cls_cV zX0_hasJudge)) ?_
  refine aK_c (ex lin_if cls_if) ?_
  refine aK_c (ex lin_ii cls_ii) ?_
  refine aK_c (ex lin_ri cls_ri) ?_
  refine aK_c (ex lin_al cls_al) ?_
  refine aK_c (ex lin_gF (cls_gF 0 rfl (Nat.le_of_ble_eq_true rfl))) ?_
  refine aK_c (ex lin_il cls_il) ?_
  refine aK_c (ex lin_cV (cls_cV zX0_hasCase)) ?_
  refine aK_c (ex lin_if cls_if) ?_
  refine aK_c (ex lin_ii cls_ii) ?_
  refine aK_c (ex lin_ri cls_ri) ?_
  refine aK_c (ex lin_il cls_il) ?_
  refine aK_c (ex lin_sw cls_sw) ?_
  refine aK_c (ex lin_al cls_al) ?_
  refine aK_c (ex lin_gF (cls_gF 0 rfl (Nat.le_of_ble_eq_true rfl))) ?_
  refine aK_c (ex lin_il cls_il) ?_
  refine aK_c (ex lin_il cls_il) ?_
  refine aK_c (ex lin_cV (cls_cV zX0_may)) ?_
  refine aK_c (ex lin_if cls_if) ?_
  refine aK_c (ex lin_ii cls_ii) ?_
  refine aK_c (ex lin_go cls_go) ?_
  refine aK_c (ex lin_ii cls_ii) ?_
  refine aK_c (ex lin_ri cls_ri) ?_
  refine aK_c (ex lin_al cls_al) ?_
  refine aK_c (ex lin_gF (cls_gF 0 rfl (Nat.le_of_ble_eq_true rfl))) ?_
  refine aK_c (ex lin_il cls_il) ?_
  refine aK_c (ex lin_il cls_il) ?_
  refine aK_c (ex lin_cV (cls_cV zX0_daysFor)) ?_
  refine aK_c (ex lin_ri cls_ri) ?_
  refine aK_c (ex lin_ii cls_ii) ?_
  refine aK_c (ex lin_al cls_al) ?_
  refine aK_c (ex lin_gF (cls_gF 0 rfl (Nat.le_of_ble_eq_true rfl))) ?_
  refine aK_c (ex lin_il cls_il) ?_
  refine aK_c (ex lin_il cls_il) ?_
  refine aK_c (ex lin_cV (cls_cV zX0_hardnessOf)) ?_
  refine aK_c (ex lin_bi cls_bi) ?_
  refine aK_c (ex lin_ri cls_ri) ?_
  refine aK_c (ex lin_ii cls_ii) ?_
  refine aK_c (ex lin_ri cls_ri) ?_
  exact aK_n
theorem zX4_hearing : aCC CX4_hearing := aCC.of kX4_hearing
theorem kX0_can : aKl tX0_can := by
  unfold tX0_can
  refine aK_c (ex lin_al cls_al) ?_
  refine aK_c (ex lin_gF (cls_gF 4 rfl (Nat.le_of_ble_eq_true rfl))) ?_
  refine aK_c (ex lin_il cls_il) ?_
  refine aK_c (ex lin_iald cls_iald) ?_
  refine aK_c (ex lin_if cls_if) ?_
  refine aK_c (ex lin_al cls_al) ?_
  refine aK_c (ex lin_il cls_il) ?_
  refine aK_c (ex lin_il cls_il) ?_
  refine aK_c (ex lin_cV (cls_cV zX0_may)) ?_
  refine aK_c (ex lin_if cls_if) ?_
  refine aK_c (ex lin_ii cls_ii) ?_
  refine aK_c (ex lin_go cls_go) ?_
  refine aK_c (ex lin_ii cls_ii) ?_
  refine aK_c (ex lin_rz cls_rz) ?_
  exact aK_n
theorem zX0_can : aCC CX0_can := aCC.of kX0_can
theorem kX0_hold : aKl tX0_hold := by
  unfold tX0_hold
  refine aK_c (ex lin_al cls_al) ?_
  refine aK_c (ex lin_il cls_il) ?_
  refine aK_c (ex lin_il cls_il) ?_
  refine aK_c (ex lin_cV (cls_cV zX0_hardnessOf)) ?_
  refine aK_c (ex lin_is cls_is) ?_
  refine aK_c (ex lin_al cls_al) ?_
  refine aK_c (ex lin_gF (cls_gF 4 rfl (Nat.le_of_ble_eq_true rfl))) ?_
  refine aK_c (ex lin_il cls_il) ?_
  refine aK_c (ex lin_al cls_al) ?_
  refine aK_c (ex lin_il cls_il) ?_
  refine aK_c (ex lin_il cls_il) ?_
  refine aK_c (ex lin_cV (cls_cV zX0_daysFor)) ?_
  refine aK_c (ex lin_iast cls_iast) ?_
  refine aK_c (ex lin_al cls_al) ?_
  refine aK_c (ex lin_gF (cls_gF 2 rfl (Nat.le_of_ble_eq_true rfl))) ?_
  refine aK_c (ex lin_il cls_il) ?_
  refine aK_c (ex lin_iald cls_iald) ?_
  refine aK_c (ex lin_al cls_al) ?_
  refine aK_c (ex lin_gF (cls_gF 5 rfl (Nat.le_of_ble_eq_true rfl))) ?_
  refine aK_c (ex lin_il cls_il) ?_
  refine aK_c (ex lin_iald cls_iald) ?_
  refine aK_c (ex lin_bi cls_bi) ?_
  refine aK_c (ex lin_is cls_is) ?_
  refine aK_c (ex lin_al cls_al) ?_
  refine aK_c (ex lin_gF (cls_gF 2 rfl (Nat.le_of_ble_eq_true rfl))) ?_
  refine aK_c (ex lin_il cls_il) ?_
  refine aK_c (ex lin_dup2 cls_dup2) ?_
  refine aK_c (ex lin_iald cls_iald) ?_
  refine aK_c (ex lin_il cls_il) ?_
  refine aK_c (ex lin_il cls_il) ?_
  refine aK_c (ex lin_ui cls_ui) ?_
  refine aK_c (ex lin_bi cls_bi) ?_
  refine aK_c (ex lin_ii cls_ii) ?_
  refine aK_c (ex lin_bi cls_bi) ?_
  refine aK_c (ex lin_bi cls_bi) ?_
  refine aK_c (ex lin_iast cls_iast) ?_
  refine aK_c (ex lin_al cls_al) ?_
  refine aK_c (ex lin_gF (cls_gF 3 rfl (Nat.le_of_ble_eq_true rfl))) ?_
  refine aK_c (ex lin_il cls_il) ?_
  refine aK_c (ex lin_ii cls_ii) ?_
  refine aK_c (ex lin_ii cls_ii) ?_
  refine aK_c (ex lin_al cls_al) ?_
  refine aK_c (ex lin_gF (cls_gF 3 rfl (Nat.le_of_ble_eq_true rfl))) ?_
  refine aK_c (ex lin_il cls_il) ?_
  refine aK_c (ex lin_iald cls_iald) ?_
  refine aK_c (ex lin_il cls_il) ?_
  refine aK_c (ex lin_bi cls_bi) ?_
  refine aK_c (ex lin_min cls_min) ?_
  refine aK_c (ex lin_max cls_max) ?_
  refine aK_c (ex lin_iast cls_iast) ?_
  refine aK_c (ex lin_al cls_al) ?_
  refine aK_c (ex lin_dup cls_dup) ?_
  refine aK_c (ex lin_gI cls_gI) ?_
  refine aK_c (ex lin_ii cls_ii) ?_
  refine aK_c (ex lin_il cls_il) ?_
  refine aK_c (ex lin_bi cls_bi) ?_
  refine aK_c (ex lin_ii cls_ii) ?_
  refine aK_c (ex lin_bi cls_bi) ?_
  refine aK_c (ex lin_bi cls_bi) ?_
  refine aK_c (ex lin_pI cls_pI) ?_
  refine aK_c (ex lin_al cls_al) ?_
  refine aK_c (ex lin_ii cls_ii) ?_
  refine aK_c (ex lin_al cls_al) ?_
  refine aK_c (ex lin_gI cls_gI) ?_
  refine aK_c (ex lin_ii cls_ii) ?_
  refine aK_c (ex lin_bi cls_bi) ?_
  refine aK_c (ex lin_min cls_min) ?_
  refine aK_c (ex lin_pI cls_pI) ?_
  refine aK_c (ex lin_il cls_il) ?_
  refine aK_c (ex lin_ri cls_ri) ?_
  exact aK_n
theorem zX0_hold : aCC CX0_hold := aCC.of kX0_hold
theorem kX4_hear : aKl tX4_hear := by
  unfold tX4_hear
  refine aK_c (ex lin_al cls_al) ?_
  refine aK_c (ex lin_gF (cls_gF 0 rfl (Nat.le_of_ble_eq_true rfl))) ?_
  refine aK_c (ex lin_il cls_il) ?_
  refine aK_c (ex lin_cV (cls_cV zX0_hasJudge)) ?_
  refine aK_c (ex lin_if cls_if) ?_
  refine aK_c (ex lin_ii cls_ii) ?_
  refine aK_c (ex lin_ri cls_ri) ?_
  refine aK_c (ex lin_al cls_al) ?_
  refine aK_c (ex lin_gF (cls_gF 0 rfl (Nat.le_of_ble_eq_true rfl))) ?_
  refine aK_c (ex lin_il cls_il) ?_
  refine aK_c (ex lin_cV (cls_cV zX0_hasCase)) ?_
  refine aK_c (ex lin_if cls_if) ?_
  refine aK_c (ex lin_ii cls_ii) ?_
  refine aK_c (ex lin_ri cls_ri) ?_
  refine aK_c (ex lin_al cls_al) ?_
  refine aK_c (ex lin_gF (cls_gF 0 rfl (Nat.le_of_ble_eq_true rfl))) ?_
  refine aK_c (ex lin_il cls_il) ?_
  refine aK_c (ex lin_il cls_il) ?_
  refine aK_c (ex lin_cV (cls_cV zX0_can)) ?_
  refine aK_c (ex lin_if cls_if) ?_
  refine aK_c (ex lin_ii cls_ii) ?_
  refine aK_c (ex lin_ri cls_ri) ?_
  refine aK_c (ex lin_ii cls_ii) ?_
  refine aK_c (ex lin_al cls_al) ?_
  refine aK_c (ex lin_gF (cls_gF 0 rfl (Nat.le_of_ble_eq_true rfl))) ?_
  refine aK_c (ex lin_il cls_il) ?_
  refine aK_c (ex lin_il cls_il) ?_
  refine aK_c (ex lin_cV (cls_cV zX0_hold)) ?_
  refine aK_c (ex lin_bi cls_bi) ?_
  refine aK_c (ex lin_ri cls_ri) ?_
  exact aK_n
theorem zX4_hear : aCC CX4_hear := aCC.of kX4_hear
theorem kX4_rob : aKl tX4_rob := by
  unfold tX4_rob
  refine aK_c (ex lin_al cls_al) ?_
  refine aK_c (ex lin_gF (cls_gF 0 rfl (Nat.le_of_ble_eq_true rfl))) ?_
  refine aK_c (ex lin_il cls_il) ?_
  refine aK_c (ex lin_cV (cls_cV zX0_hasJudge)) ?_
  refine aK_c (ex lin_if cls_if) ?_
  refine aK_c (ex lin_ii cls_ii) ?_
  refine aK_c (ex lin_ri cls_ri) ?_
  refine aK_c (ex lin_il cls_il) ?_
  refine aK_c (ex lin_cS (cls_cS zX4_isSet)) ?_
  refine aK_c (ex lin_if cls_if) ?_
  refine aK_c (ex lin_ii cls_ii) ?_
  refine aK_c (ex lin_ri cls_ri) ?_
  refine aK_c (ex lin_al cls_al) ?_
  refine aK_c (ex lin_gF (cls_gF 0 rfl (Nat.le_of_ble_eq_true rfl))) ?_
  refine aK_c (ex lin_gF (cls_gF 2 rfl (Nat.le_of_ble_eq_true rfl))) ?_
  refine aK_c (ex lin_il cls_il) ?_
  refine aK_c (ex lin_dup2 cls_dup2) ?_
  refine aK_c (ex lin_iald cls_iald) ?_
  refine aK_c (ex lin_il cls_il) ?_
  refine aK_c (ex lin_bi cls_bi) ?_
  refine aK_c (ex lin_iast cls_iast) ?_
  refine aK_c (ex lin_al cls_al) ?_
  refine aK_c (ex lin_gF (cls_gF 0 rfl (Nat.le_of_ble_eq_true rfl))) ?_
  refine aK_c (ex lin_gF (cls_gF 2 rfl (Nat.le_of_ble_eq_true rfl))) ?_
  refine aK_c (ex lin_il cls_il) ?_
  refine aK_c (ex lin_iald cls_iald) ?_
  refine aK_c (ex lin_ri cls_ri) ?_
  exact aK_n
theorem zX4_rob : aCC CX4_rob := aCC.of kX4_rob
theorem kX0_firstWhoCan : aKl tX0_firstWhoCan := by
  unfold tX0_firstWhoCan
  refine aK_c (ex lin_ii cls_ii) ?_
  refine aK_c (ex lin_is cls_is) ?_
  refine aK_c (ex lin_il cls_il) ?_
  refine aK_c (ex lin_al cls_al) ?_
  refine aK_c (ex lin_gI cls_gI) ?_
  refine aK_c (ex lin_ic cls_ic) ?_
  refine aK_c (ex lin_al cls_al) ?_
  refine aK_c (ex lin_gF (cls_gF 4 rfl (Nat.le_of_ble_eq_true rfl))) ?_
  refine aK_c (ex lin_il cls_il) ?_
  refine aK_c (ex lin_iald cls_iald) ?_
  refine aK_c (ex lin_if cls_if) ?_
  refine aK_c (ex lin_al cls_al) ?_
  refine aK_c (ex lin_il cls_il) ?_
  refine aK_c (ex lin_il cls_il) ?_
  refine aK_c (ex lin_cV (cls_cV zX0_may)) ?_
  refine aK_c (ex lin_if cls_if) ?_
  refine aK_c (ex lin_il cls_il) ?_
  refine aK_c (ex lin_ri cls_ri) ?_
  refine aK_c (ex lin_inc cls_inc) ?_
  refine aK_c (ex lin_go cls_go) ?_
  refine aK_c (ex lin_ii cls_ii) ?_
  refine aK_c (ex lin_ri cls_ri) ?_
  exact aK_n
theorem zX0_firstWhoCan : aCC CX0_firstWhoCan := aCC.of kX0_firstWhoCan
theorem kX0_passDay : aKl tX0_passDay := by
  unfold tX0_passDay
  refine aK_c (ex lin_ii cls_ii) ?_
  refine aK_c (ex lin_is cls_is) ?_
  refine aK_c (ex (lin_mk lin_il) (cls_mk cls_il)) ?_
  refine aK_c (ex lin_al cls_al) ?_
  refine aK_c (ex lin_gI cls_gI) ?_
  refine aK_c (ex lin_ic cls_ic) ?_
  refine aK_c (ex lin_al cls_al) ?_
  refine aK_c (ex lin_gF (cls_gF 4 rfl (Nat.le_of_ble_eq_true rfl))) ?_
  refine aK_c (ex lin_il cls_il) ?_
  refine aK_c (ex lin_ii cls_ii) ?_
  refine aK_c (ex lin_al cls_al) ?_
  refine aK_c (ex lin_gF (cls_gF 4 rfl (Nat.le_of_ble_eq_true rfl))) ?_
  refine aK_c (ex lin_il cls_il) ?_
  refine aK_c (ex lin_iald cls_iald) ?_
  refine aK_c (ex lin_ii cls_ii) ?_
  refine aK_c (ex lin_bi cls_bi) ?_
  refine aK_c (ex lin_max cls_max) ?_
  refine aK_c (ex lin_iast cls_iast) ?_
  refine aK_c (ex lin_inc cls_inc) ?_
  refine aK_c (ex lin_go cls_go) ?_
  refine aK_c (ex lin_ii cls_ii) ?_
  refine aK_c (ex lin_is cls_is) ?_
  refine aK_c (ex lin_ii cls_ii) ?_
  refine aK_c (ex lin_is cls_is) ?_
  refine aK_c (ex (lin_mk lin_il) (cls_mk cls_il)) ?_
  refine aK_c (ex lin_ii cls_ii) ?_
  refine aK_c (ex lin_ic cls_ic) ?_
  refine aK_c (ex lin_al cls_al) ?_
  refine aK_c (ex lin_il cls_il) ?_
  refine aK_c (ex lin_cV (cls_cV zX0_hasCase)) ?_
  refine aK_c (ex lin_if cls_if) ?_
  refine aK_c (ex lin_al cls_al) ?_
  refine aK_c (ex lin_il cls_il) ?_
  refine aK_c (ex lin_cV (cls_cV zX0_firstWhoCan)) ?_
  refine aK_c (ex lin_is cls_is) ?_
  refine aK_c (ex lin_il cls_il) ?_
  refine aK_c (ex lin_ii cls_ii) ?_
  refine aK_c (ex lin_ic cls_ic) ?_
  refine aK_c (ex lin_al cls_al) ?_
  refine aK_c (ex lin_gF (cls_gF 7 rfl (Nat.le_of_ble_eq_true rfl))) ?_
  refine aK_c (ex lin_il cls_il) ?_
  refine aK_c (ex lin_ii cls_ii) ?_
  refine aK_c (ex lin_al cls_al) ?_
  refine aK_c (ex lin_gF (cls_gF 7 rfl (Nat.le_of_ble_eq_true rfl))) ?_
  refine aK_c (ex lin_il cls_il) ?_
  refine aK_c (ex lin_iald cls_iald) ?_
  refine aK_c (ex lin_ii cls_ii) ?_
  refine aK_c (ex lin_bi cls_bi) ?_
  refine aK_c (ex lin_min cls_min) ?_
  refine aK_c (ex lin_iast cls_iast) ?_
  refine aK_c (ex lin_go cls_go) ?_
  refine aK_c (ex lin_al cls_al) ?_
  refine aK_c (ex lin_il cls_il) ?_
  refine aK_c (ex lin_il cls_il) ?_
  refine aK_c (ex lin_cV (cls_cV zX0_hold)) ?_
  refine aK_c (ex lin_pop cls_pop) ?_
  refine aK_c (ex lin_il cls_il) ?_
  refine aK_c (ex lin_ii cls_ii) ?_
  refine aK_c (ex lin_il cls_il) ?_
  refine aK_c (ex lin_bi cls_bi) ?_
  refine aK_c (ex lin_bi cls_bi) ?_
  refine aK_c (ex lin_is cls_is) ?_
  refine aK_c (ex lin_inc cls_inc) ?_
  refine aK_c (ex lin_go cls_go) ?_
  refine aK_c (ex lin_al cls_al) ?_
  refine aK_c (ex lin_dup cls_dup) ?_
  refine aK_c (ex lin_gI cls_gI) ?_
  refine aK_c (ex lin_ii cls_ii) ?_
  refine aK_c (ex lin_bi cls_bi) ?_
  refine aK_c (ex lin_pI cls_pI) ?_
  refine aK_c (ex lin_il cls_il) ?_
  refine aK_c (ex lin_ri cls_ri) ?_
  exact aK_n
theorem zX0_passDay : aCC CX0_passDay := aCC.of kX0_passDay
theorem kX4_day : aKl tX4_day := by
  unfold tX4_day
  refine aK_c (ex lin_al cls_al) ?_
  refine aK_c (ex lin_gF (cls_gF 0 rfl (Nat.le_of_ble_eq_true rfl))) ?_
  refine aK_c (ex lin_gI cls_gI) ?_
  refine aK_c (ex lin_ii cls_ii) ?_
  refine aK_c (ex lin_ic cls_ic) ?_
  refine aK_c (ex lin_ii cls_ii) ?_
  refine aK_c (ex lin_ri cls_ri) ?_
  refine aK_c (ex lin_al cls_al) ?_
  refine aK_c (ex lin_gF (cls_gF 0 rfl (Nat.le_of_ble_eq_true rfl))) ?_
  refine aK_c (ex lin_cV (cls_cV zX0_passDay)) ?_
  refine aK_c (ex lin_ri cls_ri) ?_
  exact aK_n
theorem zX4_day : aCC CX4_day := aCC.of kX4_day
theorem kX4_canRunTell : aKl tX4_canRunTell := by
  unfold tX4_canRunTell
  refine aK_c (ex lin_il cls_il) ?_
  refine aK_c (ex lin_ii cls_ii) ?_
  refine aK_c (ex lin_ii cls_ii) ?_
  refine aK_c (ex lin_cS (cls_cS zX4_within)) ?_
  refine aK_c (ex lin_if cls_if) ?_
  refine aK_c (ex lin_il cls_il) ?_
  refine aK_c (ex lin_ii cls_ii) ?_
  refine aK_c (ex lin_ii cls_ii) ?_
  refine aK_c (ex lin_al cls_al) ?_
  refine aK_c (ex lin_gF (cls_gF 0 rfl (Nat.le_of_ble_eq_true rfl))) ?_
  refine aK_c (ex lin_gI cls_gI) ?_
  refine aK_c (ex lin_bi cls_bi) ?_
  refine aK_c (ex lin_ii cls_ii) ?_
  refine aK_c (ex lin_bi cls_bi) ?_
  refine aK_c (ex lin_cS (cls_cS zX4_within)) ?_
  refine aK_c (ex lin_if cls_if) ?_
  refine aK_c (ex lin_il cls_il) ?_
  refine aK_c (ex lin_ii cls_ii) ?_
  refine aK_c (ex lin_ii cls_ii) ?_
  refine aK_c (ex lin_al cls_al) ?_
  refine aK_c (ex lin_gF (cls_gF 0 rfl (Nat.le_of_ble_eq_true rfl))) ?_
  refine aK_c (ex lin_gI cls_gI) ?_
  refine aK_c (ex lin_bi cls_bi) ?_
  refine aK_c (ex lin_ii cls_ii) ?_
  refine aK_c (ex lin_bi cls_bi) ?_
  refine aK_c (ex lin_cS (cls_cS zX4_within)) ?_
  refine aK_c (ex lin_if cls_if) ?_
  refine aK_c (ex lin_ii cls_ii) ?_
  refine aK_c (ex lin_go cls_go) ?_
  refine aK_c (ex lin_ii cls_ii) ?_
  refine aK_c (ex lin_rz cls_rz) ?_
  exact aK_n
theorem zX4_canRunTell : aCC CX4_canRunTell := aCC.of kX4_canRunTell
theorem kX0_become : aKl tX0_become := by
  unfold tX0_become
  refine aK_c (ex lin_al cls_al) ?_
  refine aK_c (ex lin_gF (cls_gF 0 rfl (Nat.le_of_ble_eq_true rfl))) ?_
  refine aK_c (ex lin_ii cls_ii) ?_
  refine aK_c (ex lin_al cls_al) ?_
  refine aK_c (ex lin_gF (cls_gF 0 rfl (Nat.le_of_ble_eq_true rfl))) ?_
  refine aK_c (ex lin_ii cls_ii) ?_
  refine aK_c (ex lin_ii cls_ii) ?_
  refine aK_c (ex lin_cpy cls_cpy) ?_
  refine aK_c (ex lin_al cls_al) ?_
  refine aK_c (ex lin_gF (cls_gF 1 rfl (Nat.le_of_ble_eq_true rfl))) ?_
  refine aK_c (ex lin_ii cls_ii) ?_
  refine aK_c (ex lin_al cls_al) ?_
  refine aK_c (ex lin_gF (cls_gF 1 rfl (Nat.le_of_ble_eq_true rfl))) ?_
  refine aK_c (ex lin_ii cls_ii) ?_
  refine aK_c (ex lin_ii cls_ii) ?_
  refine aK_c (ex lin_cpy cls_cpy) ?_
  refine aK_c (ex lin_al cls_al) ?_
  refine aK_c (ex lin_gF (cls_gF 2 rfl (Nat.le_of_ble_eq_true rfl))) ?_
  refine aK_c (ex lin_ii cls_ii) ?_
  refine aK_c (ex lin_al cls_al) ?_
  refine aK_c (ex lin_gF (cls_gF 2 rfl (Nat.le_of_ble_eq_true rfl))) ?_
  refine aK_c (ex lin_ii cls_ii) ?_
  refine aK_c (ex lin_ii cls_ii) ?_
  refine aK_c (ex lin_cpy cls_cpy) ?_
  refine aK_c (ex lin_al cls_al) ?_
  refine aK_c (ex lin_gF (cls_gF 3 rfl (Nat.le_of_ble_eq_true rfl))) ?_
  refine aK_c (ex lin_ii cls_ii) ?_
  refine aK_c (ex lin_al cls_al) ?_
  refine aK_c (ex lin_gF (cls_gF 3 rfl (Nat.le_of_ble_eq_true rfl))) ?_
  refine aK_c (ex lin_ii cls_ii) ?_
  refine aK_c (ex lin_ii cls_ii) ?_
  refine aK_c (ex lin_cpy cls_cpy) ?_
  refine aK_c (ex lin_al cls_al) ?_
  refine aK_c (ex lin_gF (cls_gF 4 rfl (Nat.le_of_ble_eq_true rfl))) ?_
  refine aK_c (ex lin_ii cls_ii) ?_
  refine aK_c (ex lin_al cls_al) ?_
  refine aK_c (ex lin_gF (cls_gF 4 rfl (Nat.le_of_ble_eq_true rfl))) ?_
  refine aK_c (ex lin_ii cls_ii) ?_
  refine aK_c (ex lin_ii cls_ii) ?_
  refine aK_c (ex lin_cpy cls_cpy) ?_
  refine aK_c (ex lin_al cls_al) ?_
  refine aK_c (ex lin_gF (cls_gF 5 rfl (Nat.le_of_ble_eq_true rfl))) ?_
  refine aK_c (ex lin_ii cls_ii) ?_
  refine aK_c (ex lin_al cls_al) ?_
  refine aK_c (ex lin_gF (cls_gF 5 rfl (Nat.le_of_ble_eq_true rfl))) ?_
  refine aK_c (ex lin_ii cls_ii) ?_
  refine aK_c (ex lin_ii cls_ii) ?_
  refine aK_c (ex lin_cpy cls_cpy) ?_
  refine aK_c (ex lin_al cls_al) ?_
  refine aK_c (ex lin_gF (cls_gF 6 rfl (Nat.le_of_ble_eq_true rfl))) ?_
  refine aK_c (ex lin_ii cls_ii) ?_
  refine aK_c (ex lin_al cls_al) ?_
  refine aK_c (ex lin_gF (cls_gF 6 rfl (Nat.le_of_ble_eq_true rfl))) ?_
  refine aK_c (ex lin_ii cls_ii) ?_
  refine aK_c (ex lin_ii cls_ii) ?_
  refine aK_c (ex lin_cpy cls_cpy) ?_
  refine aK_c (ex lin_al cls_al) ?_
  refine aK_c (ex lin_gF (cls_gF 7 rfl (Nat.le_of_ble_eq_true rfl))) ?_
  refine aK_c (ex lin_ii cls_ii) ?_
  refine aK_c (ex lin_al cls_al) ?_
  refine aK_c (ex lin_gF (cls_gF 7 rfl (Nat.le_of_ble_eq_true rfl))) ?_
  refine aK_c (ex lin_ii cls_ii) ?_
  refine aK_c (ex lin_ii cls_ii) ?_
  refine aK_c (ex lin_cpy cls_cpy) ?_
  refine aK_c (ex lin_al cls_al) ?_
  refine aK_c (ex lin_al cls_al) ?_
  refine aK_c (ex lin_gI cls_gI) ?_
  refine aK_c (ex lin_pI cls_pI) ?_
  refine aK_c (ex lin_al cls_al) ?_
  refine aK_c (ex lin_al cls_al) ?_
  refine aK_c (ex lin_gI cls_gI) ?_
  refine aK_c (ex lin_pI cls_pI) ?_
  refine aK_c (ex lin_al cls_al) ?_
  refine aK_c (ex lin_al cls_al) ?_
  refine aK_c (ex lin_gI cls_gI) ?_
  refine aK_c (ex lin_pI cls_pI) ?_
  refine aK_c (ex lin_al cls_al) ?_
  refine aK_c (ex lin_al cls_al) ?_
  refine aK_c (ex lin_gI cls_gI) ?_
  refine aK_c (ex lin_pI cls_pI) ?_
  refine aK_c (ex lin_al cls_al) ?_
  refine aK_c (ex lin_al cls_al) ?_
  refine aK_c (ex lin_gI cls_gI) ?_
  refine aK_c (ex lin_pI cls_pI) ?_
  refine aK_c (ex lin_al cls_al) ?_
  refine aK_c (ex lin_al cls_al) ?_
  refine aK_c (ex lin_gR cls_gR) ?_
  refine aK_c (ex lin_pR cls_pR) ?_
  refine aK_c (ex lin_rv cls_rv) ?_
  exact aK_n
theorem zX0_become : aCC CX0_become := aCC.of kX0_become
theorem kX4_think : aKl tX4_think := by
  unfold tX4_think
  refine aK_c (ex lin_al cls_al) ?_
  refine aK_c (ex lin_gF (cls_gF 1 rfl (Nat.le_of_ble_eq_true rfl))) ?_
  refine aK_c (ex lin_al cls_al) ?_
  refine aK_c (ex lin_gF (cls_gF 0 rfl (Nat.le_of_ble_eq_true rfl))) ?_
  refine aK_c (ex lin_cV (cls_cV zX0_become)) ?_
  refine aK_c (ex lin_rv cls_rv) ?_
  exact aK_n
theorem zX4_think : aCC CX4_think := aCC.of kX4_think
theorem kX4_heardInThought : aKl tX4_heardInThought := by
  unfold tX4_heardInThought
  refine aK_c (ex lin_ii cls_ii) ?_
  refine aK_c (ex lin_is cls_is) ?_
  refine aK_c (ex lin_ii cls_ii) ?_
  refine aK_c (ex lin_is cls_is) ?_
  refine aK_c (ex lin_il cls_il) ?_
  refine aK_c (ex lin_il cls_il) ?_
  refine aK_c (ex lin_ic cls_ic) ?_
  refine aK_c (ex lin_al cls_al) ?_
  refine aK_c (ex lin_gF (cls_gF 1 rfl (Nat.le_of_ble_eq_true rfl))) ?_
  refine aK_c (ex lin_gI cls_gI) ?_
  refine aK_c (ex lin_if cls_if) ?_
  refine aK_c (ex lin_il cls_il) ?_
  refine aK_c (ex lin_al cls_al) ?_
  refine aK_c (ex lin_gF (cls_gF 1 rfl (Nat.le_of_ble_eq_true rfl))) ?_
  refine aK_c (ex lin_cV (cls_cV zX0_passDay)) ?_
  refine aK_c (ex lin_cS (cls_cS zJ6_bitCount_0f7a4)) ?_
  refine aK_c (ex lin_bi cls_bi) ?_
  refine aK_c (ex lin_is cls_is) ?_
  refine aK_c (ex lin_inc cls_inc) ?_
  refine aK_c (ex lin_go cls_go) ?_
  refine aK_c (ex lin_il cls_il) ?_
  refine aK_c (ex lin_ri cls_ri) ?_
  exact aK_n
theorem zX4_heardInThought : aCC CX4_heardInThought := aCC.of kX4_heardInThought
theorem kX0_allWaited : aKl tX0_allWaited := by
  unfold tX0_allWaited
  refine aK_c (ex lin_ii cls_ii) ?_
  refine aK_c (ex lin_is cls_is) ?_
  refine aK_c (ex lin_ii cls_ii) ?_
  refine aK_c (ex lin_is cls_is) ?_
  refine aK_c (ex lin_il cls_il) ?_
  refine aK_c (ex lin_ii cls_ii) ?_
  refine aK_c (ex lin_ic cls_ic) ?_
  refine aK_c (ex lin_il cls_il) ?_
  refine aK_c (ex lin_al cls_al) ?_
  refine aK_c (ex lin_il cls_il) ?_
  refine aK_c (ex lin_cV (cls_cV zX0_hasCase)) ?_
  refine aK_c (ex lin_if cls_if) ?_
  refine aK_c (ex lin_al cls_al) ?_
  refine aK_c (ex lin_gF (cls_gF 7 rfl (Nat.le_of_ble_eq_true rfl))) ?_
  refine aK_c (ex lin_il cls_il) ?_
  refine aK_c (ex lin_iald cls_iald) ?_
  refine aK_c (ex lin_go cls_go) ?_
  refine aK_c (ex lin_ii cls_ii) ?_
  refine aK_c (ex lin_bi cls_bi) ?_
  refine aK_c (ex lin_is cls_is) ?_
  refine aK_c (ex lin_inc cls_inc) ?_
  refine aK_c (ex lin_go cls_go) ?_
  refine aK_c (ex lin_il cls_il) ?_
  refine aK_c (ex lin_ri cls_ri) ?_
  exact aK_n
theorem zX0_allWaited : aCC CX0_allWaited := aCC.of kX0_allWaited
theorem kX4_run : aKl tX4_run := by
  unfold tX4_run
  refine aK_c (ex lin_il cls_il) ?_
  refine aK_c (ex lin_ii cls_ii) ?_
  refine aK_c (ex lin_ii cls_ii) ?_
  refine aK_c (ex lin_cS (cls_cS zX4_within)) ?_
  refine aK_c (ex lin_if cls_if) ?_
  refine aK_c (ex lin_al cls_al) ?_
  refine aK_c (ex lin_il cls_il) ?_
  refine aK_c (ex lin_cV (cls_cV zX4_canRunTell)) ?_
  refine aK_c (ex lin_if cls_if) ?_
  refine aK_c (ex lin_ii cls_ii) ?_
  refine aK_c (ex lin_ri cls_ri) ?_
  refine aK_c (ex lin_al cls_al) ?_
  refine aK_c (ex lin_cV (cls_cV zX4_think)) ?_
  refine aK_c (ex lin_al cls_al) ?_
  refine aK_c (ex lin_il cls_il) ?_
  refine aK_c (ex lin_cV (cls_cV zX4_heardInThought)) ?_
  refine aK_c (ex lin_is cls_is) ?_
  refine aK_c (ex lin_il cls_il) ?_
  refine aK_c (ex lin_ii cls_ii) ?_
  refine aK_c (ex lin_ic cls_ic) ?_
  refine aK_c (ex lin_al cls_al) ?_
  refine aK_c (ex lin_gF (cls_gF 1 rfl (Nat.le_of_ble_eq_true rfl))) ?_
  refine aK_c (ex lin_gF (cls_gF 2 rfl (Nat.le_of_ble_eq_true rfl))) ?_
  refine aK_c (ex lin_il cls_il) ?_
  refine aK_c (ex lin_ii cls_ii) ?_
  refine aK_c (ex lin_bi cls_bi) ?_
  refine aK_c (ex lin_iald cls_iald) ?_
  refine aK_c (ex lin_ri cls_ri) ?_
  refine aK_c (ex lin_il cls_il) ?_
  refine aK_c (ex lin_ii cls_ii) ?_
  refine aK_c (ex lin_ic cls_ic) ?_
  refine aK_c (ex lin_al cls_al) ?_
  refine aK_c (ex lin_gF (cls_gF 1 rfl (Nat.le_of_ble_eq_true rfl))) ?_
  refine aK_c (ex lin_gF (cls_gF 3 rfl (Nat.le_of_ble_eq_true rfl))) ?_
  refine aK_c (ex lin_il cls_il) ?_
  refine aK_c (ex lin_ii cls_ii) ?_
  refine aK_c (ex lin_bi cls_bi) ?_
  refine aK_c (ex lin_iald cls_iald) ?_
  refine aK_c (ex lin_ri cls_ri) ?_
  refine aK_c (ex lin_il cls_il) ?_
  refine aK_c (ex lin_if cls_if) ?_
  refine aK_c (ex lin_al cls_al) ?_
  refine aK_c (ex lin_gF (cls_gF 1 rfl (Nat.le_of_ble_eq_true rfl))) ?_
  refine aK_c (ex lin_gI cls_gI) ?_
  refine aK_c (ex lin_go cls_go) ?_
  refine aK_c (ex lin_il cls_il) ?_
  refine aK_c (ex lin_ii cls_ii) ?_
  refine aK_c (ex lin_ic cls_ic) ?_
  refine aK_c (ex lin_il cls_il) ?_
  refine aK_c (ex lin_go cls_go) ?_
  refine aK_c (ex lin_al cls_al) ?_
  refine aK_c (ex lin_gF (cls_gF 1 rfl (Nat.le_of_ble_eq_true rfl))) ?_
  refine aK_c (ex lin_cV (cls_cV zX0_allWaited)) ?_
  refine aK_c (ex lin_ri cls_ri) ?_
  exact aK_n
theorem zX4_run : aCC CX4_run := aCC.of kX4_run
theorem kX4_when : aKl tX4_when := by
  unfold tX4_when
  refine aK_c (ex lin_il cls_il) ?_
  refine aK_c (ex lin_ii cls_ii) ?_
  refine aK_c (ex lin_ii cls_ii) ?_
  refine aK_c (ex lin_cS (cls_cS zX4_within)) ?_
  refine aK_c (ex lin_if cls_if) ?_
  refine aK_c (ex lin_ii cls_ii) ?_
  refine aK_c (ex lin_ri cls_ri) ?_
  refine aK_c (ex lin_il cls_il) ?_
  refine aK_c (ex lin_ii cls_ii) ?_
  refine aK_c (ex lin_ic cls_ic) ?_
  refine aK_c (ex lin_al cls_al) ?_
  refine aK_c (ex lin_gF (cls_gF 0 rfl (Nat.le_of_ble_eq_true rfl))) ?_
  refine aK_c (ex lin_il cls_il) ?_
  refine aK_c (ex lin_cV (cls_cV zX0_hasCase)) ?_
  refine aK_c (ex lin_if cls_if) ?_
  refine aK_c (ex lin_ii cls_ii) ?_
  refine aK_c (ex lin_ri cls_ri) ?_
  refine aK_c (ex lin_il cls_il) ?_
  refine aK_c (ex lin_ii cls_ii) ?_
  refine aK_c (ex lin_ic cls_ic) ?_
  refine aK_c (ex lin_ii cls_ii) ?_
  refine aK_c (ex lin_il cls_il) ?_
  refine aK_c (ex lin_bi cls_bi) ?_
  refine aK_c (ex lin_go cls_go) ?_
  refine aK_c (ex lin_ii cls_ii) ?_
  refine aK_c (ex lin_is cls_is) ?_
  refine aK_c (ex lin_al cls_al) ?_
  refine aK_c (ex lin_cV (cls_cV zX4_think)) ?_
  refine aK_c (ex lin_ii cls_ii) ?_
  refine aK_c (ex lin_is cls_is) ?_
  refine aK_c (ex (lin_mk lin_il) (cls_mk cls_il)) ?_
  refine aK_c (ex lin_ii cls_ii) ?_
  refine aK_c (ex lin_ic cls_ic) ?_
  refine aK_c (ex lin_al cls_al) ?_
  refine aK_c (ex lin_gF (cls_gF 1 rfl (Nat.le_of_ble_eq_true rfl))) ?_
  refine aK_c (ex lin_gI cls_gI) ?_
  refine aK_c (ex lin_il cls_il) ?_
  refine aK_c (ex lin_bi cls_bi) ?_
  refine aK_c (ex lin_if cls_if) ?_
  refine aK_c (ex lin_il cls_il) ?_
  refine aK_c (ex lin_ri cls_ri) ?_
  refine aK_c (ex lin_al cls_al) ?_
  refine aK_c (ex lin_gF (cls_gF 1 rfl (Nat.le_of_ble_eq_true rfl))) ?_
  refine aK_c (ex lin_cV (cls_cV zX0_passDay)) ?_
  refine aK_c (ex lin_pop cls_pop) ?_
  refine aK_c (ex lin_inc cls_inc) ?_
  refine aK_c (ex lin_go cls_go) ?_
  refine aK_c (ex lin_ii cls_ii) ?_
  refine aK_c (ex lin_ri cls_ri) ?_
  exact aK_n
theorem zX4_when : aCC CX4_when := aCC.of kX4_when
theorem kX0_whoCan : aKl tX0_whoCan := by
  unfold tX0_whoCan
  refine aK_c (ex lin_ii cls_ii) ?_
  refine aK_c (ex lin_is cls_is) ?_
  refine aK_c (ex lin_ii cls_ii) ?_
  refine aK_c (ex lin_is cls_is) ?_
  refine aK_c (ex lin_il cls_il) ?_
  refine aK_c (ex lin_al cls_al) ?_
  refine aK_c (ex lin_gI cls_gI) ?_
  refine aK_c (ex lin_ic cls_ic) ?_
  refine aK_c (ex lin_al cls_al) ?_
  refine aK_c (ex lin_il cls_il) ?_
  refine aK_c (ex lin_il cls_il) ?_
  refine aK_c (ex lin_cV (cls_cV zX0_can)) ?_
  refine aK_c (ex lin_if cls_if) ?_
  refine aK_c (ex lin_il cls_il) ?_
  refine aK_c (ex lin_ii cls_ii) ?_
  refine aK_c (ex lin_il cls_il) ?_
  refine aK_c (ex lin_bi cls_bi) ?_
  refine aK_c (ex lin_bi cls_bi) ?_
  refine aK_c (ex lin_is cls_is) ?_
  refine aK_c (ex lin_inc cls_inc) ?_
  refine aK_c (ex lin_go cls_go) ?_
  refine aK_c (ex lin_il cls_il) ?_
  refine aK_c (ex lin_ri cls_ri) ?_
  exact aK_n
theorem zX0_whoCan : aCC CX0_whoCan := aCC.of kX0_whoCan
theorem kX4_mostBehind : aKl tX4_mostBehind := by
  unfold tX4_mostBehind
  refine aK_c (ex lin_al cls_al) ?_
  refine aK_c (ex lin_gF (cls_gF 8 rfl (Nat.le_of_ble_eq_true rfl))) ?_
  refine aK_c (ex lin_il cls_il) ?_
  refine aK_c (ex lin_ii cls_ii) ?_
  refine aK_c (ex lin_bi cls_bi) ?_
  refine aK_c (ex lin_ii cls_ii) ?_
  refine aK_c (ex lin_bi cls_bi) ?_
  refine aK_c (ex lin_il cls_il) ?_
  refine aK_c (ex lin_bi cls_bi) ?_
  refine aK_c (ex lin_iald cls_iald) ?_
  refine aK_c (ex lin_ri cls_ri) ?_
  exact aK_n
theorem zX4_mostBehind : aCC CX4_mostBehind := aCC.of kX4_mostBehind
theorem kX4_fillMost : aKl tX4_fillMost := by
  unfold tX4_fillMost
  refine aK_c (ex lin_ii cls_ii) ?_
  refine aK_c (ex lin_is cls_is) ?_
  refine aK_c (ex lin_ii cls_ii) ?_
  refine aK_c (ex lin_is cls_is) ?_
  refine aK_c (ex (lin_mk lin_il) (cls_mk cls_il)) ?_
  refine aK_c (ex lin_il cls_il) ?_
  refine aK_c (ex lin_ic cls_ic) ?_
  refine aK_c (ex lin_al cls_al) ?_
  refine aK_c (ex lin_gF (cls_gF 8 rfl (Nat.le_of_ble_eq_true rfl))) ?_
  refine aK_c (ex lin_ii cls_ii) ?_
  refine aK_c (ex lin_il cls_il) ?_
  refine aK_c (ex lin_bi cls_bi) ?_
  refine aK_c (ex lin_ii cls_ii) ?_
  refine aK_c (ex lin_iast cls_iast) ?_
  refine aK_c (ex lin_inc cls_inc) ?_
  refine aK_c (ex lin_go cls_go) ?_
  refine aK_c (ex lin_ii cls_ii) ?_
  refine aK_c (ex lin_is cls_is) ?_
  refine aK_c (ex (lin_mk lin_il) (cls_mk cls_il)) ?_
  refine aK_c (ex lin_if cls_if) ?_
  refine aK_c (ex lin_al cls_al) ?_
  refine aK_c (ex lin_gF (cls_gF 0 rfl (Nat.le_of_ble_eq_true rfl))) ?_
  refine aK_c (ex lin_il cls_il) ?_
  refine aK_c (ex lin_cV (cls_cV zX0_hasCase)) ?_
  refine aK_c (ex lin_if cls_if) ?_
  refine aK_c (ex lin_al cls_al) ?_
  refine aK_c (ex lin_gF (cls_gF 0 rfl (Nat.le_of_ble_eq_true rfl))) ?_
  refine aK_c (ex lin_il cls_il) ?_
  refine aK_c (ex lin_cV (cls_cV zX0_whoCan)) ?_
  refine aK_c (ex lin_go cls_go) ?_
  refine aK_c (ex lin_ii cls_ii) ?_
  refine aK_c (ex lin_is cls_is) ?_
  refine aK_c (ex lin_ii cls_ii) ?_
  refine aK_c (ex lin_is cls_is) ?_
  refine aK_c (ex (lin_mk lin_il) (cls_mk cls_il)) ?_
  refine aK_c (ex lin_il cls_il) ?_
  refine aK_c (ex lin_ic cls_ic) ?_
  refine aK_c (ex lin_al cls_al) ?_
  refine aK_c (ex lin_il cls_il) ?_
  refine aK_c (ex lin_il cls_il) ?_
  refine aK_c (ex lin_cV (cls_cV zX4_mostBehind)) ?_
  refine aK_c (ex lin_is cls_is) ?_
  refine aK_c (ex lin_ii cls_ii) ?_
  refine aK_c (ex lin_is cls_is) ?_
  refine aK_c (ex lin_il cls_il) ?_
  refine aK_c (ex lin_ii cls_ii) ?_
  refine aK_c (ex lin_ic cls_ic) ?_
  refine aK_c (ex lin_il cls_il) ?_
  refine aK_c (ex lin_il cls_il) ?_
  refine aK_c (ex lin_ii cls_ii) ?_
  refine aK_c (ex lin_bi cls_bi) ?_
  refine aK_c (ex lin_bi cls_bi) ?_
  refine aK_c (ex lin_ii cls_ii) ?_
  refine aK_c (ex lin_il cls_il) ?_
  refine aK_c (ex lin_bi cls_bi) ?_
  refine aK_c (ex lin_bi cls_bi) ?_
  refine aK_c (ex lin_if cls_if) ?_
  refine aK_c (ex lin_il cls_il) ?_
  refine aK_c (ex lin_ii cls_ii) ?_
  refine aK_c (ex lin_al cls_al) ?_
  refine aK_c (ex lin_il cls_il) ?_
  refine aK_c (ex lin_il cls_il) ?_
  refine aK_c (ex lin_ii cls_ii) ?_
  refine aK_c (ex lin_il cls_il) ?_
  refine aK_c (ex lin_bi cls_bi) ?_
  refine aK_c (ex lin_bi cls_bi) ?_
  refine aK_c (ex lin_cV (cls_cV zX4_mostBehind)) ?_
  refine aK_c (ex lin_bi cls_bi) ?_
  refine aK_c (ex lin_max cls_max) ?_
  refine aK_c (ex lin_is cls_is) ?_
  refine aK_c (ex lin_inc cls_inc) ?_
  refine aK_c (ex lin_go cls_go) ?_
  refine aK_c (ex lin_al cls_al) ?_
  refine aK_c (ex lin_gF (cls_gF 8 rfl (Nat.le_of_ble_eq_true rfl))) ?_
  refine aK_c (ex lin_il cls_il) ?_
  refine aK_c (ex lin_ii cls_ii) ?_
  refine aK_c (ex lin_bi cls_bi) ?_
  refine aK_c (ex lin_il cls_il) ?_
  refine aK_c (ex lin_bi cls_bi) ?_
  refine aK_c (ex lin_il cls_il) ?_
  refine aK_c (ex lin_iast cls_iast) ?_
  refine aK_c (ex lin_inc cls_inc) ?_
  refine aK_c (ex lin_go cls_go) ?_
  refine aK_c (ex lin_inc cls_inc) ?_
  refine aK_c (ex lin_go cls_go) ?_
  refine aK_c (ex lin_rv cls_rv) ?_
  exact aK_n
theorem zX4_fillMost : aCC CX4_fillMost := aCC.of kX4_fillMost
theorem kX4_leastDigit : aKl tX4_leastDigit := by
  unfold tX4_leastDigit
  refine aK_c (ex lin_al cls_al) ?_
  refine aK_c (ex lin_gF (cls_gF 8 rfl (Nat.le_of_ble_eq_true rfl))) ?_
  refine aK_c (ex lin_il cls_il) ?_
  refine aK_c (ex lin_ii cls_ii) ?_
  refine aK_c (ex lin_bi cls_bi) ?_
  refine aK_c (ex lin_il cls_il) ?_
  refine aK_c (ex lin_bi cls_bi) ?_
  refine aK_c (ex lin_iald cls_iald) ?_
  refine aK_c (ex lin_is cls_is) ?_
  refine aK_c (ex lin_al cls_al) ?_
  refine aK_c (ex lin_il cls_il) ?_
  refine aK_c (ex lin_il cls_il) ?_
  refine aK_c (ex lin_cV (cls_cV zX4_mostBehind)) ?_
  refine aK_c (ex lin_il cls_il) ?_
  refine aK_c (ex lin_ic cls_ic) ?_
  refine aK_c (ex lin_ii cls_ii) ?_
  refine aK_c (ex lin_ri cls_ri) ?_
  refine aK_c (ex lin_al cls_al) ?_
  refine aK_c (ex lin_gF (cls_gF 0 rfl (Nat.le_of_ble_eq_true rfl))) ?_
  refine aK_c (ex lin_il cls_il) ?_
  refine aK_c (ex lin_cV (cls_cV zX0_hasCase)) ?_
  refine aK_c (ex lin_if cls_if) ?_
  refine aK_c (ex lin_al cls_al) ?_
  refine aK_c (ex lin_gF (cls_gF 0 rfl (Nat.le_of_ble_eq_true rfl))) ?_
  refine aK_c (ex lin_il cls_il) ?_
  refine aK_c (ex lin_cV (cls_cV zX0_whoCan)) ?_
  refine aK_c (ex lin_il cls_il) ?_
  refine aK_c (ex lin_ii cls_ii) ?_
  refine aK_c (ex lin_bi cls_bi) ?_
  refine aK_c (ex lin_bi cls_bi) ?_
  refine aK_c (ex lin_go cls_go) ?_
  refine aK_c (ex lin_ii cls_ii) ?_
  refine aK_c (ex lin_is cls_is) ?_
  refine aK_c (ex lin_ii cls_ii) ?_
  refine aK_c (ex lin_is cls_is) ?_
  refine aK_c (ex lin_il cls_il) ?_
  refine aK_c (ex lin_ii cls_ii) ?_
  refine aK_c (ex lin_ic cls_ic) ?_
  refine aK_c (ex lin_il cls_il) ?_
  refine aK_c (ex lin_ii cls_ii) ?_
  refine aK_c (ex lin_il cls_il) ?_
  refine aK_c (ex lin_bi cls_bi) ?_
  refine aK_c (ex lin_bi cls_bi) ?_
  refine aK_c (ex lin_if cls_if) ?_
  refine aK_c (ex lin_ii cls_ii) ?_
  refine aK_c (ex lin_al cls_al) ?_
  refine aK_c (ex lin_il cls_il) ?_
  refine aK_c (ex lin_il cls_il) ?_
  refine aK_c (ex lin_ii cls_ii) ?_
  refine aK_c (ex lin_il cls_il) ?_
  refine aK_c (ex lin_bi cls_bi) ?_
  refine aK_c (ex lin_bi cls_bi) ?_
  refine aK_c (ex lin_cV (cls_cV zX4_mostBehind)) ?_
  refine aK_c (ex lin_bi cls_bi) ?_
  refine aK_c (ex lin_il cls_il) ?_
  refine aK_c (ex lin_ic cls_ic) ?_
  refine aK_c (ex lin_il cls_il) ?_
  refine aK_c (ex lin_ii cls_ii) ?_
  refine aK_c (ex lin_bi cls_bi) ?_
  refine aK_c (ex lin_ri cls_ri) ?_
  refine aK_c (ex lin_inc cls_inc) ?_
  refine aK_c (ex lin_go cls_go) ?_
  refine aK_c (ex lin_ii cls_ii) ?_
  refine aK_c (ex lin_ri cls_ri) ?_
  exact aK_n
theorem zX4_leastDigit : aCC CX4_leastDigit := aCC.of kX4_leastDigit
theorem kX4_sitting : aKl tX4_sitting := by
  unfold tX4_sitting
  refine aK_c (ex lin_il cls_il) ?_
  refine aK_c (ex lin_ii cls_ii) ?_
  refine aK_c (ex lin_ii cls_ii) ?_
  refine aK_c (ex lin_cS (cls_cS zX4_within)) ?_
  refine aK_c (ex lin_if cls_if) ?_
  refine aK_c (ex lin_ii cls_ii) ?_
  refine aK_c (ex lin_ri cls_ri) ?_
  refine aK_c (ex lin_al cls_al) ?_
  refine aK_c (ex lin_cV (cls_cV zX4_fillMost)) ?_
  refine aK_c (ex lin_il cls_il) ?_
  refine aK_c (ex lin_if cls_if) ?_
  refine aK_c (ex lin_al cls_al) ?_
  refine aK_c (ex lin_gF (cls_gF 8 rfl (Nat.le_of_ble_eq_true rfl))) ?_
  refine aK_c (ex lin_ii cls_ii) ?_
  refine aK_c (ex lin_iald cls_iald) ?_
  refine aK_c (ex lin_ri cls_ri) ?_
  refine aK_c (ex lin_ii cls_ii) ?_
  refine aK_c (ex lin_is cls_is) ?_
  refine aK_c (ex lin_ii cls_ii) ?_
  refine aK_c (ex lin_is cls_is) ?_
  refine aK_c (ex lin_ii cls_ii) ?_
  refine aK_c (ex lin_is cls_is) ?_
  refine aK_c (ex (lin_mk lin_il) (cls_mk cls_il)) ?_
  refine aK_c (ex lin_ii cls_ii) ?_
  refine aK_c (ex lin_ic cls_ic) ?_
  refine aK_c (ex lin_al cls_al) ?_
  refine aK_c (ex lin_il cls_il) ?_
  refine aK_c (ex lin_il cls_il) ?_
  refine aK_c (ex lin_cV (cls_cV zX4_leastDigit)) ?_
  refine aK_c (ex lin_is cls_is) ?_
  refine aK_c (ex lin_il cls_il) ?_
  refine aK_c (ex lin_if cls_if) ?_
  refine aK_c (ex lin_il cls_il) ?_
  refine aK_c (ex lin_ii cls_ii) ?_
  refine aK_c (ex lin_il cls_il) ?_
  refine aK_c (ex lin_ii cls_ii) ?_
  refine aK_c (ex lin_bi cls_bi) ?_
  refine aK_c (ex lin_bi cls_bi) ?_
  refine aK_c (ex lin_bi cls_bi) ?_
  refine aK_c (ex lin_is cls_is) ?_
  refine aK_c (ex lin_ii cls_ii) ?_
  refine aK_c (ex lin_il cls_il) ?_
  refine aK_c (ex lin_bi cls_bi) ?_
  refine aK_c (ex lin_il cls_il) ?_
  refine aK_c (ex lin_bi cls_bi) ?_
  refine aK_c (ex lin_is cls_is) ?_
  refine aK_c (ex lin_inc cls_inc) ?_
  refine aK_c (ex lin_go cls_go) ?_
  refine aK_c (ex lin_il cls_il) ?_
  refine aK_c (ex lin_ri cls_ri) ?_
  exact aK_n
theorem zX4_sitting : aCC CX4_sitting := aCC.of kX4_sitting
theorem kX4_burglary : aKl tX4_burglary := by
  unfold tX4_burglary
  refine aK_c (ex lin_il cls_il) ?_
  refine aK_c (ex lin_ii cls_ii) ?_
  refine aK_c (ex lin_ii cls_ii) ?_
  refine aK_c (ex lin_cS (cls_cS zX4_within)) ?_
  refine aK_c (ex lin_if cls_if) ?_
  refine aK_c (ex lin_il cls_il) ?_
  refine aK_c (ex lin_ii cls_ii) ?_
  refine aK_c (ex lin_ii cls_ii) ?_
  refine aK_c (ex lin_cS (cls_cS zX4_within)) ?_
  refine aK_c (ex lin_if cls_if) ?_
  refine aK_c (ex lin_ii cls_ii) ?_
  refine aK_c (ex lin_ri cls_ri) ?_
  refine aK_c (ex lin_al cls_al) ?_
  refine aK_c (ex lin_cV (cls_cV zX4_think)) ?_
  refine aK_c (ex lin_al cls_al) ?_
  refine aK_c (ex lin_il cls_il) ?_
  refine aK_c (ex lin_cV (cls_cV zX4_heardInThought)) ?_
  refine aK_c (ex lin_is cls_is) ?_
  refine aK_c (ex lin_ii cls_ii) ?_
  refine aK_c (ex lin_is cls_is) ?_
  refine aK_c (ex lin_ii cls_ii) ?_
  refine aK_c (ex lin_is cls_is) ?_
  refine aK_c (ex (lin_mk lin_il) (cls_mk cls_il)) ?_
  refine aK_c (ex lin_al cls_al) ?_
  refine aK_c (ex lin_gF (cls_gF 0 rfl (Nat.le_of_ble_eq_true rfl))) ?_
  refine aK_c (ex lin_gI cls_gI) ?_
  refine aK_c (ex lin_ic cls_ic) ?_
  refine aK_c (ex lin_ii cls_ii) ?_
  refine aK_c (ex lin_is cls_is) ?_
  refine aK_c (ex (lin_mk lin_il) (cls_mk cls_il)) ?_
  refine aK_c (ex lin_ii cls_ii) ?_
  refine aK_c (ex lin_ic cls_ic) ?_
  refine aK_c (ex lin_al cls_al) ?_
  refine aK_c (ex lin_gF (cls_gF 0 rfl (Nat.le_of_ble_eq_true rfl))) ?_
  refine aK_c (ex lin_gF (cls_gF 2 rfl (Nat.le_of_ble_eq_true rfl))) ?_
  refine aK_c (ex lin_il cls_il) ?_
  refine aK_c (ex lin_iald cls_iald) ?_
  refine aK_c (ex lin_il cls_il) ?_
  refine aK_c (ex lin_bi cls_bi) ?_
  refine aK_c (ex lin_ii cls_ii) ?_
  refine aK_c (ex lin_bi cls_bi) ?_
  refine aK_c (ex lin_if cls_if) ?_
  refine aK_c (ex lin_al cls_al) ?_
  refine aK_c (ex lin_cV (cls_cV zX4_think)) ?_
  refine aK_c (ex lin_al cls_al) ?_
  refine aK_c (ex lin_gF (cls_gF 1 rfl (Nat.le_of_ble_eq_true rfl))) ?_
  refine aK_c (ex lin_gF (cls_gF 2 rfl (Nat.le_of_ble_eq_true rfl))) ?_
  refine aK_c (ex lin_il cls_il) ?_
  refine aK_c (ex lin_dup2 cls_dup2) ?_
  refine aK_c (ex lin_iald cls_iald) ?_
  refine aK_c (ex lin_ii cls_ii) ?_
  refine aK_c (ex lin_il cls_il) ?_
  refine aK_c (ex lin_bi cls_bi) ?_
  refine aK_c (ex lin_bi cls_bi) ?_
  refine aK_c (ex lin_iast cls_iast) ?_
  refine aK_c (ex lin_al cls_al) ?_
  refine aK_c (ex lin_il cls_il) ?_
  refine aK_c (ex lin_cV (cls_cV zX4_heardInThought)) ?_
  refine aK_c (ex lin_is cls_is) ?_
  refine aK_c (ex lin_il cls_il) ?_
  refine aK_c (ex lin_il cls_il) ?_
  refine aK_c (ex lin_ic cls_ic) ?_
  refine aK_c (ex lin_il cls_il) ?_
  refine aK_c (ex lin_is cls_is) ?_
  refine aK_c (ex lin_ii cls_ii) ?_
  refine aK_c (ex lin_il cls_il) ?_
  refine aK_c (ex lin_bi cls_bi) ?_
  refine aK_c (ex lin_il cls_il) ?_
  refine aK_c (ex lin_bi cls_bi) ?_
  refine aK_c (ex lin_is cls_is) ?_
  refine aK_c (ex lin_inc cls_inc) ?_
  refine aK_c (ex lin_go cls_go) ?_
  refine aK_c (ex lin_inc cls_inc) ?_
  refine aK_c (ex lin_go cls_go) ?_
  refine aK_c (ex lin_il cls_il) ?_
  refine aK_c (ex lin_if cls_if) ?_
  refine aK_c (ex lin_il cls_il) ?_
  refine aK_c (ex lin_go cls_go) ?_
  refine aK_c (ex lin_il cls_il) ?_
  refine aK_c (ex lin_ri cls_ri) ?_
  exact aK_n
theorem zX4_burglary : aCC CX4_burglary := aCC.of kX4_burglary
theorem kX4_fewestLosses : aKl tX4_fewestLosses := by
  unfold tX4_fewestLosses
  refine aK_c (ex lin_al cls_al) ?_
  refine aK_c (ex lin_gF (cls_gF 0 rfl (Nat.le_of_ble_eq_true rfl))) ?_
  refine aK_c (ex lin_gF (cls_gF 2 rfl (Nat.le_of_ble_eq_true rfl))) ?_
  refine aK_c (ex lin_il cls_il) ?_
  refine aK_c (ex lin_iald cls_iald) ?_
  refine aK_c (ex lin_is cls_is) ?_
  refine aK_c (ex lin_ii cls_ii) ?_
  refine aK_c (ex lin_is cls_is) ?_
  refine aK_c (ex lin_ii cls_ii) ?_
  refine aK_c (ex lin_is cls_is) ?_
  refine aK_c (ex lin_al cls_al) ?_
  refine aK_c (ex lin_cV (cls_cV zX4_think)) ?_
  refine aK_c (ex lin_ii cls_ii) ?_
  refine aK_c (ex lin_is cls_is) ?_
  refine aK_c (ex lin_il cls_il) ?_
  refine aK_c (ex lin_ii cls_ii) ?_
  refine aK_c (ex lin_ic cls_ic) ?_
  refine aK_c (ex lin_il cls_il) ?_
  refine aK_c (ex lin_il cls_il) ?_
  refine aK_c (ex lin_bi cls_bi) ?_
  refine aK_c (ex lin_if cls_if) ?_
  refine aK_c (ex lin_il cls_il) ?_
  refine aK_c (ex lin_cS (cls_cS zJ6_bitCount_0f7a4)) ?_
  refine aK_c (ex lin_il cls_il) ?_
  refine aK_c (ex lin_ic cls_ic) ?_
  refine aK_c (ex lin_al cls_al) ?_
  refine aK_c (ex lin_gF (cls_gF 1 rfl (Nat.le_of_ble_eq_true rfl))) ?_
  refine aK_c (ex lin_gF (cls_gF 2 rfl (Nat.le_of_ble_eq_true rfl))) ?_
  refine aK_c (ex lin_il cls_il) ?_
  refine aK_c (ex lin_il cls_il) ?_
  refine aK_c (ex lin_il cls_il) ?_
  refine aK_c (ex lin_bi cls_bi) ?_
  refine aK_c (ex lin_iast cls_iast) ?_
  refine aK_c (ex lin_al cls_al) ?_
  refine aK_c (ex lin_gF (cls_gF 1 rfl (Nat.le_of_ble_eq_true rfl))) ?_
  refine aK_c (ex lin_il cls_il) ?_
  refine aK_c (ex lin_il cls_il) ?_
  refine aK_c (ex lin_cV (cls_cV zX0_may)) ?_
  refine aK_c (ex lin_if cls_if) ?_
  refine aK_c (ex lin_il cls_il) ?_
  refine aK_c (ex lin_is cls_is) ?_
  refine aK_c (ex lin_il cls_il) ?_
  refine aK_c (ex lin_cS (cls_cS zJ6_bitCount_0f7a4)) ?_
  refine aK_c (ex lin_is cls_is) ?_
  refine aK_c (ex lin_inc cls_inc) ?_
  refine aK_c (ex lin_go cls_go) ?_
  refine aK_c (ex lin_il cls_il) ?_
  refine aK_c (ex lin_ri cls_ri) ?_
  exact aK_n
theorem zX4_fewestLosses : aCC CX4_fewestLosses := aCC.of kX4_fewestLosses
theorem kX4_wants : aKl tX4_wants := by
  unfold tX4_wants
  refine aK_c (ex lin_al cls_al) ?_
  refine aK_c (ex lin_gF (cls_gF 0 rfl (Nat.le_of_ble_eq_true rfl))) ?_
  refine aK_c (ex lin_il cls_il) ?_
  refine aK_c (ex lin_cV (cls_cV zX0_hasJudge)) ?_
  refine aK_c (ex lin_if cls_if) ?_
  refine aK_c (ex lin_ii cls_ii) ?_
  refine aK_c (ex lin_ri cls_ri) ?_
  refine aK_c (ex lin_al cls_al) ?_
  refine aK_c (ex lin_gF (cls_gF 0 rfl (Nat.le_of_ble_eq_true rfl))) ?_
  refine aK_c (ex lin_il cls_il) ?_
  refine aK_c (ex lin_cV (cls_cV zX0_hasCase)) ?_
  refine aK_c (ex lin_if cls_if) ?_
  refine aK_c (ex lin_ii cls_ii) ?_
  refine aK_c (ex lin_ri cls_ri) ?_
  refine aK_c (ex lin_il cls_il) ?_
  refine aK_c (ex lin_ii cls_ii) ?_
  refine aK_c (ex lin_ii cls_ii) ?_
  refine aK_c (ex lin_cS (cls_cS zX4_within)) ?_
  refine aK_c (ex lin_if cls_if) ?_
  refine aK_c (ex lin_ii cls_ii) ?_
  refine aK_c (ex lin_ri cls_ri) ?_
  refine aK_c (ex lin_al cls_al) ?_
  refine aK_c (ex lin_il cls_il) ?_
  refine aK_c (ex lin_il cls_il) ?_
  refine aK_c (ex lin_cV (cls_cV zX4_fewestLosses)) ?_
  refine aK_c (ex lin_is cls_is) ?_
  refine aK_c (ex lin_il cls_il) ?_
  refine aK_c (ex lin_if cls_if) ?_
  refine aK_c (ex lin_il cls_il) ?_
  refine aK_c (ex lin_ii cls_ii) ?_
  refine aK_c (ex lin_ic cls_ic) ?_
  refine aK_c (ex lin_il cls_il) ?_
  refine aK_c (ex lin_go cls_go) ?_
  refine aK_c (ex lin_il cls_il) ?_
  refine aK_c (ex lin_cS (cls_cS zJ6_bitCount_0f7a4)) ?_
  refine aK_c (ex lin_ri cls_ri) ?_
  exact aK_n
theorem zX4_wants : aCC CX4_wants := aCC.of kX4_wants
theorem kX4_fullest : aKl tX4_fullest := by
  unfold tX4_fullest
  refine aK_c (ex lin_il cls_il) ?_
  refine aK_c (ex lin_ii cls_ii) ?_
  refine aK_c (ex lin_ii cls_ii) ?_
  refine aK_c (ex lin_cS (cls_cS zX4_within)) ?_
  refine aK_c (ex lin_if cls_if) ?_
  refine aK_c (ex lin_ii cls_ii) ?_
  refine aK_c (ex lin_ri cls_ri) ?_
  refine aK_c (ex lin_ii cls_ii) ?_
  refine aK_c (ex lin_is cls_is) ?_
  refine aK_c (ex lin_ii cls_ii) ?_
  refine aK_c (ex lin_is cls_is) ?_
  refine aK_c (ex lin_ii cls_ii) ?_
  refine aK_c (ex lin_is cls_is) ?_
  refine aK_c (ex lin_ii cls_ii) ?_
  refine aK_c (ex lin_is cls_is) ?_
  refine aK_c (ex (lin_mk lin_il) (cls_mk cls_il)) ?_
  refine aK_c (ex lin_al cls_al) ?_
  refine aK_c (ex lin_gF (cls_gF 0 rfl (Nat.le_of_ble_eq_true rfl))) ?_
  refine aK_c (ex lin_gI cls_gI) ?_
  refine aK_c (ex lin_ic cls_ic) ?_
  refine aK_c (ex lin_al cls_al) ?_
  refine aK_c (ex lin_gF (cls_gF 0 rfl (Nat.le_of_ble_eq_true rfl))) ?_
  refine aK_c (ex lin_il cls_il) ?_
  refine aK_c (ex lin_cV (cls_cV zX0_casesFor)) ?_
  refine aK_c (ex lin_cS (cls_cS zJ6_bitCount_0f7a4)) ?_
  refine aK_c (ex lin_is cls_is) ?_
  refine aK_c (ex lin_al cls_al) ?_
  refine aK_c (ex lin_gF (cls_gF 0 rfl (Nat.le_of_ble_eq_true rfl))) ?_
  refine aK_c (ex lin_gF (cls_gF 2 rfl (Nat.le_of_ble_eq_true rfl))) ?_
  refine aK_c (ex lin_il cls_il) ?_
  refine aK_c (ex lin_iald cls_iald) ?_
  refine aK_c (ex lin_cS (cls_cS zJ6_bitCount_0f7a4)) ?_
  refine aK_c (ex lin_is cls_is) ?_
  refine aK_c (ex lin_il cls_il) ?_
  refine aK_c (ex lin_ii cls_ii) ?_
  refine aK_c (ex lin_ic cls_ic) ?_
  refine aK_c (ex lin_il cls_il) ?_
  refine aK_c (ex lin_il cls_il) ?_
  refine aK_c (ex lin_ic cls_ic) ?_
  refine aK_c (ex lin_il cls_il) ?_
  refine aK_c (ex lin_il cls_il) ?_
  refine aK_c (ex lin_ic cls_ic) ?_
  refine aK_c (ex lin_il cls_il) ?_
  refine aK_c (ex lin_il cls_il) ?_
  refine aK_c (ex lin_ic cls_ic) ?_
  refine aK_c (ex lin_il cls_il) ?_
  refine aK_c (ex lin_is cls_is) ?_
  refine aK_c (ex lin_il cls_il) ?_
  refine aK_c (ex lin_is cls_is) ?_
  refine aK_c (ex lin_il cls_il) ?_
  refine aK_c (ex lin_is cls_is) ?_
  refine aK_c (ex lin_inc cls_inc) ?_
  refine aK_c (ex lin_go cls_go) ?_
  refine aK_c (ex lin_il cls_il) ?_
  refine aK_c (ex lin_if cls_if) ?_
  refine aK_c (ex lin_il cls_il) ?_
  refine aK_c (ex lin_go cls_go) ?_
  refine aK_c (ex lin_il cls_il) ?_
  refine aK_c (ex lin_ri cls_ri) ?_
  exact aK_n
theorem zX4_fullest : aCC CX4_fullest := aCC.of kX4_fullest
theorem kX4_cruel : aKl tX4_cruel := by
  unfold tX4_cruel
  refine aK_c (ex lin_ii cls_ii) ?_
  refine aK_c (ex lin_is cls_is) ?_
  refine aK_c (ex lin_ii cls_ii) ?_
  refine aK_c (ex lin_is cls_is) ?_
  refine aK_c (ex lin_il cls_il) ?_
  refine aK_c (ex lin_ii cls_ii) ?_
  refine aK_c (ex lin_ic cls_ic) ?_
  refine aK_c (ex lin_al cls_al) ?_
  refine aK_c (ex lin_gF (cls_gF 0 rfl (Nat.le_of_ble_eq_true rfl))) ?_
  refine aK_c (ex lin_il cls_il) ?_
  refine aK_c (ex lin_cV (cls_cV zX0_hasCase)) ?_
  refine aK_c (ex lin_if cls_if) ?_
  refine aK_c (ex lin_al cls_al) ?_
  refine aK_c (ex lin_gF (cls_gF 0 rfl (Nat.le_of_ble_eq_true rfl))) ?_
  refine aK_c (ex lin_il cls_il) ?_
  refine aK_c (ex lin_cV (cls_cV zX0_judgesFor)) ?_
  refine aK_c (ex lin_if cls_if) ?_
  refine aK_c (ex lin_il cls_il) ?_
  refine aK_c (ex lin_ii cls_ii) ?_
  refine aK_c (ex lin_il cls_il) ?_
  refine aK_c (ex lin_bi cls_bi) ?_
  refine aK_c (ex lin_bi cls_bi) ?_
  refine aK_c (ex lin_is cls_is) ?_
  refine aK_c (ex lin_inc cls_inc) ?_
  refine aK_c (ex lin_go cls_go) ?_
  refine aK_c (ex lin_il cls_il) ?_
  refine aK_c (ex lin_ri cls_ri) ?_
  exact aK_n
theorem zX4_cruel : aCC CX4_cruel := aCC.of kX4_cruel
theorem kX4_commonDivisor : aKl tX4_commonDivisor := by
  unfold tX4_commonDivisor
  refine aK_c (ex lin_il cls_il) ?_
  refine aK_c (ex lin_is cls_is) ?_
  refine aK_c (ex lin_il cls_il) ?_
  refine aK_c (ex lin_is cls_is) ?_
  refine aK_c (ex lin_ii cls_ii) ?_
  refine aK_c (ex lin_is cls_is) ?_
  refine aK_c (ex (lin_mk lin_il) (cls_mk cls_il)) ?_
  refine aK_c (ex lin_ii cls_ii) ?_
  refine aK_c (ex lin_ic cls_ic) ?_
  refine aK_c (ex lin_il cls_il) ?_
  refine aK_c (ex lin_if cls_if) ?_
  refine aK_c (ex lin_il cls_il) ?_
  refine aK_c (ex lin_il cls_il) ?_
  refine aK_c (ex lin_rm cls_rm) ?_
  refine aK_c (ex lin_is cls_is) ?_
  refine aK_c (ex lin_il cls_il) ?_
  refine aK_c (ex lin_is cls_is) ?_
  refine aK_c (ex lin_il cls_il) ?_
  refine aK_c (ex lin_is cls_is) ?_
  refine aK_c (ex lin_inc cls_inc) ?_
  refine aK_c (ex lin_go cls_go) ?_
  refine aK_c (ex lin_il cls_il) ?_
  refine aK_c (ex lin_ri cls_ri) ?_
  exact aK_n
theorem zX4_commonDivisor : aCC CX4_commonDivisor := aCC.of kX4_commonDivisor
theorem kX4_partOfFraction : aKl tX4_partOfFraction := by
  unfold tX4_partOfFraction
  refine aK_c (ex lin_il cls_il) ?_
  refine aK_c (ex lin_il cls_il) ?_
  refine aK_c (ex lin_cS (cls_cS zX4_commonDivisor)) ?_
  refine aK_c (ex lin_is cls_is) ?_
  refine aK_c (ex lin_il cls_il) ?_
  refine aK_c (ex lin_if cls_if) ?_
  refine aK_c (ex lin_lc cls_lc) ?_
  refine aK_c (ex lin_rl cls_rl) ?_
  refine aK_c (ex lin_il cls_il) ?_
  refine aK_c (ex lin_if cls_if) ?_
  refine aK_c (ex lin_il cls_il) ?_
  refine aK_c (ex lin_go cls_go) ?_
  refine aK_c (ex lin_il cls_il) ?_
  refine aK_c (ex lin_il cls_il) ?_
  refine aK_c (ex lin_dv cls_dv) ?_
  refine aK_c (ex lin_tl cls_tl) ?_
  refine aK_c (ex lin_rl cls_rl) ?_
  exact aK_n
theorem zX4_partOfFraction : aCC CX4_partOfFraction := aCC.of kX4_partOfFraction
theorem kX4_ruin : aKl tX4_ruin := by
  unfold tX4_ruin
  refine aK_c (ex lin_il cls_il) ?_
  refine aK_c (ex lin_ii cls_ii) ?_
  refine aK_c (ex lin_ii cls_ii) ?_
  refine aK_c (ex lin_cS (cls_cS zX4_within)) ?_
  refine aK_c (ex lin_if cls_if) ?_
  refine aK_c (ex lin_al cls_al) ?_
  refine aK_c (ex lin_gF (cls_gF 0 rfl (Nat.le_of_ble_eq_true rfl))) ?_
  refine aK_c (ex lin_gI cls_gI) ?_
  refine aK_c (ex lin_if cls_if) ?_
  refine aK_c (ex lin_lc cls_lc) ?_
  refine aK_c (ex lin_rl cls_rl) ?_
  refine aK_c (ex lin_ii cls_ii) ?_
  refine aK_c (ex lin_is cls_is) ?_
  refine aK_c (ex lin_ii cls_ii) ?_
  refine aK_c (ex lin_is cls_is) ?_
  refine aK_c (ex lin_il cls_il) ?_
  refine aK_c (ex lin_al cls_al) ?_
  refine aK_c (ex lin_gF (cls_gF 0 rfl (Nat.le_of_ble_eq_true rfl))) ?_
  refine aK_c (ex lin_gI cls_gI) ?_
  refine aK_c (ex lin_ic cls_ic) ?_
  refine aK_c (ex lin_il cls_il) ?_
  refine aK_c (ex lin_al cls_al) ?_
  refine aK_c (ex lin_gF (cls_gF 0 rfl (Nat.le_of_ble_eq_true rfl))) ?_
  refine aK_c (ex lin_gF (cls_gF 2 rfl (Nat.le_of_ble_eq_true rfl))) ?_
  refine aK_c (ex lin_il cls_il) ?_
  refine aK_c (ex lin_iald cls_iald) ?_
  refine aK_c (ex lin_cS (cls_cS zJ6_bitCount_0f7a4)) ?_
  refine aK_c (ex lin_bi cls_bi) ?_
  refine aK_c (ex lin_is cls_is) ?_
  refine aK_c (ex lin_inc cls_inc) ?_
  refine aK_c (ex lin_go cls_go) ?_
  refine aK_c (ex lin_il cls_il) ?_
  refine aK_c (ex lin_al cls_al) ?_
  refine aK_c (ex lin_gF (cls_gF 0 rfl (Nat.le_of_ble_eq_true rfl))) ?_
  refine aK_c (ex lin_gI cls_gI) ?_
  refine aK_c (ex lin_il cls_il) ?_
  refine aK_c (ex lin_cS (cls_cS zX4_partOfFraction)) ?_
  refine aK_c (ex lin_rl cls_rl) ?_
  exact aK_n
theorem zX4_ruin : aCC CX4_ruin := aCC.of kX4_ruin
theorem kX2_isMissing : aKl tX2_isMissing := by
  unfold tX2_isMissing
  refine aK_c (ex lin_al cls_al) ?_
  refine aK_c (ex lin_gI cls_gI) ?_
  refine aK_c (ex lin_ii cls_ii) ?_
  refine aK_c (ex lin_ic cls_ic) ?_
  refine aK_c (ex lin_ii cls_ii) ?_
  refine aK_c (ex lin_go cls_go) ?_
  refine aK_c (ex lin_ii cls_ii) ?_
  refine aK_c (ex lin_rz cls_rz) ?_
  exact aK_n
theorem zX2_isMissing : aCC CX2_isMissing := aCC.of kX2_isMissing
theorem kX4_refusalOfTold : aKl tX4_refusalOfTold := by
  unfold tX4_refusalOfTold
  refine aK_c (ex lin_il cls_il) ?_
  refine aK_c (ex lin_ii cls_ii) ?_
  refine aK_c (ex lin_ii cls_ii) ?_
  refine aK_c (ex lin_cS (cls_cS zX4_within)) ?_
  refine aK_c (ex lin_if cls_if) ?_
  refine aK_c (ex lin_ii cls_ii) ?_
  refine aK_c (ex lin_ri cls_ri) ?_
  refine aK_c (ex lin_al cls_al) ?_
  refine aK_c (ex lin_gF (cls_gF 7 rfl (Nat.le_of_ble_eq_true rfl))) ?_
  refine aK_c (ex lin_il cls_il) ?_
  refine aK_c (ex lin_aald cls_aald) ?_
  refine aK_c (ex lin_cV (cls_cV zX2_isMissing)) ?_
  refine aK_c (ex lin_if cls_if) ?_
  refine aK_c (ex lin_ii cls_ii) ?_
  refine aK_c (ex lin_ri cls_ri) ?_
  refine aK_c (ex lin_al cls_al) ?_
  refine aK_c (ex lin_gF (cls_gF 7 rfl (Nat.le_of_ble_eq_true rfl))) ?_
  refine aK_c (ex lin_il cls_il) ?_
  refine aK_c (ex lin_aald cls_aald) ?_
  refine aK_c (ex lin_gI cls_gI) ?_
  refine aK_c (ex lin_ii cls_ii) ?_
  refine aK_c (ex lin_ic cls_ic) ?_
  refine aK_c (ex lin_ii cls_ii) ?_
  refine aK_c (ex lin_go cls_go) ?_
  refine aK_c (ex lin_ii cls_ii) ?_
  refine aK_c (ex lin_ri cls_ri) ?_
  exact aK_n
theorem zX4_refusalOfTold : aCC CX4_refusalOfTold := aCC.of kX4_refusalOfTold
theorem kX4_firstOther : aKl tX4_firstOther := by
  unfold tX4_firstOther
  refine aK_c (ex lin_al cls_al) ?_
  refine aK_c (ex lin_gF (cls_gF 7 rfl (Nat.le_of_ble_eq_true rfl))) ?_
  refine aK_c (ex lin_il cls_il) ?_
  refine aK_c (ex lin_aald cls_aald) ?_
  refine aK_c (ex lin_as cls_as) ?_
  refine aK_c (ex lin_ii cls_ii) ?_
  refine aK_c (ex lin_is cls_is) ?_
  refine aK_c (ex (lin_mk lin_il) (cls_mk cls_il)) ?_
  refine aK_c (ex lin_al cls_al) ?_
  refine aK_c (ex lin_gI cls_gI) ?_
  refine aK_c (ex lin_ic cls_ic) ?_
  refine aK_c (ex lin_al cls_al) ?_
  refine aK_c (ex lin_gF (cls_gF 1 rfl (Nat.le_of_ble_eq_true rfl))) ?_
  refine aK_c (ex lin_cV (cls_cV zX0_passDay)) ?_
  refine aK_c (ex lin_cS (cls_cS zJ6_bitCount_0f7a4)) ?_
  refine aK_c (ex lin_al cls_al) ?_
  refine aK_c (ex lin_gF (cls_gF 0 rfl (Nat.le_of_ble_eq_true rfl))) ?_
  refine aK_c (ex lin_il cls_il) ?_
  refine aK_c (ex lin_iald cls_iald) ?_
  refine aK_c (ex lin_ic cls_ic) ?_
  refine aK_c (ex lin_il cls_il) ?_
  refine aK_c (ex lin_ri cls_ri) ?_
  refine aK_c (ex lin_inc cls_inc) ?_
  refine aK_c (ex lin_go cls_go) ?_
  refine aK_c (ex lin_ii cls_ii) ?_
  refine aK_c (ex lin_ri cls_ri) ?_
  exact aK_n
theorem zX4_firstOther : aCC CX4_firstOther := aCC.of kX4_firstOther
theorem kX4_tells : aKl tX4_tells := by
  unfold tX4_tells
  refine aK_c (ex lin_al cls_al) ?_
  refine aK_c (ex lin_il cls_il) ?_
  refine aK_c (ex lin_cV (cls_cV zX4_refusalOfTold)) ?_
  refine aK_c (ex lin_is cls_is) ?_
  refine aK_c (ex lin_il cls_il) ?_
  refine aK_c (ex lin_if cls_if) ?_
  refine aK_c (ex lin_il cls_il) ?_
  refine aK_c (ex lin_ri cls_ri) ?_
  refine aK_c (ex lin_al cls_al) ?_
  refine aK_c (ex lin_cV (cls_cV zX4_think)) ?_
  refine aK_c (ex lin_al cls_al) ?_
  refine aK_c (ex lin_il cls_il) ?_
  refine aK_c (ex lin_cV (cls_cV zX4_firstOther)) ?_
  refine aK_c (ex lin_ri cls_ri) ?_
  exact aK_n
theorem zX4_tells : aCC CX4_tells := aCC.of kX4_tells
theorem kX4_refusalOfTold_ : aKl tX4_refusalOfTold_ := by
  unfold tX4_refusalOfTold_
  refine aK_c (ex lin_al cls_al) ?_
  refine aK_c (ex lin_il cls_il) ?_
  refine aK_c (ex lin_cV (cls_cV zX4_refusalOfTold)) ?_
  refine aK_c (ex lin_is cls_is) ?_
  refine aK_c (ex lin_il cls_il) ?_
  refine aK_c (ex lin_if cls_if) ?_
  refine aK_c (ex lin_il cls_il) ?_
  refine aK_c (ex lin_ri cls_ri) ?_
  refine aK_c (ex lin_al cls_al) ?_
  refine aK_c (ex lin_gF (cls_gF 0 rfl (Nat.le_of_ble_eq_true rfl))) ?_
  refine aK_c (ex lin_il cls_il) ?_
  refine aK_c (ex lin_cV (cls_cV zX0_hasJudge)) ?_
  refine aK_c (ex lin_if cls_if) ?_
  refine aK_c (ex lin_ii cls_ii) ?_
  refine aK_c (ex lin_go cls_go) ?_
  refine aK_c (ex lin_ii cls_ii) ?_
  refine aK_c (ex lin_ri cls_ri) ?_
  exact aK_n
theorem zX4_refusalOfTold_ : aCC CX4_refusalOfTold_ := aCC.of kX4_refusalOfTold_
theorem kX4_kinds : aKl tX4_kinds := by
  unfold tX4_kinds
  refine aK_c (ex lin_al cls_al) ?_
  refine aK_c (ex lin_il cls_il) ?_
  refine aK_c (ex lin_il cls_il) ?_
  refine aK_c (ex lin_cV (cls_cV zX4_refusalOfTold_)) ?_
  refine aK_c (ex lin_is cls_is) ?_
  refine aK_c (ex lin_il cls_il) ?_
  refine aK_c (ex lin_if cls_if) ?_
  refine aK_c (ex lin_il cls_il) ?_
  refine aK_c (ex lin_ri cls_ri) ?_
  refine aK_c (ex lin_il cls_il) ?_
  refine aK_c (ex lin_ii cls_ii) ?_
  refine aK_c (ex lin_ii cls_ii) ?_
  refine aK_c (ex lin_cS (cls_cS zX4_within)) ?_
  refine aK_c (ex lin_if cls_if) ?_
  refine aK_c (ex lin_ii cls_ii) ?_
  refine aK_c (ex lin_ri cls_ri) ?_
  refine aK_c (ex lin_ii cls_ii) ?_
  refine aK_c (ex lin_is cls_is) ?_
  refine aK_c (ex lin_ii cls_ii) ?_
  refine aK_c (ex lin_is cls_is) ?_
  refine aK_c (ex (lin_mk lin_il) (cls_mk cls_il)) ?_
  refine aK_c (ex lin_il cls_il) ?_
  refine aK_c (ex lin_if cls_if) ?_
  refine aK_c (ex lin_ii cls_ii) ?_
  refine aK_c (ex lin_go cls_go) ?_
  refine aK_c (ex lin_ii cls_ii) ?_
  refine aK_c (ex lin_ic cls_ic) ?_
  refine aK_c (ex lin_al cls_al) ?_
  refine aK_c (ex lin_cV (cls_cV zX4_think)) ?_
  refine aK_c (ex lin_il cls_il) ?_
  refine aK_c (ex lin_if cls_if) ?_
  refine aK_c (ex lin_al cls_al) ?_
  refine aK_c (ex lin_gF (cls_gF 1 rfl (Nat.le_of_ble_eq_true rfl))) ?_
  refine aK_c (ex lin_gF (cls_gF 0 rfl (Nat.le_of_ble_eq_true rfl))) ?_
  refine aK_c (ex lin_il cls_il) ?_
  refine aK_c (ex lin_il cls_il) ?_
  refine aK_c (ex lin_iast cls_iast) ?_
  refine aK_c (ex lin_go cls_go) ?_
  refine aK_c (ex lin_al cls_al) ?_
  refine aK_c (ex lin_gF (cls_gF 1 rfl (Nat.le_of_ble_eq_true rfl))) ?_
  refine aK_c (ex lin_gF (cls_gF 1 rfl (Nat.le_of_ble_eq_true rfl))) ?_
  refine aK_c (ex lin_il cls_il) ?_
  refine aK_c (ex lin_il cls_il) ?_
  refine aK_c (ex lin_iast cls_iast) ?_
  refine aK_c (ex lin_al cls_al) ?_
  refine aK_c (ex lin_il cls_il) ?_
  refine aK_c (ex lin_cV (cls_cV zX4_firstOther)) ?_
  refine aK_c (ex lin_ii cls_ii) ?_
  refine aK_c (ex lin_ic cls_ic) ?_
  refine aK_c (ex lin_il cls_il) ?_
  refine aK_c (ex lin_ii cls_ii) ?_
  refine aK_c (ex lin_il cls_il) ?_
  refine aK_c (ex lin_bi cls_bi) ?_
  refine aK_c (ex lin_bi cls_bi) ?_
  refine aK_c (ex lin_is cls_is) ?_
  refine aK_c (ex lin_inc cls_inc) ?_
  refine aK_c (ex lin_go cls_go) ?_
  refine aK_c (ex lin_il cls_il) ?_
  refine aK_c (ex lin_ri cls_ri) ?_
  exact aK_n
theorem zX4_kinds : aCC CX4_kinds := aCC.of kX4_kinds
theorem kX4_turned : aKl tX4_turned := by
  unfold tX4_turned
  refine aK_c (ex lin_al cls_al) ?_
  refine aK_c (ex lin_il cls_il) ?_
  refine aK_c (ex lin_il cls_il) ?_
  refine aK_c (ex lin_cV (cls_cV zX4_refusalOfTold_)) ?_
  refine aK_c (ex lin_is cls_is) ?_
  refine aK_c (ex lin_il cls_il) ?_
  refine aK_c (ex lin_if cls_if) ?_
  refine aK_c (ex lin_il cls_il) ?_
  refine aK_c (ex lin_ri cls_ri) ?_
  refine aK_c (ex lin_ii cls_ii) ?_
  refine aK_c (ex lin_is cls_is) ?_
  refine aK_c (ex lin_ii cls_ii) ?_
  refine aK_c (ex lin_is cls_is) ?_
  refine aK_c (ex (lin_mk lin_il) (cls_mk cls_il)) ?_
  refine aK_c (ex lin_ii cls_ii) ?_
  refine aK_c (ex lin_ic cls_ic) ?_
  refine aK_c (ex lin_al cls_al) ?_
  refine aK_c (ex lin_cV (cls_cV zX4_think)) ?_
  refine aK_c (ex lin_al cls_al) ?_
  refine aK_c (ex lin_gF (cls_gF 1 rfl (Nat.le_of_ble_eq_true rfl))) ?_
  refine aK_c (ex lin_gF (cls_gF 2 rfl (Nat.le_of_ble_eq_true rfl))) ?_
  refine aK_c (ex lin_il cls_il) ?_
  refine aK_c (ex lin_dup2 cls_dup2) ?_
  refine aK_c (ex lin_iald cls_iald) ?_
  refine aK_c (ex lin_ii cls_ii) ?_
  refine aK_c (ex lin_il cls_il) ?_
  refine aK_c (ex lin_bi cls_bi) ?_
  refine aK_c (ex lin_bi cls_bi) ?_
  refine aK_c (ex lin_iast cls_iast) ?_
  refine aK_c (ex lin_al cls_al) ?_
  refine aK_c (ex lin_il cls_il) ?_
  refine aK_c (ex lin_cV (cls_cV zX4_firstOther)) ?_
  refine aK_c (ex lin_ii cls_ii) ?_
  refine aK_c (ex lin_ic cls_ic) ?_
  refine aK_c (ex lin_il cls_il) ?_
  refine aK_c (ex lin_ii cls_ii) ?_
  refine aK_c (ex lin_il cls_il) ?_
  refine aK_c (ex lin_bi cls_bi) ?_
  refine aK_c (ex lin_bi cls_bi) ?_
  refine aK_c (ex lin_is cls_is) ?_
  refine aK_c (ex lin_inc cls_inc) ?_
  refine aK_c (ex lin_go cls_go) ?_
  refine aK_c (ex lin_il cls_il) ?_
  refine aK_c (ex lin_ri cls_ri) ?_
  exact aK_n
theorem zX4_turned : aCC CX4_turned := aCC.of kX4_turned
theorem kX4_states : aKl tX4_states := by
  unfold tX4_states
  refine aK_c (ex lin_al cls_al) ?_
  refine aK_c (ex lin_il cls_il) ?_
  refine aK_c (ex lin_il cls_il) ?_
  refine aK_c (ex lin_cV (cls_cV zX4_refusalOfTold_)) ?_
  refine aK_c (ex lin_is cls_is) ?_
  refine aK_c (ex lin_il cls_il) ?_
  refine aK_c (ex lin_if cls_if) ?_
  refine aK_c (ex lin_il cls_il) ?_
  refine aK_c (ex lin_ri cls_ri) ?_
  refine aK_c (ex lin_il cls_il) ?_
  refine aK_c (ex lin_ii cls_ii) ?_
  refine aK_c (ex lin_ii cls_ii) ?_
  refine aK_c (ex lin_cS (cls_cS zX4_within)) ?_
  refine aK_c (ex lin_if cls_if) ?_
  refine aK_c (ex lin_il cls_il) ?_
  refine aK_c (ex lin_ii cls_ii) ?_
  refine aK_c (ex lin_ii cls_ii) ?_
  refine aK_c (ex lin_cS (cls_cS zX4_within)) ?_
  refine aK_c (ex lin_if cls_if) ?_
  refine aK_c (ex lin_ii cls_ii) ?_
  refine aK_c (ex lin_ri cls_ri) ?_
  refine aK_c (ex lin_ii cls_ii) ?_
  refine aK_c (ex lin_is cls_is) ?_
  refine aK_c (ex lin_ii cls_ii) ?_
  refine aK_c (ex lin_is cls_is) ?_
  refine aK_c (ex lin_ii cls_ii) ?_
  refine aK_c (ex lin_is cls_is) ?_
  refine aK_c (ex (lin_mk lin_il) (cls_mk cls_il)) ?_
  refine aK_c (ex lin_ii cls_ii) ?_
  refine aK_c (ex lin_ic cls_ic) ?_
  refine aK_c (ex lin_al cls_al) ?_
  refine aK_c (ex lin_cV (cls_cV zX4_think)) ?_
  refine aK_c (ex lin_il cls_il) ?_
  refine aK_c (ex lin_ii cls_ii) ?_
  refine aK_c (ex lin_ic cls_ic) ?_
  refine aK_c (ex lin_al cls_al) ?_
  refine aK_c (ex lin_gF (cls_gF 1 rfl (Nat.le_of_ble_eq_true rfl))) ?_
  refine aK_c (ex lin_gF (cls_gF 3 rfl (Nat.le_of_ble_eq_true rfl))) ?_
  refine aK_c (ex lin_il cls_il) ?_
  refine aK_c (ex lin_il cls_il) ?_
  refine aK_c (ex lin_iast cls_iast) ?_
  refine aK_c (ex lin_go cls_go) ?_
  refine aK_c (ex lin_al cls_al) ?_
  refine aK_c (ex lin_gF (cls_gF 1 rfl (Nat.le_of_ble_eq_true rfl))) ?_
  refine aK_c (ex lin_gF (cls_gF 4 rfl (Nat.le_of_ble_eq_true rfl))) ?_
  refine aK_c (ex lin_il cls_il) ?_
  refine aK_c (ex lin_il cls_il) ?_
  refine aK_c (ex lin_iast cls_iast) ?_
  refine aK_c (ex lin_al cls_al) ?_
  refine aK_c (ex lin_il cls_il) ?_
  refine aK_c (ex lin_cV (cls_cV zX4_firstOther)) ?_
  refine aK_c (ex lin_ii cls_ii) ?_
  refine aK_c (ex lin_ic cls_ic) ?_
  refine aK_c (ex lin_inc cls_inc) ?_
  refine aK_c (ex lin_il cls_il) ?_
  refine aK_c (ex lin_ii cls_ii) ?_
  refine aK_c (ex lin_ic cls_ic) ?_
  refine aK_c (ex lin_il cls_il) ?_
  refine aK_c (ex lin_go cls_go) ?_
  refine aK_c (ex lin_il cls_il) ?_
  refine aK_c (ex lin_is cls_is) ?_
  refine aK_c (ex lin_inc cls_inc) ?_
  refine aK_c (ex lin_go cls_go) ?_
  refine aK_c (ex lin_il cls_il) ?_
  refine aK_c (ex lin_if cls_if) ?_
  refine aK_c (ex lin_il cls_il) ?_
  refine aK_c (ex lin_go cls_go) ?_
  refine aK_c (ex lin_il cls_il) ?_
  refine aK_c (ex lin_ri cls_ri) ?_
  exact aK_n
theorem zX4_states : aCC CX4_states := aCC.of kX4_states
theorem kX4_dropped : aKl tX4_dropped := by
  unfold tX4_dropped
  refine aK_c (ex lin_al cls_al) ?_
  refine aK_c (ex lin_il cls_il) ?_
  refine aK_c (ex lin_cV (cls_cV zX4_refusalOfTold)) ?_
  refine aK_c (ex lin_is cls_is) ?_
  refine aK_c (ex lin_il cls_il) ?_
  refine aK_c (ex lin_if cls_if) ?_
  refine aK_c (ex lin_il cls_il) ?_
  refine aK_c (ex lin_ri cls_ri) ?_
  refine aK_c (ex lin_ii cls_ii) ?_
  refine aK_c (ex lin_is cls_is) ?_
  refine aK_c (ex lin_ii cls_ii) ?_
  refine aK_c (ex lin_is cls_is) ?_
  refine aK_c (ex (lin_mk lin_il) (cls_mk cls_il)) ?_
  refine aK_c (ex lin_ii cls_ii) ?_
  refine aK_c (ex lin_ic cls_ic) ?_
  refine aK_c (ex lin_al cls_al) ?_
  refine aK_c (ex lin_gF (cls_gF 0 rfl (Nat.le_of_ble_eq_true rfl))) ?_
  refine aK_c (ex lin_il cls_il) ?_
  refine aK_c (ex lin_cV (cls_cV zX0_hasCase)) ?_
  refine aK_c (ex lin_if cls_if) ?_
  refine aK_c (ex lin_al cls_al) ?_
  refine aK_c (ex lin_cV (cls_cV zX4_think)) ?_
  refine aK_c (ex lin_al cls_al) ?_
  refine aK_c (ex lin_gF (cls_gF 1 rfl (Nat.le_of_ble_eq_true rfl))) ?_
  refine aK_c (ex lin_dup cls_dup) ?_
  refine aK_c (ex lin_gI cls_gI) ?_
  refine aK_c (ex lin_ii cls_ii) ?_
  refine aK_c (ex lin_il cls_il) ?_
  refine aK_c (ex lin_bi cls_bi) ?_
  refine aK_c (ex lin_ii cls_ii) ?_
  refine aK_c (ex lin_bi cls_bi) ?_
  refine aK_c (ex lin_bi cls_bi) ?_
  refine aK_c (ex lin_pI cls_pI) ?_
  refine aK_c (ex lin_al cls_al) ?_
  refine aK_c (ex lin_il cls_il) ?_
  refine aK_c (ex lin_cV (cls_cV zX4_firstOther)) ?_
  refine aK_c (ex lin_ii cls_ii) ?_
  refine aK_c (ex lin_ic cls_ic) ?_
  refine aK_c (ex lin_il cls_il) ?_
  refine aK_c (ex lin_ii cls_ii) ?_
  refine aK_c (ex lin_il cls_il) ?_
  refine aK_c (ex lin_bi cls_bi) ?_
  refine aK_c (ex lin_bi cls_bi) ?_
  refine aK_c (ex lin_is cls_is) ?_
  refine aK_c (ex lin_inc cls_inc) ?_
  refine aK_c (ex lin_go cls_go) ?_
  refine aK_c (ex lin_il cls_il) ?_
  refine aK_c (ex lin_ri cls_ri) ?_
  exact aK_n
theorem zX4_dropped : aCC CX4_dropped := aCC.of kX4_dropped
theorem kX4_laws : aKl tX4_laws := by
  unfold tX4_laws
  refine aK_c (ex lin_al cls_al) ?_
  refine aK_c (ex lin_il cls_il) ?_
  refine aK_c (ex lin_cV (cls_cV zX4_refusalOfTold)) ?_
  refine aK_c (ex lin_is cls_is) ?_
  refine aK_c (ex lin_il cls_il) ?_
  refine aK_c (ex lin_if cls_if) ?_
  refine aK_c (ex lin_il cls_il) ?_
  refine aK_c (ex lin_ri cls_ri) ?_
  refine aK_c (ex lin_ii cls_ii) ?_
  refine aK_c (ex lin_is cls_is) ?_
  refine aK_c (ex lin_ii cls_ii) ?_
  refine aK_c (ex lin_is cls_is) ?_
  refine aK_c (ex (lin_mk lin_il) (cls_mk cls_il)) ?_
  refine aK_c (ex lin_al cls_al) ?_
  refine aK_c (ex lin_gI cls_gI) ?_
  refine aK_c (ex lin_ic cls_ic) ?_
  refine aK_c (ex lin_al cls_al) ?_
  refine aK_c (ex lin_cV (cls_cV zX4_think)) ?_
  refine aK_c (ex lin_al cls_al) ?_
  refine aK_c (ex lin_gF (cls_gF 1 rfl (Nat.le_of_ble_eq_true rfl))) ?_
  refine aK_c (ex lin_al cls_al) ?_
  refine aK_c (ex lin_gF (cls_gF 4 rfl (Nat.le_of_ble_eq_true rfl))) ?_
  refine aK_c (ex lin_il cls_il) ?_
  refine aK_c (ex lin_aald cls_aald) ?_
  refine aK_c (ex lin_il cls_il) ?_
  refine aK_c (ex lin_cV (cls_cV zX0_obey)) ?_
  refine aK_c (ex lin_al cls_al) ?_
  refine aK_c (ex lin_il cls_il) ?_
  refine aK_c (ex lin_cV (cls_cV zX4_firstOther)) ?_
  refine aK_c (ex lin_ii cls_ii) ?_
  refine aK_c (ex lin_ic cls_ic) ?_
  refine aK_c (ex lin_il cls_il) ?_
  refine aK_c (ex lin_ii cls_ii) ?_
  refine aK_c (ex lin_il cls_il) ?_
  refine aK_c (ex lin_bi cls_bi) ?_
  refine aK_c (ex lin_bi cls_bi) ?_
  refine aK_c (ex lin_is cls_is) ?_
  refine aK_c (ex lin_inc cls_inc) ?_
  refine aK_c (ex lin_go cls_go) ?_
  refine aK_c (ex lin_il cls_il) ?_
  refine aK_c (ex lin_ri cls_ri) ?_
  exact aK_n
theorem zX4_laws : aCC CX4_laws := aCC.of kX4_laws
theorem kX2_renew : aKl tX2_renew := by
  unfold tX2_renew
  refine aK_c (ex lin_al cls_al) ?_
  refine aK_c (ex lin_il cls_il) ?_
  refine aK_c (ex lin_pI cls_pI) ?_
  refine aK_c (ex lin_al cls_al) ?_
  refine aK_c (ex lin_ii cls_ii) ?_
  refine aK_c (ex lin_ii cls_ii) ?_
  refine aK_c (ex lin_il cls_il) ?_
  refine aK_c (ex lin_min cls_min) ?_
  refine aK_c (ex lin_max cls_max) ?_
  refine aK_c (ex lin_pI cls_pI) ?_
  refine aK_c (ex lin_ii cls_ii) ?_
  refine aK_c (ex lin_is cls_is) ?_
  refine aK_c (ex (lin_mk lin_il) (cls_mk cls_il)) ?_
  refine aK_c (ex lin_ii cls_ii) ?_
  refine aK_c (ex lin_ic cls_ic) ?_
  refine aK_c (ex lin_al cls_al) ?_
  refine aK_c (ex lin_gF (cls_gF 0 rfl (Nat.le_of_ble_eq_true rfl))) ?_
  refine aK_c (ex lin_il cls_il) ?_
  refine aK_c (ex lin_ii cls_ii) ?_
  refine aK_c (ex lin_iast cls_iast) ?_
  refine aK_c (ex lin_inc cls_inc) ?_
  refine aK_c (ex lin_go cls_go) ?_
  refine aK_c (ex lin_rv cls_rv) ?_
  exact aK_n
theorem zX2_renew : aCC CX2_renew := aCC.of kX2_renew
theorem kX4_film : aKl tX4_film := by
  unfold tX4_film
  refine aK_c (ex lin_il cls_il) ?_
  refine aK_c (ex lin_ii cls_ii) ?_
  refine aK_c (ex lin_ii cls_ii) ?_
  refine aK_c (ex lin_cS (cls_cS zX4_within)) ?_
  refine aK_c (ex lin_if cls_if) ?_
  refine aK_c (ex lin_ii cls_ii) ?_
  refine aK_c (ex lin_ri cls_ri) ?_
  refine aK_c (ex lin_il cls_il) ?_
  refine aK_c (ex lin_ii cls_ii) ?_
  refine aK_c (ex lin_ii cls_ii) ?_
  refine aK_c (ex lin_cS (cls_cS zX4_within)) ?_
  refine aK_c (ex lin_if cls_if) ?_
  refine aK_c (ex lin_ii cls_ii) ?_
  refine aK_c (ex lin_ri cls_ri) ?_
  refine aK_c (ex lin_al cls_al) ?_
  refine aK_c (ex lin_cV (cls_cV zX4_think)) ?_
  refine aK_c (ex lin_al cls_al) ?_
  refine aK_c (ex lin_gF (cls_gF 7 rfl (Nat.le_of_ble_eq_true rfl))) ?_
  refine aK_c (ex lin_il cls_il) ?_
  refine aK_c (ex lin_aald cls_aald) ?_
  refine aK_c (ex lin_ii cls_ii) ?_
  refine aK_c (ex lin_il cls_il) ?_
  refine aK_c (ex lin_cV (cls_cV zX2_renew)) ?_
  refine aK_c (ex lin_ii cls_ii) ?_
  refine aK_c (ex lin_is cls_is) ?_
  refine aK_c (ex lin_il cls_il) ?_
  refine aK_c (ex lin_il cls_il) ?_
  refine aK_c (ex lin_ic cls_ic) ?_
  refine aK_c (ex lin_al cls_al) ?_
  refine aK_c (ex lin_gF (cls_gF 7 rfl (Nat.le_of_ble_eq_true rfl))) ?_
  refine aK_c (ex lin_il cls_il) ?_
  refine aK_c (ex lin_aald cls_aald) ?_
  refine aK_c (ex lin_gF (cls_gF 0 rfl (Nat.le_of_ble_eq_true rfl))) ?_
  refine aK_c (ex lin_il cls_il) ?_
  refine aK_c (ex lin_al cls_al) ?_
  refine aK_c (ex lin_gF (cls_gF 1 rfl (Nat.le_of_ble_eq_true rfl))) ?_
  refine aK_c (ex lin_cV (cls_cV zX0_passDay)) ?_
  refine aK_c (ex lin_cS (cls_cS zJ6_bitCount_0f7a4)) ?_
  refine aK_c (ex lin_iast cls_iast) ?_
  refine aK_c (ex lin_inc cls_inc) ?_
  refine aK_c (ex lin_go cls_go) ?_
  refine aK_c (ex lin_il cls_il) ?_
  refine aK_c (ex lin_ri cls_ri) ?_
  exact aK_n
theorem zX4_film : aCC CX4_film := aCC.of kX4_film
theorem kX4_nextLot : aKl tX4_nextLot := by
  unfold tX4_nextLot
  refine aK_c (ex lin_ll cls_ll) ?_
  refine aK_c (ex lin_lc cls_lc) ?_
  refine aK_c (ex lin_bl cls_bl) ?_
  refine aK_c (ex lin_lc cls_lc) ?_
  refine aK_c (ex lin_lrm cls_lrm) ?_
  refine aK_c (ex lin_rl cls_rl) ?_
  exact aK_n
theorem zX4_nextLot : aCC CX4_nextLot := aCC.of kX4_nextLot
theorem kX4_heardAmongBurglars : aKl tX4_heardAmongBurglars := by
  unfold tX4_heardAmongBurglars
  refine aK_c (ex lin_al cls_al) ?_
  refine aK_c (ex lin_cV (cls_cV zX4_think)) ?_
  refine aK_c (ex lin_ii cls_ii) ?_
  refine aK_c (ex lin_is cls_is) ?_
  refine aK_c (ex lin_il cls_il) ?_
  refine aK_c (ex lin_tl cls_tl) ?_
  refine aK_c (ex lin_lc cls_lc) ?_
  refine aK_c (ex lin_bl cls_bl) ?_
  refine aK_c (ex lin_ls cls_ls) ?_
  refine aK_c (ex lin_ii cls_ii) ?_
  refine aK_c (ex lin_is cls_is) ?_
  refine aK_c (ex (lin_mk lin_il) (cls_mk cls_il)) ?_
  refine aK_c (ex lin_ii cls_ii) ?_
  refine aK_c (ex lin_ic cls_ic) ?_
  refine aK_c (ex lin_ll cls_ll) ?_
  refine aK_c (ex lin_cS (cls_cS zX4_nextLot)) ?_
  refine aK_c (ex lin_ls cls_ls) ?_
  refine aK_c (ex lin_ll cls_ll) ?_
  refine aK_c (ex lin_lc cls_lc) ?_
  refine aK_c (ex lin_lrm cls_lrm) ?_
  refine aK_c (ex lin_ti cls_ti) ?_
  refine aK_c (ex lin_is cls_is) ?_
  refine aK_c (ex lin_ll cls_ll) ?_
  refine aK_c (ex lin_cS (cls_cS zX4_nextLot)) ?_
  refine aK_c (ex lin_ls cls_ls) ?_
  refine aK_c (ex lin_ll cls_ll) ?_
  refine aK_c (ex lin_lc cls_lc) ?_
  refine aK_c (ex lin_lrm cls_lrm) ?_
  refine aK_c (ex lin_ti cls_ti) ?_
  refine aK_c (ex lin_is cls_is) ?_
  refine aK_c (ex lin_al cls_al) ?_
  refine aK_c (ex lin_gF (cls_gF 1 rfl (Nat.le_of_ble_eq_true rfl))) ?_
  refine aK_c (ex lin_il cls_il) ?_
  refine aK_c (ex lin_cV (cls_cV zX0_hasJudge)) ?_
  refine aK_c (ex lin_if cls_if) ?_
  refine aK_c (ex lin_al cls_al) ?_
  refine aK_c (ex lin_gF (cls_gF 1 rfl (Nat.le_of_ble_eq_true rfl))) ?_
  refine aK_c (ex lin_gF (cls_gF 2 rfl (Nat.le_of_ble_eq_true rfl))) ?_
  refine aK_c (ex lin_il cls_il) ?_
  refine aK_c (ex lin_dup2 cls_dup2) ?_
  refine aK_c (ex lin_iald cls_iald) ?_
  refine aK_c (ex lin_ii cls_ii) ?_
  refine aK_c (ex lin_il cls_il) ?_
  refine aK_c (ex lin_bi cls_bi) ?_
  refine aK_c (ex lin_bi cls_bi) ?_
  refine aK_c (ex lin_iast cls_iast) ?_
  refine aK_c (ex lin_il cls_il) ?_
  refine aK_c (ex lin_al cls_al) ?_
  refine aK_c (ex lin_gF (cls_gF 1 rfl (Nat.le_of_ble_eq_true rfl))) ?_
  refine aK_c (ex lin_cV (cls_cV zX0_passDay)) ?_
  refine aK_c (ex lin_cS (cls_cS zJ6_bitCount_0f7a4)) ?_
  refine aK_c (ex lin_bi cls_bi) ?_
  refine aK_c (ex lin_is cls_is) ?_
  refine aK_c (ex lin_inc cls_inc) ?_
  refine aK_c (ex lin_go cls_go) ?_
  refine aK_c (ex lin_il cls_il) ?_
  refine aK_c (ex lin_ri cls_ri) ?_
  exact aK_n
theorem zX4_heardAmongBurglars : aCC CX4_heardAmongBurglars := aCC.of kX4_heardAmongBurglars
theorem kX4_drawn : aKl tX4_drawn := by
  unfold tX4_drawn
  refine aK_c (ex lin_il cls_il) ?_
  refine aK_c (ex lin_ii cls_ii) ?_
  refine aK_c (ex lin_ii cls_ii) ?_
  refine aK_c (ex lin_cS (cls_cS zX4_within)) ?_
  refine aK_c (ex lin_if cls_if) ?_
  refine aK_c (ex lin_il cls_il) ?_
  refine aK_c (ex lin_ii cls_ii) ?_
  refine aK_c (ex lin_ii cls_ii) ?_
  refine aK_c (ex lin_cS (cls_cS zX4_within)) ?_
  refine aK_c (ex lin_if cls_if) ?_
  refine aK_c (ex lin_ii cls_ii) ?_
  refine aK_c (ex lin_ri cls_ri) ?_
  refine aK_c (ex lin_al cls_al) ?_
  refine aK_c (ex lin_il cls_il) ?_
  refine aK_c (ex lin_cV (cls_cV zX4_heardAmongBurglars)) ?_
  refine aK_c (ex lin_is cls_is) ?_
  refine aK_c (ex lin_il cls_il) ?_
  refine aK_c (ex lin_if cls_if) ?_
  refine aK_c (ex lin_il cls_il) ?_
  refine aK_c (ex lin_go cls_go) ?_
  refine aK_c (ex lin_al cls_al) ?_
  refine aK_c (ex lin_gF (cls_gF 1 rfl (Nat.le_of_ble_eq_true rfl))) ?_
  refine aK_c (ex lin_gI cls_gI) ?_
  refine aK_c (ex lin_ri cls_ri) ?_
  exact aK_n
theorem zX4_drawn : aCC CX4_drawn := aCC.of kX4_drawn
theorem kX4_odds : aKl tX4_odds := by
  unfold tX4_odds
  refine aK_c (ex lin_il cls_il) ?_
  refine aK_c (ex lin_ii cls_ii) ?_
  refine aK_c (ex lin_ii cls_ii) ?_
  refine aK_c (ex lin_cS (cls_cS zX4_within)) ?_
  refine aK_c (ex lin_if cls_if) ?_
  refine aK_c (ex lin_il cls_il) ?_
  refine aK_c (ex lin_ii cls_ii) ?_
  refine aK_c (ex lin_ii cls_ii) ?_
  refine aK_c (ex lin_cS (cls_cS zX4_within)) ?_
  refine aK_c (ex lin_if cls_if) ?_
  refine aK_c (ex lin_lc cls_lc) ?_
  refine aK_c (ex lin_rl cls_rl) ?_
  refine aK_c (ex lin_il cls_il) ?_
  refine aK_c (ex lin_ii cls_ii) ?_
  refine aK_c (ex lin_ii cls_ii) ?_
  refine aK_c (ex lin_cS (cls_cS zX4_within)) ?_
  refine aK_c (ex lin_if cls_if) ?_
  refine aK_c (ex lin_il cls_il) ?_
  refine aK_c (ex lin_ii cls_ii) ?_
  refine aK_c (ex lin_ii cls_ii) ?_
  refine aK_c (ex lin_cS (cls_cS zX4_within)) ?_
  refine aK_c (ex lin_if cls_if) ?_
  refine aK_c (ex lin_lc cls_lc) ?_
  refine aK_c (ex lin_rl cls_rl) ?_
  refine aK_c (ex lin_ii cls_ii) ?_
  refine aK_c (ex lin_is cls_is) ?_
  refine aK_c (ex lin_ii cls_ii) ?_
  refine aK_c (ex lin_is cls_is) ?_
  refine aK_c (ex lin_il cls_il) ?_
  refine aK_c (ex lin_il cls_il) ?_
  refine aK_c (ex lin_ic cls_ic) ?_
  refine aK_c (ex lin_al cls_al) ?_
  refine aK_c (ex lin_il cls_il) ?_
  refine aK_c (ex lin_il cls_il) ?_
  refine aK_c (ex lin_bi cls_bi) ?_
  refine aK_c (ex lin_cV (cls_cV zX4_heardAmongBurglars)) ?_
  refine aK_c (ex lin_il cls_il) ?_
  refine aK_c (ex lin_ic cls_ic) ?_
  refine aK_c (ex lin_inc cls_inc) ?_
  refine aK_c (ex lin_inc cls_inc) ?_
  refine aK_c (ex lin_go cls_go) ?_
  refine aK_c (ex lin_il cls_il) ?_
  refine aK_c (ex lin_il cls_il) ?_
  refine aK_c (ex lin_il cls_il) ?_
  refine aK_c (ex lin_cS (cls_cS zX4_partOfFraction)) ?_
  refine aK_c (ex lin_rl cls_rl) ?_
  exact aK_n
theorem zX4_odds : aCC CX4_odds := aCC.of kX4_odds
theorem kX4_image : aKl tX4_image := by
  unfold tX4_image
  refine aK_c (ex lin_al cls_al) ?_
  refine aK_c (ex lin_gF (cls_gF 2 rfl (Nat.le_of_ble_eq_true rfl))) ?_
  refine aK_c (ex lin_al cls_al) ?_
  refine aK_c (ex lin_gF (cls_gF 0 rfl (Nat.le_of_ble_eq_true rfl))) ?_
  refine aK_c (ex lin_cV (cls_cV zX0_become)) ?_
  refine aK_c (ex lin_al cls_al) ?_
  refine aK_c (ex lin_ii cls_ii) ?_
  refine aK_c (ex lin_pZ cls_pZ) ?_
  refine aK_c (ex lin_al cls_al) ?_
  refine aK_c (ex lin_gF (cls_gF 0 rfl (Nat.le_of_ble_eq_true rfl))) ?_
  refine aK_c (ex lin_gI cls_gI) ?_
  refine aK_c (ex lin_ri cls_ri) ?_
  exact aK_n
theorem zX4_image : aCC CX4_image := aCC.of kX4_image
theorem kX4_back : aKl tX4_back := by
  unfold tX4_back
  refine aK_c (ex lin_al cls_al) ?_
  refine aK_c (ex lin_gI cls_gI) ?_
  refine aK_c (ex lin_if cls_if) ?_
  refine aK_c (ex lin_ii cls_ii) ?_
  refine aK_c (ex lin_ri cls_ri) ?_
  refine aK_c (ex lin_al cls_al) ?_
  refine aK_c (ex lin_gF (cls_gF 0 rfl (Nat.le_of_ble_eq_true rfl))) ?_
  refine aK_c (ex lin_al cls_al) ?_
  refine aK_c (ex lin_gF (cls_gF 2 rfl (Nat.le_of_ble_eq_true rfl))) ?_
  refine aK_c (ex lin_cV (cls_cV zX0_become)) ?_
  refine aK_c (ex lin_al cls_al) ?_
  refine aK_c (ex lin_gF (cls_gF 0 rfl (Nat.le_of_ble_eq_true rfl))) ?_
  refine aK_c (ex lin_gI cls_gI) ?_
  refine aK_c (ex lin_ri cls_ri) ?_
  exact aK_n
theorem zX4_back : aCC CX4_back := aCC.of kX4_back
theorem kX4_sheet : aKl tX4_sheet := by
  unfold tX4_sheet
  refine aK_c (ex lin_il cls_il) ?_
  refine aK_c (ex lin_ii cls_ii) ?_
  refine aK_c (ex lin_ii cls_ii) ?_
  refine aK_c (ex lin_cS (cls_cS zX4_within)) ?_
  refine aK_c (ex lin_if cls_if) ?_
  refine aK_c (ex lin_il cls_il) ?_
  refine aK_c (ex lin_ii cls_ii) ?_
  refine aK_c (ex lin_ii cls_ii) ?_
  refine aK_c (ex lin_cS (cls_cS zX4_within)) ?_
  refine aK_c (ex lin_if cls_if) ?_
  refine aK_c (ex lin_ii cls_ii) ?_
  refine aK_c (ex lin_ri cls_ri) ?_
  refine aK_c (ex lin_il cls_il) ?_
  refine aK_c (ex lin_ii cls_ii) ?_
  refine aK_c (ex lin_ic cls_ic) ?_
  refine aK_c (ex lin_al cls_al) ?_
  refine aK_c (ex lin_gF (cls_gF 7 rfl (Nat.le_of_ble_eq_true rfl))) ?_
  refine aK_c (ex lin_il cls_il) ?_
  refine aK_c (ex lin_aald cls_aald) ?_
  refine aK_c (ex lin_il cls_il) ?_
  refine aK_c (ex lin_ii cls_ii) ?_
  refine aK_c (ex lin_cV (cls_cV zX2_renew)) ?_
  refine aK_c (ex lin_ii cls_ii) ?_
  refine aK_c (ex lin_ri cls_ri) ?_
  refine aK_c (ex lin_il cls_il) ?_
  refine aK_c (ex lin_ii cls_ii) ?_
  refine aK_c (ex lin_ic cls_ic) ?_
  refine aK_c (ex lin_ii cls_ii) ?_
  refine aK_c (ex lin_ri cls_ri) ?_
  refine aK_c (ex lin_il cls_il) ?_
  refine aK_c (ex lin_if cls_if) ?_
  refine aK_c (ex lin_ii cls_ii) ?_
  refine aK_c (ex lin_ri cls_ri) ?_
  refine aK_c (ex lin_al cls_al) ?_
  refine aK_c (ex lin_gF (cls_gF 7 rfl (Nat.le_of_ble_eq_true rfl))) ?_
  refine aK_c (ex lin_il cls_il) ?_
  refine aK_c (ex lin_aald cls_aald) ?_
  refine aK_c (ex lin_il cls_il) ?_
  refine aK_c (ex lin_il cls_il) ?_
  refine aK_c (ex lin_cV (cls_cV zX2_renew)) ?_
  refine aK_c (ex lin_ii cls_ii) ?_
  refine aK_c (ex lin_ri cls_ri) ?_
  exact aK_n
theorem zX4_sheet : aCC CX4_sheet := aCC.of kX4_sheet
theorem kX2_cut : aKl tX2_cut := by
  unfold tX2_cut
  refine aK_c (ex lin_al cls_al) ?_
  refine aK_c (ex lin_gI cls_gI) ?_
  refine aK_c (ex lin_if cls_if) ?_
  refine aK_c (ex lin_il cls_il) ?_
  refine aK_c (ex lin_ui cls_ui) ?_
  refine aK_c (ex lin_go cls_go) ?_
  refine aK_c (ex lin_al cls_al) ?_
  refine aK_c (ex lin_gI cls_gI) ?_
  refine aK_c (ex lin_ii cls_ii) ?_
  refine aK_c (ex lin_ic cls_ic) ?_
  refine aK_c (ex lin_il cls_il) ?_
  refine aK_c (ex lin_ui cls_ui) ?_
  refine aK_c (ex lin_go cls_go) ?_
  refine aK_c (ex lin_il cls_il) ?_
  refine aK_c (ex lin_ri cls_ri) ?_
  exact aK_n
theorem zX2_cut : aCC CX2_cut := aCC.of kX2_cut
theorem kX4_cell : aKl tX4_cell := by
  unfold tX4_cell
  refine aK_c (ex lin_il cls_il) ?_
  refine aK_c (ex lin_ii cls_ii) ?_
  refine aK_c (ex lin_ii cls_ii) ?_
  refine aK_c (ex lin_cS (cls_cS zX4_within)) ?_
  refine aK_c (ex lin_if cls_if) ?_
  refine aK_c (ex lin_ii cls_ii) ?_
  refine aK_c (ex lin_ri cls_ri) ?_
  refine aK_c (ex lin_al cls_al) ?_
  refine aK_c (ex lin_gF (cls_gF 7 rfl (Nat.le_of_ble_eq_true rfl))) ?_
  refine aK_c (ex lin_il cls_il) ?_
  refine aK_c (ex lin_aald cls_aald) ?_
  refine aK_c (ex lin_as cls_as) ?_
  refine aK_c (ex lin_al cls_al) ?_
  refine aK_c (ex lin_cV (cls_cV zX2_isMissing)) ?_
  refine aK_c (ex lin_if cls_if) ?_
  refine aK_c (ex lin_ii cls_ii) ?_
  refine aK_c (ex lin_ri cls_ri) ?_
  refine aK_c (ex lin_il cls_il) ?_
  refine aK_c (ex lin_ii cls_ii) ?_
  refine aK_c (ex lin_al cls_al) ?_
  refine aK_c (ex lin_gI cls_gI) ?_
  refine aK_c (ex lin_ii cls_ii) ?_
  refine aK_c (ex lin_bi cls_bi) ?_
  refine aK_c (ex lin_cS (cls_cS zX4_within)) ?_
  refine aK_c (ex lin_if cls_if) ?_
  refine aK_c (ex lin_ii cls_ii) ?_
  refine aK_c (ex lin_ri cls_ri) ?_
  refine aK_c (ex lin_al cls_al) ?_
  refine aK_c (ex lin_gF (cls_gF 0 rfl (Nat.le_of_ble_eq_true rfl))) ?_
  refine aK_c (ex lin_il cls_il) ?_
  refine aK_c (ex lin_al cls_al) ?_
  refine aK_c (ex lin_il cls_il) ?_
  refine aK_c (ex lin_cV (cls_cV zX2_cut)) ?_
  refine aK_c (ex lin_iast cls_iast) ?_
  refine aK_c (ex lin_ii cls_ii) ?_
  refine aK_c (ex lin_ri cls_ri) ?_
  exact aK_n
theorem zX4_cell : aCC CX4_cell := aCC.of kX4_cell
theorem kX2_holds : aKl tX2_holds := by
  unfold tX2_holds
  refine aK_c (ex lin_il cls_il) ?_
  refine aK_c (ex lin_if cls_if) ?_
  refine aK_c (ex lin_il cls_il) ?_
  refine aK_c (ex lin_if cls_if) ?_
  refine aK_c (ex lin_il cls_il) ?_
  refine aK_c (ex lin_al cls_al) ?_
  refine aK_c (ex lin_gI cls_gI) ?_
  refine aK_c (ex lin_ic cls_ic) ?_
  refine aK_c (ex lin_il cls_il) ?_
  refine aK_c (ex lin_al cls_al) ?_
  refine aK_c (ex lin_gI cls_gI) ?_
  refine aK_c (ex lin_il cls_il) ?_
  refine aK_c (ex lin_bi cls_bi) ?_
  refine aK_c (ex lin_ic cls_ic) ?_
  refine aK_c (ex lin_ii cls_ii) ?_
  refine aK_c (ex lin_go cls_go) ?_
  refine aK_c (ex lin_ii cls_ii) ?_
  refine aK_c (ex lin_rz cls_rz) ?_
  exact aK_n
theorem zX2_holds : aCC CX2_holds := aCC.of kX2_holds
theorem kX4_copy : aKl tX4_copy := by
  unfold tX4_copy
  refine aK_c (ex lin_il cls_il) ?_
  refine aK_c (ex lin_ii cls_ii) ?_
  refine aK_c (ex lin_ii cls_ii) ?_
  refine aK_c (ex lin_cS (cls_cS zX4_within)) ?_
  refine aK_c (ex lin_if cls_if) ?_
  refine aK_c (ex lin_il cls_il) ?_
  refine aK_c (ex lin_ii cls_ii) ?_
  refine aK_c (ex lin_ii cls_ii) ?_
  refine aK_c (ex lin_cS (cls_cS zX4_within)) ?_
  refine aK_c (ex lin_if cls_if) ?_
  refine aK_c (ex lin_ii cls_ii) ?_
  refine aK_c (ex lin_ri cls_ri) ?_
  refine aK_c (ex lin_al cls_al) ?_
  refine aK_c (ex lin_gF (cls_gF 7 rfl (Nat.le_of_ble_eq_true rfl))) ?_
  refine aK_c (ex lin_il cls_il) ?_
  refine aK_c (ex lin_aald cls_aald) ?_
  refine aK_c (ex lin_as cls_as) ?_
  refine aK_c (ex lin_al cls_al) ?_
  refine aK_c (ex lin_gF (cls_gF 7 rfl (Nat.le_of_ble_eq_true rfl))) ?_
  refine aK_c (ex lin_il cls_il) ?_
  refine aK_c (ex lin_aald cls_aald) ?_
  refine aK_c (ex lin_as cls_as) ?_
  refine aK_c (ex lin_al cls_al) ?_
  refine aK_c (ex lin_cV (cls_cV zX2_isMissing)) ?_
  refine aK_c (ex lin_if cls_if) ?_
  refine aK_c (ex lin_al cls_al) ?_
  refine aK_c (ex lin_cV (cls_cV zX2_isMissing)) ?_
  refine aK_c (ex lin_if cls_if) ?_
  refine aK_c (ex lin_ii cls_ii) ?_
  refine aK_c (ex lin_ri cls_ri) ?_
  refine aK_c (ex lin_al cls_al) ?_
  refine aK_c (ex lin_gI cls_gI) ?_
  refine aK_c (ex lin_al cls_al) ?_
  refine aK_c (ex lin_gI cls_gI) ?_
  refine aK_c (ex lin_ic cls_ic) ?_
  refine aK_c (ex lin_ii cls_ii) ?_
  refine aK_c (ex lin_ri cls_ri) ?_
  refine aK_c (ex lin_al cls_al) ?_
  refine aK_c (ex lin_il cls_il) ?_
  refine aK_c (ex lin_il cls_il) ?_
  refine aK_c (ex lin_cV (cls_cV zX2_holds)) ?_
  refine aK_c (ex lin_if cls_if) ?_
  refine aK_c (ex lin_al cls_al) ?_
  refine aK_c (ex lin_il cls_il) ?_
  refine aK_c (ex lin_il cls_il) ?_
  refine aK_c (ex lin_cV (cls_cV zX2_holds)) ?_
  refine aK_c (ex lin_if cls_if) ?_
  refine aK_c (ex lin_ii cls_ii) ?_
  refine aK_c (ex lin_ri cls_ri) ?_
  refine aK_c (ex lin_al cls_al) ?_
  refine aK_c (ex lin_gF (cls_gF 0 rfl (Nat.le_of_ble_eq_true rfl))) ?_
  refine aK_c (ex lin_il cls_il) ?_
  refine aK_c (ex lin_al cls_al) ?_
  refine aK_c (ex lin_gF (cls_gF 0 rfl (Nat.le_of_ble_eq_true rfl))) ?_
  refine aK_c (ex lin_il cls_il) ?_
  refine aK_c (ex lin_il cls_il) ?_
  refine aK_c (ex lin_cpy cls_cpy) ?_
  refine aK_c (ex lin_il cls_il) ?_
  refine aK_c (ex lin_ri cls_ri) ?_
  exact aK_n
theorem zX4_copy : aCC CX4_copy := aCC.of kX4_copy
theorem kX4_judgesBy : aKl tX4_judgesBy := by
  unfold tX4_judgesBy
  refine aK_c (ex lin_il cls_il) ?_
  refine aK_c (ex lin_ii cls_ii) ?_
  refine aK_c (ex lin_ii cls_ii) ?_
  refine aK_c (ex lin_cS (cls_cS zX4_within)) ?_
  refine aK_c (ex lin_if cls_if) ?_
  refine aK_c (ex lin_il cls_il) ?_
  refine aK_c (ex lin_ii cls_ii) ?_
  refine aK_c (ex lin_ii cls_ii) ?_
  refine aK_c (ex lin_cS (cls_cS zX4_within)) ?_
  refine aK_c (ex lin_if cls_if) ?_
  refine aK_c (ex lin_il cls_il) ?_
  refine aK_c (ex lin_ii cls_ii) ?_
  refine aK_c (ex lin_ii cls_ii) ?_
  refine aK_c (ex lin_cS (cls_cS zX4_within)) ?_
  refine aK_c (ex lin_if cls_if) ?_
  refine aK_c (ex lin_ii cls_ii) ?_
  refine aK_c (ex lin_ri cls_ri) ?_
  refine aK_c (ex lin_al cls_al) ?_
  refine aK_c (ex lin_gF (cls_gF 7 rfl (Nat.le_of_ble_eq_true rfl))) ?_
  refine aK_c (ex lin_il cls_il) ?_
  refine aK_c (ex lin_aald cls_aald) ?_
  refine aK_c (ex lin_as cls_as) ?_
  refine aK_c (ex lin_al cls_al) ?_
  refine aK_c (ex lin_cV (cls_cV zX2_isMissing)) ?_
  refine aK_c (ex lin_if cls_if) ?_
  refine aK_c (ex lin_ii cls_ii) ?_
  refine aK_c (ex lin_ri cls_ri) ?_
  refine aK_c (ex lin_al cls_al) ?_
  refine aK_c (ex lin_gI cls_gI) ?_
  refine aK_c (ex lin_il cls_il) ?_
  refine aK_c (ex lin_ic cls_ic) ?_
  refine aK_c (ex lin_ii cls_ii) ?_
  refine aK_c (ex lin_ri cls_ri) ?_
  refine aK_c (ex lin_ii cls_ii) ?_
  refine aK_c (ex lin_is cls_is) ?_
  refine aK_c (ex lin_ii cls_ii) ?_
  refine aK_c (ex lin_is cls_is) ?_
  refine aK_c (ex (lin_mk lin_il) (cls_mk cls_il)) ?_
  refine aK_c (ex lin_il cls_il) ?_
  refine aK_c (ex lin_ic cls_ic) ?_
  refine aK_c (ex lin_il cls_il) ?_
  refine aK_c (ex lin_ii cls_ii) ?_
  refine aK_c (ex lin_al cls_al) ?_
  refine aK_c (ex lin_gI cls_gI) ?_
  refine aK_c (ex lin_cS (cls_cS zX4_within)) ?_
  refine aK_c (ex lin_if cls_if) ?_
  refine aK_c (ex lin_al cls_al) ?_
  refine aK_c (ex lin_il cls_il) ?_
  refine aK_c (ex lin_ii cls_ii) ?_
  refine aK_c (ex lin_il cls_il) ?_
  refine aK_c (ex lin_bi cls_bi) ?_
  refine aK_c (ex lin_bi cls_bi) ?_
  refine aK_c (ex lin_ii cls_ii) ?_
  refine aK_c (ex lin_cV (cls_cV zX2_holds)) ?_
  refine aK_c (ex lin_if cls_if) ?_
  refine aK_c (ex lin_ii cls_ii) ?_
  refine aK_c (ex lin_ri cls_ri) ?_
  refine aK_c (ex lin_il cls_il) ?_
  refine aK_c (ex lin_ii cls_ii) ?_
  refine aK_c (ex lin_il cls_il) ?_
  refine aK_c (ex lin_bi cls_bi) ?_
  refine aK_c (ex lin_bi cls_bi) ?_
  refine aK_c (ex lin_is cls_is) ?_
  refine aK_c (ex lin_al cls_al) ?_
  refine aK_c (ex lin_al cls_al) ?_
  refine aK_c (ex lin_gF (cls_gF 0 rfl (Nat.le_of_ble_eq_true rfl))) ?_
  refine aK_c (ex lin_il cls_il) ?_
  refine aK_c (ex lin_iald cls_iald) ?_
  refine aK_c (ex lin_al cls_al) ?_
  refine aK_c (ex lin_gF (cls_gF 0 rfl (Nat.le_of_ble_eq_true rfl))) ?_
  refine aK_c (ex lin_il cls_il) ?_
  refine aK_c (ex lin_ii cls_ii) ?_
  refine aK_c (ex lin_bi cls_bi) ?_
  refine aK_c (ex lin_iald cls_iald) ?_
  refine aK_c (ex lin_al cls_al) ?_
  refine aK_c (ex lin_gF (cls_gF 0 rfl (Nat.le_of_ble_eq_true rfl))) ?_
  refine aK_c (ex lin_il cls_il) ?_
  refine aK_c (ex lin_ii cls_ii) ?_
  refine aK_c (ex lin_bi cls_bi) ?_
  refine aK_c (ex lin_iald cls_iald) ?_
  refine aK_c (ex lin_cV (cls_cV zX4_judge)) ?_
  refine aK_c (ex lin_if cls_if) ?_
  refine aK_c (ex lin_inc cls_inc) ?_
  refine aK_c (ex lin_inc cls_inc) ?_
  refine aK_c (ex lin_go cls_go) ?_
  refine aK_c (ex lin_il cls_il) ?_
  refine aK_c (ex lin_ri cls_ri) ?_
  exact aK_n
theorem zX4_judgesBy : aCC CX4_judgesBy := aCC.of kX4_judgesBy
theorem kX0_isOf : aKl tX0_isOf := by
  unfold tX0_isOf
  refine aK_c (ex lin_gst cls_gst) ?_
  refine aK_c (ex lin_al cls_al) ?_
  refine aK_c (ex lin_gF (cls_gF 0 rfl (Nat.le_of_ble_eq_true rfl))) ?_
  refine aK_c (ex lin_il cls_il) ?_
  refine aK_c (ex lin_iald cls_iald) ?_
  refine aK_c (ex lin_tld cls_tld) ?_
  refine aK_c (ex lin_il cls_il) ?_
  refine aK_c (ex lin_bi cls_bi) ?_
  refine aK_c (ex lin_ii cls_ii) ?_
  refine aK_c (ex lin_bi cls_bi) ?_
  refine aK_c (ex lin_ii cls_ii) ?_
  refine aK_c (ex lin_ic cls_ic) ?_
  refine aK_c (ex lin_ii cls_ii) ?_
  refine aK_c (ex lin_go cls_go) ?_
  refine aK_c (ex lin_ii cls_ii) ?_
  refine aK_c (ex lin_rz cls_rz) ?_
  exact aK_n
theorem zX0_isOf : aCC CX0_isOf := aCC.of kX0_isOf
theorem kX4_taken : aKl tX4_taken := by
  unfold tX4_taken
  refine aK_c (ex lin_il cls_il) ?_
  refine aK_c (ex lin_ii cls_ii) ?_
  refine aK_c (ex lin_ii cls_ii) ?_
  refine aK_c (ex lin_cS (cls_cS zX4_within)) ?_
  refine aK_c (ex lin_if cls_if) ?_
  refine aK_c (ex lin_ii cls_ii) ?_
  refine aK_c (ex lin_ri cls_ri) ?_
  refine aK_c (ex lin_il cls_il) ?_
  refine aK_c (ex lin_ii cls_ii) ?_
  refine aK_c (ex lin_ii cls_ii) ?_
  refine aK_c (ex lin_cS (cls_cS zX4_within)) ?_
  refine aK_c (ex lin_if cls_if) ?_
  refine aK_c (ex lin_ii cls_ii) ?_
  refine aK_c (ex lin_ri cls_ri) ?_
  refine aK_c (ex lin_il cls_il) ?_
  refine aK_c (ex lin_ii cls_ii) ?_
  refine aK_c (ex lin_ic cls_ic) ?_
  refine aK_c (ex lin_ii cls_ii) ?_
  refine aK_c (ex lin_go cls_go) ?_
  refine aK_c (ex lin_ii cls_ii) ?_
  refine aK_c (ex lin_is cls_is) ?_
  refine aK_c (ex lin_il cls_il) ?_
  refine aK_c (ex lin_if cls_if) ?_
  refine aK_c (ex lin_al cls_al) ?_
  refine aK_c (ex lin_gF (cls_gF 0 rfl (Nat.le_of_ble_eq_true rfl))) ?_
  refine aK_c (ex lin_il cls_il) ?_
  refine aK_c (ex lin_cV (cls_cV zX0_hasJudge)) ?_
  refine aK_c (ex lin_if cls_if) ?_
  refine aK_c (ex lin_go cls_go) ?_
  refine aK_c (ex lin_al cls_al) ?_
  refine aK_c (ex lin_gF (cls_gF 0 rfl (Nat.le_of_ble_eq_true rfl))) ?_
  refine aK_c (ex lin_il cls_il) ?_
  refine aK_c (ex lin_ii cls_ii) ?_
  refine aK_c (ex lin_bi cls_bi) ?_
  refine aK_c (ex lin_cV (cls_cV zX0_hasCase)) ?_
  refine aK_c (ex lin_if cls_if) ?_
  refine aK_c (ex lin_ii cls_ii) ?_
  refine aK_c (ex lin_ri cls_ri) ?_
  refine aK_c (ex lin_il cls_il) ?_
  refine aK_c (ex lin_if cls_if) ?_
  refine aK_c (ex lin_al cls_al) ?_
  refine aK_c (ex lin_gF (cls_gF 0 rfl (Nat.le_of_ble_eq_true rfl))) ?_
  refine aK_c (ex lin_il cls_il) ?_
  refine aK_c (ex lin_il cls_il) ?_
  refine aK_c (ex lin_cV (cls_cV zX0_isOf)) ?_
  refine aK_c (ex lin_if cls_if) ?_
  refine aK_c (ex lin_il cls_il) ?_
  refine aK_c (ex lin_go cls_go) ?_
  refine aK_c (ex lin_ii cls_ii) ?_
  refine aK_c (ex lin_ri cls_ri) ?_
  refine aK_c (ex lin_il cls_il) ?_
  refine aK_c (ex lin_ii cls_ii) ?_
  refine aK_c (ex lin_ic cls_ic) ?_
  refine aK_c (ex lin_al cls_al) ?_
  refine aK_c (ex lin_gF (cls_gF 0 rfl (Nat.le_of_ble_eq_true rfl))) ?_
  refine aK_c (ex lin_gF (cls_gF 5 rfl (Nat.le_of_ble_eq_true rfl))) ?_
  refine aK_c (ex lin_il cls_il) ?_
  refine aK_c (ex lin_ii cls_ii) ?_
  refine aK_c (ex lin_bi cls_bi) ?_
  refine aK_c (ex lin_iald cls_iald) ?_
  refine aK_c (ex lin_go cls_go) ?_
  refine aK_c (ex lin_ii cls_ii) ?_
  refine aK_c (ex lin_ri cls_ri) ?_
  exact aK_n
theorem zX4_taken : aCC CX4_taken := aCC.of kX4_taken
theorem kX5_in : aKl tX5_in := by
  unfold tX5_in
  refine aK_c (ex lin_il cls_il) ?_
  refine aK_c (ex lin_il cls_il) ?_
  refine aK_c (ex lin_ic cls_ic) ?_
  refine aK_c (ex lin_il cls_il) ?_
  refine aK_c (ex lin_il cls_il) ?_
  refine aK_c (ex lin_ic cls_ic) ?_
  refine aK_c (ex lin_ii cls_ii) ?_
  refine aK_c (ex lin_go cls_go) ?_
  refine aK_c (ex lin_ii cls_ii) ?_
  refine aK_c (ex lin_rz cls_rz) ?_
  exact aK_n
theorem zX5_in : aCC CX5_in := aCC.of kX5_in
theorem kX5_wordFrom : aKl tX5_wordFrom := by
  unfold tX5_wordFrom
  refine aK_c (ex lin_ii cls_ii) ?_
  refine aK_c (ex lin_is cls_is) ?_
  refine aK_c (ex (lin_mk lin_il) (cls_mk cls_il)) ?_
  refine aK_c (ex lin_ii cls_ii) ?_
  refine aK_c (ex lin_ic cls_ic) ?_
  refine aK_c (ex lin_il cls_il) ?_
  refine aK_c (ex lin_il cls_il) ?_
  refine aK_c (ex lin_bi cls_bi) ?_
  refine aK_c (ex lin_ii cls_ii) ?_
  refine aK_c (ex lin_ic cls_ic) ?_
  refine aK_c (ex lin_ii cls_ii) ?_
  refine aK_c (ex lin_go cls_go) ?_
  refine aK_c (ex lin_ii cls_ii) ?_
  refine aK_c (ex lin_is cls_is) ?_
  refine aK_c (ex lin_ii cls_ii) ?_
  refine aK_c (ex lin_is cls_is) ?_
  refine aK_c (ex lin_il cls_il) ?_
  refine aK_c (ex lin_ii cls_ii) ?_
  refine aK_c (ex lin_ic cls_ic) ?_
  refine aK_c (ex lin_il cls_il) ?_
  refine aK_c (ex lin_if cls_if) ?_
  refine aK_c (ex lin_al cls_al) ?_
  refine aK_c (ex lin_gF (cls_gF 24 rfl (Nat.le_of_ble_eq_true rfl))) ?_
  refine aK_c (ex lin_ii cls_ii) ?_
  refine aK_c (ex lin_il cls_il) ?_
  refine aK_c (ex lin_bi cls_bi) ?_
  refine aK_c (ex lin_il cls_il) ?_
  refine aK_c (ex lin_bi cls_bi) ?_
  refine aK_c (ex lin_iald cls_iald) ?_
  refine aK_c (ex lin_il cls_il) ?_
  refine aK_c (ex lin_il cls_il) ?_
  refine aK_c (ex lin_bi cls_bi) ?_
  refine aK_c (ex lin_il cls_il) ?_
  refine aK_c (ex lin_ic cls_ic) ?_
  refine aK_c (ex lin_al cls_al) ?_
  refine aK_c (ex lin_gF (cls_gF 7 rfl (Nat.le_of_ble_eq_true rfl))) ?_
  refine aK_c (ex lin_il cls_il) ?_
  refine aK_c (ex lin_il cls_il) ?_
  refine aK_c (ex lin_bi cls_bi) ?_
  refine aK_c (ex lin_iald cls_iald) ?_
  refine aK_c (ex lin_go cls_go) ?_
  refine aK_c (ex lin_ii cls_ii) ?_
  refine aK_c (ex lin_ic cls_ic) ?_
  refine aK_c (ex lin_ii cls_ii) ?_
  refine aK_c (ex lin_go cls_go) ?_
  refine aK_c (ex lin_ii cls_ii) ?_
  refine aK_c (ex lin_is cls_is) ?_
  refine aK_c (ex lin_inc cls_inc) ?_
  refine aK_c (ex lin_go cls_go) ?_
  refine aK_c (ex lin_il cls_il) ?_
  refine aK_c (ex lin_if cls_if) ?_
  refine aK_c (ex lin_il cls_il) ?_
  refine aK_c (ex lin_ri cls_ri) ?_
  refine aK_c (ex lin_inc cls_inc) ?_
  refine aK_c (ex lin_go cls_go) ?_
  refine aK_c (ex lin_ii cls_ii) ?_
  refine aK_c (ex lin_ri cls_ri) ?_
  exact aK_n
theorem zX5_wordFrom : aCC CX5_wordFrom := aCC.of kX5_wordFrom
theorem kX5_next : aKl tX5_next := by
  unfold tX5_next
  refine aK_c (ex (lin_mk lin_al) (cls_mk cls_al)) ?_
  refine aK_c (ex lin_gI cls_gI) ?_
  refine aK_c (ex lin_al cls_al) ?_
  refine aK_c (ex lin_gI cls_gI) ?_
  refine aK_c (ex lin_ic cls_ic) ?_
  refine aK_c (ex lin_al cls_al) ?_
  refine aK_c (ex lin_gF (cls_gF 7 rfl (Nat.le_of_ble_eq_true rfl))) ?_
  refine aK_c (ex lin_al cls_al) ?_
  refine aK_c (ex lin_gI cls_gI) ?_
  refine aK_c (ex lin_iald cls_iald) ?_
  refine aK_c (ex lin_ii cls_ii) ?_
  refine aK_c (ex lin_ic cls_ic) ?_
  refine aK_c (ex lin_al cls_al) ?_
  refine aK_c (ex lin_gF (cls_gF 7 rfl (Nat.le_of_ble_eq_true rfl))) ?_
  refine aK_c (ex lin_al cls_al) ?_
  refine aK_c (ex lin_gI cls_gI) ?_
  refine aK_c (ex lin_iald cls_iald) ?_
  refine aK_c (ex lin_ii cls_ii) ?_
  refine aK_c (ex lin_ic cls_ic) ?_
  refine aK_c (ex lin_al cls_al) ?_
  refine aK_c (ex lin_dup cls_dup) ?_
  refine aK_c (ex lin_gI cls_gI) ?_
  refine aK_c (ex lin_ii cls_ii) ?_
  refine aK_c (ex lin_bi cls_bi) ?_
  refine aK_c (ex lin_pI cls_pI) ?_
  refine aK_c (ex lin_go cls_go) ?_
  refine aK_c (ex lin_al cls_al) ?_
  refine aK_c (ex lin_al cls_al) ?_
  refine aK_c (ex lin_gI cls_gI) ?_
  refine aK_c (ex lin_pI cls_pI) ?_
  refine aK_c (ex lin_al cls_al) ?_
  refine aK_c (ex lin_ii cls_ii) ?_
  refine aK_c (ex lin_pI cls_pI) ?_
  refine aK_c (ex lin_al cls_al) ?_
  refine aK_c (ex lin_ii cls_ii) ?_
  refine aK_c (ex lin_pI cls_pI) ?_
  refine aK_c (ex lin_al cls_al) ?_
  refine aK_c (ex lin_gI cls_gI) ?_
  refine aK_c (ex lin_al cls_al) ?_
  refine aK_c (ex lin_gI cls_gI) ?_
  refine aK_c (ex lin_ic cls_ic) ?_
  refine aK_c (ex lin_rv cls_rv) ?_
  refine aK_c (ex lin_al cls_al) ?_
  refine aK_c (ex lin_gF (cls_gF 7 rfl (Nat.le_of_ble_eq_true rfl))) ?_
  refine aK_c (ex lin_al cls_al) ?_
  refine aK_c (ex lin_gI cls_gI) ?_
  refine aK_c (ex lin_iald cls_iald) ?_
  refine aK_c (ex lin_is cls_is) ?_
  refine aK_c (ex lin_il cls_il) ?_
  refine aK_c (ex lin_ii cls_ii) ?_
  refine aK_c (ex lin_ii cls_ii) ?_
  refine aK_c (ex lin_cS (cls_cS zX5_in)) ?_
  refine aK_c (ex lin_if cls_if) ?_
  refine aK_c (ex (lin_mk lin_al) (cls_mk cls_al)) ?_
  refine aK_c (ex lin_gI cls_gI) ?_
  refine aK_c (ex lin_al cls_al) ?_
  refine aK_c (ex lin_gI cls_gI) ?_
  refine aK_c (ex lin_ic cls_ic) ?_
  refine aK_c (ex lin_al cls_al) ?_
  refine aK_c (ex lin_gF (cls_gF 7 rfl (Nat.le_of_ble_eq_true rfl))) ?_
  refine aK_c (ex lin_al cls_al) ?_
  refine aK_c (ex lin_gI cls_gI) ?_
  refine aK_c (ex lin_iald cls_iald) ?_
  refine aK_c (ex lin_ii cls_ii) ?_
  refine aK_c (ex lin_ii cls_ii) ?_
  refine aK_c (ex lin_cS (cls_cS zX5_in)) ?_
  refine aK_c (ex lin_if cls_if) ?_
  refine aK_c (ex lin_al cls_al) ?_
  refine aK_c (ex lin_dup cls_dup) ?_
  refine aK_c (ex lin_gI cls_gI) ?_
  refine aK_c (ex lin_ii cls_ii) ?_
  refine aK_c (ex lin_bi cls_bi) ?_
  refine aK_c (ex lin_pI cls_pI) ?_
  refine aK_c (ex lin_go cls_go) ?_
  refine aK_c (ex lin_al cls_al) ?_
  refine aK_c (ex lin_al cls_al) ?_
  refine aK_c (ex lin_gI cls_gI) ?_
  refine aK_c (ex lin_al cls_al) ?_
  refine aK_c (ex lin_gI cls_gI) ?_
  refine aK_c (ex lin_cV (cls_cV zX5_wordFrom)) ?_
  refine aK_c (ex lin_is cls_is) ?_
  refine aK_c (ex lin_al cls_al) ?_
  refine aK_c (ex lin_il cls_il) ?_
  refine aK_c (ex lin_ii cls_ii) ?_
  refine aK_c (ex lin_ic cls_ic) ?_
  refine aK_c (ex lin_ii cls_ii) ?_
  refine aK_c (ex lin_go cls_go) ?_
  refine aK_c (ex lin_il cls_il) ?_
  refine aK_c (ex lin_ii cls_ii) ?_
  refine aK_c (ex lin_ic cls_ic) ?_
  refine aK_c (ex lin_ii cls_ii) ?_
  refine aK_c (ex lin_go cls_go) ?_
  refine aK_c (ex lin_il cls_il) ?_
  refine aK_c (ex lin_ii cls_ii) ?_
  refine aK_c (ex lin_ic cls_ic) ?_
  refine aK_c (ex lin_ii cls_ii) ?_
  refine aK_c (ex lin_go cls_go) ?_
  refine aK_c (ex lin_ii cls_ii) ?_
  refine aK_c (ex lin_il cls_il) ?_
  refine aK_c (ex lin_bi cls_bi) ?_
  refine aK_c (ex lin_ii cls_ii) ?_
  refine aK_c (ex lin_bi cls_bi) ?_
  refine aK_c (ex lin_pI cls_pI) ?_
  refine aK_c (ex lin_al cls_al) ?_
  refine aK_c (ex lin_il cls_il) ?_
  refine aK_c (ex lin_ii cls_ii) ?_
  refine aK_c (ex lin_ic cls_ic) ?_
  refine aK_c (ex lin_il cls_il) ?_
  refine aK_c (ex lin_go cls_go) ?_
  refine aK_c (ex lin_il cls_il) ?_
  refine aK_c (ex lin_ii cls_ii) ?_
  refine aK_c (ex lin_bi cls_bi) ?_
  refine aK_c (ex lin_pI cls_pI) ?_
  refine aK_c (ex lin_go cls_go) ?_
  refine aK_c (ex lin_il cls_il) ?_
  refine aK_c (ex lin_ii cls_ii) ?_
  refine aK_c (ex lin_ii cls_ii) ?_
  refine aK_c (ex lin_cS (cls_cS zX5_in)) ?_
  refine aK_c (ex lin_if cls_if) ?_
  refine aK_c (ex lin_ii cls_ii) ?_
  refine aK_c (ex lin_is cls_is) ?_
  refine aK_c (ex (lin_mk lin_al) (cls_mk cls_al)) ?_
  refine aK_c (ex lin_gI cls_gI) ?_
  refine aK_c (ex lin_al cls_al) ?_
  refine aK_c (ex lin_gI cls_gI) ?_
  refine aK_c (ex lin_ic cls_ic) ?_
  refine aK_c (ex lin_al cls_al) ?_
  refine aK_c (ex lin_gF (cls_gF 7 rfl (Nat.le_of_ble_eq_true rfl))) ?_
  refine aK_c (ex lin_al cls_al) ?_
  refine aK_c (ex lin_gI cls_gI) ?_
  refine aK_c (ex lin_iald cls_iald) ?_
  refine aK_c (ex lin_ii cls_ii) ?_
  refine aK_c (ex lin_ii cls_ii) ?_
  refine aK_c (ex lin_cS (cls_cS zX5_in)) ?_
  refine aK_c (ex lin_if cls_if) ?_
  refine aK_c (ex lin_al cls_al) ?_
  refine aK_c (ex lin_il cls_il) ?_
  refine aK_c (ex lin_ii cls_ii) ?_
  refine aK_c (ex lin_ic cls_ic) ?_
  refine aK_c (ex lin_ii cls_ii) ?_
  refine aK_c (ex lin_al cls_al) ?_
  refine aK_c (ex lin_gI cls_gI) ?_
  refine aK_c (ex lin_bi cls_bi) ?_
  refine aK_c (ex lin_al cls_al) ?_
  refine aK_c (ex lin_gF (cls_gF 7 rfl (Nat.le_of_ble_eq_true rfl))) ?_
  refine aK_c (ex lin_al cls_al) ?_
  refine aK_c (ex lin_gI cls_gI) ?_
  refine aK_c (ex lin_iald cls_iald) ?_
  refine aK_c (ex lin_bi cls_bi) ?_
  refine aK_c (ex lin_ii cls_ii) ?_
  refine aK_c (ex lin_bi cls_bi) ?_
  refine aK_c (ex lin_go cls_go) ?_
  refine aK_c (ex lin_ii cls_ii) ?_
  refine aK_c (ex lin_pI cls_pI) ?_
  refine aK_c (ex lin_inc cls_inc) ?_
  refine aK_c (ex lin_al cls_al) ?_
  refine aK_c (ex lin_dup cls_dup) ?_
  refine aK_c (ex lin_gI cls_gI) ?_
  refine aK_c (ex lin_ii cls_ii) ?_
  refine aK_c (ex lin_bi cls_bi) ?_
  refine aK_c (ex lin_pI cls_pI) ?_
  refine aK_c (ex lin_go cls_go) ?_
  refine aK_c (ex lin_al cls_al) ?_
  refine aK_c (ex lin_il cls_il) ?_
  refine aK_c (ex lin_ii cls_ii) ?_
  refine aK_c (ex lin_ic cls_ic) ?_
  refine aK_c (ex lin_ii cls_ii) ?_
  refine aK_c (ex lin_go cls_go) ?_
  refine aK_c (ex lin_ii cls_ii) ?_
  refine aK_c (ex lin_pI cls_pI) ?_
  refine aK_c (ex lin_go cls_go) ?_
  refine aK_c (ex lin_il cls_il) ?_
  refine aK_c (ex lin_ii cls_ii) ?_
  refine aK_c (ex lin_ic cls_ic) ?_
  refine aK_c (ex lin_il cls_il) ?_
  refine aK_c (ex lin_ii cls_ii) ?_
  refine aK_c (ex lin_ic cls_ic) ?_
  refine aK_c (ex lin_il cls_il) ?_
  refine aK_c (ex lin_ii cls_ii) ?_
  refine aK_c (ex lin_ic cls_ic) ?_
  refine aK_c (ex lin_il cls_il) ?_
  refine aK_c (ex lin_ii cls_ii) ?_
  refine aK_c (ex lin_ic cls_ic) ?_
  refine aK_c (ex lin_il cls_il) ?_
  refine aK_c (ex lin_ii cls_ii) ?_
  refine aK_c (ex lin_ic cls_ic) ?_
  refine aK_c (ex lin_il cls_il) ?_
  refine aK_c (ex lin_ii cls_ii) ?_
  refine aK_c (ex lin_ic cls_ic) ?_
  refine aK_c (ex lin_il cls_il) ?_
  refine aK_c (ex lin_ii cls_ii) ?_
  refine aK_c (ex lin_ic cls_ic) ?_
  refine aK_c (ex lin_il cls_il) ?_
  refine aK_c (ex lin_ii cls_ii) ?_
  refine aK_c (ex lin_ic cls_ic) ?_
  refine aK_c (ex lin_ii cls_ii) ?_
  refine aK_c (ex lin_go cls_go) ?_
  refine aK_c (ex lin_ii cls_ii) ?_
  refine aK_c (ex lin_is cls_is) ?_
  refine aK_c (ex lin_al cls_al) ?_
  refine aK_c (ex lin_il cls_il) ?_
  refine aK_c (ex lin_if cls_if) ?_
  refine aK_c (ex lin_il cls_il) ?_
  refine aK_c (ex lin_go cls_go) ?_
  refine aK_c (ex lin_ii cls_ii) ?_
  refine aK_c (ex lin_pI cls_pI) ?_
  refine aK_c (ex lin_al cls_al) ?_
  refine aK_c (ex lin_dup cls_dup) ?_
  refine aK_c (ex lin_gI cls_gI) ?_
  refine aK_c (ex lin_ii cls_ii) ?_
  refine aK_c (ex lin_bi cls_bi) ?_
  refine aK_c (ex lin_pI cls_pI) ?_
  refine aK_c (ex lin_rv cls_rv) ?_
  exact aK_n
theorem zX5_next : aCC CX5_next := aCC.of kX5_next
theorem kX5_puts : aKl tX5_puts := by
  unfold tX5_puts
  refine aK_c (ex lin_al cls_al) ?_
  refine aK_c (ex lin_gF (cls_gF 9 rfl (Nat.le_of_ble_eq_true rfl))) ?_
  refine aK_c (ex lin_ii cls_ii) ?_
  refine aK_c (ex lin_al cls_al) ?_
  refine aK_c (ex lin_gI cls_gI) ?_
  refine aK_c (ex lin_bi cls_bi) ?_
  refine aK_c (ex lin_al cls_al) ?_
  refine aK_c (ex lin_gI cls_gI) ?_
  refine aK_c (ex lin_bi cls_bi) ?_
  refine aK_c (ex lin_il cls_il) ?_
  refine aK_c (ex lin_iast cls_iast) ?_
  refine aK_c (ex lin_al cls_al) ?_
  refine aK_c (ex lin_dup cls_dup) ?_
  refine aK_c (ex lin_gI cls_gI) ?_
  refine aK_c (ex lin_ii cls_ii) ?_
  refine aK_c (ex lin_bi cls_bi) ?_
  refine aK_c (ex lin_pI cls_pI) ?_
  refine aK_c (ex lin_rv cls_rv) ?_
  exact aK_n
theorem zX5_puts : aCC CX5_puts := aCC.of kX5_puts
theorem kX5_rank : aKl tX5_rank := by
  unfold tX5_rank
  refine aK_c (ex lin_il cls_il) ?_
  refine aK_c (ex lin_if cls_if) ?_
  refine aK_c (ex lin_ii cls_ii) ?_
  refine aK_c (ex lin_go cls_go) ?_
  refine aK_c (ex lin_il cls_il) ?_
  refine aK_c (ex lin_ii cls_ii) ?_
  refine aK_c (ex lin_ic cls_ic) ?_
  refine aK_c (ex lin_ii cls_ii) ?_
  refine aK_c (ex lin_go cls_go) ?_
  refine aK_c (ex lin_il cls_il) ?_
  refine aK_c (ex lin_ii cls_ii) ?_
  refine aK_c (ex lin_ic cls_ic) ?_
  refine aK_c (ex lin_ii cls_ii) ?_
  refine aK_c (ex lin_go cls_go) ?_
  refine aK_c (ex lin_il cls_il) ?_
  refine aK_c (ex lin_ii cls_ii) ?_
  refine aK_c (ex lin_ic cls_ic) ?_
  refine aK_c (ex lin_ii cls_ii) ?_
  refine aK_c (ex lin_go cls_go) ?_
  refine aK_c (ex lin_il cls_il) ?_
  refine aK_c (ex lin_ii cls_ii) ?_
  refine aK_c (ex lin_ic cls_ic) ?_
  refine aK_c (ex lin_ii cls_ii) ?_
  refine aK_c (ex lin_go cls_go) ?_
  refine aK_c (ex lin_il cls_il) ?_
  refine aK_c (ex lin_ii cls_ii) ?_
  refine aK_c (ex lin_ic cls_ic) ?_
  refine aK_c (ex lin_ii cls_ii) ?_
  refine aK_c (ex lin_go cls_go) ?_
  refine aK_c (ex lin_il cls_il) ?_
  refine aK_c (ex lin_ii cls_ii) ?_
  refine aK_c (ex lin_ic cls_ic) ?_
  refine aK_c (ex lin_ii cls_ii) ?_
  refine aK_c (ex lin_go cls_go) ?_
  refine aK_c (ex lin_ii cls_ii) ?_
  refine aK_c (ex lin_ri cls_ri) ?_
  exact aK_n
theorem zX5_rank : aCC CX5_rank := aCC.of kX5_rank
theorem kX5_unwinds : aKl tX5_unwinds := by
  unfold tX5_unwinds
  refine aK_c (ex (lin_mk lin_al) (cls_mk cls_al)) ?_
  refine aK_c (ex lin_gI cls_gI) ?_
  refine aK_c (ex lin_if cls_if) ?_
  refine aK_c (ex lin_al cls_al) ?_
  refine aK_c (ex lin_gF (cls_gF 25 rfl (Nat.le_of_ble_eq_true rfl))) ?_
  refine aK_c (ex lin_al cls_al) ?_
  refine aK_c (ex lin_gI cls_gI) ?_
  refine aK_c (ex lin_ii cls_ii) ?_
  refine aK_c (ex lin_bi cls_bi) ?_
  refine aK_c (ex lin_iald cls_iald) ?_
  refine aK_c (ex lin_cS (cls_cS zX5_rank)) ?_
  refine aK_c (ex lin_il cls_il) ?_
  refine aK_c (ex lin_ic cls_ic) ?_
  refine aK_c (ex lin_al cls_al) ?_
  refine aK_c (ex lin_dup cls_dup) ?_
  refine aK_c (ex lin_gI cls_gI) ?_
  refine aK_c (ex lin_ii cls_ii) ?_
  refine aK_c (ex lin_bi cls_bi) ?_
  refine aK_c (ex lin_pI cls_pI) ?_
  refine aK_c (ex lin_al cls_al) ?_
  refine aK_c (ex lin_gF (cls_gF 25 rfl (Nat.le_of_ble_eq_true rfl))) ?_
  refine aK_c (ex lin_al cls_al) ?_
  refine aK_c (ex lin_gI cls_gI) ?_
  refine aK_c (ex lin_iald cls_iald) ?_
  refine aK_c (ex lin_is cls_is) ?_
  refine aK_c (ex lin_al cls_al) ?_
  refine aK_c (ex lin_dup cls_dup) ?_
  refine aK_c (ex lin_gI cls_gI) ?_
  refine aK_c (ex lin_il cls_il) ?_
  refine aK_c (ex lin_ii cls_ii) ?_
  refine aK_c (ex lin_ic cls_ic) ?_
  refine aK_c (ex lin_il cls_il) ?_
  refine aK_c (ex lin_ii cls_ii) ?_
  refine aK_c (ex lin_ic cls_ic) ?_
  refine aK_c (ex lin_ii cls_ii) ?_
  refine aK_c (ex lin_go cls_go) ?_
  refine aK_c (ex lin_ii cls_ii) ?_
  refine aK_c (ex lin_bi cls_bi) ?_
  refine aK_c (ex lin_pI cls_pI) ?_
  refine aK_c (ex lin_al cls_al) ?_
  refine aK_c (ex lin_il cls_il) ?_
  refine aK_c (ex lin_cV (cls_cV zX5_puts)) ?_
  refine aK_c (ex lin_go cls_go) ?_
  refine aK_c (ex lin_rv cls_rv) ?_
  exact aK_n
theorem zX5_unwinds : aCC CX5_unwinds := aCC.of kX5_unwinds
theorem kX5_holds : aKl tX5_holds := by
  unfold tX5_holds
  refine aK_c (ex lin_al cls_al) ?_
  refine aK_c (ex lin_gF (cls_gF 25 rfl (Nat.le_of_ble_eq_true rfl))) ?_
  refine aK_c (ex lin_al cls_al) ?_
  refine aK_c (ex lin_gI cls_gI) ?_
  refine aK_c (ex lin_il cls_il) ?_
  refine aK_c (ex lin_iast cls_iast) ?_
  refine aK_c (ex lin_al cls_al) ?_
  refine aK_c (ex lin_dup cls_dup) ?_
  refine aK_c (ex lin_gI cls_gI) ?_
  refine aK_c (ex lin_ii cls_ii) ?_
  refine aK_c (ex lin_bi cls_bi) ?_
  refine aK_c (ex lin_pI cls_pI) ?_
  refine aK_c (ex lin_rv cls_rv) ?_
  exact aK_n
theorem zX5_holds : aCC CX5_holds := aCC.of kX5_holds
theorem kX5_opensOne : aKl tX5_opensOne := by
  unfold tX5_opensOne
  refine aK_c (ex lin_al cls_al) ?_
  refine aK_c (ex lin_gI cls_gI) ?_
  refine aK_c (ex lin_ii cls_ii) ?_
  refine aK_c (ex lin_ic cls_ic) ?_
  refine aK_c (ex lin_ii cls_ii) ?_
  refine aK_c (ex lin_rz cls_rz) ?_
  refine aK_c (ex lin_al cls_al) ?_
  refine aK_c (ex lin_dup cls_dup) ?_
  refine aK_c (ex lin_gI cls_gI) ?_
  refine aK_c (ex lin_ii cls_ii) ?_
  refine aK_c (ex lin_bi cls_bi) ?_
  refine aK_c (ex lin_pI cls_pI) ?_
  refine aK_c (ex lin_al cls_al) ?_
  refine aK_c (ex lin_il cls_il) ?_
  refine aK_c (ex lin_cV (cls_cV zX5_holds)) ?_
  refine aK_c (ex lin_ii cls_ii) ?_
  refine aK_c (ex lin_rz cls_rz) ?_
  exact aK_n
theorem zX5_opensOne : aCC CX5_opensOne := aCC.of kX5_opensOne
theorem kX5_signOf : aKl tX5_signOf := by
  unfold tX5_signOf
  refine aK_c (ex lin_al cls_al) ?_
  refine aK_c (ex lin_gI cls_gI) ?_
  refine aK_c (ex lin_ii cls_ii) ?_
  refine aK_c (ex lin_ic cls_ic) ?_
  refine aK_c (ex lin_ii cls_ii) ?_
  refine aK_c (ex lin_go cls_go) ?_
  refine aK_c (ex lin_al cls_al) ?_
  refine aK_c (ex lin_gI cls_gI) ?_
  refine aK_c (ex lin_ii cls_ii) ?_
  refine aK_c (ex lin_ic cls_ic) ?_
  refine aK_c (ex lin_ii cls_ii) ?_
  refine aK_c (ex lin_go cls_go) ?_
  refine aK_c (ex lin_al cls_al) ?_
  refine aK_c (ex lin_gI cls_gI) ?_
  refine aK_c (ex lin_ii cls_ii) ?_
  refine aK_c (ex lin_ic cls_ic) ?_
  refine aK_c (ex lin_ii cls_ii) ?_
  refine aK_c (ex lin_go cls_go) ?_
  refine aK_c (ex lin_al cls_al) ?_
  refine aK_c (ex lin_gI cls_gI) ?_
  refine aK_c (ex lin_ii cls_ii) ?_
  refine aK_c (ex lin_ic cls_ic) ?_
  refine aK_c (ex lin_ii cls_ii) ?_
  refine aK_c (ex lin_go cls_go) ?_
  refine aK_c (ex lin_al cls_al) ?_
  refine aK_c (ex lin_gI cls_gI) ?_
  refine aK_c (ex lin_ii cls_ii) ?_
  refine aK_c (ex lin_ic cls_ic) ?_
  refine aK_c (ex lin_ii cls_ii) ?_
  refine aK_c (ex lin_go cls_go) ?_
  refine aK_c (ex lin_al cls_al) ?_
  refine aK_c (ex lin_gI cls_gI) ?_
  refine aK_c (ex lin_ii cls_ii) ?_
  refine aK_c (ex lin_ic cls_ic) ?_
  refine aK_c (ex lin_ii cls_ii) ?_
  refine aK_c (ex lin_go cls_go) ?_
  refine aK_c (ex lin_al cls_al) ?_
  refine aK_c (ex lin_gI cls_gI) ?_
  refine aK_c (ex lin_ii cls_ii) ?_
  refine aK_c (ex lin_ic cls_ic) ?_
  refine aK_c (ex lin_ii cls_ii) ?_
  refine aK_c (ex lin_go cls_go) ?_
  refine aK_c (ex lin_ii cls_ii) ?_
  refine aK_c (ex lin_ri cls_ri) ?_
  exact aK_n
theorem zX5_signOf : aCC CX5_signOf := aCC.of kX5_signOf
theorem kX5_between : aKl tX5_between := by
  unfold tX5_between
  refine aK_c (ex lin_al cls_al) ?_
  refine aK_c (ex lin_il cls_il) ?_
  refine aK_c (ex lin_cS (cls_cS zX5_rank)) ?_
  refine aK_c (ex lin_ii cls_ii) ?_
  refine aK_c (ex lin_ic cls_ic) ?_
  refine aK_c (ex lin_ii cls_ii) ?_
  refine aK_c (ex lin_go cls_go) ?_
  refine aK_c (ex lin_il cls_il) ?_
  refine aK_c (ex lin_cS (cls_cS zX5_rank)) ?_
  refine aK_c (ex lin_cV (cls_cV zX5_unwinds)) ?_
  refine aK_c (ex lin_il cls_il) ?_
  refine aK_c (ex lin_cS (cls_cS zX5_rank)) ?_
  refine aK_c (ex lin_ii cls_ii) ?_
  refine aK_c (ex lin_ic cls_ic) ?_
  refine aK_c (ex lin_al cls_al) ?_
  refine aK_c (ex lin_gI cls_gI) ?_
  refine aK_c (ex lin_if cls_if) ?_
  refine aK_c (ex lin_al cls_al) ?_
  refine aK_c (ex lin_gF (cls_gF 25 rfl (Nat.le_of_ble_eq_true rfl))) ?_
  refine aK_c (ex lin_al cls_al) ?_
  refine aK_c (ex lin_gI cls_gI) ?_
  refine aK_c (ex lin_ii cls_ii) ?_
  refine aK_c (ex lin_bi cls_bi) ?_
  refine aK_c (ex lin_iald cls_iald) ?_
  refine aK_c (ex lin_cS (cls_cS zX5_rank)) ?_
  refine aK_c (ex lin_ii cls_ii) ?_
  refine aK_c (ex lin_ic cls_ic) ?_
  refine aK_c (ex lin_ii cls_ii) ?_
  refine aK_c (ex lin_rz cls_rz) ?_
  refine aK_c (ex lin_al cls_al) ?_
  refine aK_c (ex lin_il cls_il) ?_
  refine aK_c (ex lin_cV (cls_cV zX5_holds)) ?_
  refine aK_c (ex lin_ii cls_ii) ?_
  refine aK_c (ex lin_rz cls_rz) ?_
  exact aK_n
theorem zX5_between : aCC CX5_between := aCC.of kX5_between
theorem kX5_eRead : aKl tX5_eRead := by
  unfold tX5_eRead
  refine aK_c (ex lin_al cls_al) ?_
  refine aK_c (ex lin_ii cls_ii) ?_
  refine aK_c (ex lin_pI cls_pI) ?_
  refine aK_c (ex lin_al cls_al) ?_
  refine aK_c (ex lin_ii cls_ii) ?_
  refine aK_c (ex lin_pI cls_pI) ?_
  refine aK_c (ex lin_ii cls_ii) ?_
  refine aK_c (ex lin_is cls_is) ?_
  refine aK_c (ex lin_ii cls_ii) ?_
  refine aK_c (ex lin_is cls_is) ?_
  refine aK_c (ex (lin_mk lin_al) (cls_mk cls_al)) ?_
  refine aK_c (ex lin_cV (cls_cV zX5_next)) ?_
  refine aK_c (ex lin_il cls_il) ?_
  refine aK_c (ex lin_if cls_if) ?_
  refine aK_c (ex lin_al cls_al) ?_
  refine aK_c (ex lin_gI cls_gI) ?_
  refine aK_c (ex lin_ii cls_ii) ?_
  refine aK_c (ex lin_ic cls_ic) ?_
  refine aK_c (ex lin_al cls_al) ?_
  refine aK_c (ex lin_gI cls_gI) ?_
  refine aK_c (ex lin_ii cls_ii) ?_
  refine aK_c (ex lin_ic cls_ic) ?_
  refine aK_c (ex lin_al cls_al) ?_
  refine aK_c (ex lin_al cls_al) ?_
  refine aK_c (ex lin_gI cls_gI) ?_
  refine aK_c (ex lin_ii cls_ii) ?_
  refine aK_c (ex lin_ic cls_ic) ?_
  refine aK_c (ex lin_ii cls_ii) ?_
  refine aK_c (ex lin_al cls_al) ?_
  refine aK_c (ex lin_gI cls_gI) ?_
  refine aK_c (ex lin_bi cls_bi) ?_
  refine aK_c (ex lin_go cls_go) ?_
  refine aK_c (ex lin_al cls_al) ?_
  refine aK_c (ex lin_gI cls_gI) ?_
  refine aK_c (ex lin_cV (cls_cV zX5_puts)) ?_
  refine aK_c (ex lin_al cls_al) ?_
  refine aK_c (ex lin_ii cls_ii) ?_
  refine aK_c (ex lin_cV (cls_cV zX5_unwinds)) ?_
  refine aK_c (ex lin_ii cls_ii) ?_
  refine aK_c (ex lin_is cls_is) ?_
  refine aK_c (ex lin_go cls_go) ?_
  refine aK_c (ex lin_al cls_al) ?_
  refine aK_c (ex lin_gI cls_gI) ?_
  refine aK_c (ex lin_ii cls_ii) ?_
  refine aK_c (ex lin_ic cls_ic) ?_
  refine aK_c (ex lin_il cls_il) ?_
  refine aK_c (ex lin_if cls_if) ?_
  refine aK_c (ex lin_al cls_al) ?_
  refine aK_c (ex lin_ii cls_ii) ?_
  refine aK_c (ex lin_cV (cls_cV zX5_opensOne)) ?_
  refine aK_c (ex lin_if cls_if) ?_
  refine aK_c (ex lin_ii cls_ii) ?_
  refine aK_c (ex lin_rz cls_rz) ?_
  refine aK_c (ex lin_al cls_al) ?_
  refine aK_c (ex lin_gI cls_gI) ?_
  refine aK_c (ex lin_ii cls_ii) ?_
  refine aK_c (ex lin_ic cls_ic) ?_
  refine aK_c (ex lin_al cls_al) ?_
  refine aK_c (ex lin_ii cls_ii) ?_
  refine aK_c (ex lin_cV (cls_cV zX5_opensOne)) ?_
  refine aK_c (ex lin_if cls_if) ?_
  refine aK_c (ex lin_ii cls_ii) ?_
  refine aK_c (ex lin_rz cls_rz) ?_
  refine aK_c (ex lin_ii cls_ii) ?_
  refine aK_c (ex lin_is cls_is) ?_
  refine aK_c (ex lin_go cls_go) ?_
  refine aK_c (ex lin_al cls_al) ?_
  refine aK_c (ex lin_gI cls_gI) ?_
  refine aK_c (ex lin_ii cls_ii) ?_
  refine aK_c (ex lin_ic cls_ic) ?_
  refine aK_c (ex lin_al cls_al) ?_
  refine aK_c (ex lin_ii cls_ii) ?_
  refine aK_c (ex lin_cV (cls_cV zX5_opensOne)) ?_
  refine aK_c (ex lin_if cls_if) ?_
  refine aK_c (ex lin_ii cls_ii) ?_
  refine aK_c (ex lin_rz cls_rz) ?_
  refine aK_c (ex lin_ii cls_ii) ?_
  refine aK_c (ex lin_is cls_is) ?_
  refine aK_c (ex lin_go cls_go) ?_
  refine aK_c (ex lin_ii cls_ii) ?_
  refine aK_c (ex lin_rz cls_rz) ?_
  refine aK_c (ex lin_al cls_al) ?_
  refine aK_c (ex lin_gI cls_gI) ?_
  refine aK_c (ex lin_ii cls_ii) ?_
  refine aK_c (ex lin_ic cls_ic) ?_
  refine aK_c (ex lin_al cls_al) ?_
  refine aK_c (ex lin_ii cls_ii) ?_
  refine aK_c (ex lin_cV (cls_cV zX5_unwinds)) ?_
  refine aK_c (ex lin_al cls_al) ?_
  refine aK_c (ex lin_gI cls_gI) ?_
  refine aK_c (ex lin_if cls_if) ?_
  refine aK_c (ex lin_ii cls_ii) ?_
  refine aK_c (ex lin_go cls_go) ?_
  refine aK_c (ex lin_ii cls_ii) ?_
  refine aK_c (ex lin_rz cls_rz) ?_
  refine aK_c (ex lin_al cls_al) ?_
  refine aK_c (ex lin_gI cls_gI) ?_
  refine aK_c (ex lin_ii cls_ii) ?_
  refine aK_c (ex lin_ic cls_ic) ?_
  refine aK_c (ex lin_al cls_al) ?_
  refine aK_c (ex lin_ii cls_ii) ?_
  refine aK_c (ex lin_cV (cls_cV zX5_unwinds)) ?_
  refine aK_c (ex lin_al cls_al) ?_
  refine aK_c (ex lin_gI cls_gI) ?_
  refine aK_c (ex lin_if cls_if) ?_
  refine aK_c (ex lin_ii cls_ii) ?_
  refine aK_c (ex lin_rz cls_rz) ?_
  refine aK_c (ex lin_al cls_al) ?_
  refine aK_c (ex lin_dup cls_dup) ?_
  refine aK_c (ex lin_gI cls_gI) ?_
  refine aK_c (ex lin_ii cls_ii) ?_
  refine aK_c (ex lin_bi cls_bi) ?_
  refine aK_c (ex lin_pI cls_pI) ?_
  refine aK_c (ex lin_al cls_al) ?_
  refine aK_c (ex lin_dup cls_dup) ?_
  refine aK_c (ex lin_gI cls_gI) ?_
  refine aK_c (ex lin_ii cls_ii) ?_
  refine aK_c (ex lin_bi cls_bi) ?_
  refine aK_c (ex lin_pI cls_pI) ?_
  refine aK_c (ex lin_al cls_al) ?_
  refine aK_c (ex lin_ii cls_ii) ?_
  refine aK_c (ex lin_cV (cls_cV zX5_unwinds)) ?_
  refine aK_c (ex lin_go cls_go) ?_
  refine aK_c (ex lin_al cls_al) ?_
  refine aK_c (ex lin_cV (cls_cV zX5_signOf)) ?_
  refine aK_c (ex lin_is cls_is) ?_
  refine aK_c (ex lin_il cls_il) ?_
  refine aK_c (ex lin_ii cls_ii) ?_
  refine aK_c (ex lin_ic cls_ic) ?_
  refine aK_c (ex lin_al cls_al) ?_
  refine aK_c (ex lin_il cls_il) ?_
  refine aK_c (ex lin_cV (cls_cV zX5_between)) ?_
  refine aK_c (ex lin_if cls_if) ?_
  refine aK_c (ex lin_ii cls_ii) ?_
  refine aK_c (ex lin_rz cls_rz) ?_
  refine aK_c (ex lin_ii cls_ii) ?_
  refine aK_c (ex lin_is cls_is) ?_
  refine aK_c (ex lin_il cls_il) ?_
  refine aK_c (ex lin_ii cls_ii) ?_
  refine aK_c (ex lin_ic cls_ic) ?_
  refine aK_c (ex lin_ii cls_ii) ?_
  refine aK_c (ex lin_go cls_go) ?_
  refine aK_c (ex lin_ii cls_ii) ?_
  refine aK_c (ex lin_is cls_is) ?_
  refine aK_c (ex lin_go cls_go) ?_
  exact aK_n
theorem zX5_eRead : aCC CX5_eRead := aCC.of kX5_eRead
theorem kX5_text : aKl tX5_text := by
  unfold tX5_text
  refine aK_c (ex lin_al cls_al) ?_
  refine aK_c (ex lin_gI cls_gI) ?_
  refine aK_c (ex lin_ii cls_ii) ?_
  refine aK_c (ex lin_ic cls_ic) ?_
  refine aK_c (ex lin_ii cls_ii) ?_
  refine aK_c (ex lin_ri cls_ri) ?_
  refine aK_c (ex lin_al cls_al) ?_
  refine aK_c (ex lin_ii cls_ii) ?_
  refine aK_c (ex lin_pI cls_pI) ?_
  refine aK_c (ex lin_al cls_al) ?_
  refine aK_c (ex lin_ii cls_ii) ?_
  refine aK_c (ex lin_pI cls_pI) ?_
  refine aK_c (ex lin_ii cls_ii) ?_
  refine aK_c (ex lin_is cls_is) ?_
  refine aK_c (ex lin_ii cls_ii) ?_
  refine aK_c (ex lin_is cls_is) ?_
  refine aK_c (ex lin_il cls_il) ?_
  refine aK_c (ex lin_ii cls_ii) ?_
  refine aK_c (ex lin_ic cls_ic) ?_
  refine aK_c (ex lin_il cls_il) ?_
  refine aK_c (ex lin_if cls_if) ?_
  refine aK_c (ex lin_al cls_al) ?_
  refine aK_c (ex lin_cV (cls_cV zX5_next)) ?_
  refine aK_c (ex lin_al cls_al) ?_
  refine aK_c (ex lin_gI cls_gI) ?_
  refine aK_c (ex lin_ii cls_ii) ?_
  refine aK_c (ex lin_ic cls_ic) ?_
  refine aK_c (ex lin_al cls_al) ?_
  refine aK_c (ex lin_gI cls_gI) ?_
  refine aK_c (ex lin_il cls_il) ?_
  refine aK_c (ex lin_ic cls_ic) ?_
  refine aK_c (ex lin_ii cls_ii) ?_
  refine aK_c (ex lin_go cls_go) ?_
  refine aK_c (ex lin_ii cls_ii) ?_
  refine aK_c (ex lin_is cls_is) ?_
  refine aK_c (ex lin_al cls_al) ?_
  refine aK_c (ex lin_gF (cls_gF 10 rfl (Nat.le_of_ble_eq_true rfl))) ?_
  refine aK_c (ex lin_ii cls_ii) ?_
  refine aK_c (ex lin_al cls_al) ?_
  refine aK_c (ex lin_gI cls_gI) ?_
  refine aK_c (ex lin_bi cls_bi) ?_
  refine aK_c (ex lin_il cls_il) ?_
  refine aK_c (ex lin_bi cls_bi) ?_
  refine aK_c (ex lin_al cls_al) ?_
  refine aK_c (ex lin_gI cls_gI) ?_
  refine aK_c (ex lin_iast cls_iast) ?_
  refine aK_c (ex lin_il cls_il) ?_
  refine aK_c (ex lin_if cls_if) ?_
  refine aK_c (ex lin_al cls_al) ?_
  refine aK_c (ex lin_cV (cls_cV zX5_eRead)) ?_
  refine aK_c (ex lin_if cls_if) ?_
  refine aK_c (ex lin_ii cls_ii) ?_
  refine aK_c (ex lin_go cls_go) ?_
  refine aK_c (ex lin_ii cls_ii) ?_
  refine aK_c (ex lin_is cls_is) ?_
  refine aK_c (ex lin_inc cls_inc) ?_
  refine aK_c (ex lin_go cls_go) ?_
  refine aK_c (ex lin_il cls_il) ?_
  refine aK_c (ex lin_if cls_if) ?_
  refine aK_c (ex lin_al cls_al) ?_
  refine aK_c (ex lin_cV (cls_cV zX5_next)) ?_
  refine aK_c (ex lin_al cls_al) ?_
  refine aK_c (ex lin_gI cls_gI) ?_
  refine aK_c (ex lin_if cls_if) ?_
  refine aK_c (ex lin_ii cls_ii) ?_
  refine aK_c (ex lin_go cls_go) ?_
  refine aK_c (ex lin_ii cls_ii) ?_
  refine aK_c (ex lin_is cls_is) ?_
  refine aK_c (ex lin_al cls_al) ?_
  refine aK_c (ex lin_gF (cls_gF 10 rfl (Nat.le_of_ble_eq_true rfl))) ?_
  refine aK_c (ex lin_ii cls_ii) ?_
  refine aK_c (ex lin_al cls_al) ?_
  refine aK_c (ex lin_gI cls_gI) ?_
  refine aK_c (ex lin_bi cls_bi) ?_
  refine aK_c (ex lin_ii cls_ii) ?_
  refine aK_c (ex lin_bi cls_bi) ?_
  refine aK_c (ex lin_al cls_al) ?_
  refine aK_c (ex lin_gI cls_gI) ?_
  refine aK_c (ex lin_iast cls_iast) ?_
  refine aK_c (ex lin_al cls_al) ?_
  refine aK_c (ex lin_ii cls_ii) ?_
  refine aK_c (ex lin_pI cls_pI) ?_
  refine aK_c (ex lin_il cls_il) ?_
  refine aK_c (ex lin_if cls_if) ?_
  refine aK_c (ex lin_ii cls_ii) ?_
  refine aK_c (ex lin_al cls_al) ?_
  refine aK_c (ex lin_gI cls_gI) ?_
  refine aK_c (ex lin_bi cls_bi) ?_
  refine aK_c (ex lin_ri cls_ri) ?_
  refine aK_c (ex lin_al cls_al) ?_
  refine aK_c (ex lin_dup cls_dup) ?_
  refine aK_c (ex lin_gI cls_gI) ?_
  refine aK_c (ex lin_ii cls_ii) ?_
  refine aK_c (ex lin_bi cls_bi) ?_
  refine aK_c (ex lin_pI cls_pI) ?_
  refine aK_c (ex lin_al cls_al) ?_
  refine aK_c (ex lin_gI cls_gI) ?_
  refine aK_c (ex lin_ii cls_ii) ?_
  refine aK_c (ex lin_bi cls_bi) ?_
  refine aK_c (ex lin_ri cls_ri) ?_
  exact aK_n
theorem zX5_text : aCC CX5_text := aCC.of kX5_text
theorem kX5_within : aKl tX5_within := by
  unfold tX5_within
  refine aK_c (ex lin_il cls_il) ?_
  refine aK_c (ex lin_il cls_il) ?_
  refine aK_c (ex lin_ic cls_ic) ?_
  refine aK_c (ex lin_il cls_il) ?_
  refine aK_c (ex lin_go cls_go) ?_
  refine aK_c (ex lin_il cls_il) ?_
  refine aK_c (ex lin_il cls_il) ?_
  refine aK_c (ex lin_ic cls_ic) ?_
  refine aK_c (ex lin_il cls_il) ?_
  refine aK_c (ex lin_go cls_go) ?_
  refine aK_c (ex lin_il cls_il) ?_
  refine aK_c (ex lin_ri cls_ri) ?_
  exact aK_n
theorem zX5_within : aCC CX5_within := aCC.of kX5_within
theorem kX5_onesOf : aKl tX5_onesOf := by
  unfold tX5_onesOf
  refine aK_c (ex lin_ii cls_ii) ?_
  refine aK_c (ex lin_is cls_is) ?_
  refine aK_c (ex lin_ii cls_ii) ?_
  refine aK_c (ex lin_is cls_is) ?_
  refine aK_c (ex lin_il cls_il) ?_
  refine aK_c (ex lin_ii cls_ii) ?_
  refine aK_c (ex lin_ic cls_ic) ?_
  refine aK_c (ex lin_il cls_il) ?_
  refine aK_c (ex lin_il cls_il) ?_
  refine aK_c (ex lin_il cls_il) ?_
  refine aK_c (ex lin_bi cls_bi) ?_
  refine aK_c (ex lin_ii cls_ii) ?_
  refine aK_c (ex lin_bi cls_bi) ?_
  refine aK_c (ex lin_bi cls_bi) ?_
  refine aK_c (ex lin_is cls_is) ?_
  refine aK_c (ex lin_inc cls_inc) ?_
  refine aK_c (ex lin_go cls_go) ?_
  refine aK_c (ex lin_il cls_il) ?_
  refine aK_c (ex lin_ri cls_ri) ?_
  exact aK_n
theorem zX5_onesOf : aCC CX5_onesOf := aCC.of kX5_onesOf
theorem kX5_isOne : aKl tX5_isOne := by
  unfold tX5_isOne
  refine aK_c (ex lin_il cls_il) ?_
  refine aK_c (ex lin_ii cls_ii) ?_
  refine aK_c (ex lin_al cls_al) ?_
  refine aK_c (ex lin_gI cls_gI) ?_
  refine aK_c (ex lin_ii cls_ii) ?_
  refine aK_c (ex lin_bi cls_bi) ?_
  refine aK_c (ex lin_cS (cls_cS zX5_in)) ?_
  refine aK_c (ex lin_rz cls_rz) ?_
  exact aK_n
theorem zX5_isOne : aCC CX5_isOne := aCC.of kX5_isOne
theorem kX5_isThere : aKl tX5_isThere := by
  unfold tX5_isThere
  refine aK_c (ex lin_il cls_il) ?_
  refine aK_c (ex lin_ii cls_ii) ?_
  refine aK_c (ex lin_ii cls_ii) ?_
  refine aK_c (ex lin_cS (cls_cS zX5_in)) ?_
  refine aK_c (ex lin_if cls_if) ?_
  refine aK_c (ex lin_al cls_al) ?_
  refine aK_c (ex lin_gF (cls_gF 4 rfl (Nat.le_of_ble_eq_true rfl))) ?_
  refine aK_c (ex lin_ii cls_ii) ?_
  refine aK_c (ex lin_il cls_il) ?_
  refine aK_c (ex lin_ii cls_ii) ?_
  refine aK_c (ex lin_ii cls_ii) ?_
  refine aK_c (ex lin_cS (cls_cS zX5_within)) ?_
  refine aK_c (ex lin_bi cls_bi) ?_
  refine aK_c (ex lin_iald cls_iald) ?_
  refine aK_c (ex lin_if cls_if) ?_
  refine aK_c (ex lin_ii cls_ii) ?_
  refine aK_c (ex lin_go cls_go) ?_
  refine aK_c (ex lin_ii cls_ii) ?_
  refine aK_c (ex lin_rz cls_rz) ?_
  exact aK_n
theorem zX5_isThere : aCC CX5_isThere := aCC.of kX5_isThere
theorem kX5_caseSet : aKl tX5_caseSet := by
  unfold tX5_caseSet
  refine aK_c (ex lin_ii cls_ii) ?_
  refine aK_c (ex lin_is cls_is) ?_
  refine aK_c (ex lin_ii cls_ii) ?_
  refine aK_c (ex lin_is cls_is) ?_
  refine aK_c (ex lin_il cls_il) ?_
  refine aK_c (ex lin_ii cls_ii) ?_
  refine aK_c (ex lin_ic cls_ic) ?_
  refine aK_c (ex lin_il cls_il) ?_
  refine aK_c (ex lin_al cls_al) ?_
  refine aK_c (ex lin_il cls_il) ?_
  refine aK_c (ex lin_cV (cls_cV zX5_isThere)) ?_
  refine aK_c (ex lin_if cls_if) ?_
  refine aK_c (ex lin_ii cls_ii) ?_
  refine aK_c (ex lin_il cls_il) ?_
  refine aK_c (ex lin_bi cls_bi) ?_
  refine aK_c (ex lin_go cls_go) ?_
  refine aK_c (ex lin_ii cls_ii) ?_
  refine aK_c (ex lin_bi cls_bi) ?_
  refine aK_c (ex lin_is cls_is) ?_
  refine aK_c (ex lin_inc cls_inc) ?_
  refine aK_c (ex lin_go cls_go) ?_
  refine aK_c (ex lin_il cls_il) ?_
  refine aK_c (ex lin_ri cls_ri) ?_
  exact aK_n
theorem zX5_caseSet : aCC CX5_caseSet := aCC.of kX5_caseSet
theorem kX5_count : aKl tX5_count := by
  unfold tX5_count
  refine aK_c (ex lin_il cls_il) ?_
  refine aK_c (ex lin_sw cls_sw) ?_
  refine aK_c (ex lin_al cls_al) ?_
  refine aK_c (ex lin_gI cls_gI) ?_
  refine aK_c (ex lin_ri cls_ri) ?_
  refine aK_c (ex lin_al cls_al) ?_
  refine aK_c (ex lin_cV (cls_cV zX5_caseSet)) ?_
  refine aK_c (ex lin_cS (cls_cS zX5_onesOf)) ?_
  refine aK_c (ex lin_ri cls_ri) ?_
  refine aK_c (ex lin_al cls_al) ?_
  refine aK_c (ex lin_gI cls_gI) ?_
  refine aK_c (ex lin_ri cls_ri) ?_
  refine aK_c (ex lin_al cls_al) ?_
  refine aK_c (ex lin_gI cls_gI) ?_
  refine aK_c (ex lin_ri cls_ri) ?_
  refine aK_c (ex lin_al cls_al) ?_
  refine aK_c (ex lin_gI cls_gI) ?_
  refine aK_c (ex lin_ri cls_ri) ?_
  refine aK_c (ex lin_al cls_al) ?_
  refine aK_c (ex lin_gI cls_gI) ?_
  refine aK_c (ex lin_ri cls_ri) ?_
  refine aK_c (ex lin_al cls_al) ?_
  refine aK_c (ex lin_gI cls_gI) ?_
  refine aK_c (ex lin_ri cls_ri) ?_
  refine aK_c (ex lin_ii cls_ii) ?_
  refine aK_c (ex lin_ri cls_ri) ?_
  exact aK_n
theorem zX5_count : aCC CX5_count := aCC.of kX5_count
theorem kX5_dawn : aKl tX5_dawn := by
  unfold tX5_dawn
  refine aK_c (ex lin_il cls_il) ?_
  refine aK_c (ex lin_ii cls_ii) ?_
  refine aK_c (ex lin_ii cls_ii) ?_
  refine aK_c (ex lin_cS (cls_cS zX5_in)) ?_
  refine aK_c (ex lin_if cls_if) ?_
  refine aK_c (ex lin_ii cls_ii) ?_
  refine aK_c (ex lin_ri cls_ri) ?_
  refine aK_c (ex lin_al cls_al) ?_
  refine aK_c (ex lin_gI cls_gI) ?_
  refine aK_c (ex lin_is cls_is) ?_
  refine aK_c (ex lin_al cls_al) ?_
  refine aK_c (ex lin_il cls_il) ?_
  refine aK_c (ex lin_pI cls_pI) ?_
  refine aK_c (ex lin_il cls_il) ?_
  refine aK_c (ex lin_ri cls_ri) ?_
  exact aK_n
theorem zX5_dawn : aCC CX5_dawn := aCC.of kX5_dawn
theorem kX5_isByte : aKl tX5_isByte := by
  unfold tX5_isByte
  refine aK_c (ex lin_il cls_il) ?_
  refine aK_c (ex lin_ii cls_ii) ?_
  refine aK_c (ex lin_ii cls_ii) ?_
  refine aK_c (ex lin_cS (cls_cS zX5_in)) ?_
  refine aK_c (ex lin_rz cls_rz) ?_
  exact aK_n
theorem zX5_isByte : aCC CX5_isByte := aCC.of kX5_isByte
theorem kX5_feed : aKl tX5_feed := by
  unfold tX5_feed
  refine aK_c (ex lin_il cls_il) ?_
  refine aK_c (ex lin_ii cls_ii) ?_
  refine aK_c (ex lin_ii cls_ii) ?_
  refine aK_c (ex lin_cS (cls_cS zX5_in)) ?_
  refine aK_c (ex lin_if cls_if) ?_
  refine aK_c (ex lin_il cls_il) ?_
  refine aK_c (ex lin_cS (cls_cS zX5_isByte)) ?_
  refine aK_c (ex lin_if cls_if) ?_
  refine aK_c (ex lin_il cls_il) ?_
  refine aK_c (ex lin_cS (cls_cS zX5_isByte)) ?_
  refine aK_c (ex lin_if cls_if) ?_
  refine aK_c (ex lin_il cls_il) ?_
  refine aK_c (ex lin_cS (cls_cS zX5_isByte)) ?_
  refine aK_c (ex lin_if cls_if) ?_
  refine aK_c (ex lin_il cls_il) ?_
  refine aK_c (ex lin_cS (cls_cS zX5_isByte)) ?_
  refine aK_c (ex lin_if cls_if) ?_
  refine aK_c (ex lin_il cls_il) ?_
  refine aK_c (ex lin_cS (cls_cS zX5_isByte)) ?_
  refine aK_c (ex lin_if cls_if) ?_
  refine aK_c (ex lin_ii cls_ii) ?_
  refine aK_c (ex lin_ri cls_ri) ?_
  refine aK_c (ex lin_al cls_al) ?_
  refine aK_c (ex lin_gI cls_gI) ?_
  refine aK_c (ex lin_il cls_il) ?_
  refine aK_c (ex lin_bi cls_bi) ?_
  refine aK_c (ex lin_ii cls_ii) ?_
  refine aK_c (ex lin_ic cls_ic) ?_
  refine aK_c (ex lin_ii cls_ii) ?_
  refine aK_c (ex lin_ri cls_ri) ?_
  refine aK_c (ex lin_ii cls_ii) ?_
  refine aK_c (ex lin_is cls_is) ?_
  refine aK_c (ex lin_il cls_il) ?_
  refine aK_c (ex lin_il cls_il) ?_
  refine aK_c (ex lin_ic cls_ic) ?_
  refine aK_c (ex lin_al cls_al) ?_
  refine aK_c (ex lin_gF (cls_gF 7 rfl (Nat.le_of_ble_eq_true rfl))) ?_
  refine aK_c (ex lin_al cls_al) ?_
  refine aK_c (ex lin_gI cls_gI) ?_
  refine aK_c (ex lin_il cls_il) ?_
  refine aK_c (ex lin_if cls_if) ?_
  refine aK_c (ex lin_il cls_il) ?_
  refine aK_c (ex lin_go cls_go) ?_
  refine aK_c (ex lin_il cls_il) ?_
  refine aK_c (ex lin_ii cls_ii) ?_
  refine aK_c (ex lin_ic cls_ic) ?_
  refine aK_c (ex lin_il cls_il) ?_
  refine aK_c (ex lin_go cls_go) ?_
  refine aK_c (ex lin_il cls_il) ?_
  refine aK_c (ex lin_ii cls_ii) ?_
  refine aK_c (ex lin_ic cls_ic) ?_
  refine aK_c (ex lin_il cls_il) ?_
  refine aK_c (ex lin_go cls_go) ?_
  refine aK_c (ex lin_il cls_il) ?_
  refine aK_c (ex lin_ii cls_ii) ?_
  refine aK_c (ex lin_ic cls_ic) ?_
  refine aK_c (ex lin_il cls_il) ?_
  refine aK_c (ex lin_go cls_go) ?_
  refine aK_c (ex lin_il cls_il) ?_
  refine aK_c (ex lin_iast cls_iast) ?_
  refine aK_c (ex lin_al cls_al) ?_
  refine aK_c (ex lin_dup cls_dup) ?_
  refine aK_c (ex lin_gI cls_gI) ?_
  refine aK_c (ex lin_ii cls_ii) ?_
  refine aK_c (ex lin_bi cls_bi) ?_
  refine aK_c (ex lin_pI cls_pI) ?_
  refine aK_c (ex lin_inc cls_inc) ?_
  refine aK_c (ex lin_go cls_go) ?_
  refine aK_c (ex lin_al cls_al) ?_
  refine aK_c (ex lin_gI cls_gI) ?_
  refine aK_c (ex lin_ri cls_ri) ?_
  exact aK_n
theorem zX5_feed : aCC CX5_feed := aCC.of kX5_feed
theorem kX5_two : aKl tX5_two := by
  unfold tX5_two
  refine aK_c (ex lin_il cls_il) ?_
  refine aK_c (ex lin_sw cls_sw) ?_
  refine aK_c (ex lin_il cls_il) ?_
  refine aK_c (ex lin_if cls_if) ?_
  refine aK_c (ex lin_il cls_il) ?_
  refine aK_c (ex lin_if cls_if) ?_
  refine aK_c (ex lin_ii cls_ii) ?_
  refine aK_c (ex lin_go cls_go) ?_
  refine aK_c (ex lin_ii cls_ii) ?_
  refine aK_c (ex lin_ri cls_ri) ?_
  refine aK_c (ex lin_il cls_il) ?_
  refine aK_c (ex lin_if cls_if) ?_
  refine aK_c (ex lin_il cls_il) ?_
  refine aK_c (ex lin_if cls_if) ?_
  refine aK_c (ex lin_ii cls_ii) ?_
  refine aK_c (ex lin_go cls_go) ?_
  refine aK_c (ex lin_ii cls_ii) ?_
  refine aK_c (ex lin_ri cls_ri) ?_
  refine aK_c (ex lin_il cls_il) ?_
  refine aK_c (ex lin_il cls_il) ?_
  refine aK_c (ex lin_ic cls_ic) ?_
  refine aK_c (ex lin_ii cls_ii) ?_
  refine aK_c (ex lin_go cls_go) ?_
  refine aK_c (ex lin_ii cls_ii) ?_
  refine aK_c (ex lin_ri cls_ri) ?_
  refine aK_c (ex lin_il cls_il) ?_
  refine aK_c (ex lin_il cls_il) ?_
  refine aK_c (ex lin_ic cls_ic) ?_
  refine aK_c (ex lin_ii cls_ii) ?_
  refine aK_c (ex lin_go cls_go) ?_
  refine aK_c (ex lin_ii cls_ii) ?_
  refine aK_c (ex lin_ri cls_ri) ?_
  refine aK_c (ex lin_il cls_il) ?_
  refine aK_c (ex lin_il cls_il) ?_
  refine aK_c (ex lin_bi cls_bi) ?_
  refine aK_c (ex lin_ri cls_ri) ?_
  refine aK_c (ex lin_il cls_il) ?_
  refine aK_c (ex lin_il cls_il) ?_
  refine aK_c (ex lin_bi cls_bi) ?_
  refine aK_c (ex lin_ri cls_ri) ?_
  refine aK_c (ex lin_il cls_il) ?_
  refine aK_c (ex lin_il cls_il) ?_
  refine aK_c (ex lin_bi cls_bi) ?_
  refine aK_c (ex lin_ri cls_ri) ?_
  exact aK_n
theorem zX5_two : aCC CX5_two := aCC.of kX5_two
theorem kX5_says : aKl tX5_says := by
  unfold tX5_says
  refine aK_c (ex lin_ii cls_ii) ?_
  refine aK_c (ex lin_is cls_is) ?_
  refine aK_c (ex lin_al cls_al) ?_
  refine aK_c (ex lin_gF (cls_gF 10 rfl (Nat.le_of_ble_eq_true rfl))) ?_
  refine aK_c (ex lin_ii cls_ii) ?_
  refine aK_c (ex lin_al cls_al) ?_
  refine aK_c (ex lin_gI cls_gI) ?_
  refine aK_c (ex lin_bi cls_bi) ?_
  refine aK_c (ex lin_il cls_il) ?_
  refine aK_c (ex lin_bi cls_bi) ?_
  refine aK_c (ex lin_iald cls_iald) ?_
  refine aK_c (ex lin_is cls_is) ?_
  refine aK_c (ex (lin_mk lin_il) (cls_mk cls_il)) ?_
  refine aK_c (ex lin_al cls_al) ?_
  refine aK_c (ex lin_gF (cls_gF 10 rfl (Nat.le_of_ble_eq_true rfl))) ?_
  refine aK_c (ex lin_ii cls_ii) ?_
  refine aK_c (ex lin_al cls_al) ?_
  refine aK_c (ex lin_gI cls_gI) ?_
  refine aK_c (ex lin_bi cls_bi) ?_
  refine aK_c (ex lin_il cls_il) ?_
  refine aK_c (ex lin_bi cls_bi) ?_
  refine aK_c (ex lin_ii cls_ii) ?_
  refine aK_c (ex lin_bi cls_bi) ?_
  refine aK_c (ex lin_iald cls_iald) ?_
  refine aK_c (ex lin_ic cls_ic) ?_
  refine aK_c (ex lin_al cls_al) ?_
  refine aK_c (ex lin_gF (cls_gF 9 rfl (Nat.le_of_ble_eq_true rfl))) ?_
  refine aK_c (ex lin_ii cls_ii) ?_
  refine aK_c (ex lin_al cls_al) ?_
  refine aK_c (ex lin_gI cls_gI) ?_
  refine aK_c (ex lin_bi cls_bi) ?_
  refine aK_c (ex lin_il cls_il) ?_
  refine aK_c (ex lin_bi cls_bi) ?_
  refine aK_c (ex lin_iald cls_iald) ?_
  refine aK_c (ex lin_is cls_is) ?_
  refine aK_c (ex lin_il cls_il) ?_
  refine aK_c (ex lin_ii cls_ii) ?_
  refine aK_c (ex lin_ic cls_ic) ?_
  refine aK_c (ex lin_il cls_il) ?_
  refine aK_c (ex lin_ii cls_ii) ?_
  refine aK_c (ex lin_ic cls_ic) ?_
  refine aK_c (ex lin_al cls_al) ?_
  refine aK_c (ex lin_gF (cls_gF 29 rfl (Nat.le_of_ble_eq_true rfl))) ?_
  refine aK_c (ex lin_il cls_il) ?_
  refine aK_c (ex lin_il cls_il) ?_
  refine aK_c (ex lin_ii cls_ii) ?_
  refine aK_c (ex lin_ic cls_ic) ?_
  refine aK_c (ex lin_al cls_al) ?_
  refine aK_c (ex lin_gF (cls_gF 30 rfl (Nat.le_of_ble_eq_true rfl))) ?_
  refine aK_c (ex lin_il cls_il) ?_
  refine aK_c (ex lin_iald cls_iald) ?_
  refine aK_c (ex lin_go cls_go) ?_
  refine aK_c (ex lin_il cls_il) ?_
  refine aK_c (ex lin_ii cls_ii) ?_
  refine aK_c (ex lin_bi cls_bi) ?_
  refine aK_c (ex lin_iast cls_iast) ?_
  refine aK_c (ex lin_inc cls_inc) ?_
  refine aK_c (ex lin_go cls_go) ?_
  refine aK_c (ex lin_il cls_il) ?_
  refine aK_c (ex lin_ii cls_ii) ?_
  refine aK_c (ex lin_ic cls_ic) ?_
  refine aK_c (ex lin_al cls_al) ?_
  refine aK_c (ex lin_gF (cls_gF 29 rfl (Nat.le_of_ble_eq_true rfl))) ?_
  refine aK_c (ex lin_il cls_il) ?_
  refine aK_c (ex lin_ii cls_ii) ?_
  refine aK_c (ex lin_bi cls_bi) ?_
  refine aK_c (ex lin_al cls_al) ?_
  refine aK_c (ex lin_gF (cls_gF 29 rfl (Nat.le_of_ble_eq_true rfl))) ?_
  refine aK_c (ex lin_il cls_il) ?_
  refine aK_c (ex lin_ii cls_ii) ?_
  refine aK_c (ex lin_bi cls_bi) ?_
  refine aK_c (ex lin_iald cls_iald) ?_
  refine aK_c (ex lin_if cls_if) ?_
  refine aK_c (ex lin_ii cls_ii) ?_
  refine aK_c (ex lin_go cls_go) ?_
  refine aK_c (ex lin_ii cls_ii) ?_
  refine aK_c (ex lin_iast cls_iast) ?_
  refine aK_c (ex lin_go cls_go) ?_
  refine aK_c (ex lin_il cls_il) ?_
  refine aK_c (ex lin_ii cls_ii) ?_
  refine aK_c (ex lin_ic cls_ic) ?_
  refine aK_c (ex lin_al cls_al) ?_
  refine aK_c (ex lin_gF (cls_gF 29 rfl (Nat.le_of_ble_eq_true rfl))) ?_
  refine aK_c (ex lin_il cls_il) ?_
  refine aK_c (ex lin_ii cls_ii) ?_
  refine aK_c (ex lin_bi cls_bi) ?_
  refine aK_c (ex lin_al cls_al) ?_
  refine aK_c (ex lin_gF (cls_gF 29 rfl (Nat.le_of_ble_eq_true rfl))) ?_
  refine aK_c (ex lin_il cls_il) ?_
  refine aK_c (ex lin_ii cls_ii) ?_
  refine aK_c (ex lin_bi cls_bi) ?_
  refine aK_c (ex lin_iald cls_iald) ?_
  refine aK_c (ex lin_ui cls_ui) ?_
  refine aK_c (ex lin_iast cls_iast) ?_
  refine aK_c (ex lin_go cls_go) ?_
  refine aK_c (ex lin_inc cls_inc) ?_
  refine aK_c (ex lin_al cls_al) ?_
  refine aK_c (ex lin_gF (cls_gF 29 rfl (Nat.le_of_ble_eq_true rfl))) ?_
  refine aK_c (ex lin_il cls_il) ?_
  refine aK_c (ex lin_ii cls_ii) ?_
  refine aK_c (ex lin_bi cls_bi) ?_
  refine aK_c (ex lin_il cls_il) ?_
  refine aK_c (ex lin_al cls_al) ?_
  refine aK_c (ex lin_gF (cls_gF 29 rfl (Nat.le_of_ble_eq_true rfl))) ?_
  refine aK_c (ex lin_il cls_il) ?_
  refine aK_c (ex lin_ii cls_ii) ?_
  refine aK_c (ex lin_bi cls_bi) ?_
  refine aK_c (ex lin_iald cls_iald) ?_
  refine aK_c (ex lin_al cls_al) ?_
  refine aK_c (ex lin_gF (cls_gF 29 rfl (Nat.le_of_ble_eq_true rfl))) ?_
  refine aK_c (ex lin_il cls_il) ?_
  refine aK_c (ex lin_iald cls_iald) ?_
  refine aK_c (ex lin_cS (cls_cS zX5_two)) ?_
  refine aK_c (ex lin_iast cls_iast) ?_
  refine aK_c (ex lin_inc cls_inc) ?_
  refine aK_c (ex lin_go cls_go) ?_
  refine aK_c (ex lin_al cls_al) ?_
  refine aK_c (ex lin_gF (cls_gF 29 rfl (Nat.le_of_ble_eq_true rfl))) ?_
  refine aK_c (ex lin_ii cls_ii) ?_
  refine aK_c (ex lin_iald cls_iald) ?_
  refine aK_c (ex lin_ri cls_ri) ?_
  exact aK_n
theorem zX5_says : aCC CX5_says := aCC.of kX5_says
theorem kX5_force : aKl tX5_force := by
  unfold tX5_force
  refine aK_c (ex lin_il cls_il) ?_
  refine aK_c (ex lin_ii cls_ii) ?_
  refine aK_c (ex lin_al cls_al) ?_
  refine aK_c (ex lin_gI cls_gI) ?_
  refine aK_c (ex lin_ii cls_ii) ?_
  refine aK_c (ex lin_bi cls_bi) ?_
  refine aK_c (ex lin_cS (cls_cS zX5_in)) ?_
  refine aK_c (ex lin_if cls_if) ?_
  refine aK_c (ex lin_ii cls_ii) ?_
  refine aK_c (ex lin_ri cls_ri) ?_
  refine aK_c (ex lin_al cls_al) ?_
  refine aK_c (ex lin_gI cls_gI) ?_
  refine aK_c (ex lin_is cls_is) ?_
  refine aK_c (ex lin_al cls_al) ?_
  refine aK_c (ex lin_il cls_il) ?_
  refine aK_c (ex lin_pI cls_pI) ?_
  refine aK_c (ex lin_il cls_il) ?_
  refine aK_c (ex lin_ri cls_ri) ?_
  exact aK_n
theorem zX5_force : aCC CX5_force := aCC.of kX5_force
theorem kX5_asksOf : aKl tX5_asksOf := by
  unfold tX5_asksOf
  refine aK_c (ex lin_al cls_al) ?_
  refine aK_c (ex lin_gF (cls_gF 30 rfl (Nat.le_of_ble_eq_true rfl))) ?_
  refine aK_c (ex lin_ii cls_ii) ?_
  refine aK_c (ex lin_al cls_al) ?_
  refine aK_c (ex lin_gF (cls_gF 4 rfl (Nat.le_of_ble_eq_true rfl))) ?_
  refine aK_c (ex lin_ii cls_ii) ?_
  refine aK_c (ex lin_il cls_il) ?_
  refine aK_c (ex lin_bi cls_bi) ?_
  refine aK_c (ex lin_ii cls_ii) ?_
  refine aK_c (ex lin_bi cls_bi) ?_
  refine aK_c (ex lin_iald cls_iald) ?_
  refine aK_c (ex lin_iast cls_iast) ?_
  refine aK_c (ex lin_al cls_al) ?_
  refine aK_c (ex lin_gF (cls_gF 30 rfl (Nat.le_of_ble_eq_true rfl))) ?_
  refine aK_c (ex lin_ii cls_ii) ?_
  refine aK_c (ex lin_al cls_al) ?_
  refine aK_c (ex lin_gF (cls_gF 4 rfl (Nat.le_of_ble_eq_true rfl))) ?_
  refine aK_c (ex lin_ii cls_ii) ?_
  refine aK_c (ex lin_il cls_il) ?_
  refine aK_c (ex lin_bi cls_bi) ?_
  refine aK_c (ex lin_iald cls_iald) ?_
  refine aK_c (ex lin_cS (cls_cS zX5_onesOf)) ?_
  refine aK_c (ex lin_iast cls_iast) ?_
  refine aK_c (ex lin_al cls_al) ?_
  refine aK_c (ex lin_gF (cls_gF 30 rfl (Nat.le_of_ble_eq_true rfl))) ?_
  refine aK_c (ex lin_ii cls_ii) ?_
  refine aK_c (ex lin_al cls_al) ?_
  refine aK_c (ex lin_gF (cls_gF 3 rfl (Nat.le_of_ble_eq_true rfl))) ?_
  refine aK_c (ex lin_ii cls_ii) ?_
  refine aK_c (ex lin_il cls_il) ?_
  refine aK_c (ex lin_bi cls_bi) ?_
  refine aK_c (ex lin_ii cls_ii) ?_
  refine aK_c (ex lin_bi cls_bi) ?_
  refine aK_c (ex lin_iald cls_iald) ?_
  refine aK_c (ex lin_iast cls_iast) ?_
  refine aK_c (ex lin_al cls_al) ?_
  refine aK_c (ex lin_gF (cls_gF 30 rfl (Nat.le_of_ble_eq_true rfl))) ?_
  refine aK_c (ex lin_ii cls_ii) ?_
  refine aK_c (ex lin_al cls_al) ?_
  refine aK_c (ex lin_gF (cls_gF 3 rfl (Nat.le_of_ble_eq_true rfl))) ?_
  refine aK_c (ex lin_ii cls_ii) ?_
  refine aK_c (ex lin_il cls_il) ?_
  refine aK_c (ex lin_bi cls_bi) ?_
  refine aK_c (ex lin_iald cls_iald) ?_
  refine aK_c (ex lin_cS (cls_cS zX5_onesOf)) ?_
  refine aK_c (ex lin_iast cls_iast) ?_
  refine aK_c (ex lin_al cls_al) ?_
  refine aK_c (ex lin_gF (cls_gF 30 rfl (Nat.le_of_ble_eq_true rfl))) ?_
  refine aK_c (ex lin_ii cls_ii) ?_
  refine aK_c (ex lin_al cls_al) ?_
  refine aK_c (ex lin_gI cls_gI) ?_
  refine aK_c (ex lin_iast cls_iast) ?_
  refine aK_c (ex lin_al cls_al) ?_
  refine aK_c (ex lin_gF (cls_gF 30 rfl (Nat.le_of_ble_eq_true rfl))) ?_
  refine aK_c (ex lin_ii cls_ii) ?_
  refine aK_c (ex lin_al cls_al) ?_
  refine aK_c (ex lin_gF (cls_gF 2 rfl (Nat.le_of_ble_eq_true rfl))) ?_
  refine aK_c (ex lin_il cls_il) ?_
  refine aK_c (ex lin_iald cls_iald) ?_
  refine aK_c (ex lin_iast cls_iast) ?_
  refine aK_c (ex lin_al cls_al) ?_
  refine aK_c (ex lin_il cls_il) ?_
  refine aK_c (ex lin_cV (cls_cV zX5_says)) ?_
  refine aK_c (ex lin_il cls_il) ?_
  refine aK_c (ex lin_ii cls_ii) ?_
  refine aK_c (ex lin_ic cls_ic) ?_
  refine aK_c (ex lin_ii cls_ii) ?_
  refine aK_c (ex lin_go cls_go) ?_
  refine aK_c (ex lin_ii cls_ii) ?_
  refine aK_c (ex lin_ii cls_ii) ?_
  refine aK_c (ex lin_cS (cls_cS zX5_within)) ?_
  refine aK_c (ex lin_ri cls_ri) ?_
  exact aK_n
theorem zX5_asksOf : aCC CX5_asksOf := aCC.of kX5_asksOf
theorem kX5_asks : aKl tX5_asks := by
  unfold tX5_asks
  refine aK_c (ex lin_il cls_il) ?_
  refine aK_c (ex lin_ii cls_ii) ?_
  refine aK_c (ex lin_ii cls_ii) ?_
  refine aK_c (ex lin_cS (cls_cS zX5_in)) ?_
  refine aK_c (ex lin_if cls_if) ?_
  refine aK_c (ex lin_al cls_al) ?_
  refine aK_c (ex lin_il cls_il) ?_
  refine aK_c (ex lin_cV (cls_cV zX5_isOne)) ?_
  refine aK_c (ex lin_if cls_if) ?_
  refine aK_c (ex lin_al cls_al) ?_
  refine aK_c (ex lin_il cls_il) ?_
  refine aK_c (ex lin_cV (cls_cV zX5_isThere)) ?_
  refine aK_c (ex lin_if cls_if) ?_
  refine aK_c (ex lin_al cls_al) ?_
  refine aK_c (ex lin_il cls_il) ?_
  refine aK_c (ex lin_il cls_il) ?_
  refine aK_c (ex lin_il cls_il) ?_
  refine aK_c (ex lin_cV (cls_cV zX5_asksOf)) ?_
  refine aK_c (ex lin_go cls_go) ?_
  refine aK_c (ex lin_ii cls_ii) ?_
  refine aK_c (ex lin_ri cls_ri) ?_
  exact aK_n
theorem zX5_asks : aCC CX5_asks := aCC.of kX5_asks
theorem kX5_judge : aKl tX5_judge := by
  unfold tX5_judge
  refine aK_c (ex lin_il cls_il) ?_
  refine aK_c (ex lin_ii cls_ii) ?_
  refine aK_c (ex lin_ii cls_ii) ?_
  refine aK_c (ex lin_cS (cls_cS zX5_in)) ?_
  refine aK_c (ex lin_if cls_if) ?_
  refine aK_c (ex lin_il cls_il) ?_
  refine aK_c (ex lin_ii cls_ii) ?_
  refine aK_c (ex lin_ii cls_ii) ?_
  refine aK_c (ex lin_cS (cls_cS zX5_in)) ?_
  refine aK_c (ex lin_if cls_if) ?_
  refine aK_c (ex lin_il cls_il) ?_
  refine aK_c (ex lin_ii cls_ii) ?_
  refine aK_c (ex lin_ii cls_ii) ?_
  refine aK_c (ex lin_cS (cls_cS zX5_in)) ?_
  refine aK_c (ex lin_if cls_if) ?_
  refine aK_c (ex lin_ii cls_ii) ?_
  refine aK_c (ex lin_ri cls_ri) ?_
  refine aK_c (ex lin_al cls_al) ?_
  refine aK_c (ex lin_gI cls_gI) ?_
  refine aK_c (ex lin_ii cls_ii) ?_
  refine aK_c (ex lin_ic cls_ic) ?_
  refine aK_c (ex lin_ii cls_ii) ?_
  refine aK_c (ex lin_ri cls_ri) ?_
  refine aK_c (ex lin_al cls_al) ?_
  refine aK_c (ex lin_gF (cls_gF 1 rfl (Nat.le_of_ble_eq_true rfl))) ?_
  refine aK_c (ex lin_al cls_al) ?_
  refine aK_c (ex lin_gI cls_gI) ?_
  refine aK_c (ex lin_il cls_il) ?_
  refine aK_c (ex lin_ii cls_ii) ?_
  refine aK_c (ex lin_dv cls_dv) ?_
  refine aK_c (ex lin_iast cls_iast) ?_
  refine aK_c (ex lin_al cls_al) ?_
  refine aK_c (ex lin_gF (cls_gF 2 rfl (Nat.le_of_ble_eq_true rfl))) ?_
  refine aK_c (ex lin_al cls_al) ?_
  refine aK_c (ex lin_gI cls_gI) ?_
  refine aK_c (ex lin_il cls_il) ?_
  refine aK_c (ex lin_ii cls_ii) ?_
  refine aK_c (ex lin_rm cls_rm) ?_
  refine aK_c (ex lin_iast cls_iast) ?_
  refine aK_c (ex lin_al cls_al) ?_
  refine aK_c (ex lin_gF (cls_gF 3 rfl (Nat.le_of_ble_eq_true rfl))) ?_
  refine aK_c (ex lin_ii cls_ii) ?_
  refine aK_c (ex lin_al cls_al) ?_
  refine aK_c (ex lin_gI cls_gI) ?_
  refine aK_c (ex lin_bi cls_bi) ?_
  refine aK_c (ex lin_il cls_il) ?_
  refine aK_c (ex lin_iast cls_iast) ?_
  refine aK_c (ex lin_al cls_al) ?_
  refine aK_c (ex lin_gF (cls_gF 3 rfl (Nat.le_of_ble_eq_true rfl))) ?_
  refine aK_c (ex lin_ii cls_ii) ?_
  refine aK_c (ex lin_al cls_al) ?_
  refine aK_c (ex lin_gI cls_gI) ?_
  refine aK_c (ex lin_bi cls_bi) ?_
  refine aK_c (ex lin_ii cls_ii) ?_
  refine aK_c (ex lin_bi cls_bi) ?_
  refine aK_c (ex lin_il cls_il) ?_
  refine aK_c (ex lin_iast cls_iast) ?_
  refine aK_c (ex lin_al cls_al) ?_
  refine aK_c (ex lin_gF (cls_gF 3 rfl (Nat.le_of_ble_eq_true rfl))) ?_
  refine aK_c (ex lin_ii cls_ii) ?_
  refine aK_c (ex lin_al cls_al) ?_
  refine aK_c (ex lin_gI cls_gI) ?_
  refine aK_c (ex lin_bi cls_bi) ?_
  refine aK_c (ex lin_ii cls_ii) ?_
  refine aK_c (ex lin_bi cls_bi) ?_
  refine aK_c (ex lin_ii cls_ii) ?_
  refine aK_c (ex lin_iast cls_iast) ?_
  refine aK_c (ex lin_al cls_al) ?_
  refine aK_c (ex lin_dup cls_dup) ?_
  refine aK_c (ex lin_gI cls_gI) ?_
  refine aK_c (ex lin_ii cls_ii) ?_
  refine aK_c (ex lin_bi cls_bi) ?_
  refine aK_c (ex lin_pI cls_pI) ?_
  refine aK_c (ex lin_al cls_al) ?_
  refine aK_c (ex lin_gI cls_gI) ?_
  refine aK_c (ex lin_ii cls_ii) ?_
  refine aK_c (ex lin_bi cls_bi) ?_
  refine aK_c (ex lin_ri cls_ri) ?_
  exact aK_n
theorem zX5_judge : aCC CX5_judge := aCC.of kX5_judge
theorem kX5_file : aKl tX5_file := by
  unfold tX5_file
  refine aK_c (ex lin_il cls_il) ?_
  refine aK_c (ex lin_ii cls_ii) ?_
  refine aK_c (ex lin_ii cls_ii) ?_
  refine aK_c (ex lin_cS (cls_cS zX5_in)) ?_
  refine aK_c (ex lin_if cls_if) ?_
  refine aK_c (ex lin_il cls_il) ?_
  refine aK_c (ex lin_ii cls_ii) ?_
  refine aK_c (ex lin_ii cls_ii) ?_
  refine aK_c (ex lin_cS (cls_cS zX5_in)) ?_
  refine aK_c (ex lin_if cls_if) ?_
  refine aK_c (ex lin_ii cls_ii) ?_
  refine aK_c (ex lin_ri cls_ri) ?_
  refine aK_c (ex lin_ii cls_ii) ?_
  refine aK_c (ex lin_is cls_is) ?_
  refine aK_c (ex lin_il cls_il) ?_
  refine aK_c (ex lin_ii cls_ii) ?_
  refine aK_c (ex lin_ic cls_ic) ?_
  refine aK_c (ex lin_al cls_al) ?_
  refine aK_c (ex lin_il cls_il) ?_
  refine aK_c (ex lin_cV (cls_cV zX5_isThere)) ?_
  refine aK_c (ex lin_if cls_if) ?_
  refine aK_c (ex lin_inc cls_inc) ?_
  refine aK_c (ex lin_go cls_go) ?_
  refine aK_c (ex lin_il cls_il) ?_
  refine aK_c (ex lin_ii cls_ii) ?_
  refine aK_c (ex lin_ic cls_ic) ?_
  refine aK_c (ex lin_ii cls_ii) ?_
  refine aK_c (ex lin_ri cls_ri) ?_
  refine aK_c (ex lin_al cls_al) ?_
  refine aK_c (ex lin_gF (cls_gF 4 rfl (Nat.le_of_ble_eq_true rfl))) ?_
  refine aK_c (ex lin_ii cls_ii) ?_
  refine aK_c (ex lin_il cls_il) ?_
  refine aK_c (ex lin_bi cls_bi) ?_
  refine aK_c (ex lin_il cls_il) ?_
  refine aK_c (ex lin_iast cls_iast) ?_
  refine aK_c (ex lin_al cls_al) ?_
  refine aK_c (ex lin_gF (cls_gF 4 rfl (Nat.le_of_ble_eq_true rfl))) ?_
  refine aK_c (ex lin_ii cls_ii) ?_
  refine aK_c (ex lin_il cls_il) ?_
  refine aK_c (ex lin_bi cls_bi) ?_
  refine aK_c (ex lin_ii cls_ii) ?_
  refine aK_c (ex lin_bi cls_bi) ?_
  refine aK_c (ex lin_il cls_il) ?_
  refine aK_c (ex lin_iast cls_iast) ?_
  refine aK_c (ex lin_al cls_al) ?_
  refine aK_c (ex lin_gF (cls_gF 4 rfl (Nat.le_of_ble_eq_true rfl))) ?_
  refine aK_c (ex lin_ii cls_ii) ?_
  refine aK_c (ex lin_il cls_il) ?_
  refine aK_c (ex lin_bi cls_bi) ?_
  refine aK_c (ex lin_ii cls_ii) ?_
  refine aK_c (ex lin_bi cls_bi) ?_
  refine aK_c (ex lin_ii cls_ii) ?_
  refine aK_c (ex lin_iast cls_iast) ?_
  refine aK_c (ex lin_il cls_il) ?_
  refine aK_c (ex lin_ri cls_ri) ?_
  exact aK_n
theorem zX5_file : aCC CX5_file := aCC.of kX5_file
theorem kX5_put : aKl tX5_put := by
  unfold tX5_put
  refine aK_c (ex lin_al cls_al) ?_
  refine aK_c (ex lin_il cls_il) ?_
  refine aK_c (ex lin_cV (cls_cV zX5_isOne)) ?_
  refine aK_c (ex lin_if cls_if) ?_
  refine aK_c (ex lin_ii cls_ii) ?_
  refine aK_c (ex lin_ri cls_ri) ?_
  refine aK_c (ex lin_il cls_il) ?_
  refine aK_c (ex lin_ii cls_ii) ?_
  refine aK_c (ex lin_ii cls_ii) ?_
  refine aK_c (ex lin_cS (cls_cS zX5_in)) ?_
  refine aK_c (ex lin_if cls_if) ?_
  refine aK_c (ex lin_il cls_il) ?_
  refine aK_c (ex lin_ii cls_ii) ?_
  refine aK_c (ex lin_il cls_il) ?_
  refine aK_c (ex lin_if cls_if) ?_
  refine aK_c (ex lin_ii cls_ii) ?_
  refine aK_c (ex lin_go cls_go) ?_
  refine aK_c (ex lin_ii cls_ii) ?_
  refine aK_c (ex lin_cS (cls_cS zX5_in)) ?_
  refine aK_c (ex lin_if cls_if) ?_
  refine aK_c (ex lin_ii cls_ii) ?_
  refine aK_c (ex lin_ri cls_ri) ?_
  refine aK_c (ex lin_al cls_al) ?_
  refine aK_c (ex lin_gF (cls_gF 3 rfl (Nat.le_of_ble_eq_true rfl))) ?_
  refine aK_c (ex lin_ii cls_ii) ?_
  refine aK_c (ex lin_il cls_il) ?_
  refine aK_c (ex lin_bi cls_bi) ?_
  refine aK_c (ex lin_il cls_il) ?_
  refine aK_c (ex lin_bi cls_bi) ?_
  refine aK_c (ex lin_iald cls_iald) ?_
  refine aK_c (ex lin_is cls_is) ?_
  refine aK_c (ex lin_al cls_al) ?_
  refine aK_c (ex lin_gF (cls_gF 3 rfl (Nat.le_of_ble_eq_true rfl))) ?_
  refine aK_c (ex lin_ii cls_ii) ?_
  refine aK_c (ex lin_il cls_il) ?_
  refine aK_c (ex lin_bi cls_bi) ?_
  refine aK_c (ex lin_il cls_il) ?_
  refine aK_c (ex lin_bi cls_bi) ?_
  refine aK_c (ex lin_il cls_il) ?_
  refine aK_c (ex lin_iast cls_iast) ?_
  refine aK_c (ex lin_il cls_il) ?_
  refine aK_c (ex lin_ri cls_ri) ?_
  exact aK_n
theorem zX5_put : aCC CX5_put := aCC.of kX5_put
theorem kX5_may : aKl tX5_may := by
  unfold tX5_may
  refine aK_c (ex lin_al cls_al) ?_
  refine aK_c (ex lin_gF (cls_gF 4 rfl (Nat.le_of_ble_eq_true rfl))) ?_
  refine aK_c (ex lin_ii cls_ii) ?_
  refine aK_c (ex lin_il cls_il) ?_
  refine aK_c (ex lin_bi cls_bi) ?_
  refine aK_c (ex lin_iald cls_iald) ?_
  refine aK_c (ex lin_is cls_is) ?_
  refine aK_c (ex lin_il cls_il) ?_
  refine aK_c (ex lin_al cls_al) ?_
  refine aK_c (ex lin_gF (cls_gF 3 rfl (Nat.le_of_ble_eq_true rfl))) ?_
  refine aK_c (ex lin_ii cls_ii) ?_
  refine aK_c (ex lin_il cls_il) ?_
  refine aK_c (ex lin_bi cls_bi) ?_
  refine aK_c (ex lin_iald cls_iald) ?_
  refine aK_c (ex lin_ii cls_ii) ?_
  refine aK_c (ex lin_bi cls_bi) ?_
  refine aK_c (ex lin_bi cls_bi) ?_
  refine aK_c (ex lin_cS (cls_cS zX5_onesOf)) ?_
  refine aK_c (ex lin_is cls_is) ?_
  refine aK_c (ex lin_al cls_al) ?_
  refine aK_c (ex lin_ii cls_ii) ?_
  refine aK_c (ex lin_il cls_il) ?_
  refine aK_c (ex lin_il cls_il) ?_
  refine aK_c (ex lin_cV (cls_cV zX5_asksOf)) ?_
  refine aK_c (ex lin_is cls_is) ?_
  refine aK_c (ex lin_al cls_al) ?_
  refine aK_c (ex lin_gF (cls_gF 3 rfl (Nat.le_of_ble_eq_true rfl))) ?_
  refine aK_c (ex lin_ii cls_ii) ?_
  refine aK_c (ex lin_il cls_il) ?_
  refine aK_c (ex lin_bi cls_bi) ?_
  refine aK_c (ex lin_ii cls_ii) ?_
  refine aK_c (ex lin_bi cls_bi) ?_
  refine aK_c (ex lin_iald cls_iald) ?_
  refine aK_c (ex lin_is cls_is) ?_
  refine aK_c (ex lin_al cls_al) ?_
  refine aK_c (ex lin_gI cls_gI) ?_
  refine aK_c (ex lin_ii cls_ii) ?_
  refine aK_c (ex lin_rm cls_rm) ?_
  refine aK_c (ex lin_al cls_al) ?_
  refine aK_c (ex lin_gF (cls_gF 2 rfl (Nat.le_of_ble_eq_true rfl))) ?_
  refine aK_c (ex lin_il cls_il) ?_
  refine aK_c (ex lin_iald cls_iald) ?_
  refine aK_c (ex lin_ic cls_ic) ?_
  refine aK_c (ex lin_ii cls_ii) ?_
  refine aK_c (ex lin_go cls_go) ?_
  refine aK_c (ex lin_ii cls_ii) ?_
  refine aK_c (ex lin_is cls_is) ?_
  refine aK_c (ex lin_al cls_al) ?_
  refine aK_c (ex lin_gF (cls_gF 1 rfl (Nat.le_of_ble_eq_true rfl))) ?_
  refine aK_c (ex lin_il cls_il) ?_
  refine aK_c (ex lin_iald cls_iald) ?_
  refine aK_c (ex lin_sw cls_sw) ?_
  refine aK_c (ex lin_il cls_il) ?_
  refine aK_c (ex lin_ii cls_ii) ?_
  refine aK_c (ex lin_ic cls_ic) ?_
  refine aK_c (ex lin_il cls_il) ?_
  refine aK_c (ex lin_il cls_il) ?_
  refine aK_c (ex lin_ic cls_ic) ?_
  refine aK_c (ex lin_ii cls_ii) ?_
  refine aK_c (ex lin_go cls_go) ?_
  refine aK_c (ex lin_ii cls_ii) ?_
  refine aK_c (ex lin_rz cls_rz) ?_
  refine aK_c (ex lin_il cls_il) ?_
  refine aK_c (ex lin_if cls_if) ?_
  refine aK_c (ex lin_il cls_il) ?_
  refine aK_c (ex lin_il cls_il) ?_
  refine aK_c (ex lin_ic cls_ic) ?_
  refine aK_c (ex lin_il cls_il) ?_
  refine aK_c (ex lin_if cls_if) ?_
  refine aK_c (ex lin_ii cls_ii) ?_
  refine aK_c (ex lin_go cls_go) ?_
  refine aK_c (ex lin_ii cls_ii) ?_
  refine aK_c (ex lin_rz cls_rz) ?_
  refine aK_c (ex lin_il cls_il) ?_
  refine aK_c (ex lin_ii cls_ii) ?_
  refine aK_c (ex lin_al cls_al) ?_
  refine aK_c (ex lin_gF (cls_gF 2 rfl (Nat.le_of_ble_eq_true rfl))) ?_
  refine aK_c (ex lin_il cls_il) ?_
  refine aK_c (ex lin_iald cls_iald) ?_
  refine aK_c (ex lin_bi cls_bi) ?_
  refine aK_c (ex lin_ic cls_ic) ?_
  refine aK_c (ex lin_il cls_il) ?_
  refine aK_c (ex lin_ii cls_ii) ?_
  refine aK_c (ex lin_ic cls_ic) ?_
  refine aK_c (ex lin_il cls_il) ?_
  refine aK_c (ex lin_il cls_il) ?_
  refine aK_c (ex lin_ic cls_ic) ?_
  refine aK_c (ex lin_il cls_il) ?_
  refine aK_c (ex lin_cS (cls_cS zX5_onesOf)) ?_
  refine aK_c (ex lin_ii cls_ii) ?_
  refine aK_c (ex lin_ic cls_ic) ?_
  refine aK_c (ex lin_ii cls_ii) ?_
  refine aK_c (ex lin_go cls_go) ?_
  refine aK_c (ex lin_ii cls_ii) ?_
  refine aK_c (ex lin_rz cls_rz) ?_
  refine aK_c (ex lin_il cls_il) ?_
  refine aK_c (ex lin_if cls_if) ?_
  refine aK_c (ex lin_il cls_il) ?_
  refine aK_c (ex lin_ii cls_ii) ?_
  refine aK_c (ex lin_il cls_il) ?_
  refine aK_c (ex lin_bi cls_bi) ?_
  refine aK_c (ex lin_ic cls_ic) ?_
  refine aK_c (ex lin_il cls_il) ?_
  refine aK_c (ex lin_if cls_if) ?_
  refine aK_c (ex lin_ii cls_ii) ?_
  refine aK_c (ex lin_go cls_go) ?_
  refine aK_c (ex lin_ii cls_ii) ?_
  refine aK_c (ex lin_rz cls_rz) ?_
  refine aK_c (ex lin_al cls_al) ?_
  refine aK_c (ex lin_gI cls_gI) ?_
  refine aK_c (ex lin_ii cls_ii) ?_
  refine aK_c (ex lin_rm cls_rm) ?_
  refine aK_c (ex lin_al cls_al) ?_
  refine aK_c (ex lin_gF (cls_gF 2 rfl (Nat.le_of_ble_eq_true rfl))) ?_
  refine aK_c (ex lin_il cls_il) ?_
  refine aK_c (ex lin_iald cls_iald) ?_
  refine aK_c (ex lin_ic cls_ic) ?_
  refine aK_c (ex lin_ii cls_ii) ?_
  refine aK_c (ex lin_go cls_go) ?_
  refine aK_c (ex lin_ii cls_ii) ?_
  refine aK_c (ex lin_rz cls_rz) ?_
  refine aK_c (ex lin_il cls_il) ?_
  refine aK_c (ex lin_if cls_if) ?_
  refine aK_c (ex lin_il cls_il) ?_
  refine aK_c (ex lin_il cls_il) ?_
  refine aK_c (ex lin_ic cls_ic) ?_
  refine aK_c (ex lin_ii cls_ii) ?_
  refine aK_c (ex lin_go cls_go) ?_
  refine aK_c (ex lin_ii cls_ii) ?_
  refine aK_c (ex lin_rz cls_rz) ?_
  exact aK_n
theorem zX5_may : aCC CX5_may := aCC.of kX5_may
theorem kX5_takesOf : aKl tX5_takesOf := by
  unfold tX5_takesOf
  refine aK_c (ex lin_al cls_al) ?_
  refine aK_c (ex lin_ii cls_ii) ?_
  refine aK_c (ex lin_il cls_il) ?_
  refine aK_c (ex lin_il cls_il) ?_
  refine aK_c (ex lin_cV (cls_cV zX5_asksOf)) ?_
  refine aK_c (ex lin_is cls_is) ?_
  refine aK_c (ex lin_al cls_al) ?_
  refine aK_c (ex lin_gF (cls_gF 1 rfl (Nat.le_of_ble_eq_true rfl))) ?_
  refine aK_c (ex lin_il cls_il) ?_
  refine aK_c (ex lin_iald cls_iald) ?_
  refine aK_c (ex lin_ii cls_ii) ?_
  refine aK_c (ex lin_ic cls_ic) ?_
  refine aK_c (ex lin_al cls_al) ?_
  refine aK_c (ex lin_gF (cls_gF 1 rfl (Nat.le_of_ble_eq_true rfl))) ?_
  refine aK_c (ex lin_il cls_il) ?_
  refine aK_c (ex lin_iald cls_iald) ?_
  refine aK_c (ex lin_ii cls_ii) ?_
  refine aK_c (ex lin_ic cls_ic) ?_
  refine aK_c (ex lin_il cls_il) ?_
  refine aK_c (ex lin_al cls_al) ?_
  refine aK_c (ex lin_gF (cls_gF 2 rfl (Nat.le_of_ble_eq_true rfl))) ?_
  refine aK_c (ex lin_il cls_il) ?_
  refine aK_c (ex lin_iald cls_iald) ?_
  refine aK_c (ex lin_bi cls_bi) ?_
  refine aK_c (ex lin_go cls_go) ?_
  refine aK_c (ex lin_al cls_al) ?_
  refine aK_c (ex lin_gF (cls_gF 1 rfl (Nat.le_of_ble_eq_true rfl))) ?_
  refine aK_c (ex lin_il cls_il) ?_
  refine aK_c (ex lin_iald cls_iald) ?_
  refine aK_c (ex lin_ii cls_ii) ?_
  refine aK_c (ex lin_ic cls_ic) ?_
  refine aK_c (ex lin_ii cls_ii) ?_
  refine aK_c (ex lin_il cls_il) ?_
  refine aK_c (ex lin_bi cls_bi) ?_
  refine aK_c (ex lin_go cls_go) ?_
  refine aK_c (ex lin_il cls_il) ?_
  refine aK_c (ex lin_is cls_is) ?_
  refine aK_c (ex lin_il cls_il) ?_
  refine aK_c (ex lin_ii cls_ii) ?_
  refine aK_c (ex lin_ic cls_ic) ?_
  refine aK_c (ex lin_ii cls_ii) ?_
  refine aK_c (ex lin_go cls_go) ?_
  refine aK_c (ex lin_il cls_il) ?_
  refine aK_c (ex lin_ri cls_ri) ?_
  exact aK_n
theorem zX5_takesOf : aCC CX5_takesOf := aCC.of kX5_takesOf
theorem kX5_judgesOf : aKl tX5_judgesOf := by
  unfold tX5_judgesOf
  refine aK_c (ex lin_al cls_al) ?_
  refine aK_c (ex lin_ii cls_ii) ?_
  refine aK_c (ex lin_il cls_il) ?_
  refine aK_c (ex lin_il cls_il) ?_
  refine aK_c (ex lin_cV (cls_cV zX5_asksOf)) ?_
  refine aK_c (ex lin_is cls_is) ?_
  refine aK_c (ex lin_al cls_al) ?_
  refine aK_c (ex lin_gF (cls_gF 1 rfl (Nat.le_of_ble_eq_true rfl))) ?_
  refine aK_c (ex lin_il cls_il) ?_
  refine aK_c (ex lin_iald cls_iald) ?_
  refine aK_c (ex lin_sw cls_sw) ?_
  refine aK_c (ex lin_il cls_il) ?_
  refine aK_c (ex lin_al cls_al) ?_
  refine aK_c (ex lin_gF (cls_gF 2 rfl (Nat.le_of_ble_eq_true rfl))) ?_
  refine aK_c (ex lin_il cls_il) ?_
  refine aK_c (ex lin_iald cls_iald) ?_
  refine aK_c (ex lin_bi cls_bi) ?_
  refine aK_c (ex lin_ri cls_ri) ?_
  refine aK_c (ex lin_il cls_il) ?_
  refine aK_c (ex lin_ii cls_ii) ?_
  refine aK_c (ex lin_dv cls_dv) ?_
  refine aK_c (ex lin_ri cls_ri) ?_
  refine aK_c (ex lin_il cls_il) ?_
  refine aK_c (ex lin_ui cls_ui) ?_
  refine aK_c (ex lin_ri cls_ri) ?_
  refine aK_c (ex lin_il cls_il) ?_
  refine aK_c (ex lin_ri cls_ri) ?_
  exact aK_n
theorem zX5_judgesOf : aCC CX5_judgesOf := aCC.of kX5_judgesOf
theorem kX5_mayHear : aKl tX5_mayHear := by
  unfold tX5_mayHear
  refine aK_c (ex lin_ii cls_ii) ?_
  refine aK_c (ex lin_is cls_is) ?_
  refine aK_c (ex lin_ii cls_ii) ?_
  refine aK_c (ex lin_is cls_is) ?_
  refine aK_c (ex lin_il cls_il) ?_
  refine aK_c (ex lin_ii cls_ii) ?_
  refine aK_c (ex lin_ic cls_ic) ?_
  refine aK_c (ex lin_al cls_al) ?_
  refine aK_c (ex lin_il cls_il) ?_
  refine aK_c (ex lin_cV (cls_cV zX5_isThere)) ?_
  refine aK_c (ex lin_if cls_if) ?_
  refine aK_c (ex lin_il cls_il) ?_
  refine aK_c (ex lin_al cls_al) ?_
  refine aK_c (ex lin_il cls_il) ?_
  refine aK_c (ex lin_il cls_il) ?_
  refine aK_c (ex lin_cV (cls_cV zX5_may)) ?_
  refine aK_c (ex lin_if cls_if) ?_
  refine aK_c (ex lin_ii cls_ii) ?_
  refine aK_c (ex lin_il cls_il) ?_
  refine aK_c (ex lin_bi cls_bi) ?_
  refine aK_c (ex lin_go cls_go) ?_
  refine aK_c (ex lin_ii cls_ii) ?_
  refine aK_c (ex lin_bi cls_bi) ?_
  refine aK_c (ex lin_is cls_is) ?_
  refine aK_c (ex lin_inc cls_inc) ?_
  refine aK_c (ex lin_go cls_go) ?_
  refine aK_c (ex lin_il cls_il) ?_
  refine aK_c (ex lin_ri cls_ri) ?_
  exact aK_n
theorem zX5_mayHear : aCC CX5_mayHear := aCC.of kX5_mayHear
theorem kX5_whoMay : aKl tX5_whoMay := by
  unfold tX5_whoMay
  refine aK_c (ex lin_ii cls_ii) ?_
  refine aK_c (ex lin_is cls_is) ?_
  refine aK_c (ex lin_ii cls_ii) ?_
  refine aK_c (ex lin_is cls_is) ?_
  refine aK_c (ex lin_il cls_il) ?_
  refine aK_c (ex lin_al cls_al) ?_
  refine aK_c (ex lin_gI cls_gI) ?_
  refine aK_c (ex lin_ic cls_ic) ?_
  refine aK_c (ex lin_il cls_il) ?_
  refine aK_c (ex lin_al cls_al) ?_
  refine aK_c (ex lin_il cls_il) ?_
  refine aK_c (ex lin_il cls_il) ?_
  refine aK_c (ex lin_cV (cls_cV zX5_may)) ?_
  refine aK_c (ex lin_if cls_if) ?_
  refine aK_c (ex lin_ii cls_ii) ?_
  refine aK_c (ex lin_il cls_il) ?_
  refine aK_c (ex lin_bi cls_bi) ?_
  refine aK_c (ex lin_go cls_go) ?_
  refine aK_c (ex lin_ii cls_ii) ?_
  refine aK_c (ex lin_bi cls_bi) ?_
  refine aK_c (ex lin_is cls_is) ?_
  refine aK_c (ex lin_inc cls_inc) ?_
  refine aK_c (ex lin_go cls_go) ?_
  refine aK_c (ex lin_il cls_il) ?_
  refine aK_c (ex lin_ri cls_ri) ?_
  exact aK_n
theorem zX5_whoMay : aCC CX5_whoMay := aCC.of kX5_whoMay
theorem kX5_told : aKl tX5_told := by
  unfold tX5_told
  refine aK_c (ex lin_al cls_al) ?_
  refine aK_c (ex lin_il cls_il) ?_
  refine aK_c (ex lin_cV (cls_cV zX5_isOne)) ?_
  refine aK_c (ex lin_if cls_if) ?_
  refine aK_c (ex lin_ii cls_ii) ?_
  refine aK_c (ex lin_ri cls_ri) ?_
  refine aK_c (ex lin_il cls_il) ?_
  refine aK_c (ex lin_sw cls_sw) ?_
  refine aK_c (ex lin_al cls_al) ?_
  refine aK_c (ex lin_gF (cls_gF 3 rfl (Nat.le_of_ble_eq_true rfl))) ?_
  refine aK_c (ex lin_ii cls_ii) ?_
  refine aK_c (ex lin_il cls_il) ?_
  refine aK_c (ex lin_bi cls_bi) ?_
  refine aK_c (ex lin_il cls_il) ?_
  refine aK_c (ex lin_bi cls_bi) ?_
  refine aK_c (ex lin_iald cls_iald) ?_
  refine aK_c (ex lin_ri cls_ri) ?_
  refine aK_c (ex lin_al cls_al) ?_
  refine aK_c (ex lin_gF (cls_gF 1 rfl (Nat.le_of_ble_eq_true rfl))) ?_
  refine aK_c (ex lin_il cls_il) ?_
  refine aK_c (ex lin_iald cls_iald) ?_
  refine aK_c (ex lin_ri cls_ri) ?_
  refine aK_c (ex lin_al cls_al) ?_
  refine aK_c (ex lin_gF (cls_gF 2 rfl (Nat.le_of_ble_eq_true rfl))) ?_
  refine aK_c (ex lin_il cls_il) ?_
  refine aK_c (ex lin_iald cls_iald) ?_
  refine aK_c (ex lin_ri cls_ri) ?_
  refine aK_c (ex lin_al cls_al) ?_
  refine aK_c (ex lin_il cls_il) ?_
  refine aK_c (ex lin_cV (cls_cV zX5_mayHear)) ?_
  refine aK_c (ex lin_ri cls_ri) ?_
  refine aK_c (ex lin_ii cls_ii) ?_
  refine aK_c (ex lin_ri cls_ri) ?_
  exact aK_n
theorem zX5_told : aCC CX5_told := aCC.of kX5_told
theorem kX5_paper : aKl tX5_paper := by
  unfold tX5_paper
  refine aK_c (ex lin_al cls_al) ?_
  refine aK_c (ex lin_il cls_il) ?_
  refine aK_c (ex lin_cV (cls_cV zX5_isThere)) ?_
  refine aK_c (ex lin_if cls_if) ?_
  refine aK_c (ex lin_ii cls_ii) ?_
  refine aK_c (ex lin_ri cls_ri) ?_
  refine aK_c (ex lin_il cls_il) ?_
  refine aK_c (ex lin_ii cls_ii) ?_
  refine aK_c (ex lin_ii cls_ii) ?_
  refine aK_c (ex lin_cS (cls_cS zX5_in)) ?_
  refine aK_c (ex lin_if cls_if) ?_
  refine aK_c (ex lin_al cls_al) ?_
  refine aK_c (ex lin_gF (cls_gF 4 rfl (Nat.le_of_ble_eq_true rfl))) ?_
  refine aK_c (ex lin_ii cls_ii) ?_
  refine aK_c (ex lin_il cls_il) ?_
  refine aK_c (ex lin_bi cls_bi) ?_
  refine aK_c (ex lin_il cls_il) ?_
  refine aK_c (ex lin_bi cls_bi) ?_
  refine aK_c (ex lin_iald cls_iald) ?_
  refine aK_c (ex lin_go cls_go) ?_
  refine aK_c (ex lin_il cls_il) ?_
  refine aK_c (ex lin_ii cls_ii) ?_
  refine aK_c (ex lin_ic cls_ic) ?_
  refine aK_c (ex lin_al cls_al) ?_
  refine aK_c (ex lin_il cls_il) ?_
  refine aK_c (ex lin_cV (cls_cV zX5_whoMay)) ?_
  refine aK_c (ex lin_go cls_go) ?_
  refine aK_c (ex lin_ii cls_ii) ?_
  refine aK_c (ex lin_ri cls_ri) ?_
  exact aK_n
theorem zX5_paper : aCC CX5_paper := aCC.of kX5_paper
theorem kX5_hearing : aKl tX5_hearing := by
  unfold tX5_hearing
  refine aK_c (ex lin_al cls_al) ?_
  refine aK_c (ex lin_il cls_il) ?_
  refine aK_c (ex lin_cV (cls_cV zX5_isOne)) ?_
  refine aK_c (ex lin_if cls_if) ?_
  refine aK_c (ex lin_ii cls_ii) ?_
  refine aK_c (ex lin_ri cls_ri) ?_
  refine aK_c (ex lin_al cls_al) ?_
  refine aK_c (ex lin_il cls_il) ?_
  refine aK_c (ex lin_cV (cls_cV zX5_isThere)) ?_
  refine aK_c (ex lin_if cls_if) ?_
  refine aK_c (ex lin_ii cls_ii) ?_
  refine aK_c (ex lin_ri cls_ri) ?_
  refine aK_c (ex lin_il cls_il) ?_
  refine aK_c (ex lin_sw cls_sw) ?_
  refine aK_c (ex lin_al cls_al) ?_
  refine aK_c (ex lin_il cls_il) ?_
  refine aK_c (ex lin_il cls_il) ?_
  refine aK_c (ex lin_cV (cls_cV zX5_may)) ?_
  refine aK_c (ex lin_if cls_if) ?_
  refine aK_c (ex lin_ii cls_ii) ?_
  refine aK_c (ex lin_go cls_go) ?_
  refine aK_c (ex lin_ii cls_ii) ?_
  refine aK_c (ex lin_ri cls_ri) ?_
  refine aK_c (ex lin_al cls_al) ?_
  refine aK_c (ex lin_il cls_il) ?_
  refine aK_c (ex lin_il cls_il) ?_
  refine aK_c (ex lin_cV (cls_cV zX5_takesOf)) ?_
  refine aK_c (ex lin_ri cls_ri) ?_
  refine aK_c (ex lin_ii cls_ii) ?_
  refine aK_c (ex lin_al cls_al) ?_
  refine aK_c (ex lin_il cls_il) ?_
  refine aK_c (ex lin_il cls_il) ?_
  refine aK_c (ex lin_cV (cls_cV zX5_judgesOf)) ?_
  refine aK_c (ex lin_bi cls_bi) ?_
  refine aK_c (ex lin_ri cls_ri) ?_
  refine aK_c (ex lin_ii cls_ii) ?_
  refine aK_c (ex lin_ri cls_ri) ?_
  exact aK_n
theorem zX5_hearing : aCC CX5_hearing := aCC.of kX5_hearing
theorem kX5_can : aKl tX5_can := by
  unfold tX5_can
  refine aK_c (ex lin_al cls_al) ?_
  refine aK_c (ex lin_gF (cls_gF 3 rfl (Nat.le_of_ble_eq_true rfl))) ?_
  refine aK_c (ex lin_ii cls_ii) ?_
  refine aK_c (ex lin_il cls_il) ?_
  refine aK_c (ex lin_bi cls_bi) ?_
  refine aK_c (ex lin_ii cls_ii) ?_
  refine aK_c (ex lin_bi cls_bi) ?_
  refine aK_c (ex lin_iald cls_iald) ?_
  refine aK_c (ex lin_if cls_if) ?_
  refine aK_c (ex lin_al cls_al) ?_
  refine aK_c (ex lin_il cls_il) ?_
  refine aK_c (ex lin_il cls_il) ?_
  refine aK_c (ex lin_cV (cls_cV zX5_may)) ?_
  refine aK_c (ex lin_if cls_if) ?_
  refine aK_c (ex lin_ii cls_ii) ?_
  refine aK_c (ex lin_go cls_go) ?_
  refine aK_c (ex lin_ii cls_ii) ?_
  refine aK_c (ex lin_rz cls_rz) ?_
  exact aK_n
theorem zX5_can : aCC CX5_can := aCC.of kX5_can
theorem kX5_hears : aKl tX5_hears := by
  unfold tX5_hears
  refine aK_c (ex lin_al cls_al) ?_
  refine aK_c (ex lin_il cls_il) ?_
  refine aK_c (ex lin_il cls_il) ?_
  refine aK_c (ex lin_cV (cls_cV zX5_judgesOf)) ?_
  refine aK_c (ex lin_is cls_is) ?_
  refine aK_c (ex lin_al cls_al) ?_
  refine aK_c (ex lin_il cls_il) ?_
  refine aK_c (ex lin_il cls_il) ?_
  refine aK_c (ex lin_cV (cls_cV zX5_takesOf)) ?_
  refine aK_c (ex lin_is cls_is) ?_
  refine aK_c (ex lin_al cls_al) ?_
  refine aK_c (ex lin_gF (cls_gF 3 rfl (Nat.le_of_ble_eq_true rfl))) ?_
  refine aK_c (ex lin_ii cls_ii) ?_
  refine aK_c (ex lin_il cls_il) ?_
  refine aK_c (ex lin_bi cls_bi) ?_
  refine aK_c (ex lin_iald cls_iald) ?_
  refine aK_c (ex lin_al cls_al) ?_
  refine aK_c (ex lin_gF (cls_gF 4 rfl (Nat.le_of_ble_eq_true rfl))) ?_
  refine aK_c (ex lin_ii cls_ii) ?_
  refine aK_c (ex lin_il cls_il) ?_
  refine aK_c (ex lin_bi cls_bi) ?_
  refine aK_c (ex lin_iald cls_iald) ?_
  refine aK_c (ex lin_bi cls_bi) ?_
  refine aK_c (ex lin_is cls_is) ?_
  refine aK_c (ex lin_al cls_al) ?_
  refine aK_c (ex lin_gF (cls_gF 3 rfl (Nat.le_of_ble_eq_true rfl))) ?_
  refine aK_c (ex lin_ii cls_ii) ?_
  refine aK_c (ex lin_il cls_il) ?_
  refine aK_c (ex lin_bi cls_bi) ?_
  refine aK_c (ex lin_ii cls_ii) ?_
  refine aK_c (ex lin_bi cls_bi) ?_
  refine aK_c (ex lin_il cls_il) ?_
  refine aK_c (ex lin_iast cls_iast) ?_
  refine aK_c (ex lin_al cls_al) ?_
  refine aK_c (ex lin_gF (cls_gF 3 rfl (Nat.le_of_ble_eq_true rfl))) ?_
  refine aK_c (ex lin_ii cls_ii) ?_
  refine aK_c (ex lin_il cls_il) ?_
  refine aK_c (ex lin_bi cls_bi) ?_
  refine aK_c (ex lin_dup2 cls_dup2) ?_
  refine aK_c (ex lin_iald cls_iald) ?_
  refine aK_c (ex lin_il cls_il) ?_
  refine aK_c (ex lin_il cls_il) ?_
  refine aK_c (ex lin_ui cls_ui) ?_
  refine aK_c (ex lin_bi cls_bi) ?_
  refine aK_c (ex lin_ii cls_ii) ?_
  refine aK_c (ex lin_bi cls_bi) ?_
  refine aK_c (ex lin_bi cls_bi) ?_
  refine aK_c (ex lin_iast cls_iast) ?_
  refine aK_c (ex lin_al cls_al) ?_
  refine aK_c (ex lin_gF (cls_gF 3 rfl (Nat.le_of_ble_eq_true rfl))) ?_
  refine aK_c (ex lin_ii cls_ii) ?_
  refine aK_c (ex lin_il cls_il) ?_
  refine aK_c (ex lin_bi cls_bi) ?_
  refine aK_c (ex lin_ii cls_ii) ?_
  refine aK_c (ex lin_bi cls_bi) ?_
  refine aK_c (ex lin_al cls_al) ?_
  refine aK_c (ex lin_gF (cls_gF 3 rfl (Nat.le_of_ble_eq_true rfl))) ?_
  refine aK_c (ex lin_ii cls_ii) ?_
  refine aK_c (ex lin_il cls_il) ?_
  refine aK_c (ex lin_bi cls_bi) ?_
  refine aK_c (ex lin_ii cls_ii) ?_
  refine aK_c (ex lin_bi cls_bi) ?_
  refine aK_c (ex lin_iald cls_iald) ?_
  refine aK_c (ex lin_il cls_il) ?_
  refine aK_c (ex lin_bi cls_bi) ?_
  refine aK_c (ex lin_ii cls_ii) ?_
  refine aK_c (ex lin_ii cls_ii) ?_
  refine aK_c (ex lin_cS (cls_cS zX5_within)) ?_
  refine aK_c (ex lin_iast cls_iast) ?_
  refine aK_c (ex lin_al cls_al) ?_
  refine aK_c (ex lin_gF (cls_gF 4 rfl (Nat.le_of_ble_eq_true rfl))) ?_
  refine aK_c (ex lin_ii cls_ii) ?_
  refine aK_c (ex lin_il cls_il) ?_
  refine aK_c (ex lin_bi cls_bi) ?_
  refine aK_c (ex lin_ii cls_ii) ?_
  refine aK_c (ex lin_iast cls_iast) ?_
  refine aK_c (ex lin_al cls_al) ?_
  refine aK_c (ex lin_al cls_al) ?_
  refine aK_c (ex lin_gI cls_gI) ?_
  refine aK_c (ex lin_ii cls_ii) ?_
  refine aK_c (ex lin_bi cls_bi) ?_
  refine aK_c (ex lin_ii cls_ii) ?_
  refine aK_c (ex lin_ii cls_ii) ?_
  refine aK_c (ex lin_cS (cls_cS zX5_within)) ?_
  refine aK_c (ex lin_pI cls_pI) ?_
  refine aK_c (ex lin_il cls_il) ?_
  refine aK_c (ex lin_ri cls_ri) ?_
  exact aK_n
theorem zX5_hears : aCC CX5_hears := aCC.of kX5_hears
theorem kX5_hear : aKl tX5_hear := by
  unfold tX5_hear
  refine aK_c (ex lin_al cls_al) ?_
  refine aK_c (ex lin_il cls_il) ?_
  refine aK_c (ex lin_cV (cls_cV zX5_isOne)) ?_
  refine aK_c (ex lin_if cls_if) ?_
  refine aK_c (ex lin_ii cls_ii) ?_
  refine aK_c (ex lin_ri cls_ri) ?_
  refine aK_c (ex lin_al cls_al) ?_
  refine aK_c (ex lin_il cls_il) ?_
  refine aK_c (ex lin_cV (cls_cV zX5_isThere)) ?_
  refine aK_c (ex lin_if cls_if) ?_
  refine aK_c (ex lin_ii cls_ii) ?_
  refine aK_c (ex lin_ri cls_ri) ?_
  refine aK_c (ex lin_al cls_al) ?_
  refine aK_c (ex lin_il cls_il) ?_
  refine aK_c (ex lin_il cls_il) ?_
  refine aK_c (ex lin_cV (cls_cV zX5_can)) ?_
  refine aK_c (ex lin_if cls_if) ?_
  refine aK_c (ex lin_ii cls_ii) ?_
  refine aK_c (ex lin_al cls_al) ?_
  refine aK_c (ex lin_il cls_il) ?_
  refine aK_c (ex lin_il cls_il) ?_
  refine aK_c (ex lin_cV (cls_cV zX5_hears)) ?_
  refine aK_c (ex lin_bi cls_bi) ?_
  refine aK_c (ex lin_go cls_go) ?_
  refine aK_c (ex lin_ii cls_ii) ?_
  refine aK_c (ex lin_ri cls_ri) ?_
  exact aK_n
theorem zX5_hear : aCC CX5_hear := aCC.of kX5_hear
theorem kX5_rob : aKl tX5_rob := by
  unfold tX5_rob
  refine aK_c (ex lin_al cls_al) ?_
  refine aK_c (ex lin_il cls_il) ?_
  refine aK_c (ex lin_cV (cls_cV zX5_isOne)) ?_
  refine aK_c (ex lin_if cls_if) ?_
  refine aK_c (ex lin_ii cls_ii) ?_
  refine aK_c (ex lin_ri cls_ri) ?_
  refine aK_c (ex lin_il cls_il) ?_
  refine aK_c (ex lin_ii cls_ii) ?_
  refine aK_c (ex lin_ii cls_ii) ?_
  refine aK_c (ex lin_cS (cls_cS zX5_in)) ?_
  refine aK_c (ex lin_if cls_if) ?_
  refine aK_c (ex lin_ii cls_ii) ?_
  refine aK_c (ex lin_ri cls_ri) ?_
  refine aK_c (ex lin_al cls_al) ?_
  refine aK_c (ex lin_gF (cls_gF 3 rfl (Nat.le_of_ble_eq_true rfl))) ?_
  refine aK_c (ex lin_ii cls_ii) ?_
  refine aK_c (ex lin_il cls_il) ?_
  refine aK_c (ex lin_bi cls_bi) ?_
  refine aK_c (ex lin_dup2 cls_dup2) ?_
  refine aK_c (ex lin_iald cls_iald) ?_
  refine aK_c (ex lin_il cls_il) ?_
  refine aK_c (ex lin_bi cls_bi) ?_
  refine aK_c (ex lin_iast cls_iast) ?_
  refine aK_c (ex lin_al cls_al) ?_
  refine aK_c (ex lin_gF (cls_gF 3 rfl (Nat.le_of_ble_eq_true rfl))) ?_
  refine aK_c (ex lin_ii cls_ii) ?_
  refine aK_c (ex lin_il cls_il) ?_
  refine aK_c (ex lin_bi cls_bi) ?_
  refine aK_c (ex lin_iald cls_iald) ?_
  refine aK_c (ex lin_ri cls_ri) ?_
  exact aK_n
theorem zX5_rob : aCC CX5_rob := aCC.of kX5_rob
theorem kX5_isHeard : aKl tX5_isHeard := by
  unfold tX5_isHeard
  refine aK_c (ex lin_ii cls_ii) ?_
  refine aK_c (ex lin_is cls_is) ?_
  refine aK_c (ex lin_il cls_il) ?_
  refine aK_c (ex lin_al cls_al) ?_
  refine aK_c (ex lin_gI cls_gI) ?_
  refine aK_c (ex lin_ic cls_ic) ?_
  refine aK_c (ex lin_al cls_al) ?_
  refine aK_c (ex lin_il cls_il) ?_
  refine aK_c (ex lin_il cls_il) ?_
  refine aK_c (ex lin_cV (cls_cV zX5_can)) ?_
  refine aK_c (ex lin_if cls_if) ?_
  refine aK_c (ex lin_al cls_al) ?_
  refine aK_c (ex lin_il cls_il) ?_
  refine aK_c (ex lin_il cls_il) ?_
  refine aK_c (ex lin_cV (cls_cV zX5_hears)) ?_
  refine aK_c (ex lin_pop cls_pop) ?_
  refine aK_c (ex lin_ii cls_ii) ?_
  refine aK_c (ex lin_rz cls_rz) ?_
  refine aK_c (ex lin_inc cls_inc) ?_
  refine aK_c (ex lin_go cls_go) ?_
  refine aK_c (ex lin_ii cls_ii) ?_
  refine aK_c (ex lin_rz cls_rz) ?_
  exact aK_n
theorem zX5_isHeard : aCC CX5_isHeard := aCC.of kX5_isHeard
theorem kX5_dayOf : aKl tX5_dayOf := by
  unfold tX5_dayOf
  refine aK_c (ex lin_ii cls_ii) ?_
  refine aK_c (ex lin_is cls_is) ?_
  refine aK_c (ex lin_ii cls_ii) ?_
  refine aK_c (ex lin_is cls_is) ?_
  refine aK_c (ex lin_il cls_il) ?_
  refine aK_c (ex lin_al cls_al) ?_
  refine aK_c (ex lin_gI cls_gI) ?_
  refine aK_c (ex lin_ic cls_ic) ?_
  refine aK_c (ex lin_al cls_al) ?_
  refine aK_c (ex lin_gF (cls_gF 3 rfl (Nat.le_of_ble_eq_true rfl))) ?_
  refine aK_c (ex lin_ii cls_ii) ?_
  refine aK_c (ex lin_il cls_il) ?_
  refine aK_c (ex lin_bi cls_bi) ?_
  refine aK_c (ex lin_ii cls_ii) ?_
  refine aK_c (ex lin_bi cls_bi) ?_
  refine aK_c (ex lin_dup2 cls_dup2) ?_
  refine aK_c (ex lin_iald cls_iald) ?_
  refine aK_c (ex lin_al cls_al) ?_
  refine aK_c (ex lin_gF (cls_gF 3 rfl (Nat.le_of_ble_eq_true rfl))) ?_
  refine aK_c (ex lin_ii cls_ii) ?_
  refine aK_c (ex lin_il cls_il) ?_
  refine aK_c (ex lin_bi cls_bi) ?_
  refine aK_c (ex lin_ii cls_ii) ?_
  refine aK_c (ex lin_bi cls_bi) ?_
  refine aK_c (ex lin_iald cls_iald) ?_
  refine aK_c (ex lin_if cls_if) ?_
  refine aK_c (ex lin_ii cls_ii) ?_
  refine aK_c (ex lin_go cls_go) ?_
  refine aK_c (ex lin_ii cls_ii) ?_
  refine aK_c (ex lin_bi cls_bi) ?_
  refine aK_c (ex lin_iast cls_iast) ?_
  refine aK_c (ex lin_inc cls_inc) ?_
  refine aK_c (ex lin_go cls_go) ?_
  refine aK_c (ex lin_ii cls_ii) ?_
  refine aK_c (ex lin_is cls_is) ?_
  refine aK_c (ex lin_il cls_il) ?_
  refine aK_c (ex lin_ii cls_ii) ?_
  refine aK_c (ex lin_ic cls_ic) ?_
  refine aK_c (ex lin_al cls_al) ?_
  refine aK_c (ex lin_il cls_il) ?_
  refine aK_c (ex lin_cV (cls_cV zX5_isThere)) ?_
  refine aK_c (ex lin_if cls_if) ?_
  refine aK_c (ex lin_al cls_al) ?_
  refine aK_c (ex lin_il cls_il) ?_
  refine aK_c (ex lin_cV (cls_cV zX5_isHeard)) ?_
  refine aK_c (ex lin_if cls_if) ?_
  refine aK_c (ex lin_il cls_il) ?_
  refine aK_c (ex lin_ii cls_ii) ?_
  refine aK_c (ex lin_il cls_il) ?_
  refine aK_c (ex lin_bi cls_bi) ?_
  refine aK_c (ex lin_bi cls_bi) ?_
  refine aK_c (ex lin_is cls_is) ?_
  refine aK_c (ex lin_go cls_go) ?_
  refine aK_c (ex lin_al cls_al) ?_
  refine aK_c (ex lin_gF (cls_gF 4 rfl (Nat.le_of_ble_eq_true rfl))) ?_
  refine aK_c (ex lin_ii cls_ii) ?_
  refine aK_c (ex lin_il cls_il) ?_
  refine aK_c (ex lin_bi cls_bi) ?_
  refine aK_c (ex lin_ii cls_ii) ?_
  refine aK_c (ex lin_bi cls_bi) ?_
  refine aK_c (ex lin_al cls_al) ?_
  refine aK_c (ex lin_gF (cls_gF 4 rfl (Nat.le_of_ble_eq_true rfl))) ?_
  refine aK_c (ex lin_ii cls_ii) ?_
  refine aK_c (ex lin_il cls_il) ?_
  refine aK_c (ex lin_bi cls_bi) ?_
  refine aK_c (ex lin_ii cls_ii) ?_
  refine aK_c (ex lin_bi cls_bi) ?_
  refine aK_c (ex lin_iald cls_iald) ?_
  refine aK_c (ex lin_ii cls_ii) ?_
  refine aK_c (ex lin_bi cls_bi) ?_
  refine aK_c (ex lin_ii cls_ii) ?_
  refine aK_c (ex lin_ii cls_ii) ?_
  refine aK_c (ex lin_cS (cls_cS zX5_within)) ?_
  refine aK_c (ex lin_iast cls_iast) ?_
  refine aK_c (ex lin_inc cls_inc) ?_
  refine aK_c (ex lin_go cls_go) ?_
  refine aK_c (ex lin_al cls_al) ?_
  refine aK_c (ex lin_dup cls_dup) ?_
  refine aK_c (ex lin_gI cls_gI) ?_
  refine aK_c (ex lin_ii cls_ii) ?_
  refine aK_c (ex lin_bi cls_bi) ?_
  refine aK_c (ex lin_pI cls_pI) ?_
  refine aK_c (ex lin_il cls_il) ?_
  refine aK_c (ex lin_ri cls_ri) ?_
  exact aK_n
theorem zX5_dayOf : aCC CX5_dayOf := aCC.of kX5_dayOf
theorem kX5_day : aKl tX5_day := by
  unfold tX5_day
  refine aK_c (ex lin_al cls_al) ?_
  refine aK_c (ex lin_gI cls_gI) ?_
  refine aK_c (ex lin_ii cls_ii) ?_
  refine aK_c (ex lin_ic cls_ic) ?_
  refine aK_c (ex lin_ii cls_ii) ?_
  refine aK_c (ex lin_go cls_go) ?_
  refine aK_c (ex lin_al cls_al) ?_
  refine aK_c (ex lin_cV (cls_cV zX5_dayOf)) ?_
  refine aK_c (ex lin_ri cls_ri) ?_
  exact aK_n
theorem zX5_day : aCC CX5_day := aCC.of kX5_day
theorem kX5_keeps : aKl tX5_keeps := by
  unfold tX5_keeps
  refine aK_c (ex lin_ii cls_ii) ?_
  refine aK_c (ex lin_is cls_is) ?_
  refine aK_c (ex lin_il cls_il) ?_
  refine aK_c (ex lin_ii cls_ii) ?_
  refine aK_c (ex lin_ic cls_ic) ?_
  refine aK_c (ex lin_al cls_al) ?_
  refine aK_c (ex lin_gF (cls_gF 31 rfl (Nat.le_of_ble_eq_true rfl))) ?_
  refine aK_c (ex lin_il cls_il) ?_
  refine aK_c (ex lin_al cls_al) ?_
  refine aK_c (ex lin_gF (cls_gF 3 rfl (Nat.le_of_ble_eq_true rfl))) ?_
  refine aK_c (ex lin_il cls_il) ?_
  refine aK_c (ex lin_iald cls_iald) ?_
  refine aK_c (ex lin_iast cls_iast) ?_
  refine aK_c (ex lin_inc cls_inc) ?_
  refine aK_c (ex lin_go cls_go) ?_
  refine aK_c (ex lin_ii cls_ii) ?_
  refine aK_c (ex lin_is cls_is) ?_
  refine aK_c (ex lin_il cls_il) ?_
  refine aK_c (ex lin_ii cls_ii) ?_
  refine aK_c (ex lin_ic cls_ic) ?_
  refine aK_c (ex lin_al cls_al) ?_
  refine aK_c (ex lin_gF (cls_gF 31 rfl (Nat.le_of_ble_eq_true rfl))) ?_
  refine aK_c (ex lin_ii cls_ii) ?_
  refine aK_c (ex lin_il cls_il) ?_
  refine aK_c (ex lin_bi cls_bi) ?_
  refine aK_c (ex lin_al cls_al) ?_
  refine aK_c (ex lin_gF (cls_gF 4 rfl (Nat.le_of_ble_eq_true rfl))) ?_
  refine aK_c (ex lin_il cls_il) ?_
  refine aK_c (ex lin_iald cls_iald) ?_
  refine aK_c (ex lin_iast cls_iast) ?_
  refine aK_c (ex lin_inc cls_inc) ?_
  refine aK_c (ex lin_go cls_go) ?_
  refine aK_c (ex lin_al cls_al) ?_
  refine aK_c (ex lin_gF (cls_gF 31 rfl (Nat.le_of_ble_eq_true rfl))) ?_
  refine aK_c (ex lin_ii cls_ii) ?_
  refine aK_c (ex lin_al cls_al) ?_
  refine aK_c (ex lin_gI cls_gI) ?_
  refine aK_c (ex lin_iast cls_iast) ?_
  refine aK_c (ex lin_al cls_al) ?_
  refine aK_c (ex lin_gF (cls_gF 31 rfl (Nat.le_of_ble_eq_true rfl))) ?_
  refine aK_c (ex lin_ii cls_ii) ?_
  refine aK_c (ex lin_al cls_al) ?_
  refine aK_c (ex lin_gI cls_gI) ?_
  refine aK_c (ex lin_iast cls_iast) ?_
  refine aK_c (ex lin_rv cls_rv) ?_
  exact aK_n
theorem zX5_keeps : aCC CX5_keeps := aCC.of kX5_keeps
theorem kX5_lays : aKl tX5_lays := by
  unfold tX5_lays
  refine aK_c (ex lin_ii cls_ii) ?_
  refine aK_c (ex lin_is cls_is) ?_
  refine aK_c (ex lin_il cls_il) ?_
  refine aK_c (ex lin_ii cls_ii) ?_
  refine aK_c (ex lin_ic cls_ic) ?_
  refine aK_c (ex lin_al cls_al) ?_
  refine aK_c (ex lin_gF (cls_gF 3 rfl (Nat.le_of_ble_eq_true rfl))) ?_
  refine aK_c (ex lin_il cls_il) ?_
  refine aK_c (ex lin_al cls_al) ?_
  refine aK_c (ex lin_gF (cls_gF 31 rfl (Nat.le_of_ble_eq_true rfl))) ?_
  refine aK_c (ex lin_il cls_il) ?_
  refine aK_c (ex lin_iald cls_iald) ?_
  refine aK_c (ex lin_iast cls_iast) ?_
  refine aK_c (ex lin_inc cls_inc) ?_
  refine aK_c (ex lin_go cls_go) ?_
  refine aK_c (ex lin_ii cls_ii) ?_
  refine aK_c (ex lin_is cls_is) ?_
  refine aK_c (ex lin_il cls_il) ?_
  refine aK_c (ex lin_ii cls_ii) ?_
  refine aK_c (ex lin_ic cls_ic) ?_
  refine aK_c (ex lin_al cls_al) ?_
  refine aK_c (ex lin_gF (cls_gF 4 rfl (Nat.le_of_ble_eq_true rfl))) ?_
  refine aK_c (ex lin_il cls_il) ?_
  refine aK_c (ex lin_al cls_al) ?_
  refine aK_c (ex lin_gF (cls_gF 31 rfl (Nat.le_of_ble_eq_true rfl))) ?_
  refine aK_c (ex lin_ii cls_ii) ?_
  refine aK_c (ex lin_il cls_il) ?_
  refine aK_c (ex lin_bi cls_bi) ?_
  refine aK_c (ex lin_iald cls_iald) ?_
  refine aK_c (ex lin_iast cls_iast) ?_
  refine aK_c (ex lin_inc cls_inc) ?_
  refine aK_c (ex lin_go cls_go) ?_
  refine aK_c (ex lin_al cls_al) ?_
  refine aK_c (ex lin_al cls_al) ?_
  refine aK_c (ex lin_gF (cls_gF 31 rfl (Nat.le_of_ble_eq_true rfl))) ?_
  refine aK_c (ex lin_ii cls_ii) ?_
  refine aK_c (ex lin_iald cls_iald) ?_
  refine aK_c (ex lin_pI cls_pI) ?_
  refine aK_c (ex lin_al cls_al) ?_
  refine aK_c (ex lin_al cls_al) ?_
  refine aK_c (ex lin_gF (cls_gF 31 rfl (Nat.le_of_ble_eq_true rfl))) ?_
  refine aK_c (ex lin_ii cls_ii) ?_
  refine aK_c (ex lin_iald cls_iald) ?_
  refine aK_c (ex lin_pI cls_pI) ?_
  refine aK_c (ex lin_rv cls_rv) ?_
  exact aK_n
theorem zX5_lays : aCC CX5_lays := aCC.of kX5_lays
theorem kX5_goes : aKl tX5_goes := by
  unfold tX5_goes
  refine aK_c (ex lin_ii cls_ii) ?_
  refine aK_c (ex lin_is cls_is) ?_
  refine aK_c (ex lin_ii cls_ii) ?_
  refine aK_c (ex lin_is cls_is) ?_
  refine aK_c (ex lin_il cls_il) ?_
  refine aK_c (ex lin_il cls_il) ?_
  refine aK_c (ex lin_ic cls_ic) ?_
  refine aK_c (ex lin_il cls_il) ?_
  refine aK_c (ex lin_al cls_al) ?_
  refine aK_c (ex lin_cV (cls_cV zX5_dayOf)) ?_
  refine aK_c (ex lin_cS (cls_cS zX5_onesOf)) ?_
  refine aK_c (ex lin_bi cls_bi) ?_
  refine aK_c (ex lin_is cls_is) ?_
  refine aK_c (ex lin_inc cls_inc) ?_
  refine aK_c (ex lin_go cls_go) ?_
  refine aK_c (ex lin_il cls_il) ?_
  refine aK_c (ex lin_ri cls_ri) ?_
  exact aK_n
theorem zX5_goes : aCC CX5_goes := aCC.of kX5_goes
theorem kX5_waitedAll : aKl tX5_waitedAll := by
  unfold tX5_waitedAll
  refine aK_c (ex lin_ii cls_ii) ?_
  refine aK_c (ex lin_is cls_is) ?_
  refine aK_c (ex lin_ii cls_ii) ?_
  refine aK_c (ex lin_is cls_is) ?_
  refine aK_c (ex lin_il cls_il) ?_
  refine aK_c (ex lin_ii cls_ii) ?_
  refine aK_c (ex lin_ic cls_ic) ?_
  refine aK_c (ex lin_il cls_il) ?_
  refine aK_c (ex lin_al cls_al) ?_
  refine aK_c (ex lin_il cls_il) ?_
  refine aK_c (ex lin_cV (cls_cV zX5_isThere)) ?_
  refine aK_c (ex lin_if cls_if) ?_
  refine aK_c (ex lin_al cls_al) ?_
  refine aK_c (ex lin_gF (cls_gF 4 rfl (Nat.le_of_ble_eq_true rfl))) ?_
  refine aK_c (ex lin_ii cls_ii) ?_
  refine aK_c (ex lin_il cls_il) ?_
  refine aK_c (ex lin_bi cls_bi) ?_
  refine aK_c (ex lin_ii cls_ii) ?_
  refine aK_c (ex lin_bi cls_bi) ?_
  refine aK_c (ex lin_iald cls_iald) ?_
  refine aK_c (ex lin_go cls_go) ?_
  refine aK_c (ex lin_ii cls_ii) ?_
  refine aK_c (ex lin_bi cls_bi) ?_
  refine aK_c (ex lin_is cls_is) ?_
  refine aK_c (ex lin_inc cls_inc) ?_
  refine aK_c (ex lin_go cls_go) ?_
  refine aK_c (ex lin_il cls_il) ?_
  refine aK_c (ex lin_ri cls_ri) ?_
  exact aK_n
theorem zX5_waitedAll : aCC CX5_waitedAll := aCC.of kX5_waitedAll
theorem kX5_run : aKl tX5_run := by
  unfold tX5_run
  refine aK_c (ex lin_il cls_il) ?_
  refine aK_c (ex lin_ii cls_ii) ?_
  refine aK_c (ex lin_ii cls_ii) ?_
  refine aK_c (ex lin_cS (cls_cS zX5_in)) ?_
  refine aK_c (ex lin_if cls_if) ?_
  refine aK_c (ex lin_il cls_il) ?_
  refine aK_c (ex lin_ii cls_ii) ?_
  refine aK_c (ex lin_ii cls_ii) ?_
  refine aK_c (ex lin_al cls_al) ?_
  refine aK_c (ex lin_gI cls_gI) ?_
  refine aK_c (ex lin_bi cls_bi) ?_
  refine aK_c (ex lin_cS (cls_cS zX5_in)) ?_
  refine aK_c (ex lin_if cls_if) ?_
  refine aK_c (ex lin_il cls_il) ?_
  refine aK_c (ex lin_ii cls_ii) ?_
  refine aK_c (ex lin_ii cls_ii) ?_
  refine aK_c (ex lin_al cls_al) ?_
  refine aK_c (ex lin_gI cls_gI) ?_
  refine aK_c (ex lin_bi cls_bi) ?_
  refine aK_c (ex lin_cS (cls_cS zX5_in)) ?_
  refine aK_c (ex lin_if cls_if) ?_
  refine aK_c (ex lin_ii cls_ii) ?_
  refine aK_c (ex lin_go cls_go) ?_
  refine aK_c (ex lin_ii cls_ii) ?_
  refine aK_c (ex lin_is cls_is) ?_
  refine aK_c (ex lin_il cls_il) ?_
  refine aK_c (ex lin_ii cls_ii) ?_
  refine aK_c (ex lin_ii cls_ii) ?_
  refine aK_c (ex lin_cS (cls_cS zX5_in)) ?_
  refine aK_c (ex lin_if cls_if) ?_
  refine aK_c (ex lin_il cls_il) ?_
  refine aK_c (ex lin_if cls_if) ?_
  refine aK_c (ex lin_ii cls_ii) ?_
  refine aK_c (ex lin_ri cls_ri) ?_
  refine aK_c (ex lin_al cls_al) ?_
  refine aK_c (ex lin_cV (cls_cV zX5_keeps)) ?_
  refine aK_c (ex lin_al cls_al) ?_
  refine aK_c (ex lin_il cls_il) ?_
  refine aK_c (ex lin_cV (cls_cV zX5_goes)) ?_
  refine aK_c (ex lin_is cls_is) ?_
  refine aK_c (ex lin_il cls_il) ?_
  refine aK_c (ex lin_sw cls_sw) ?_
  refine aK_c (ex lin_al cls_al) ?_
  refine aK_c (ex lin_cV (cls_cV zX5_caseSet)) ?_
  refine aK_c (ex lin_is cls_is) ?_
  refine aK_c (ex lin_go cls_go) ?_
  refine aK_c (ex lin_go cls_go) ?_
  refine aK_c (ex lin_al cls_al) ?_
  refine aK_c (ex lin_cV (cls_cV zX5_waitedAll)) ?_
  refine aK_c (ex lin_is cls_is) ?_
  refine aK_c (ex lin_go cls_go) ?_
  refine aK_c (ex lin_il cls_il) ?_
  refine aK_c (ex lin_ii cls_ii) ?_
  refine aK_c (ex lin_ic cls_ic) ?_
  refine aK_c (ex lin_al cls_al) ?_
  refine aK_c (ex lin_gF (cls_gF 3 rfl (Nat.le_of_ble_eq_true rfl))) ?_
  refine aK_c (ex lin_ii cls_ii) ?_
  refine aK_c (ex lin_il cls_il) ?_
  refine aK_c (ex lin_ii cls_ii) ?_
  refine aK_c (ex lin_bi cls_bi) ?_
  refine aK_c (ex lin_bi cls_bi) ?_
  refine aK_c (ex lin_ii cls_ii) ?_
  refine aK_c (ex lin_bi cls_bi) ?_
  refine aK_c (ex lin_iald cls_iald) ?_
  refine aK_c (ex lin_go cls_go) ?_
  refine aK_c (ex lin_al cls_al) ?_
  refine aK_c (ex lin_gF (cls_gF 3 rfl (Nat.le_of_ble_eq_true rfl))) ?_
  refine aK_c (ex lin_ii cls_ii) ?_
  refine aK_c (ex lin_il cls_il) ?_
  refine aK_c (ex lin_ii cls_ii) ?_
  refine aK_c (ex lin_bi cls_bi) ?_
  refine aK_c (ex lin_bi cls_bi) ?_
  refine aK_c (ex lin_iald cls_iald) ?_
  refine aK_c (ex lin_is cls_is) ?_
  refine aK_c (ex lin_al cls_al) ?_
  refine aK_c (ex lin_cV (cls_cV zX5_lays)) ?_
  refine aK_c (ex lin_il cls_il) ?_
  refine aK_c (ex lin_ri cls_ri) ?_
  exact aK_n
theorem zX5_run : aCC CX5_run := aCC.of kX5_run
theorem kX5_when : aKl tX5_when := by
  unfold tX5_when
  refine aK_c (ex lin_il cls_il) ?_
  refine aK_c (ex lin_ii cls_ii) ?_
  refine aK_c (ex lin_ii cls_ii) ?_
  refine aK_c (ex lin_cS (cls_cS zX5_in)) ?_
  refine aK_c (ex lin_if cls_if) ?_
  refine aK_c (ex lin_ii cls_ii) ?_
  refine aK_c (ex lin_ri cls_ri) ?_
  refine aK_c (ex lin_il cls_il) ?_
  refine aK_c (ex lin_ii cls_ii) ?_
  refine aK_c (ex lin_ic cls_ic) ?_
  refine aK_c (ex lin_al cls_al) ?_
  refine aK_c (ex lin_il cls_il) ?_
  refine aK_c (ex lin_cV (cls_cV zX5_isThere)) ?_
  refine aK_c (ex lin_if cls_if) ?_
  refine aK_c (ex lin_ii cls_ii) ?_
  refine aK_c (ex lin_ri cls_ri) ?_
  refine aK_c (ex lin_ii cls_ii) ?_
  refine aK_c (ex lin_is cls_is) ?_
  refine aK_c (ex lin_al cls_al) ?_
  refine aK_c (ex lin_cV (cls_cV zX5_keeps)) ?_
  refine aK_c (ex lin_ii cls_ii) ?_
  refine aK_c (ex lin_is cls_is) ?_
  refine aK_c (ex (lin_mk lin_il) (cls_mk cls_il)) ?_
  refine aK_c (ex lin_ii cls_ii) ?_
  refine aK_c (ex lin_ic cls_ic) ?_
  refine aK_c (ex lin_il cls_il) ?_
  refine aK_c (ex lin_ii cls_ii) ?_
  refine aK_c (ex lin_ic cls_ic) ?_
  refine aK_c (ex lin_il cls_il) ?_
  refine aK_c (ex lin_ii cls_ii) ?_
  refine aK_c (ex lin_ic cls_ic) ?_
  refine aK_c (ex lin_al cls_al) ?_
  refine aK_c (ex lin_cV (cls_cV zX5_caseSet)) ?_
  refine aK_c (ex lin_if cls_if) ?_
  refine aK_c (ex lin_ii cls_ii) ?_
  refine aK_c (ex lin_go cls_go) ?_
  refine aK_c (ex lin_ii cls_ii) ?_
  refine aK_c (ex lin_go cls_go) ?_
  refine aK_c (ex lin_al cls_al) ?_
  refine aK_c (ex lin_il cls_il) ?_
  refine aK_c (ex lin_cV (cls_cV zX5_isThere)) ?_
  refine aK_c (ex lin_if cls_if) ?_
  refine aK_c (ex lin_ii cls_ii) ?_
  refine aK_c (ex lin_go cls_go) ?_
  refine aK_c (ex lin_ii cls_ii) ?_
  refine aK_c (ex lin_is cls_is) ?_
  refine aK_c (ex lin_il cls_il) ?_
  refine aK_c (ex lin_if cls_if) ?_
  refine aK_c (ex lin_il cls_il) ?_
  refine aK_c (ex lin_go cls_go) ?_
  refine aK_c (ex lin_ii cls_ii) ?_
  refine aK_c (ex lin_is cls_is) ?_
  refine aK_c (ex lin_al cls_al) ?_
  refine aK_c (ex lin_cV (cls_cV zX5_dayOf)) ?_
  refine aK_c (ex lin_pop cls_pop) ?_
  refine aK_c (ex lin_inc cls_inc) ?_
  refine aK_c (ex lin_go cls_go) ?_
  refine aK_c (ex lin_al cls_al) ?_
  refine aK_c (ex lin_cV (cls_cV zX5_lays)) ?_
  refine aK_c (ex lin_il cls_il) ?_
  refine aK_c (ex lin_ri cls_ri) ?_
  exact aK_n
theorem zX5_when : aCC CX5_when := aCC.of kX5_when
theorem kX5_tellsSittings : aKl tX5_tellsSittings := by
  unfold tX5_tellsSittings
  refine aK_c (ex lin_ii cls_ii) ?_
  refine aK_c (ex lin_is cls_is) ?_
  refine aK_c (ex (lin_mk lin_il) (cls_mk cls_il)) ?_
  refine aK_c (ex lin_ii cls_ii) ?_
  refine aK_c (ex lin_ic cls_ic) ?_
  refine aK_c (ex lin_al cls_al) ?_
  refine aK_c (ex lin_gF (cls_gF 33 rfl (Nat.le_of_ble_eq_true rfl))) ?_
  refine aK_c (ex lin_il cls_il) ?_
  refine aK_c (ex lin_ii cls_ii) ?_
  refine aK_c (ex lin_iast cls_iast) ?_
  refine aK_c (ex lin_ii cls_ii) ?_
  refine aK_c (ex lin_is cls_is) ?_
  refine aK_c (ex (lin_mk lin_il) (cls_mk cls_il)) ?_
  refine aK_c (ex lin_al cls_al) ?_
  refine aK_c (ex lin_gI cls_gI) ?_
  refine aK_c (ex lin_ic cls_ic) ?_
  refine aK_c (ex lin_al cls_al) ?_
  refine aK_c (ex lin_il cls_il) ?_
  refine aK_c (ex lin_cV (cls_cV zX5_isThere)) ?_
  refine aK_c (ex lin_if cls_if) ?_
  refine aK_c (ex lin_al cls_al) ?_
  refine aK_c (ex lin_gF (cls_gF 33 rfl (Nat.le_of_ble_eq_true rfl))) ?_
  refine aK_c (ex lin_il cls_il) ?_
  refine aK_c (ex lin_dup2 cls_dup2) ?_
  refine aK_c (ex lin_iald cls_iald) ?_
  refine aK_c (ex lin_al cls_al) ?_
  refine aK_c (ex lin_il cls_il) ?_
  refine aK_c (ex lin_il cls_il) ?_
  refine aK_c (ex lin_cV (cls_cV zX5_can)) ?_
  refine aK_c (ex lin_if cls_if) ?_
  refine aK_c (ex lin_ii cls_ii) ?_
  refine aK_c (ex lin_il cls_il) ?_
  refine aK_c (ex lin_bi cls_bi) ?_
  refine aK_c (ex lin_go cls_go) ?_
  refine aK_c (ex lin_ii cls_ii) ?_
  refine aK_c (ex lin_bi cls_bi) ?_
  refine aK_c (ex lin_iast cls_iast) ?_
  refine aK_c (ex lin_inc cls_inc) ?_
  refine aK_c (ex lin_go cls_go) ?_
  refine aK_c (ex lin_inc cls_inc) ?_
  refine aK_c (ex lin_go cls_go) ?_
  refine aK_c (ex lin_ii cls_ii) ?_
  refine aK_c (ex lin_is cls_is) ?_
  refine aK_c (ex (lin_mk lin_il) (cls_mk cls_il)) ?_
  refine aK_c (ex lin_ii cls_ii) ?_
  refine aK_c (ex lin_ic cls_ic) ?_
  refine aK_c (ex lin_al cls_al) ?_
  refine aK_c (ex lin_gF (cls_gF 32 rfl (Nat.le_of_ble_eq_true rfl))) ?_
  refine aK_c (ex lin_ii cls_ii) ?_
  refine aK_c (ex lin_il cls_il) ?_
  refine aK_c (ex lin_bi cls_bi) ?_
  refine aK_c (ex lin_ii cls_ii) ?_
  refine aK_c (ex lin_iast cls_iast) ?_
  refine aK_c (ex lin_inc cls_inc) ?_
  refine aK_c (ex lin_go cls_go) ?_
  refine aK_c (ex lin_ii cls_ii) ?_
  refine aK_c (ex lin_is cls_is) ?_
  refine aK_c (ex (lin_mk lin_il) (cls_mk cls_il)) ?_
  refine aK_c (ex lin_if cls_if) ?_
  refine aK_c (ex lin_ii cls_ii) ?_
  refine aK_c (ex lin_is cls_is) ?_
  refine aK_c (ex (lin_mk lin_il) (cls_mk cls_il)) ?_
  refine aK_c (ex lin_ii cls_ii) ?_
  refine aK_c (ex lin_ic cls_ic) ?_
  refine aK_c (ex lin_al cls_al) ?_
  refine aK_c (ex lin_gF (cls_gF 32 rfl (Nat.le_of_ble_eq_true rfl))) ?_
  refine aK_c (ex lin_ii cls_ii) ?_
  refine aK_c (ex lin_il cls_il) ?_
  refine aK_c (ex lin_bi cls_bi) ?_
  refine aK_c (ex lin_ii cls_ii) ?_
  refine aK_c (ex lin_bi cls_bi) ?_
  refine aK_c (ex lin_il cls_il) ?_
  refine aK_c (ex lin_bi cls_bi) ?_
  refine aK_c (ex lin_iald cls_iald) ?_
  refine aK_c (ex lin_is cls_is) ?_
  refine aK_c (ex lin_ii cls_ii) ?_
  refine aK_c (ex lin_is cls_is) ?_
  refine aK_c (ex (lin_mk lin_il) (cls_mk cls_il)) ?_
  refine aK_c (ex lin_ii cls_ii) ?_
  refine aK_c (ex lin_ic cls_ic) ?_
  refine aK_c (ex lin_al cls_al) ?_
  refine aK_c (ex lin_gF (cls_gF 33 rfl (Nat.le_of_ble_eq_true rfl))) ?_
  refine aK_c (ex lin_il cls_il) ?_
  refine aK_c (ex lin_iald cls_iald) ?_
  refine aK_c (ex lin_il cls_il) ?_
  refine aK_c (ex lin_bi cls_bi) ?_
  refine aK_c (ex lin_ii cls_ii) ?_
  refine aK_c (ex lin_bi cls_bi) ?_
  refine aK_c (ex lin_ii cls_ii) ?_
  refine aK_c (ex lin_ic cls_ic) ?_
  refine aK_c (ex lin_il cls_il) ?_
  refine aK_c (ex lin_il cls_il) ?_
  refine aK_c (ex lin_bi cls_bi) ?_
  refine aK_c (ex lin_ii cls_ii) ?_
  refine aK_c (ex lin_bi cls_bi) ?_
  refine aK_c (ex lin_if cls_if) ?_
  refine aK_c (ex lin_ii cls_ii) ?_
  refine aK_c (ex lin_al cls_al) ?_
  refine aK_c (ex lin_gF (cls_gF 32 rfl (Nat.le_of_ble_eq_true rfl))) ?_
  refine aK_c (ex lin_ii cls_ii) ?_
  refine aK_c (ex lin_il cls_il) ?_
  refine aK_c (ex lin_bi cls_bi) ?_
  refine aK_c (ex lin_ii cls_ii) ?_
  refine aK_c (ex lin_bi cls_bi) ?_
  refine aK_c (ex lin_il cls_il) ?_
  refine aK_c (ex lin_ii cls_ii) ?_
  refine aK_c (ex lin_il cls_il) ?_
  refine aK_c (ex lin_bi cls_bi) ?_
  refine aK_c (ex lin_bi cls_bi) ?_
  refine aK_c (ex lin_bi cls_bi) ?_
  refine aK_c (ex lin_iald cls_iald) ?_
  refine aK_c (ex lin_bi cls_bi) ?_
  refine aK_c (ex lin_is cls_is) ?_
  refine aK_c (ex lin_il cls_il) ?_
  refine aK_c (ex lin_il cls_il) ?_
  refine aK_c (ex lin_ic cls_ic) ?_
  refine aK_c (ex lin_il cls_il) ?_
  refine aK_c (ex lin_go cls_go) ?_
  refine aK_c (ex lin_il cls_il) ?_
  refine aK_c (ex lin_is cls_is) ?_
  refine aK_c (ex lin_inc cls_inc) ?_
  refine aK_c (ex lin_go cls_go) ?_
  refine aK_c (ex lin_al cls_al) ?_
  refine aK_c (ex lin_gF (cls_gF 32 rfl (Nat.le_of_ble_eq_true rfl))) ?_
  refine aK_c (ex lin_ii cls_ii) ?_
  refine aK_c (ex lin_il cls_il) ?_
  refine aK_c (ex lin_bi cls_bi) ?_
  refine aK_c (ex lin_il cls_il) ?_
  refine aK_c (ex lin_bi cls_bi) ?_
  refine aK_c (ex lin_il cls_il) ?_
  refine aK_c (ex lin_iast cls_iast) ?_
  refine aK_c (ex lin_inc cls_inc) ?_
  refine aK_c (ex lin_go cls_go) ?_
  refine aK_c (ex lin_inc cls_inc) ?_
  refine aK_c (ex lin_go cls_go) ?_
  refine aK_c (ex lin_rv cls_rv) ?_
  exact aK_n
theorem zX5_tellsSittings : aCC CX5_tellsSittings := aCC.of kX5_tellsSittings
theorem kX5_leastSitting : aKl tX5_leastSitting := by
  unfold tX5_leastSitting
  refine aK_c (ex lin_ii cls_ii) ?_
  refine aK_c (ex lin_is cls_is) ?_
  refine aK_c (ex lin_ii cls_ii) ?_
  refine aK_c (ex lin_is cls_is) ?_
  refine aK_c (ex lin_ii cls_ii) ?_
  refine aK_c (ex lin_is cls_is) ?_
  refine aK_c (ex (lin_mk lin_il) (cls_mk cls_il)) ?_
  refine aK_c (ex lin_ii cls_ii) ?_
  refine aK_c (ex lin_ic cls_ic) ?_
  refine aK_c (ex lin_al cls_al) ?_
  refine aK_c (ex lin_gF (cls_gF 32 rfl (Nat.le_of_ble_eq_true rfl))) ?_
  refine aK_c (ex lin_ii cls_ii) ?_
  refine aK_c (ex lin_il cls_il) ?_
  refine aK_c (ex lin_bi cls_bi) ?_
  refine aK_c (ex lin_il cls_il) ?_
  refine aK_c (ex lin_bi cls_bi) ?_
  refine aK_c (ex lin_iald cls_iald) ?_
  refine aK_c (ex lin_is cls_is) ?_
  refine aK_c (ex lin_al cls_al) ?_
  refine aK_c (ex lin_gF (cls_gF 32 rfl (Nat.le_of_ble_eq_true rfl))) ?_
  refine aK_c (ex lin_ii cls_ii) ?_
  refine aK_c (ex lin_il cls_il) ?_
  refine aK_c (ex lin_bi cls_bi) ?_
  refine aK_c (ex lin_ii cls_ii) ?_
  refine aK_c (ex lin_bi cls_bi) ?_
  refine aK_c (ex lin_il cls_il) ?_
  refine aK_c (ex lin_bi cls_bi) ?_
  refine aK_c (ex lin_iald cls_iald) ?_
  refine aK_c (ex lin_il cls_il) ?_
  refine aK_c (ex lin_ic cls_ic) ?_
  refine aK_c (ex lin_ii cls_ii) ?_
  refine aK_c (ex lin_go cls_go) ?_
  refine aK_c (ex lin_ii cls_ii) ?_
  refine aK_c (ex lin_is cls_is) ?_
  refine aK_c (ex lin_ii cls_ii) ?_
  refine aK_c (ex lin_is cls_is) ?_
  refine aK_c (ex lin_il cls_il) ?_
  refine aK_c (ex lin_ii cls_ii) ?_
  refine aK_c (ex lin_ic cls_ic) ?_
  refine aK_c (ex lin_il cls_il) ?_
  refine aK_c (ex lin_ii cls_ii) ?_
  refine aK_c (ex lin_ic cls_ic) ?_
  refine aK_c (ex lin_al cls_al) ?_
  refine aK_c (ex lin_gF (cls_gF 33 rfl (Nat.le_of_ble_eq_true rfl))) ?_
  refine aK_c (ex lin_il cls_il) ?_
  refine aK_c (ex lin_iald cls_iald) ?_
  refine aK_c (ex lin_il cls_il) ?_
  refine aK_c (ex lin_bi cls_bi) ?_
  refine aK_c (ex lin_ii cls_ii) ?_
  refine aK_c (ex lin_bi cls_bi) ?_
  refine aK_c (ex lin_ii cls_ii) ?_
  refine aK_c (ex lin_ic cls_ic) ?_
  refine aK_c (ex lin_il cls_il) ?_
  refine aK_c (ex lin_il cls_il) ?_
  refine aK_c (ex lin_bi cls_bi) ?_
  refine aK_c (ex lin_ii cls_ii) ?_
  refine aK_c (ex lin_bi cls_bi) ?_
  refine aK_c (ex lin_if cls_if) ?_
  refine aK_c (ex lin_ii cls_ii) ?_
  refine aK_c (ex lin_al cls_al) ?_
  refine aK_c (ex lin_gF (cls_gF 32 rfl (Nat.le_of_ble_eq_true rfl))) ?_
  refine aK_c (ex lin_ii cls_ii) ?_
  refine aK_c (ex lin_il cls_il) ?_
  refine aK_c (ex lin_bi cls_bi) ?_
  refine aK_c (ex lin_ii cls_ii) ?_
  refine aK_c (ex lin_bi cls_bi) ?_
  refine aK_c (ex lin_il cls_il) ?_
  refine aK_c (ex lin_ii cls_ii) ?_
  refine aK_c (ex lin_il cls_il) ?_
  refine aK_c (ex lin_bi cls_bi) ?_
  refine aK_c (ex lin_bi cls_bi) ?_
  refine aK_c (ex lin_bi cls_bi) ?_
  refine aK_c (ex lin_iald cls_iald) ?_
  refine aK_c (ex lin_bi cls_bi) ?_
  refine aK_c (ex lin_il cls_il) ?_
  refine aK_c (ex lin_ic cls_ic) ?_
  refine aK_c (ex lin_il cls_il) ?_
  refine aK_c (ex lin_ii cls_ii) ?_
  refine aK_c (ex lin_bi cls_bi) ?_
  refine aK_c (ex lin_go cls_go) ?_
  refine aK_c (ex lin_ii cls_ii) ?_
  refine aK_c (ex lin_is cls_is) ?_
  refine aK_c (ex lin_inc cls_inc) ?_
  refine aK_c (ex lin_go cls_go) ?_
  refine aK_c (ex lin_il cls_il) ?_
  refine aK_c (ex lin_il cls_il) ?_
  refine aK_c (ex lin_if cls_if) ?_
  refine aK_c (ex lin_ii cls_ii) ?_
  refine aK_c (ex lin_il cls_il) ?_
  refine aK_c (ex lin_ii cls_ii) ?_
  refine aK_c (ex lin_bi cls_bi) ?_
  refine aK_c (ex lin_bi cls_bi) ?_
  refine aK_c (ex lin_go cls_go) ?_
  refine aK_c (ex lin_ii cls_ii) ?_
  refine aK_c (ex lin_bi cls_bi) ?_
  refine aK_c (ex lin_is cls_is) ?_
  refine aK_c (ex lin_ii cls_ii) ?_
  refine aK_c (ex lin_il cls_il) ?_
  refine aK_c (ex lin_bi cls_bi) ?_
  refine aK_c (ex lin_il cls_il) ?_
  refine aK_c (ex lin_bi cls_bi) ?_
  refine aK_c (ex lin_is cls_is) ?_
  refine aK_c (ex lin_inc cls_inc) ?_
  refine aK_c (ex lin_go cls_go) ?_
  refine aK_c (ex lin_il cls_il) ?_
  refine aK_c (ex lin_ri cls_ri) ?_
  exact aK_n
theorem zX5_leastSitting : aCC CX5_leastSitting := aCC.of kX5_leastSitting
theorem kX5_sitting : aKl tX5_sitting := by
  unfold tX5_sitting
  refine aK_c (ex lin_il cls_il) ?_
  refine aK_c (ex lin_ii cls_ii) ?_
  refine aK_c (ex lin_ii cls_ii) ?_
  refine aK_c (ex lin_cS (cls_cS zX5_in)) ?_
  refine aK_c (ex lin_if cls_if) ?_
  refine aK_c (ex lin_ii cls_ii) ?_
  refine aK_c (ex lin_ri cls_ri) ?_
  refine aK_c (ex lin_al cls_al) ?_
  refine aK_c (ex lin_cV (cls_cV zX5_tellsSittings)) ?_
  refine aK_c (ex lin_il cls_il) ?_
  refine aK_c (ex lin_if cls_if) ?_
  refine aK_c (ex lin_al cls_al) ?_
  refine aK_c (ex lin_gF (cls_gF 32 rfl (Nat.le_of_ble_eq_true rfl))) ?_
  refine aK_c (ex lin_ii cls_ii) ?_
  refine aK_c (ex lin_iald cls_iald) ?_
  refine aK_c (ex lin_go cls_go) ?_
  refine aK_c (ex lin_al cls_al) ?_
  refine aK_c (ex lin_cV (cls_cV zX5_leastSitting)) ?_
  refine aK_c (ex lin_ri cls_ri) ?_
  exact aK_n
theorem zX5_sitting : aCC CX5_sitting := aCC.of kX5_sitting
theorem kX5_burglary : aKl tX5_burglary := by
  unfold tX5_burglary
  refine aK_c (ex lin_il cls_il) ?_
  refine aK_c (ex lin_ii cls_ii) ?_
  refine aK_c (ex lin_ii cls_ii) ?_
  refine aK_c (ex lin_cS (cls_cS zX5_in)) ?_
  refine aK_c (ex lin_if cls_if) ?_
  refine aK_c (ex lin_il cls_il) ?_
  refine aK_c (ex lin_ii cls_ii) ?_
  refine aK_c (ex lin_ii cls_ii) ?_
  refine aK_c (ex lin_cS (cls_cS zX5_in)) ?_
  refine aK_c (ex lin_if cls_if) ?_
  refine aK_c (ex lin_ii cls_ii) ?_
  refine aK_c (ex lin_ri cls_ri) ?_
  refine aK_c (ex lin_ii cls_ii) ?_
  refine aK_c (ex lin_is cls_is) ?_
  refine aK_c (ex lin_al cls_al) ?_
  refine aK_c (ex lin_cV (cls_cV zX5_keeps)) ?_
  refine aK_c (ex lin_al cls_al) ?_
  refine aK_c (ex lin_il cls_il) ?_
  refine aK_c (ex lin_cV (cls_cV zX5_goes)) ?_
  refine aK_c (ex lin_is cls_is) ?_
  refine aK_c (ex lin_al cls_al) ?_
  refine aK_c (ex lin_cV (cls_cV zX5_lays)) ?_
  refine aK_c (ex lin_ii cls_ii) ?_
  refine aK_c (ex lin_is cls_is) ?_
  refine aK_c (ex (lin_mk lin_il) (cls_mk cls_il)) ?_
  refine aK_c (ex lin_al cls_al) ?_
  refine aK_c (ex lin_gI cls_gI) ?_
  refine aK_c (ex lin_ic cls_ic) ?_
  refine aK_c (ex lin_ii cls_ii) ?_
  refine aK_c (ex lin_is cls_is) ?_
  refine aK_c (ex (lin_mk lin_il) (cls_mk cls_il)) ?_
  refine aK_c (ex lin_ii cls_ii) ?_
  refine aK_c (ex lin_ic cls_ic) ?_
  refine aK_c (ex lin_al cls_al) ?_
  refine aK_c (ex lin_gF (cls_gF 3 rfl (Nat.le_of_ble_eq_true rfl))) ?_
  refine aK_c (ex lin_ii cls_ii) ?_
  refine aK_c (ex lin_il cls_il) ?_
  refine aK_c (ex lin_bi cls_bi) ?_
  refine aK_c (ex lin_iald cls_iald) ?_
  refine aK_c (ex lin_il cls_il) ?_
  refine aK_c (ex lin_bi cls_bi) ?_
  refine aK_c (ex lin_ii cls_ii) ?_
  refine aK_c (ex lin_bi cls_bi) ?_
  refine aK_c (ex lin_if cls_if) ?_
  refine aK_c (ex lin_al cls_al) ?_
  refine aK_c (ex lin_gF (cls_gF 3 rfl (Nat.le_of_ble_eq_true rfl))) ?_
  refine aK_c (ex lin_ii cls_ii) ?_
  refine aK_c (ex lin_il cls_il) ?_
  refine aK_c (ex lin_bi cls_bi) ?_
  refine aK_c (ex lin_dup2 cls_dup2) ?_
  refine aK_c (ex lin_iald cls_iald) ?_
  refine aK_c (ex lin_ii cls_ii) ?_
  refine aK_c (ex lin_il cls_il) ?_
  refine aK_c (ex lin_bi cls_bi) ?_
  refine aK_c (ex lin_bi cls_bi) ?_
  refine aK_c (ex lin_iast cls_iast) ?_
  refine aK_c (ex lin_al cls_al) ?_
  refine aK_c (ex lin_il cls_il) ?_
  refine aK_c (ex lin_cV (cls_cV zX5_goes)) ?_
  refine aK_c (ex lin_is cls_is) ?_
  refine aK_c (ex lin_al cls_al) ?_
  refine aK_c (ex lin_cV (cls_cV zX5_lays)) ?_
  refine aK_c (ex lin_il cls_il) ?_
  refine aK_c (ex lin_il cls_il) ?_
  refine aK_c (ex lin_ic cls_ic) ?_
  refine aK_c (ex lin_ii cls_ii) ?_
  refine aK_c (ex lin_il cls_il) ?_
  refine aK_c (ex lin_bi cls_bi) ?_
  refine aK_c (ex lin_il cls_il) ?_
  refine aK_c (ex lin_bi cls_bi) ?_
  refine aK_c (ex lin_go cls_go) ?_
  refine aK_c (ex lin_il cls_il) ?_
  refine aK_c (ex lin_is cls_is) ?_
  refine aK_c (ex lin_il cls_il) ?_
  refine aK_c (ex lin_il cls_il) ?_
  refine aK_c (ex lin_ic cls_ic) ?_
  refine aK_c (ex lin_il cls_il) ?_
  refine aK_c (ex lin_go cls_go) ?_
  refine aK_c (ex lin_il cls_il) ?_
  refine aK_c (ex lin_is cls_is) ?_
  refine aK_c (ex lin_inc cls_inc) ?_
  refine aK_c (ex lin_go cls_go) ?_
  refine aK_c (ex lin_inc cls_inc) ?_
  refine aK_c (ex lin_go cls_go) ?_
  refine aK_c (ex lin_il cls_il) ?_
  refine aK_c (ex lin_if cls_if) ?_
  refine aK_c (ex lin_il cls_il) ?_
  refine aK_c (ex lin_go cls_go) ?_
  refine aK_c (ex lin_il cls_il) ?_
  refine aK_c (ex lin_ri cls_ri) ?_
  exact aK_n
theorem zX5_burglary : aCC CX5_burglary := aCC.of kX5_burglary
theorem kX5_wants : aKl tX5_wants := by
  unfold tX5_wants
  refine aK_c (ex lin_al cls_al) ?_
  refine aK_c (ex lin_il cls_il) ?_
  refine aK_c (ex lin_cV (cls_cV zX5_isOne)) ?_
  refine aK_c (ex lin_if cls_if) ?_
  refine aK_c (ex lin_ii cls_ii) ?_
  refine aK_c (ex lin_ri cls_ri) ?_
  refine aK_c (ex lin_al cls_al) ?_
  refine aK_c (ex lin_il cls_il) ?_
  refine aK_c (ex lin_cV (cls_cV zX5_isThere)) ?_
  refine aK_c (ex lin_if cls_if) ?_
  refine aK_c (ex lin_ii cls_ii) ?_
  refine aK_c (ex lin_ri cls_ri) ?_
  refine aK_c (ex lin_il cls_il) ?_
  refine aK_c (ex lin_ii cls_ii) ?_
  refine aK_c (ex lin_ii cls_ii) ?_
  refine aK_c (ex lin_cS (cls_cS zX5_in)) ?_
  refine aK_c (ex lin_if cls_if) ?_
  refine aK_c (ex lin_ii cls_ii) ?_
  refine aK_c (ex lin_ri cls_ri) ?_
  refine aK_c (ex lin_al cls_al) ?_
  refine aK_c (ex lin_gF (cls_gF 3 rfl (Nat.le_of_ble_eq_true rfl))) ?_
  refine aK_c (ex lin_ii cls_ii) ?_
  refine aK_c (ex lin_il cls_il) ?_
  refine aK_c (ex lin_bi cls_bi) ?_
  refine aK_c (ex lin_iald cls_iald) ?_
  refine aK_c (ex lin_is cls_is) ?_
  refine aK_c (ex lin_ii cls_ii) ?_
  refine aK_c (ex lin_is cls_is) ?_
  refine aK_c (ex lin_ii cls_ii) ?_
  refine aK_c (ex lin_is cls_is) ?_
  refine aK_c (ex lin_ii cls_ii) ?_
  refine aK_c (ex lin_is cls_is) ?_
  refine aK_c (ex (lin_mk lin_il) (cls_mk cls_il)) ?_
  refine aK_c (ex lin_ii cls_ii) ?_
  refine aK_c (ex lin_ic cls_ic) ?_
  refine aK_c (ex lin_il cls_il) ?_
  refine aK_c (ex lin_il cls_il) ?_
  refine aK_c (ex lin_bi cls_bi) ?_
  refine aK_c (ex lin_if cls_if) ?_
  refine aK_c (ex lin_il cls_il) ?_
  refine aK_c (ex lin_ii cls_ii) ?_
  refine aK_c (ex lin_ic cls_ic) ?_
  refine aK_c (ex lin_il cls_il) ?_
  refine aK_c (ex lin_cS (cls_cS zX5_onesOf)) ?_
  refine aK_c (ex lin_il cls_il) ?_
  refine aK_c (ex lin_ic cls_ic) ?_
  refine aK_c (ex lin_al cls_al) ?_
  refine aK_c (ex lin_gF (cls_gF 3 rfl (Nat.le_of_ble_eq_true rfl))) ?_
  refine aK_c (ex lin_ii cls_ii) ?_
  refine aK_c (ex lin_il cls_il) ?_
  refine aK_c (ex lin_bi cls_bi) ?_
  refine aK_c (ex lin_il cls_il) ?_
  refine aK_c (ex lin_il cls_il) ?_
  refine aK_c (ex lin_bi cls_bi) ?_
  refine aK_c (ex lin_iast cls_iast) ?_
  refine aK_c (ex lin_al cls_al) ?_
  refine aK_c (ex lin_il cls_il) ?_
  refine aK_c (ex lin_il cls_il) ?_
  refine aK_c (ex lin_cV (cls_cV zX5_may)) ?_
  refine aK_c (ex lin_is cls_is) ?_
  refine aK_c (ex lin_il cls_il) ?_
  refine aK_c (ex lin_if cls_if) ?_
  refine aK_c (ex lin_il cls_il) ?_
  refine aK_c (ex lin_go cls_go) ?_
  refine aK_c (ex lin_il cls_il) ?_
  refine aK_c (ex lin_is cls_is) ?_
  refine aK_c (ex lin_il cls_il) ?_
  refine aK_c (ex lin_if cls_if) ?_
  refine aK_c (ex lin_il cls_il) ?_
  refine aK_c (ex lin_cS (cls_cS zX5_onesOf)) ?_
  refine aK_c (ex lin_go cls_go) ?_
  refine aK_c (ex lin_il cls_il) ?_
  refine aK_c (ex lin_is cls_is) ?_
  refine aK_c (ex lin_inc cls_inc) ?_
  refine aK_c (ex lin_go cls_go) ?_
  refine aK_c (ex lin_al cls_al) ?_
  refine aK_c (ex lin_gF (cls_gF 3 rfl (Nat.le_of_ble_eq_true rfl))) ?_
  refine aK_c (ex lin_ii cls_ii) ?_
  refine aK_c (ex lin_il cls_il) ?_
  refine aK_c (ex lin_bi cls_bi) ?_
  refine aK_c (ex lin_il cls_il) ?_
  refine aK_c (ex lin_iast cls_iast) ?_
  refine aK_c (ex lin_il cls_il) ?_
  refine aK_c (ex lin_if cls_if) ?_
  refine aK_c (ex lin_il cls_il) ?_
  refine aK_c (ex lin_go cls_go) ?_
  refine aK_c (ex lin_il cls_il) ?_
  refine aK_c (ex lin_ri cls_ri) ?_
  exact aK_n
theorem zX5_wants : aCC CX5_wants := aCC.of kX5_wants
theorem kX5_fullest : aKl tX5_fullest := by
  unfold tX5_fullest
  refine aK_c (ex lin_il cls_il) ?_
  refine aK_c (ex lin_ii cls_ii) ?_
  refine aK_c (ex lin_ii cls_ii) ?_
  refine aK_c (ex lin_cS (cls_cS zX5_in)) ?_
  refine aK_c (ex lin_if cls_if) ?_
  refine aK_c (ex lin_ii cls_ii) ?_
  refine aK_c (ex lin_ri cls_ri) ?_
  refine aK_c (ex lin_ii cls_ii) ?_
  refine aK_c (ex lin_is cls_is) ?_
  refine aK_c (ex lin_ii cls_ii) ?_
  refine aK_c (ex lin_is cls_is) ?_
  refine aK_c (ex lin_ii cls_ii) ?_
  refine aK_c (ex lin_is cls_is) ?_
  refine aK_c (ex lin_ii cls_ii) ?_
  refine aK_c (ex lin_is cls_is) ?_
  refine aK_c (ex (lin_mk lin_il) (cls_mk cls_il)) ?_
  refine aK_c (ex lin_al cls_al) ?_
  refine aK_c (ex lin_gI cls_gI) ?_
  refine aK_c (ex lin_ic cls_ic) ?_
  refine aK_c (ex lin_al cls_al) ?_
  refine aK_c (ex lin_il cls_il) ?_
  refine aK_c (ex lin_cV (cls_cV zX5_mayHear)) ?_
  refine aK_c (ex lin_cS (cls_cS zX5_onesOf)) ?_
  refine aK_c (ex lin_is cls_is) ?_
  refine aK_c (ex lin_al cls_al) ?_
  refine aK_c (ex lin_gF (cls_gF 3 rfl (Nat.le_of_ble_eq_true rfl))) ?_
  refine aK_c (ex lin_ii cls_ii) ?_
  refine aK_c (ex lin_il cls_il) ?_
  refine aK_c (ex lin_bi cls_bi) ?_
  refine aK_c (ex lin_iald cls_iald) ?_
  refine aK_c (ex lin_cS (cls_cS zX5_onesOf)) ?_
  refine aK_c (ex lin_is cls_is) ?_
  refine aK_c (ex lin_il cls_il) ?_
  refine aK_c (ex lin_ii cls_ii) ?_
  refine aK_c (ex lin_ic cls_ic) ?_
  refine aK_c (ex lin_il cls_il) ?_
  refine aK_c (ex lin_il cls_il) ?_
  refine aK_c (ex lin_ic cls_ic) ?_
  refine aK_c (ex lin_il cls_il) ?_
  refine aK_c (ex lin_il cls_il) ?_
  refine aK_c (ex lin_ic cls_ic) ?_
  refine aK_c (ex lin_il cls_il) ?_
  refine aK_c (ex lin_il cls_il) ?_
  refine aK_c (ex lin_ic cls_ic) ?_
  refine aK_c (ex lin_ii cls_ii) ?_
  refine aK_c (ex lin_go cls_go) ?_
  refine aK_c (ex lin_ii cls_ii) ?_
  refine aK_c (ex lin_is cls_is) ?_
  refine aK_c (ex lin_il cls_il) ?_
  refine aK_c (ex lin_if cls_if) ?_
  refine aK_c (ex lin_il cls_il) ?_
  refine aK_c (ex lin_go cls_go) ?_
  refine aK_c (ex lin_il cls_il) ?_
  refine aK_c (ex lin_is cls_is) ?_
  refine aK_c (ex lin_il cls_il) ?_
  refine aK_c (ex lin_if cls_if) ?_
  refine aK_c (ex lin_il cls_il) ?_
  refine aK_c (ex lin_go cls_go) ?_
  refine aK_c (ex lin_il cls_il) ?_
  refine aK_c (ex lin_is cls_is) ?_
  refine aK_c (ex lin_il cls_il) ?_
  refine aK_c (ex lin_if cls_if) ?_
  refine aK_c (ex lin_il cls_il) ?_
  refine aK_c (ex lin_go cls_go) ?_
  refine aK_c (ex lin_il cls_il) ?_
  refine aK_c (ex lin_is cls_is) ?_
  refine aK_c (ex lin_inc cls_inc) ?_
  refine aK_c (ex lin_go cls_go) ?_
  refine aK_c (ex lin_il cls_il) ?_
  refine aK_c (ex lin_if cls_if) ?_
  refine aK_c (ex lin_il cls_il) ?_
  refine aK_c (ex lin_go cls_go) ?_
  refine aK_c (ex lin_il cls_il) ?_
  refine aK_c (ex lin_ri cls_ri) ?_
  exact aK_n
theorem zX5_fullest : aCC CX5_fullest := aCC.of kX5_fullest
theorem kX5_cruel : aKl tX5_cruel := by
  unfold tX5_cruel
  refine aK_c (ex lin_ii cls_ii) ?_
  refine aK_c (ex lin_is cls_is) ?_
  refine aK_c (ex lin_ii cls_ii) ?_
  refine aK_c (ex lin_is cls_is) ?_
  refine aK_c (ex lin_il cls_il) ?_
  refine aK_c (ex lin_ii cls_ii) ?_
  refine aK_c (ex lin_ic cls_ic) ?_
  refine aK_c (ex lin_al cls_al) ?_
  refine aK_c (ex lin_il cls_il) ?_
  refine aK_c (ex lin_cV (cls_cV zX5_isThere)) ?_
  refine aK_c (ex lin_if cls_if) ?_
  refine aK_c (ex lin_il cls_il) ?_
  refine aK_c (ex lin_al cls_al) ?_
  refine aK_c (ex lin_il cls_il) ?_
  refine aK_c (ex lin_cV (cls_cV zX5_whoMay)) ?_
  refine aK_c (ex lin_if cls_if) ?_
  refine aK_c (ex lin_ii cls_ii) ?_
  refine aK_c (ex lin_il cls_il) ?_
  refine aK_c (ex lin_bi cls_bi) ?_
  refine aK_c (ex lin_go cls_go) ?_
  refine aK_c (ex lin_ii cls_ii) ?_
  refine aK_c (ex lin_bi cls_bi) ?_
  refine aK_c (ex lin_is cls_is) ?_
  refine aK_c (ex lin_inc cls_inc) ?_
  refine aK_c (ex lin_go cls_go) ?_
  refine aK_c (ex lin_il cls_il) ?_
  refine aK_c (ex lin_ri cls_ri) ?_
  exact aK_n
theorem zX5_cruel : aCC CX5_cruel := aCC.of kX5_cruel
theorem kX5_lowest : aKl tX5_lowest := by
  unfold tX5_lowest
  refine aK_c (ex lin_ll cls_ll) ?_
  refine aK_c (ex lin_lc cls_lc) ?_
  refine aK_c (ex lin_lcm cls_lcm) ?_
  refine aK_c (ex lin_if cls_if) ?_
  refine aK_c (ex lin_il cls_il) ?_
  refine aK_c (ex lin_tl cls_tl) ?_
  refine aK_c (ex lin_rl cls_rl) ?_
  refine aK_c (ex lin_ll cls_ll) ?_
  refine aK_c (ex lin_ls cls_ls) ?_
  refine aK_c (ex lin_ll cls_ll) ?_
  refine aK_c (ex lin_ls cls_ls) ?_
  refine aK_c (ex (lin_mk lin_ll) (cls_mk cls_ll)) ?_
  refine aK_c (ex lin_lc cls_lc) ?_
  refine aK_c (ex lin_lcm cls_lcm) ?_
  refine aK_c (ex lin_if cls_if) ?_
  refine aK_c (ex lin_ll cls_ll) ?_
  refine aK_c (ex lin_ll cls_ll) ?_
  refine aK_c (ex lin_lrm cls_lrm) ?_
  refine aK_c (ex lin_ls cls_ls) ?_
  refine aK_c (ex lin_ll cls_ll) ?_
  refine aK_c (ex lin_ls cls_ls) ?_
  refine aK_c (ex lin_ll cls_ll) ?_
  refine aK_c (ex lin_ls cls_ls) ?_
  refine aK_c (ex lin_go cls_go) ?_
  refine aK_c (ex lin_il cls_il) ?_
  refine aK_c (ex lin_if cls_if) ?_
  refine aK_c (ex lin_ll cls_ll) ?_
  refine aK_c (ex lin_go cls_go) ?_
  refine aK_c (ex lin_ll cls_ll) ?_
  refine aK_c (ex lin_ll cls_ll) ?_
  refine aK_c (ex lin_ldv cls_ldv) ?_
  refine aK_c (ex lin_rl cls_rl) ?_
  exact aK_n
theorem zX5_lowest : aCC CX5_lowest := aCC.of kX5_lowest
theorem kX5_ruin : aKl tX5_ruin := by
  unfold tX5_ruin
  refine aK_c (ex lin_ii cls_ii) ?_
  refine aK_c (ex lin_is cls_is) ?_
  refine aK_c (ex lin_ii cls_ii) ?_
  refine aK_c (ex lin_is cls_is) ?_
  refine aK_c (ex lin_il cls_il) ?_
  refine aK_c (ex lin_al cls_al) ?_
  refine aK_c (ex lin_gI cls_gI) ?_
  refine aK_c (ex lin_ic cls_ic) ?_
  refine aK_c (ex lin_il cls_il) ?_
  refine aK_c (ex lin_al cls_al) ?_
  refine aK_c (ex lin_gF (cls_gF 3 rfl (Nat.le_of_ble_eq_true rfl))) ?_
  refine aK_c (ex lin_ii cls_ii) ?_
  refine aK_c (ex lin_il cls_il) ?_
  refine aK_c (ex lin_bi cls_bi) ?_
  refine aK_c (ex lin_iald cls_iald) ?_
  refine aK_c (ex lin_cS (cls_cS zX5_onesOf)) ?_
  refine aK_c (ex lin_bi cls_bi) ?_
  refine aK_c (ex lin_is cls_is) ?_
  refine aK_c (ex lin_inc cls_inc) ?_
  refine aK_c (ex lin_go cls_go) ?_
  refine aK_c (ex lin_il cls_il) ?_
  refine aK_c (ex lin_ii cls_ii) ?_
  refine aK_c (ex lin_ii cls_ii) ?_
  refine aK_c (ex lin_cS (cls_cS zX5_in)) ?_
  refine aK_c (ex lin_if cls_if) ?_
  refine aK_c (ex lin_al cls_al) ?_
  refine aK_c (ex lin_gI cls_gI) ?_
  refine aK_c (ex lin_if cls_if) ?_
  refine aK_c (ex lin_il cls_il) ?_
  refine aK_c (ex lin_tl cls_tl) ?_
  refine aK_c (ex lin_al cls_al) ?_
  refine aK_c (ex lin_gI cls_gI) ?_
  refine aK_c (ex lin_tl cls_tl) ?_
  refine aK_c (ex lin_il cls_il) ?_
  refine aK_c (ex lin_cS (cls_cS zX5_lowest)) ?_
  refine aK_c (ex lin_go cls_go) ?_
  refine aK_c (ex lin_lc cls_lc) ?_
  refine aK_c (ex lin_rl cls_rl) ?_
  exact aK_n
theorem zX5_ruin : aCC CX5_ruin := aCC.of kX5_ruin
theorem kX5_sheetWrong : aKl tX5_sheetWrong := by
  unfold tX5_sheetWrong
  refine aK_c (ex lin_il cls_il) ?_
  refine aK_c (ex lin_ii cls_ii) ?_
  refine aK_c (ex lin_ii cls_ii) ?_
  refine aK_c (ex lin_cS (cls_cS zX5_in)) ?_
  refine aK_c (ex lin_if cls_if) ?_
  refine aK_c (ex lin_ii cls_ii) ?_
  refine aK_c (ex lin_ri cls_ri) ?_
  refine aK_c (ex lin_al cls_al) ?_
  refine aK_c (ex lin_gF (cls_gF 16 rfl (Nat.le_of_ble_eq_true rfl))) ?_
  refine aK_c (ex lin_il cls_il) ?_
  refine aK_c (ex lin_iald cls_iald) ?_
  refine aK_c (ex lin_ii cls_ii) ?_
  refine aK_c (ex lin_ic cls_ic) ?_
  refine aK_c (ex lin_ii cls_ii) ?_
  refine aK_c (ex lin_ri cls_ri) ?_
  refine aK_c (ex lin_al cls_al) ?_
  refine aK_c (ex lin_gF (cls_gF 17 rfl (Nat.le_of_ble_eq_true rfl))) ?_
  refine aK_c (ex lin_il cls_il) ?_
  refine aK_c (ex lin_iald cls_iald) ?_
  refine aK_c (ex lin_ii cls_ii) ?_
  refine aK_c (ex lin_ic cls_ic) ?_
  refine aK_c (ex lin_ii cls_ii) ?_
  refine aK_c (ex lin_go cls_go) ?_
  refine aK_c (ex lin_ii cls_ii) ?_
  refine aK_c (ex lin_ri cls_ri) ?_
  exact aK_n
theorem zX5_sheetWrong : aCC CX5_sheetWrong := aCC.of kX5_sheetWrong
theorem kX5_unlike : aKl tX5_unlike := by
  unfold tX5_unlike
  refine aK_c (ex lin_ii cls_ii) ?_
  refine aK_c (ex lin_is cls_is) ?_
  refine aK_c (ex lin_al cls_al) ?_
  refine aK_c (ex lin_cV (cls_cV zX5_keeps)) ?_
  refine aK_c (ex lin_ii cls_ii) ?_
  refine aK_c (ex lin_is cls_is) ?_
  refine aK_c (ex lin_il cls_il) ?_
  refine aK_c (ex lin_al cls_al) ?_
  refine aK_c (ex lin_gF (cls_gF 17 rfl (Nat.le_of_ble_eq_true rfl))) ?_
  refine aK_c (ex lin_il cls_il) ?_
  refine aK_c (ex lin_iald cls_iald) ?_
  refine aK_c (ex lin_ic cls_ic) ?_
  refine aK_c (ex lin_il cls_il) ?_
  refine aK_c (ex lin_ii cls_ii) ?_
  refine aK_c (ex lin_ic cls_ic) ?_
  refine aK_c (ex lin_al cls_al) ?_
  refine aK_c (ex lin_gF (cls_gF 18 rfl (Nat.le_of_ble_eq_true rfl))) ?_
  refine aK_c (ex lin_ii cls_ii) ?_
  refine aK_c (ex lin_il cls_il) ?_
  refine aK_c (ex lin_bi cls_bi) ?_
  refine aK_c (ex lin_il cls_il) ?_
  refine aK_c (ex lin_bi cls_bi) ?_
  refine aK_c (ex lin_iald cls_iald) ?_
  refine aK_c (ex lin_al cls_al) ?_
  refine aK_c (ex lin_cV (cls_cV zX5_dayOf)) ?_
  refine aK_c (ex lin_cS (cls_cS zX5_onesOf)) ?_
  refine aK_c (ex lin_ic cls_ic) ?_
  refine aK_c (ex lin_ii cls_ii) ?_
  refine aK_c (ex lin_go cls_go) ?_
  refine aK_c (ex lin_il cls_il) ?_
  refine aK_c (ex lin_is cls_is) ?_
  refine aK_c (ex lin_inc cls_inc) ?_
  refine aK_c (ex lin_go cls_go) ?_
  refine aK_c (ex lin_al cls_al) ?_
  refine aK_c (ex lin_cV (cls_cV zX5_lays)) ?_
  refine aK_c (ex lin_il cls_il) ?_
  refine aK_c (ex lin_ri cls_ri) ?_
  exact aK_n
theorem zX5_unlike : aCC CX5_unlike := aCC.of kX5_unlike
theorem kX5_tells : aKl tX5_tells := by
  unfold tX5_tells
  refine aK_c (ex lin_al cls_al) ?_
  refine aK_c (ex lin_il cls_il) ?_
  refine aK_c (ex lin_cV (cls_cV zX5_sheetWrong)) ?_
  refine aK_c (ex lin_is cls_is) ?_
  refine aK_c (ex lin_il cls_il) ?_
  refine aK_c (ex lin_if cls_if) ?_
  refine aK_c (ex lin_al cls_al) ?_
  refine aK_c (ex lin_il cls_il) ?_
  refine aK_c (ex lin_cV (cls_cV zX5_unlike)) ?_
  refine aK_c (ex lin_go cls_go) ?_
  refine aK_c (ex lin_il cls_il) ?_
  refine aK_c (ex lin_ri cls_ri) ?_
  exact aK_n
theorem zX5_tells : aCC CX5_tells := aCC.of kX5_tells
theorem kX5_kinds : aKl tX5_kinds := by
  unfold tX5_kinds
  refine aK_c (ex lin_al cls_al) ?_
  refine aK_c (ex lin_il cls_il) ?_
  refine aK_c (ex lin_cV (cls_cV zX5_sheetWrong)) ?_
  refine aK_c (ex lin_is cls_is) ?_
  refine aK_c (ex lin_il cls_il) ?_
  refine aK_c (ex lin_if cls_if) ?_
  refine aK_c (ex lin_il cls_il) ?_
  refine aK_c (ex lin_ri cls_ri) ?_
  refine aK_c (ex lin_al cls_al) ?_
  refine aK_c (ex lin_il cls_il) ?_
  refine aK_c (ex lin_cV (cls_cV zX5_isOne)) ?_
  refine aK_c (ex lin_if cls_if) ?_
  refine aK_c (ex lin_ii cls_ii) ?_
  refine aK_c (ex lin_ri cls_ri) ?_
  refine aK_c (ex lin_il cls_il) ?_
  refine aK_c (ex lin_ii cls_ii) ?_
  refine aK_c (ex lin_ii cls_ii) ?_
  refine aK_c (ex lin_cS (cls_cS zX5_in)) ?_
  refine aK_c (ex lin_if cls_if) ?_
  refine aK_c (ex lin_ii cls_ii) ?_
  refine aK_c (ex lin_ri cls_ri) ?_
  refine aK_c (ex lin_al cls_al) ?_
  refine aK_c (ex lin_gF (cls_gF 1 rfl (Nat.le_of_ble_eq_true rfl))) ?_
  refine aK_c (ex lin_il cls_il) ?_
  refine aK_c (ex lin_iald cls_iald) ?_
  refine aK_c (ex lin_is cls_is) ?_
  refine aK_c (ex lin_al cls_al) ?_
  refine aK_c (ex lin_gF (cls_gF 2 rfl (Nat.le_of_ble_eq_true rfl))) ?_
  refine aK_c (ex lin_il cls_il) ?_
  refine aK_c (ex lin_iald cls_iald) ?_
  refine aK_c (ex lin_is cls_is) ?_
  refine aK_c (ex lin_ii cls_ii) ?_
  refine aK_c (ex lin_is cls_is) ?_
  refine aK_c (ex lin_ii cls_ii) ?_
  refine aK_c (ex lin_is cls_is) ?_
  refine aK_c (ex (lin_mk lin_il) (cls_mk cls_il)) ?_
  refine aK_c (ex lin_il cls_il) ?_
  refine aK_c (ex lin_if cls_if) ?_
  refine aK_c (ex lin_ii cls_ii) ?_
  refine aK_c (ex lin_go cls_go) ?_
  refine aK_c (ex lin_ii cls_ii) ?_
  refine aK_c (ex lin_ic cls_ic) ?_
  refine aK_c (ex lin_al cls_al) ?_
  refine aK_c (ex lin_gF (cls_gF 1 rfl (Nat.le_of_ble_eq_true rfl))) ?_
  refine aK_c (ex lin_il cls_il) ?_
  refine aK_c (ex lin_il cls_il) ?_
  refine aK_c (ex lin_if cls_if) ?_
  refine aK_c (ex lin_il cls_il) ?_
  refine aK_c (ex lin_go cls_go) ?_
  refine aK_c (ex lin_il cls_il) ?_
  refine aK_c (ex lin_iast cls_iast) ?_
  refine aK_c (ex lin_al cls_al) ?_
  refine aK_c (ex lin_gF (cls_gF 2 rfl (Nat.le_of_ble_eq_true rfl))) ?_
  refine aK_c (ex lin_il cls_il) ?_
  refine aK_c (ex lin_il cls_il) ?_
  refine aK_c (ex lin_ii cls_ii) ?_
  refine aK_c (ex lin_ic cls_ic) ?_
  refine aK_c (ex lin_il cls_il) ?_
  refine aK_c (ex lin_go cls_go) ?_
  refine aK_c (ex lin_il cls_il) ?_
  refine aK_c (ex lin_iast cls_iast) ?_
  refine aK_c (ex lin_il cls_il) ?_
  refine aK_c (ex lin_al cls_al) ?_
  refine aK_c (ex lin_il cls_il) ?_
  refine aK_c (ex lin_cV (cls_cV zX5_unlike)) ?_
  refine aK_c (ex lin_ii cls_ii) ?_
  refine aK_c (ex lin_ic cls_ic) ?_
  refine aK_c (ex lin_ii cls_ii) ?_
  refine aK_c (ex lin_il cls_il) ?_
  refine aK_c (ex lin_bi cls_bi) ?_
  refine aK_c (ex lin_go cls_go) ?_
  refine aK_c (ex lin_ii cls_ii) ?_
  refine aK_c (ex lin_bi cls_bi) ?_
  refine aK_c (ex lin_is cls_is) ?_
  refine aK_c (ex lin_inc cls_inc) ?_
  refine aK_c (ex lin_go cls_go) ?_
  refine aK_c (ex lin_al cls_al) ?_
  refine aK_c (ex lin_gF (cls_gF 1 rfl (Nat.le_of_ble_eq_true rfl))) ?_
  refine aK_c (ex lin_il cls_il) ?_
  refine aK_c (ex lin_il cls_il) ?_
  refine aK_c (ex lin_iast cls_iast) ?_
  refine aK_c (ex lin_al cls_al) ?_
  refine aK_c (ex lin_gF (cls_gF 2 rfl (Nat.le_of_ble_eq_true rfl))) ?_
  refine aK_c (ex lin_il cls_il) ?_
  refine aK_c (ex lin_il cls_il) ?_
  refine aK_c (ex lin_iast cls_iast) ?_
  refine aK_c (ex lin_il cls_il) ?_
  refine aK_c (ex lin_ri cls_ri) ?_
  exact aK_n
theorem zX5_kinds : aCC CX5_kinds := aCC.of kX5_kinds
theorem kX5_turned : aKl tX5_turned := by
  unfold tX5_turned
  refine aK_c (ex lin_al cls_al) ?_
  refine aK_c (ex lin_il cls_il) ?_
  refine aK_c (ex lin_cV (cls_cV zX5_sheetWrong)) ?_
  refine aK_c (ex lin_is cls_is) ?_
  refine aK_c (ex lin_il cls_il) ?_
  refine aK_c (ex lin_if cls_if) ?_
  refine aK_c (ex lin_il cls_il) ?_
  refine aK_c (ex lin_ri cls_ri) ?_
  refine aK_c (ex lin_al cls_al) ?_
  refine aK_c (ex lin_il cls_il) ?_
  refine aK_c (ex lin_cV (cls_cV zX5_isOne)) ?_
  refine aK_c (ex lin_if cls_if) ?_
  refine aK_c (ex lin_ii cls_ii) ?_
  refine aK_c (ex lin_ri cls_ri) ?_
  refine aK_c (ex lin_ii cls_ii) ?_
  refine aK_c (ex lin_is cls_is) ?_
  refine aK_c (ex lin_ii cls_ii) ?_
  refine aK_c (ex lin_is cls_is) ?_
  refine aK_c (ex (lin_mk lin_il) (cls_mk cls_il)) ?_
  refine aK_c (ex lin_ii cls_ii) ?_
  refine aK_c (ex lin_ic cls_ic) ?_
  refine aK_c (ex lin_al cls_al) ?_
  refine aK_c (ex lin_gF (cls_gF 3 rfl (Nat.le_of_ble_eq_true rfl))) ?_
  refine aK_c (ex lin_ii cls_ii) ?_
  refine aK_c (ex lin_il cls_il) ?_
  refine aK_c (ex lin_bi cls_bi) ?_
  refine aK_c (ex lin_dup2 cls_dup2) ?_
  refine aK_c (ex lin_iald cls_iald) ?_
  refine aK_c (ex lin_ii cls_ii) ?_
  refine aK_c (ex lin_il cls_il) ?_
  refine aK_c (ex lin_bi cls_bi) ?_
  refine aK_c (ex lin_bi cls_bi) ?_
  refine aK_c (ex lin_iast cls_iast) ?_
  refine aK_c (ex lin_il cls_il) ?_
  refine aK_c (ex lin_al cls_al) ?_
  refine aK_c (ex lin_il cls_il) ?_
  refine aK_c (ex lin_cV (cls_cV zX5_unlike)) ?_
  refine aK_c (ex lin_ii cls_ii) ?_
  refine aK_c (ex lin_ic cls_ic) ?_
  refine aK_c (ex lin_ii cls_ii) ?_
  refine aK_c (ex lin_il cls_il) ?_
  refine aK_c (ex lin_bi cls_bi) ?_
  refine aK_c (ex lin_go cls_go) ?_
  refine aK_c (ex lin_ii cls_ii) ?_
  refine aK_c (ex lin_bi cls_bi) ?_
  refine aK_c (ex lin_is cls_is) ?_
  refine aK_c (ex lin_al cls_al) ?_
  refine aK_c (ex lin_gF (cls_gF 3 rfl (Nat.le_of_ble_eq_true rfl))) ?_
  refine aK_c (ex lin_ii cls_ii) ?_
  refine aK_c (ex lin_il cls_il) ?_
  refine aK_c (ex lin_bi cls_bi) ?_
  refine aK_c (ex lin_dup2 cls_dup2) ?_
  refine aK_c (ex lin_iald cls_iald) ?_
  refine aK_c (ex lin_ii cls_ii) ?_
  refine aK_c (ex lin_il cls_il) ?_
  refine aK_c (ex lin_bi cls_bi) ?_
  refine aK_c (ex lin_bi cls_bi) ?_
  refine aK_c (ex lin_iast cls_iast) ?_
  refine aK_c (ex lin_inc cls_inc) ?_
  refine aK_c (ex lin_go cls_go) ?_
  refine aK_c (ex lin_il cls_il) ?_
  refine aK_c (ex lin_ri cls_ri) ?_
  exact aK_n
theorem zX5_turned : aCC CX5_turned := aCC.of kX5_turned
theorem kX5_states : aKl tX5_states := by
  unfold tX5_states
  refine aK_c (ex lin_al cls_al) ?_
  refine aK_c (ex lin_il cls_il) ?_
  refine aK_c (ex lin_cV (cls_cV zX5_sheetWrong)) ?_
  refine aK_c (ex lin_is cls_is) ?_
  refine aK_c (ex lin_il cls_il) ?_
  refine aK_c (ex lin_if cls_if) ?_
  refine aK_c (ex lin_il cls_il) ?_
  refine aK_c (ex lin_ri cls_ri) ?_
  refine aK_c (ex lin_al cls_al) ?_
  refine aK_c (ex lin_il cls_il) ?_
  refine aK_c (ex lin_cV (cls_cV zX5_isOne)) ?_
  refine aK_c (ex lin_if cls_if) ?_
  refine aK_c (ex lin_ii cls_ii) ?_
  refine aK_c (ex lin_ri cls_ri) ?_
  refine aK_c (ex lin_il cls_il) ?_
  refine aK_c (ex lin_ii cls_ii) ?_
  refine aK_c (ex lin_ii cls_ii) ?_
  refine aK_c (ex lin_cS (cls_cS zX5_in)) ?_
  refine aK_c (ex lin_if cls_if) ?_
  refine aK_c (ex lin_il cls_il) ?_
  refine aK_c (ex lin_ii cls_ii) ?_
  refine aK_c (ex lin_ii cls_ii) ?_
  refine aK_c (ex lin_cS (cls_cS zX5_in)) ?_
  refine aK_c (ex lin_if cls_if) ?_
  refine aK_c (ex lin_ii cls_ii) ?_
  refine aK_c (ex lin_ri cls_ri) ?_
  refine aK_c (ex lin_al cls_al) ?_
  refine aK_c (ex lin_gF (cls_gF 3 rfl (Nat.le_of_ble_eq_true rfl))) ?_
  refine aK_c (ex lin_ii cls_ii) ?_
  refine aK_c (ex lin_il cls_il) ?_
  refine aK_c (ex lin_bi cls_bi) ?_
  refine aK_c (ex lin_il cls_il) ?_
  refine aK_c (ex lin_bi cls_bi) ?_
  refine aK_c (ex lin_iald cls_iald) ?_
  refine aK_c (ex lin_is cls_is) ?_
  refine aK_c (ex lin_ii cls_ii) ?_
  refine aK_c (ex lin_is cls_is) ?_
  refine aK_c (ex lin_ii cls_ii) ?_
  refine aK_c (ex lin_is cls_is) ?_
  refine aK_c (ex lin_ii cls_ii) ?_
  refine aK_c (ex lin_is cls_is) ?_
  refine aK_c (ex (lin_mk lin_il) (cls_mk cls_il)) ?_
  refine aK_c (ex lin_ii cls_ii) ?_
  refine aK_c (ex lin_ic cls_ic) ?_
  refine aK_c (ex lin_al cls_al) ?_
  refine aK_c (ex lin_gF (cls_gF 3 rfl (Nat.le_of_ble_eq_true rfl))) ?_
  refine aK_c (ex lin_ii cls_ii) ?_
  refine aK_c (ex lin_il cls_il) ?_
  refine aK_c (ex lin_bi cls_bi) ?_
  refine aK_c (ex lin_il cls_il) ?_
  refine aK_c (ex lin_bi cls_bi) ?_
  refine aK_c (ex lin_il cls_il) ?_
  refine aK_c (ex lin_iast cls_iast) ?_
  refine aK_c (ex lin_al cls_al) ?_
  refine aK_c (ex lin_il cls_il) ?_
  refine aK_c (ex lin_cV (cls_cV zX5_unlike)) ?_
  refine aK_c (ex lin_ii cls_ii) ?_
  refine aK_c (ex lin_ic cls_ic) ?_
  refine aK_c (ex lin_ii cls_ii) ?_
  refine aK_c (ex lin_go cls_go) ?_
  refine aK_c (ex lin_ii cls_ii) ?_
  refine aK_c (ex lin_is cls_is) ?_
  refine aK_c (ex lin_il cls_il) ?_
  refine aK_c (ex lin_il cls_il) ?_
  refine aK_c (ex lin_if cls_if) ?_
  refine aK_c (ex lin_ii cls_ii) ?_
  refine aK_c (ex lin_go cls_go) ?_
  refine aK_c (ex lin_ii cls_ii) ?_
  refine aK_c (ex lin_bi cls_bi) ?_
  refine aK_c (ex lin_is cls_is) ?_
  refine aK_c (ex lin_il cls_il) ?_
  refine aK_c (ex lin_if cls_if) ?_
  refine aK_c (ex lin_il cls_il) ?_
  refine aK_c (ex lin_ii cls_ii) ?_
  refine aK_c (ex lin_ic cls_ic) ?_
  refine aK_c (ex lin_il cls_il) ?_
  refine aK_c (ex lin_go cls_go) ?_
  refine aK_c (ex lin_il cls_il) ?_
  refine aK_c (ex lin_is cls_is) ?_
  refine aK_c (ex lin_inc cls_inc) ?_
  refine aK_c (ex lin_go cls_go) ?_
  refine aK_c (ex lin_al cls_al) ?_
  refine aK_c (ex lin_gF (cls_gF 3 rfl (Nat.le_of_ble_eq_true rfl))) ?_
  refine aK_c (ex lin_ii cls_ii) ?_
  refine aK_c (ex lin_il cls_il) ?_
  refine aK_c (ex lin_bi cls_bi) ?_
  refine aK_c (ex lin_il cls_il) ?_
  refine aK_c (ex lin_bi cls_bi) ?_
  refine aK_c (ex lin_il cls_il) ?_
  refine aK_c (ex lin_iast cls_iast) ?_
  refine aK_c (ex lin_il cls_il) ?_
  refine aK_c (ex lin_if cls_if) ?_
  refine aK_c (ex lin_il cls_il) ?_
  refine aK_c (ex lin_go cls_go) ?_
  refine aK_c (ex lin_il cls_il) ?_
  refine aK_c (ex lin_ri cls_ri) ?_
  exact aK_n
theorem zX5_states : aCC CX5_states := aCC.of kX5_states
theorem kX5_dropped : aKl tX5_dropped := by
  unfold tX5_dropped
  refine aK_c (ex lin_al cls_al) ?_
  refine aK_c (ex lin_il cls_il) ?_
  refine aK_c (ex lin_cV (cls_cV zX5_sheetWrong)) ?_
  refine aK_c (ex lin_is cls_is) ?_
  refine aK_c (ex lin_il cls_il) ?_
  refine aK_c (ex lin_if cls_if) ?_
  refine aK_c (ex lin_il cls_il) ?_
  refine aK_c (ex lin_ri cls_ri) ?_
  refine aK_c (ex lin_ii cls_ii) ?_
  refine aK_c (ex lin_is cls_is) ?_
  refine aK_c (ex lin_ii cls_ii) ?_
  refine aK_c (ex lin_is cls_is) ?_
  refine aK_c (ex (lin_mk lin_il) (cls_mk cls_il)) ?_
  refine aK_c (ex lin_ii cls_ii) ?_
  refine aK_c (ex lin_ic cls_ic) ?_
  refine aK_c (ex lin_al cls_al) ?_
  refine aK_c (ex lin_gF (cls_gF 4 rfl (Nat.le_of_ble_eq_true rfl))) ?_
  refine aK_c (ex lin_ii cls_ii) ?_
  refine aK_c (ex lin_il cls_il) ?_
  refine aK_c (ex lin_bi cls_bi) ?_
  refine aK_c (ex lin_iald cls_iald) ?_
  refine aK_c (ex lin_is cls_is) ?_
  refine aK_c (ex lin_il cls_il) ?_
  refine aK_c (ex lin_if cls_if) ?_
  refine aK_c (ex lin_al cls_al) ?_
  refine aK_c (ex lin_gF (cls_gF 4 rfl (Nat.le_of_ble_eq_true rfl))) ?_
  refine aK_c (ex lin_ii cls_ii) ?_
  refine aK_c (ex lin_il cls_il) ?_
  refine aK_c (ex lin_bi cls_bi) ?_
  refine aK_c (ex lin_ii cls_ii) ?_
  refine aK_c (ex lin_iast cls_iast) ?_
  refine aK_c (ex lin_il cls_il) ?_
  refine aK_c (ex lin_al cls_al) ?_
  refine aK_c (ex lin_il cls_il) ?_
  refine aK_c (ex lin_cV (cls_cV zX5_unlike)) ?_
  refine aK_c (ex lin_ii cls_ii) ?_
  refine aK_c (ex lin_ic cls_ic) ?_
  refine aK_c (ex lin_ii cls_ii) ?_
  refine aK_c (ex lin_il cls_il) ?_
  refine aK_c (ex lin_bi cls_bi) ?_
  refine aK_c (ex lin_go cls_go) ?_
  refine aK_c (ex lin_ii cls_ii) ?_
  refine aK_c (ex lin_bi cls_bi) ?_
  refine aK_c (ex lin_is cls_is) ?_
  refine aK_c (ex lin_al cls_al) ?_
  refine aK_c (ex lin_gF (cls_gF 4 rfl (Nat.le_of_ble_eq_true rfl))) ?_
  refine aK_c (ex lin_ii cls_ii) ?_
  refine aK_c (ex lin_il cls_il) ?_
  refine aK_c (ex lin_bi cls_bi) ?_
  refine aK_c (ex lin_il cls_il) ?_
  refine aK_c (ex lin_iast cls_iast) ?_
  refine aK_c (ex lin_inc cls_inc) ?_
  refine aK_c (ex lin_go cls_go) ?_
  refine aK_c (ex lin_il cls_il) ?_
  refine aK_c (ex lin_ri cls_ri) ?_
  exact aK_n
theorem zX5_dropped : aCC CX5_dropped := aCC.of kX5_dropped
theorem kX5_laws : aKl tX5_laws := by
  unfold tX5_laws
  refine aK_c (ex lin_al cls_al) ?_
  refine aK_c (ex lin_il cls_il) ?_
  refine aK_c (ex lin_cV (cls_cV zX5_sheetWrong)) ?_
  refine aK_c (ex lin_is cls_is) ?_
  refine aK_c (ex lin_il cls_il) ?_
  refine aK_c (ex lin_if cls_if) ?_
  refine aK_c (ex lin_il cls_il) ?_
  refine aK_c (ex lin_ri cls_ri) ?_
  refine aK_c (ex lin_al cls_al) ?_
  refine aK_c (ex lin_gI cls_gI) ?_
  refine aK_c (ex lin_is cls_is) ?_
  refine aK_c (ex lin_ii cls_ii) ?_
  refine aK_c (ex lin_is cls_is) ?_
  refine aK_c (ex lin_ii cls_ii) ?_
  refine aK_c (ex lin_is cls_is) ?_
  refine aK_c (ex (lin_mk lin_il) (cls_mk cls_il)) ?_
  refine aK_c (ex lin_al cls_al) ?_
  refine aK_c (ex lin_gI cls_gI) ?_
  refine aK_c (ex lin_ic cls_ic) ?_
  refine aK_c (ex lin_al cls_al) ?_
  refine aK_c (ex lin_il cls_il) ?_
  refine aK_c (ex lin_pI cls_pI) ?_
  refine aK_c (ex lin_il cls_il) ?_
  refine aK_c (ex lin_al cls_al) ?_
  refine aK_c (ex lin_il cls_il) ?_
  refine aK_c (ex lin_cV (cls_cV zX5_unlike)) ?_
  refine aK_c (ex lin_ii cls_ii) ?_
  refine aK_c (ex lin_ic cls_ic) ?_
  refine aK_c (ex lin_ii cls_ii) ?_
  refine aK_c (ex lin_il cls_il) ?_
  refine aK_c (ex lin_bi cls_bi) ?_
  refine aK_c (ex lin_go cls_go) ?_
  refine aK_c (ex lin_ii cls_ii) ?_
  refine aK_c (ex lin_bi cls_bi) ?_
  refine aK_c (ex lin_is cls_is) ?_
  refine aK_c (ex lin_inc cls_inc) ?_
  refine aK_c (ex lin_go cls_go) ?_
  refine aK_c (ex lin_al cls_al) ?_
  refine aK_c (ex lin_il cls_il) ?_
  refine aK_c (ex lin_pI cls_pI) ?_
  refine aK_c (ex lin_il cls_il) ?_
  refine aK_c (ex lin_ri cls_ri) ?_
  exact aK_n
theorem zX5_laws : aCC CX5_laws := aCC.of kX5_laws
theorem kX5_film : aKl tX5_film := by
  unfold tX5_film
  refine aK_c (ex lin_il cls_il) ?_
  refine aK_c (ex lin_ii cls_ii) ?_
  refine aK_c (ex lin_ii cls_ii) ?_
  refine aK_c (ex lin_cS (cls_cS zX5_in)) ?_
  refine aK_c (ex lin_if cls_if) ?_
  refine aK_c (ex lin_ii cls_ii) ?_
  refine aK_c (ex lin_ri cls_ri) ?_
  refine aK_c (ex lin_il cls_il) ?_
  refine aK_c (ex lin_ii cls_ii) ?_
  refine aK_c (ex lin_ii cls_ii) ?_
  refine aK_c (ex lin_cS (cls_cS zX5_in)) ?_
  refine aK_c (ex lin_if cls_if) ?_
  refine aK_c (ex lin_ii cls_ii) ?_
  refine aK_c (ex lin_ri cls_ri) ?_
  refine aK_c (ex lin_al cls_al) ?_
  refine aK_c (ex lin_gF (cls_gF 16 rfl (Nat.le_of_ble_eq_true rfl))) ?_
  refine aK_c (ex lin_il cls_il) ?_
  refine aK_c (ex lin_ii cls_ii) ?_
  refine aK_c (ex lin_iast cls_iast) ?_
  refine aK_c (ex lin_al cls_al) ?_
  refine aK_c (ex lin_gF (cls_gF 17 rfl (Nat.le_of_ble_eq_true rfl))) ?_
  refine aK_c (ex lin_il cls_il) ?_
  refine aK_c (ex lin_il cls_il) ?_
  refine aK_c (ex lin_iast cls_iast) ?_
  refine aK_c (ex lin_al cls_al) ?_
  refine aK_c (ex lin_cV (cls_cV zX5_keeps)) ?_
  refine aK_c (ex lin_ii cls_ii) ?_
  refine aK_c (ex lin_is cls_is) ?_
  refine aK_c (ex lin_il cls_il) ?_
  refine aK_c (ex lin_ii cls_ii) ?_
  refine aK_c (ex lin_ic cls_ic) ?_
  refine aK_c (ex lin_al cls_al) ?_
  refine aK_c (ex lin_gF (cls_gF 18 rfl (Nat.le_of_ble_eq_true rfl))) ?_
  refine aK_c (ex lin_ii cls_ii) ?_
  refine aK_c (ex lin_il cls_il) ?_
  refine aK_c (ex lin_bi cls_bi) ?_
  refine aK_c (ex lin_il cls_il) ?_
  refine aK_c (ex lin_bi cls_bi) ?_
  refine aK_c (ex lin_il cls_il) ?_
  refine aK_c (ex lin_il cls_il) ?_
  refine aK_c (ex lin_ic cls_ic) ?_
  refine aK_c (ex lin_al cls_al) ?_
  refine aK_c (ex lin_cV (cls_cV zX5_dayOf)) ?_
  refine aK_c (ex lin_cS (cls_cS zX5_onesOf)) ?_
  refine aK_c (ex lin_go cls_go) ?_
  refine aK_c (ex lin_ii cls_ii) ?_
  refine aK_c (ex lin_iast cls_iast) ?_
  refine aK_c (ex lin_inc cls_inc) ?_
  refine aK_c (ex lin_go cls_go) ?_
  refine aK_c (ex lin_al cls_al) ?_
  refine aK_c (ex lin_cV (cls_cV zX5_lays)) ?_
  refine aK_c (ex lin_il cls_il) ?_
  refine aK_c (ex lin_ri cls_ri) ?_
  exact aK_n
theorem zX5_film : aCC CX5_film := aCC.of kX5_film
theorem kX5_burglars : aKl tX5_burglars := by
  unfold tX5_burglars
  refine aK_c (ex lin_il cls_il) ?_
  refine aK_c (ex lin_tl cls_tl) ?_
  refine aK_c (ex lin_lc cls_lc) ?_
  refine aK_c (ex lin_bl cls_bl) ?_
  refine aK_c (ex lin_ls cls_ls) ?_
  refine aK_c (ex lin_ii cls_ii) ?_
  refine aK_c (ex lin_is cls_is) ?_
  refine aK_c (ex lin_al cls_al) ?_
  refine aK_c (ex lin_cV (cls_cV zX5_keeps)) ?_
  refine aK_c (ex lin_ii cls_ii) ?_
  refine aK_c (ex lin_is cls_is) ?_
  refine aK_c (ex (lin_mk lin_il) (cls_mk cls_il)) ?_
  refine aK_c (ex lin_ii cls_ii) ?_
  refine aK_c (ex lin_ic cls_ic) ?_
  refine aK_c (ex lin_ll cls_ll) ?_
  refine aK_c (ex lin_lc cls_lc) ?_
  refine aK_c (ex lin_bl cls_bl) ?_
  refine aK_c (ex lin_lc cls_lc) ?_
  refine aK_c (ex lin_lrm cls_lrm) ?_
  refine aK_c (ex lin_ls cls_ls) ?_
  refine aK_c (ex lin_ll cls_ll) ?_
  refine aK_c (ex lin_lc cls_lc) ?_
  refine aK_c (ex lin_lrm cls_lrm) ?_
  refine aK_c (ex lin_ti cls_ti) ?_
  refine aK_c (ex lin_is cls_is) ?_
  refine aK_c (ex lin_ll cls_ll) ?_
  refine aK_c (ex lin_lc cls_lc) ?_
  refine aK_c (ex lin_bl cls_bl) ?_
  refine aK_c (ex lin_lc cls_lc) ?_
  refine aK_c (ex lin_lrm cls_lrm) ?_
  refine aK_c (ex lin_ls cls_ls) ?_
  refine aK_c (ex lin_il cls_il) ?_
  refine aK_c (ex lin_al cls_al) ?_
  refine aK_c (ex lin_gI cls_gI) ?_
  refine aK_c (ex lin_ic cls_ic) ?_
  refine aK_c (ex lin_al cls_al) ?_
  refine aK_c (ex lin_gF (cls_gF 3 rfl (Nat.le_of_ble_eq_true rfl))) ?_
  refine aK_c (ex lin_ii cls_ii) ?_
  refine aK_c (ex lin_il cls_il) ?_
  refine aK_c (ex lin_bi cls_bi) ?_
  refine aK_c (ex lin_dup2 cls_dup2) ?_
  refine aK_c (ex lin_iald cls_iald) ?_
  refine aK_c (ex lin_ii cls_ii) ?_
  refine aK_c (ex lin_ll cls_ll) ?_
  refine aK_c (ex lin_lc cls_lc) ?_
  refine aK_c (ex lin_lrm cls_lrm) ?_
  refine aK_c (ex lin_ti cls_ti) ?_
  refine aK_c (ex lin_bi cls_bi) ?_
  refine aK_c (ex lin_bi cls_bi) ?_
  refine aK_c (ex lin_iast cls_iast) ?_
  refine aK_c (ex lin_il cls_il) ?_
  refine aK_c (ex lin_al cls_al) ?_
  refine aK_c (ex lin_cV (cls_cV zX5_dayOf)) ?_
  refine aK_c (ex lin_cS (cls_cS zX5_onesOf)) ?_
  refine aK_c (ex lin_bi cls_bi) ?_
  refine aK_c (ex lin_is cls_is) ?_
  refine aK_c (ex lin_inc cls_inc) ?_
  refine aK_c (ex lin_go cls_go) ?_
  refine aK_c (ex lin_al cls_al) ?_
  refine aK_c (ex lin_al cls_al) ?_
  refine aK_c (ex lin_cV (cls_cV zX5_caseSet)) ?_
  refine aK_c (ex lin_pI cls_pI) ?_
  refine aK_c (ex lin_al cls_al) ?_
  refine aK_c (ex lin_cV (cls_cV zX5_lays)) ?_
  refine aK_c (ex lin_il cls_il) ?_
  refine aK_c (ex lin_ri cls_ri) ?_
  exact aK_n
theorem zX5_burglars : aCC CX5_burglars := aCC.of kX5_burglars
theorem kX5_drawn : aKl tX5_drawn := by
  unfold tX5_drawn
  refine aK_c (ex lin_il cls_il) ?_
  refine aK_c (ex lin_ii cls_ii) ?_
  refine aK_c (ex lin_ii cls_ii) ?_
  refine aK_c (ex lin_cS (cls_cS zX5_in)) ?_
  refine aK_c (ex lin_if cls_if) ?_
  refine aK_c (ex lin_il cls_il) ?_
  refine aK_c (ex lin_ii cls_ii) ?_
  refine aK_c (ex lin_ii cls_ii) ?_
  refine aK_c (ex lin_cS (cls_cS zX5_in)) ?_
  refine aK_c (ex lin_if cls_if) ?_
  refine aK_c (ex lin_ii cls_ii) ?_
  refine aK_c (ex lin_ri cls_ri) ?_
  refine aK_c (ex lin_al cls_al) ?_
  refine aK_c (ex lin_il cls_il) ?_
  refine aK_c (ex lin_cV (cls_cV zX5_burglars)) ?_
  refine aK_c (ex lin_is cls_is) ?_
  refine aK_c (ex lin_il cls_il) ?_
  refine aK_c (ex lin_if cls_if) ?_
  refine aK_c (ex lin_il cls_il) ?_
  refine aK_c (ex lin_go cls_go) ?_
  refine aK_c (ex lin_al cls_al) ?_
  refine aK_c (ex lin_gI cls_gI) ?_
  refine aK_c (ex lin_ri cls_ri) ?_
  exact aK_n
theorem zX5_drawn : aCC CX5_drawn := aCC.of kX5_drawn
theorem kX5_odds : aKl tX5_odds := by
  unfold tX5_odds
  refine aK_c (ex lin_il cls_il) ?_
  refine aK_c (ex lin_ii cls_ii) ?_
  refine aK_c (ex lin_ii cls_ii) ?_
  refine aK_c (ex lin_cS (cls_cS zX5_in)) ?_
  refine aK_c (ex lin_if cls_if) ?_
  refine aK_c (ex lin_il cls_il) ?_
  refine aK_c (ex lin_ii cls_ii) ?_
  refine aK_c (ex lin_ii cls_ii) ?_
  refine aK_c (ex lin_cS (cls_cS zX5_in)) ?_
  refine aK_c (ex lin_if cls_if) ?_
  refine aK_c (ex lin_il cls_il) ?_
  refine aK_c (ex lin_ii cls_ii) ?_
  refine aK_c (ex lin_ii cls_ii) ?_
  refine aK_c (ex lin_cS (cls_cS zX5_in)) ?_
  refine aK_c (ex lin_if cls_if) ?_
  refine aK_c (ex lin_il cls_il) ?_
  refine aK_c (ex lin_ii cls_ii) ?_
  refine aK_c (ex lin_ii cls_ii) ?_
  refine aK_c (ex lin_cS (cls_cS zX5_in)) ?_
  refine aK_c (ex lin_if cls_if) ?_
  refine aK_c (ex lin_lc cls_lc) ?_
  refine aK_c (ex lin_rl cls_rl) ?_
  refine aK_c (ex lin_lc cls_lc) ?_
  refine aK_c (ex lin_ls cls_ls) ?_
  refine aK_c (ex lin_ii cls_ii) ?_
  refine aK_c (ex lin_is cls_is) ?_
  refine aK_c (ex (lin_mk lin_il) (cls_mk cls_il)) ?_
  refine aK_c (ex lin_il cls_il) ?_
  refine aK_c (ex lin_ic cls_ic) ?_
  refine aK_c (ex lin_ll cls_ll) ?_
  refine aK_c (ex lin_al cls_al) ?_
  refine aK_c (ex lin_il cls_il) ?_
  refine aK_c (ex lin_il cls_il) ?_
  refine aK_c (ex lin_bi cls_bi) ?_
  refine aK_c (ex lin_cV (cls_cV zX5_burglars)) ?_
  refine aK_c (ex lin_il cls_il) ?_
  refine aK_c (ex lin_ic cls_ic) ?_
  refine aK_c (ex lin_lc cls_lc) ?_
  refine aK_c (ex lin_go cls_go) ?_
  refine aK_c (ex lin_lc cls_lc) ?_
  refine aK_c (ex lin_bl cls_bl) ?_
  refine aK_c (ex lin_ls cls_ls) ?_
  refine aK_c (ex lin_inc cls_inc) ?_
  refine aK_c (ex lin_go cls_go) ?_
  refine aK_c (ex lin_ll cls_ll) ?_
  refine aK_c (ex lin_il cls_il) ?_
  refine aK_c (ex lin_tl cls_tl) ?_
  refine aK_c (ex lin_il cls_il) ?_
  refine aK_c (ex lin_cS (cls_cS zX5_lowest)) ?_
  refine aK_c (ex lin_rl cls_rl) ?_
  exact aK_n
theorem zX5_odds : aCC CX5_odds := aCC.of kX5_odds
theorem kX5_image : aKl tX5_image := by
  unfold tX5_image
  refine aK_c (ex lin_al cls_al) ?_
  refine aK_c (ex lin_ii cls_ii) ?_
  refine aK_c (ex lin_pZ cls_pZ) ?_
  refine aK_c (ex lin_ii cls_ii) ?_
  refine aK_c (ex lin_is cls_is) ?_
  refine aK_c (ex lin_il cls_il) ?_
  refine aK_c (ex lin_ii cls_ii) ?_
  refine aK_c (ex lin_ic cls_ic) ?_
  refine aK_c (ex lin_al cls_al) ?_
  refine aK_c (ex lin_gF (cls_gF 14 rfl (Nat.le_of_ble_eq_true rfl))) ?_
  refine aK_c (ex lin_il cls_il) ?_
  refine aK_c (ex lin_al cls_al) ?_
  refine aK_c (ex lin_gF (cls_gF 3 rfl (Nat.le_of_ble_eq_true rfl))) ?_
  refine aK_c (ex lin_il cls_il) ?_
  refine aK_c (ex lin_iald cls_iald) ?_
  refine aK_c (ex lin_iast cls_iast) ?_
  refine aK_c (ex lin_inc cls_inc) ?_
  refine aK_c (ex lin_go cls_go) ?_
  refine aK_c (ex lin_ii cls_ii) ?_
  refine aK_c (ex lin_is cls_is) ?_
  refine aK_c (ex lin_il cls_il) ?_
  refine aK_c (ex lin_ii cls_ii) ?_
  refine aK_c (ex lin_ic cls_ic) ?_
  refine aK_c (ex lin_al cls_al) ?_
  refine aK_c (ex lin_gF (cls_gF 14 rfl (Nat.le_of_ble_eq_true rfl))) ?_
  refine aK_c (ex lin_ii cls_ii) ?_
  refine aK_c (ex lin_il cls_il) ?_
  refine aK_c (ex lin_bi cls_bi) ?_
  refine aK_c (ex lin_al cls_al) ?_
  refine aK_c (ex lin_gF (cls_gF 4 rfl (Nat.le_of_ble_eq_true rfl))) ?_
  refine aK_c (ex lin_il cls_il) ?_
  refine aK_c (ex lin_iald cls_iald) ?_
  refine aK_c (ex lin_iast cls_iast) ?_
  refine aK_c (ex lin_inc cls_inc) ?_
  refine aK_c (ex lin_go cls_go) ?_
  refine aK_c (ex lin_al cls_al) ?_
  refine aK_c (ex lin_gF (cls_gF 15 rfl (Nat.le_of_ble_eq_true rfl))) ?_
  refine aK_c (ex lin_ii cls_ii) ?_
  refine aK_c (ex lin_al cls_al) ?_
  refine aK_c (ex lin_gI cls_gI) ?_
  refine aK_c (ex lin_iast cls_iast) ?_
  refine aK_c (ex lin_al cls_al) ?_
  refine aK_c (ex lin_gF (cls_gF 15 rfl (Nat.le_of_ble_eq_true rfl))) ?_
  refine aK_c (ex lin_ii cls_ii) ?_
  refine aK_c (ex lin_al cls_al) ?_
  refine aK_c (ex lin_gI cls_gI) ?_
  refine aK_c (ex lin_iast cls_iast) ?_
  refine aK_c (ex lin_al cls_al) ?_
  refine aK_c (ex lin_gF (cls_gF 15 rfl (Nat.le_of_ble_eq_true rfl))) ?_
  refine aK_c (ex lin_ii cls_ii) ?_
  refine aK_c (ex lin_al cls_al) ?_
  refine aK_c (ex lin_gI cls_gI) ?_
  refine aK_c (ex lin_iast cls_iast) ?_
  refine aK_c (ex lin_al cls_al) ?_
  refine aK_c (ex lin_gF (cls_gF 15 rfl (Nat.le_of_ble_eq_true rfl))) ?_
  refine aK_c (ex lin_ii cls_ii) ?_
  refine aK_c (ex lin_al cls_al) ?_
  refine aK_c (ex lin_gI cls_gI) ?_
  refine aK_c (ex lin_iast cls_iast) ?_
  refine aK_c (ex lin_al cls_al) ?_
  refine aK_c (ex lin_gI cls_gI) ?_
  refine aK_c (ex lin_ri cls_ri) ?_
  exact aK_n
theorem zX5_image : aCC CX5_image := aCC.of kX5_image
theorem kX5_back : aKl tX5_back := by
  unfold tX5_back
  refine aK_c (ex lin_al cls_al) ?_
  refine aK_c (ex lin_gI cls_gI) ?_
  refine aK_c (ex lin_if cls_if) ?_
  refine aK_c (ex lin_ii cls_ii) ?_
  refine aK_c (ex lin_ri cls_ri) ?_
  refine aK_c (ex lin_ii cls_ii) ?_
  refine aK_c (ex lin_is cls_is) ?_
  refine aK_c (ex lin_il cls_il) ?_
  refine aK_c (ex lin_ii cls_ii) ?_
  refine aK_c (ex lin_ic cls_ic) ?_
  refine aK_c (ex lin_al cls_al) ?_
  refine aK_c (ex lin_gF (cls_gF 3 rfl (Nat.le_of_ble_eq_true rfl))) ?_
  refine aK_c (ex lin_il cls_il) ?_
  refine aK_c (ex lin_al cls_al) ?_
  refine aK_c (ex lin_gF (cls_gF 14 rfl (Nat.le_of_ble_eq_true rfl))) ?_
  refine aK_c (ex lin_il cls_il) ?_
  refine aK_c (ex lin_iald cls_iald) ?_
  refine aK_c (ex lin_iast cls_iast) ?_
  refine aK_c (ex lin_inc cls_inc) ?_
  refine aK_c (ex lin_go cls_go) ?_
  refine aK_c (ex lin_ii cls_ii) ?_
  refine aK_c (ex lin_is cls_is) ?_
  refine aK_c (ex lin_il cls_il) ?_
  refine aK_c (ex lin_ii cls_ii) ?_
  refine aK_c (ex lin_ic cls_ic) ?_
  refine aK_c (ex lin_al cls_al) ?_
  refine aK_c (ex lin_gF (cls_gF 4 rfl (Nat.le_of_ble_eq_true rfl))) ?_
  refine aK_c (ex lin_il cls_il) ?_
  refine aK_c (ex lin_al cls_al) ?_
  refine aK_c (ex lin_gF (cls_gF 14 rfl (Nat.le_of_ble_eq_true rfl))) ?_
  refine aK_c (ex lin_ii cls_ii) ?_
  refine aK_c (ex lin_il cls_il) ?_
  refine aK_c (ex lin_bi cls_bi) ?_
  refine aK_c (ex lin_iald cls_iald) ?_
  refine aK_c (ex lin_iast cls_iast) ?_
  refine aK_c (ex lin_inc cls_inc) ?_
  refine aK_c (ex lin_go cls_go) ?_
  refine aK_c (ex lin_al cls_al) ?_
  refine aK_c (ex lin_al cls_al) ?_
  refine aK_c (ex lin_gF (cls_gF 15 rfl (Nat.le_of_ble_eq_true rfl))) ?_
  refine aK_c (ex lin_ii cls_ii) ?_
  refine aK_c (ex lin_iald cls_iald) ?_
  refine aK_c (ex lin_pI cls_pI) ?_
  refine aK_c (ex lin_al cls_al) ?_
  refine aK_c (ex lin_al cls_al) ?_
  refine aK_c (ex lin_gF (cls_gF 15 rfl (Nat.le_of_ble_eq_true rfl))) ?_
  refine aK_c (ex lin_ii cls_ii) ?_
  refine aK_c (ex lin_iald cls_iald) ?_
  refine aK_c (ex lin_pI cls_pI) ?_
  refine aK_c (ex lin_al cls_al) ?_
  refine aK_c (ex lin_al cls_al) ?_
  refine aK_c (ex lin_gF (cls_gF 15 rfl (Nat.le_of_ble_eq_true rfl))) ?_
  refine aK_c (ex lin_ii cls_ii) ?_
  refine aK_c (ex lin_iald cls_iald) ?_
  refine aK_c (ex lin_pI cls_pI) ?_
  refine aK_c (ex lin_al cls_al) ?_
  refine aK_c (ex lin_al cls_al) ?_
  refine aK_c (ex lin_gF (cls_gF 15 rfl (Nat.le_of_ble_eq_true rfl))) ?_
  refine aK_c (ex lin_ii cls_ii) ?_
  refine aK_c (ex lin_iald cls_iald) ?_
  refine aK_c (ex lin_pI cls_pI) ?_
  refine aK_c (ex lin_al cls_al) ?_
  refine aK_c (ex lin_gI cls_gI) ?_
  refine aK_c (ex lin_ri cls_ri) ?_
  exact aK_n
theorem zX5_back : aCC CX5_back := aCC.of kX5_back
theorem kX5_sheet : aKl tX5_sheet := by
  unfold tX5_sheet
  refine aK_c (ex lin_il cls_il) ?_
  refine aK_c (ex lin_ii cls_ii) ?_
  refine aK_c (ex lin_ii cls_ii) ?_
  refine aK_c (ex lin_cS (cls_cS zX5_in)) ?_
  refine aK_c (ex lin_if cls_if) ?_
  refine aK_c (ex lin_il cls_il) ?_
  refine aK_c (ex lin_ii cls_ii) ?_
  refine aK_c (ex lin_ii cls_ii) ?_
  refine aK_c (ex lin_cS (cls_cS zX5_in)) ?_
  refine aK_c (ex lin_if cls_if) ?_
  refine aK_c (ex lin_il cls_il) ?_
  refine aK_c (ex lin_ii cls_ii) ?_
  refine aK_c (ex lin_ic cls_ic) ?_
  refine aK_c (ex lin_il cls_il) ?_
  refine aK_c (ex lin_ii cls_ii) ?_
  refine aK_c (ex lin_ic cls_ic) ?_
  refine aK_c (ex lin_ii cls_ii) ?_
  refine aK_c (ex lin_ri cls_ri) ?_
  refine aK_c (ex lin_il cls_il) ?_
  refine aK_c (ex lin_ii cls_ii) ?_
  refine aK_c (ex lin_ic cls_ic) ?_
  refine aK_c (ex lin_il cls_il) ?_
  refine aK_c (ex lin_if cls_if) ?_
  refine aK_c (ex lin_ii cls_ii) ?_
  refine aK_c (ex lin_ri cls_ri) ?_
  refine aK_c (ex lin_al cls_al) ?_
  refine aK_c (ex lin_gF (cls_gF 16 rfl (Nat.le_of_ble_eq_true rfl))) ?_
  refine aK_c (ex lin_il cls_il) ?_
  refine aK_c (ex lin_il cls_il) ?_
  refine aK_c (ex lin_iast cls_iast) ?_
  refine aK_c (ex lin_al cls_al) ?_
  refine aK_c (ex lin_gF (cls_gF 17 rfl (Nat.le_of_ble_eq_true rfl))) ?_
  refine aK_c (ex lin_il cls_il) ?_
  refine aK_c (ex lin_il cls_il) ?_
  refine aK_c (ex lin_ii cls_ii) ?_
  refine aK_c (ex lin_ic cls_ic) ?_
  refine aK_c (ex lin_ii cls_ii) ?_
  refine aK_c (ex lin_go cls_go) ?_
  refine aK_c (ex lin_il cls_il) ?_
  refine aK_c (ex lin_iast cls_iast) ?_
  refine aK_c (ex lin_ii cls_ii) ?_
  refine aK_c (ex lin_is cls_is) ?_
  refine aK_c (ex (lin_mk lin_il) (cls_mk cls_il)) ?_
  refine aK_c (ex lin_ii cls_ii) ?_
  refine aK_c (ex lin_ic cls_ic) ?_
  refine aK_c (ex lin_al cls_al) ?_
  refine aK_c (ex lin_gF (cls_gF 18 rfl (Nat.le_of_ble_eq_true rfl))) ?_
  refine aK_c (ex lin_ii cls_ii) ?_
  refine aK_c (ex lin_il cls_il) ?_
  refine aK_c (ex lin_bi cls_bi) ?_
  refine aK_c (ex lin_il cls_il) ?_
  refine aK_c (ex lin_bi cls_bi) ?_
  refine aK_c (ex lin_ii cls_ii) ?_
  refine aK_c (ex lin_iast cls_iast) ?_
  refine aK_c (ex lin_inc cls_inc) ?_
  refine aK_c (ex lin_go cls_go) ?_
  refine aK_c (ex lin_ii cls_ii) ?_
  refine aK_c (ex lin_ri cls_ri) ?_
  exact aK_n
theorem zX5_sheet : aCC CX5_sheet := aCC.of kX5_sheet
theorem kX5_cell : aKl tX5_cell := by
  unfold tX5_cell
  refine aK_c (ex lin_il cls_il) ?_
  refine aK_c (ex lin_ii cls_ii) ?_
  refine aK_c (ex lin_ii cls_ii) ?_
  refine aK_c (ex lin_cS (cls_cS zX5_in)) ?_
  refine aK_c (ex lin_if cls_if) ?_
  refine aK_c (ex lin_ii cls_ii) ?_
  refine aK_c (ex lin_ri cls_ri) ?_
  refine aK_c (ex lin_al cls_al) ?_
  refine aK_c (ex lin_gF (cls_gF 16 rfl (Nat.le_of_ble_eq_true rfl))) ?_
  refine aK_c (ex lin_il cls_il) ?_
  refine aK_c (ex lin_iald cls_iald) ?_
  refine aK_c (ex lin_ii cls_ii) ?_
  refine aK_c (ex lin_ic cls_ic) ?_
  refine aK_c (ex lin_ii cls_ii) ?_
  refine aK_c (ex lin_ri cls_ri) ?_
  refine aK_c (ex lin_il cls_il) ?_
  refine aK_c (ex lin_ii cls_ii) ?_
  refine aK_c (ex lin_al cls_al) ?_
  refine aK_c (ex lin_gF (cls_gF 17 rfl (Nat.le_of_ble_eq_true rfl))) ?_
  refine aK_c (ex lin_il cls_il) ?_
  refine aK_c (ex lin_iald cls_iald) ?_
  refine aK_c (ex lin_ii cls_ii) ?_
  refine aK_c (ex lin_bi cls_bi) ?_
  refine aK_c (ex lin_cS (cls_cS zX5_in)) ?_
  refine aK_c (ex lin_if cls_if) ?_
  refine aK_c (ex lin_ii cls_ii) ?_
  refine aK_c (ex lin_ri cls_ri) ?_
  refine aK_c (ex lin_al cls_al) ?_
  refine aK_c (ex lin_gF (cls_gF 18 rfl (Nat.le_of_ble_eq_true rfl))) ?_
  refine aK_c (ex lin_ii cls_ii) ?_
  refine aK_c (ex lin_il cls_il) ?_
  refine aK_c (ex lin_bi cls_bi) ?_
  refine aK_c (ex lin_il cls_il) ?_
  refine aK_c (ex lin_bi cls_bi) ?_
  refine aK_c (ex lin_al cls_al) ?_
  refine aK_c (ex lin_gF (cls_gF 16 rfl (Nat.le_of_ble_eq_true rfl))) ?_
  refine aK_c (ex lin_il cls_il) ?_
  refine aK_c (ex lin_iald cls_iald) ?_
  refine aK_c (ex lin_if cls_if) ?_
  refine aK_c (ex lin_il cls_il) ?_
  refine aK_c (ex lin_ui cls_ui) ?_
  refine aK_c (ex lin_go cls_go) ?_
  refine aK_c (ex lin_al cls_al) ?_
  refine aK_c (ex lin_gF (cls_gF 16 rfl (Nat.le_of_ble_eq_true rfl))) ?_
  refine aK_c (ex lin_il cls_il) ?_
  refine aK_c (ex lin_iald cls_iald) ?_
  refine aK_c (ex lin_ii cls_ii) ?_
  refine aK_c (ex lin_ic cls_ic) ?_
  refine aK_c (ex lin_il cls_il) ?_
  refine aK_c (ex lin_ui cls_ui) ?_
  refine aK_c (ex lin_go cls_go) ?_
  refine aK_c (ex lin_il cls_il) ?_
  refine aK_c (ex lin_iast cls_iast) ?_
  refine aK_c (ex lin_ii cls_ii) ?_
  refine aK_c (ex lin_ri cls_ri) ?_
  exact aK_n
theorem zX5_cell : aCC CX5_cell := aCC.of kX5_cell
theorem kX5_copy : aKl tX5_copy := by
  unfold tX5_copy
  refine aK_c (ex lin_il cls_il) ?_
  refine aK_c (ex lin_ii cls_ii) ?_
  refine aK_c (ex lin_ii cls_ii) ?_
  refine aK_c (ex lin_cS (cls_cS zX5_in)) ?_
  refine aK_c (ex lin_if cls_if) ?_
  refine aK_c (ex lin_il cls_il) ?_
  refine aK_c (ex lin_ii cls_ii) ?_
  refine aK_c (ex lin_ii cls_ii) ?_
  refine aK_c (ex lin_cS (cls_cS zX5_in)) ?_
  refine aK_c (ex lin_if cls_if) ?_
  refine aK_c (ex lin_ii cls_ii) ?_
  refine aK_c (ex lin_ri cls_ri) ?_
  refine aK_c (ex lin_al cls_al) ?_
  refine aK_c (ex lin_gF (cls_gF 16 rfl (Nat.le_of_ble_eq_true rfl))) ?_
  refine aK_c (ex lin_il cls_il) ?_
  refine aK_c (ex lin_iald cls_iald) ?_
  refine aK_c (ex lin_ii cls_ii) ?_
  refine aK_c (ex lin_ic cls_ic) ?_
  refine aK_c (ex lin_al cls_al) ?_
  refine aK_c (ex lin_gF (cls_gF 16 rfl (Nat.le_of_ble_eq_true rfl))) ?_
  refine aK_c (ex lin_il cls_il) ?_
  refine aK_c (ex lin_iald cls_iald) ?_
  refine aK_c (ex lin_ii cls_ii) ?_
  refine aK_c (ex lin_ic cls_ic) ?_
  refine aK_c (ex lin_ii cls_ii) ?_
  refine aK_c (ex lin_ri cls_ri) ?_
  refine aK_c (ex lin_al cls_al) ?_
  refine aK_c (ex lin_gF (cls_gF 16 rfl (Nat.le_of_ble_eq_true rfl))) ?_
  refine aK_c (ex lin_il cls_il) ?_
  refine aK_c (ex lin_iald cls_iald) ?_
  refine aK_c (ex lin_al cls_al) ?_
  refine aK_c (ex lin_gF (cls_gF 16 rfl (Nat.le_of_ble_eq_true rfl))) ?_
  refine aK_c (ex lin_il cls_il) ?_
  refine aK_c (ex lin_iald cls_iald) ?_
  refine aK_c (ex lin_ic cls_ic) ?_
  refine aK_c (ex lin_ii cls_ii) ?_
  refine aK_c (ex lin_ri cls_ri) ?_
  refine aK_c (ex lin_il cls_il) ?_
  refine aK_c (ex lin_if cls_if) ?_
  refine aK_c (ex lin_il cls_il) ?_
  refine aK_c (ex lin_if cls_if) ?_
  refine aK_c (ex lin_il cls_il) ?_
  refine aK_c (ex lin_if cls_if) ?_
  refine aK_c (ex lin_il cls_il) ?_
  refine aK_c (ex lin_al cls_al) ?_
  refine aK_c (ex lin_gF (cls_gF 17 rfl (Nat.le_of_ble_eq_true rfl))) ?_
  refine aK_c (ex lin_il cls_il) ?_
  refine aK_c (ex lin_iald cls_iald) ?_
  refine aK_c (ex lin_ic cls_ic) ?_
  refine aK_c (ex lin_il cls_il) ?_
  refine aK_c (ex lin_al cls_al) ?_
  refine aK_c (ex lin_gF (cls_gF 17 rfl (Nat.le_of_ble_eq_true rfl))) ?_
  refine aK_c (ex lin_il cls_il) ?_
  refine aK_c (ex lin_iald cls_iald) ?_
  refine aK_c (ex lin_ic cls_ic) ?_
  refine aK_c (ex lin_il cls_il) ?_
  refine aK_c (ex lin_al cls_al) ?_
  refine aK_c (ex lin_gF (cls_gF 17 rfl (Nat.le_of_ble_eq_true rfl))) ?_
  refine aK_c (ex lin_il cls_il) ?_
  refine aK_c (ex lin_iald cls_iald) ?_
  refine aK_c (ex lin_il cls_il) ?_
  refine aK_c (ex lin_bi cls_bi) ?_
  refine aK_c (ex lin_ic cls_ic) ?_
  refine aK_c (ex lin_il cls_il) ?_
  refine aK_c (ex lin_al cls_al) ?_
  refine aK_c (ex lin_gF (cls_gF 17 rfl (Nat.le_of_ble_eq_true rfl))) ?_
  refine aK_c (ex lin_il cls_il) ?_
  refine aK_c (ex lin_iald cls_iald) ?_
  refine aK_c (ex lin_il cls_il) ?_
  refine aK_c (ex lin_bi cls_bi) ?_
  refine aK_c (ex lin_ic cls_ic) ?_
  refine aK_c (ex lin_ii cls_ii) ?_
  refine aK_c (ex lin_ri cls_ri) ?_
  refine aK_c (ex lin_ii cls_ii) ?_
  refine aK_c (ex lin_il cls_il) ?_
  refine aK_c (ex lin_bi cls_bi) ?_
  refine aK_c (ex lin_il cls_il) ?_
  refine aK_c (ex lin_bi cls_bi) ?_
  refine aK_c (ex lin_is cls_is) ?_
  refine aK_c (ex lin_ii cls_ii) ?_
  refine aK_c (ex lin_il cls_il) ?_
  refine aK_c (ex lin_bi cls_bi) ?_
  refine aK_c (ex lin_il cls_il) ?_
  refine aK_c (ex lin_bi cls_bi) ?_
  refine aK_c (ex lin_is cls_is) ?_
  refine aK_c (ex lin_ii cls_ii) ?_
  refine aK_c (ex lin_is cls_is) ?_
  refine aK_c (ex (lin_mk lin_il) (cls_mk cls_il)) ?_
  refine aK_c (ex lin_il cls_il) ?_
  refine aK_c (ex lin_ic cls_ic) ?_
  refine aK_c (ex lin_il cls_il) ?_
  refine aK_c (ex lin_il cls_il) ?_
  refine aK_c (ex lin_ic cls_ic) ?_
  refine aK_c (ex lin_il cls_il) ?_
  refine aK_c (ex lin_ii cls_ii) ?_
  refine aK_c (ex lin_bi cls_bi) ?_
  refine aK_c (ex lin_il cls_il) ?_
  refine aK_c (ex lin_bi cls_bi) ?_
  refine aK_c (ex lin_go cls_go) ?_
  refine aK_c (ex lin_il cls_il) ?_
  refine aK_c (ex lin_is cls_is) ?_
  refine aK_c (ex lin_al cls_al) ?_
  refine aK_c (ex lin_gF (cls_gF 18 rfl (Nat.le_of_ble_eq_true rfl))) ?_
  refine aK_c (ex lin_il cls_il) ?_
  refine aK_c (ex lin_il cls_il) ?_
  refine aK_c (ex lin_bi cls_bi) ?_
  refine aK_c (ex lin_al cls_al) ?_
  refine aK_c (ex lin_gF (cls_gF 18 rfl (Nat.le_of_ble_eq_true rfl))) ?_
  refine aK_c (ex lin_il cls_il) ?_
  refine aK_c (ex lin_il cls_il) ?_
  refine aK_c (ex lin_bi cls_bi) ?_
  refine aK_c (ex lin_iald cls_iald) ?_
  refine aK_c (ex lin_iast cls_iast) ?_
  refine aK_c (ex lin_inc cls_inc) ?_
  refine aK_c (ex lin_go cls_go) ?_
  refine aK_c (ex lin_il cls_il) ?_
  refine aK_c (ex lin_ri cls_ri) ?_
  exact aK_n
theorem zX5_copy : aCC CX5_copy := aCC.of kX5_copy
theorem kX5_judgesBy : aKl tX5_judgesBy := by
  unfold tX5_judgesBy
  refine aK_c (ex lin_il cls_il) ?_
  refine aK_c (ex lin_ii cls_ii) ?_
  refine aK_c (ex lin_ii cls_ii) ?_
  refine aK_c (ex lin_cS (cls_cS zX5_in)) ?_
  refine aK_c (ex lin_if cls_if) ?_
  refine aK_c (ex lin_il cls_il) ?_
  refine aK_c (ex lin_ii cls_ii) ?_
  refine aK_c (ex lin_ii cls_ii) ?_
  refine aK_c (ex lin_cS (cls_cS zX5_in)) ?_
  refine aK_c (ex lin_if cls_if) ?_
  refine aK_c (ex lin_il cls_il) ?_
  refine aK_c (ex lin_ii cls_ii) ?_
  refine aK_c (ex lin_ii cls_ii) ?_
  refine aK_c (ex lin_cS (cls_cS zX5_in)) ?_
  refine aK_c (ex lin_if cls_if) ?_
  refine aK_c (ex lin_ii cls_ii) ?_
  refine aK_c (ex lin_ri cls_ri) ?_
  refine aK_c (ex lin_al cls_al) ?_
  refine aK_c (ex lin_gF (cls_gF 16 rfl (Nat.le_of_ble_eq_true rfl))) ?_
  refine aK_c (ex lin_il cls_il) ?_
  refine aK_c (ex lin_iald cls_iald) ?_
  refine aK_c (ex lin_ii cls_ii) ?_
  refine aK_c (ex lin_ic cls_ic) ?_
  refine aK_c (ex lin_ii cls_ii) ?_
  refine aK_c (ex lin_ri cls_ri) ?_
  refine aK_c (ex lin_al cls_al) ?_
  refine aK_c (ex lin_gF (cls_gF 16 rfl (Nat.le_of_ble_eq_true rfl))) ?_
  refine aK_c (ex lin_il cls_il) ?_
  refine aK_c (ex lin_iald cls_iald) ?_
  refine aK_c (ex lin_il cls_il) ?_
  refine aK_c (ex lin_ic cls_ic) ?_
  refine aK_c (ex lin_ii cls_ii) ?_
  refine aK_c (ex lin_ri cls_ri) ?_
  refine aK_c (ex lin_ii cls_ii) ?_
  refine aK_c (ex lin_is cls_is) ?_
  refine aK_c (ex lin_ii cls_ii) ?_
  refine aK_c (ex lin_is cls_is) ?_
  refine aK_c (ex (lin_mk lin_il) (cls_mk cls_il)) ?_
  refine aK_c (ex lin_il cls_il) ?_
  refine aK_c (ex lin_ic cls_ic) ?_
  refine aK_c (ex lin_il cls_il) ?_
  refine aK_c (ex lin_ii cls_ii) ?_
  refine aK_c (ex lin_il cls_il) ?_
  refine aK_c (ex lin_bi cls_bi) ?_
  refine aK_c (ex lin_bi cls_bi) ?_
  refine aK_c (ex lin_is cls_is) ?_
  refine aK_c (ex lin_il cls_il) ?_
  refine aK_c (ex lin_if cls_if) ?_
  refine aK_c (ex lin_il cls_il) ?_
  refine aK_c (ex lin_il cls_il) ?_
  refine aK_c (ex lin_ic cls_ic) ?_
  refine aK_c (ex lin_il cls_il) ?_
  refine aK_c (ex lin_al cls_al) ?_
  refine aK_c (ex lin_gF (cls_gF 17 rfl (Nat.le_of_ble_eq_true rfl))) ?_
  refine aK_c (ex lin_il cls_il) ?_
  refine aK_c (ex lin_iald cls_iald) ?_
  refine aK_c (ex lin_ii cls_ii) ?_
  refine aK_c (ex lin_bi cls_bi) ?_
  refine aK_c (ex lin_ic cls_ic) ?_
  refine aK_c (ex lin_ii cls_ii) ?_
  refine aK_c (ex lin_ri cls_ri) ?_
  refine aK_c (ex lin_ii cls_ii) ?_
  refine aK_c (ex lin_il cls_il) ?_
  refine aK_c (ex lin_bi cls_bi) ?_
  refine aK_c (ex lin_il cls_il) ?_
  refine aK_c (ex lin_bi cls_bi) ?_
  refine aK_c (ex lin_is cls_is) ?_
  refine aK_c (ex lin_il cls_il) ?_
  refine aK_c (ex lin_al cls_al) ?_
  refine aK_c (ex lin_al cls_al) ?_
  refine aK_c (ex lin_gF (cls_gF 18 rfl (Nat.le_of_ble_eq_true rfl))) ?_
  refine aK_c (ex lin_il cls_il) ?_
  refine aK_c (ex lin_iald cls_iald) ?_
  refine aK_c (ex lin_al cls_al) ?_
  refine aK_c (ex lin_gF (cls_gF 18 rfl (Nat.le_of_ble_eq_true rfl))) ?_
  refine aK_c (ex lin_il cls_il) ?_
  refine aK_c (ex lin_ii cls_ii) ?_
  refine aK_c (ex lin_bi cls_bi) ?_
  refine aK_c (ex lin_iald cls_iald) ?_
  refine aK_c (ex lin_al cls_al) ?_
  refine aK_c (ex lin_gF (cls_gF 18 rfl (Nat.le_of_ble_eq_true rfl))) ?_
  refine aK_c (ex lin_il cls_il) ?_
  refine aK_c (ex lin_ii cls_ii) ?_
  refine aK_c (ex lin_bi cls_bi) ?_
  refine aK_c (ex lin_iald cls_iald) ?_
  refine aK_c (ex lin_cV (cls_cV zX5_judge)) ?_
  refine aK_c (ex lin_if cls_if) ?_
  refine aK_c (ex lin_ii cls_ii) ?_
  refine aK_c (ex lin_go cls_go) ?_
  refine aK_c (ex lin_ii cls_ii) ?_
  refine aK_c (ex lin_bi cls_bi) ?_
  refine aK_c (ex lin_is cls_is) ?_
  refine aK_c (ex lin_inc cls_inc) ?_
  refine aK_c (ex lin_go cls_go) ?_
  refine aK_c (ex lin_il cls_il) ?_
  refine aK_c (ex lin_ri cls_ri) ?_
  exact aK_n
theorem zX5_judgesBy : aCC CX5_judgesBy := aCC.of kX5_judgesBy
theorem kX5_isUnder : aKl tX5_isUnder := by
  unfold tX5_isUnder
  refine aK_c (ex lin_il cls_il) ?_
  refine aK_c (ex lin_if cls_if) ?_
  refine aK_c (ex lin_il cls_il) ?_
  refine aK_c (ex lin_il cls_il) ?_
  refine aK_c (ex lin_ic cls_ic) ?_
  refine aK_c (ex lin_il cls_il) ?_
  refine aK_c (ex lin_ii cls_ii) ?_
  refine aK_c (ex lin_ic cls_ic) ?_
  refine aK_c (ex lin_il cls_il) ?_
  refine aK_c (ex lin_ii cls_ii) ?_
  refine aK_c (ex lin_ic cls_ic) ?_
  refine aK_c (ex lin_il cls_il) ?_
  refine aK_c (ex lin_ii cls_ii) ?_
  refine aK_c (ex lin_ic cls_ic) ?_
  refine aK_c (ex lin_il cls_il) ?_
  refine aK_c (ex lin_ii cls_ii) ?_
  refine aK_c (ex lin_ic cls_ic) ?_
  refine aK_c (ex lin_ii cls_ii) ?_
  refine aK_c (ex lin_go cls_go) ?_
  refine aK_c (ex lin_ii cls_ii) ?_
  refine aK_c (ex lin_rz cls_rz) ?_
  exact aK_n
theorem zX5_isUnder : aCC CX5_isUnder := aCC.of kX5_isUnder
theorem kX5_taken : aKl tX5_taken := by
  unfold tX5_taken
  refine aK_c (ex lin_il cls_il) ?_
  refine aK_c (ex lin_ii cls_ii) ?_
  refine aK_c (ex lin_ii cls_ii) ?_
  refine aK_c (ex lin_cS (cls_cS zX5_in)) ?_
  refine aK_c (ex lin_if cls_if) ?_
  refine aK_c (ex lin_ii cls_ii) ?_
  refine aK_c (ex lin_ri cls_ri) ?_
  refine aK_c (ex lin_il cls_il) ?_
  refine aK_c (ex lin_ii cls_ii) ?_
  refine aK_c (ex lin_ii cls_ii) ?_
  refine aK_c (ex lin_cS (cls_cS zX5_in)) ?_
  refine aK_c (ex lin_if cls_if) ?_
  refine aK_c (ex lin_ii cls_ii) ?_
  refine aK_c (ex lin_ri cls_ri) ?_
  refine aK_c (ex lin_il cls_il) ?_
  refine aK_c (ex lin_ii cls_ii) ?_
  refine aK_c (ex lin_ic cls_ic) ?_
  refine aK_c (ex lin_il cls_il) ?_
  refine aK_c (ex lin_ii cls_ii) ?_
  refine aK_c (ex lin_bi cls_bi) ?_
  refine aK_c (ex lin_is cls_is) ?_
  refine aK_c (ex lin_al cls_al) ?_
  refine aK_c (ex lin_il cls_il) ?_
  refine aK_c (ex lin_cV (cls_cV zX5_isThere)) ?_
  refine aK_c (ex lin_if cls_if) ?_
  refine aK_c (ex lin_ii cls_ii) ?_
  refine aK_c (ex lin_go cls_go) ?_
  refine aK_c (ex lin_il cls_il) ?_
  refine aK_c (ex lin_ii cls_ii) ?_
  refine aK_c (ex lin_ic cls_ic) ?_
  refine aK_c (ex lin_al cls_al) ?_
  refine aK_c (ex lin_gF (cls_gF 4 rfl (Nat.le_of_ble_eq_true rfl))) ?_
  refine aK_c (ex lin_ii cls_ii) ?_
  refine aK_c (ex lin_il cls_il) ?_
  refine aK_c (ex lin_bi cls_bi) ?_
  refine aK_c (ex lin_iald cls_iald) ?_
  refine aK_c (ex lin_go cls_go) ?_
  refine aK_c (ex lin_ii cls_ii) ?_
  refine aK_c (ex lin_ri cls_ri) ?_
  refine aK_c (ex lin_il cls_il) ?_
  refine aK_c (ex lin_al cls_al) ?_
  refine aK_c (ex lin_gI cls_gI) ?_
  refine aK_c (ex lin_ic cls_ic) ?_
  refine aK_c (ex lin_ii cls_ii) ?_
  refine aK_c (ex lin_go cls_go) ?_
  refine aK_c (ex lin_il cls_il) ?_
  refine aK_c (ex lin_ii cls_ii) ?_
  refine aK_c (ex lin_ic cls_ic) ?_
  refine aK_c (ex lin_al cls_al) ?_
  refine aK_c (ex lin_gF (cls_gF 1 rfl (Nat.le_of_ble_eq_true rfl))) ?_
  refine aK_c (ex lin_il cls_il) ?_
  refine aK_c (ex lin_iald cls_iald) ?_
  refine aK_c (ex lin_il cls_il) ?_
  refine aK_c (ex lin_cS (cls_cS zX5_isUnder)) ?_
  refine aK_c (ex lin_if cls_if) ?_
  refine aK_c (ex lin_il cls_il) ?_
  refine aK_c (ex lin_go cls_go) ?_
  refine aK_c (ex lin_ii cls_ii) ?_
  refine aK_c (ex lin_ri cls_ri) ?_
  exact aK_n
theorem zX5_taken : aCC CX5_taken := aCC.of kX5_taken
theorem kX1_readPart : aKl tX1_readPart := by
  unfold tX1_readPart
  refine aK_c (ex lin_il cls_il) ?_
  refine aK_c (ex lin_if cls_if) ?_
  refine aK_c (ex lin_ii cls_ii) ?_
  refine aK_c (ex lin_go cls_go) ?_
  refine aK_c (ex lin_il cls_il) ?_
  refine aK_c (ex lin_ii cls_ii) ?_
  refine aK_c (ex lin_ic cls_ic) ?_
  refine aK_c (ex lin_ii cls_ii) ?_
  refine aK_c (ex lin_go cls_go) ?_
  refine aK_c (ex lin_ii cls_ii) ?_
  refine aK_c (ex lin_is cls_is) ?_
  refine aK_c (ex lin_al cls_al) ?_
  refine aK_c (ex lin_il cls_il) ?_
  refine aK_c (ex lin_cV (cls_cV zX1_skip)) ?_
  refine aK_c (ex lin_if cls_if) ?_
  refine aK_c (ex lin_al cls_al) ?_
  refine aK_c (ex lin_ii cls_ii) ?_
  refine aK_c (ex lin_ii cls_ii) ?_
  refine aK_c (ex lin_cS (cls_cS (zR 60).1)) ?_
  refine aK_c (ex lin_if cls_if) ?_
  refine aK_c (ex lin_al cls_al) ?_
  refine aK_c (ex lin_ii cls_ii) ?_
  refine aK_c (ex lin_cV (cls_cV zX1_skip)) ?_
  refine aK_c (ex lin_if cls_if) ?_
  refine aK_c (ex lin_ii cls_ii) ?_
  refine aK_c (ex lin_rz cls_rz) ?_
  refine aK_c (ex lin_al cls_al) ?_
  refine aK_c (ex lin_gF (cls_gF 4 rfl (Nat.le_of_ble_eq_true rfl))) ?_
  refine aK_c (ex lin_il cls_il) ?_
  refine aK_c (ex lin_al cls_al) ?_
  refine aK_c (ex lin_gI cls_gI) ?_
  refine aK_c (ex lin_iast cls_iast) ?_
  refine aK_c (ex lin_ii cls_ii) ?_
  refine aK_c (ex lin_rz cls_rz) ?_
  exact aK_n
theorem zX1_readPart : aCC CX1_readPart := aCC.of kX1_readPart
theorem kX1_faultOfTape : aKl tX1_faultOfTape := by
  unfold tX1_faultOfTape
  refine aK_c (ex lin_al cls_al) ?_
  refine aK_c (ex lin_cV (cls_cV zX1_scan)) ?_
  refine aK_c (ex lin_al cls_al) ?_
  refine aK_c (ex lin_ii cls_ii) ?_
  refine aK_c (ex lin_pI cls_pI) ?_
  refine aK_c (ex lin_al cls_al) ?_
  refine aK_c (ex lin_ii cls_ii) ?_
  refine aK_c (ex lin_pI cls_pI) ?_
  refine aK_c (ex lin_ii cls_ii) ?_
  refine aK_c (ex lin_is cls_is) ?_
  refine aK_c (ex lin_il cls_il) ?_
  refine aK_c (ex lin_ii cls_ii) ?_
  refine aK_c (ex lin_ic cls_ic) ?_
  refine aK_c (ex lin_al cls_al) ?_
  refine aK_c (ex lin_il cls_il) ?_
  refine aK_c (ex lin_cV (cls_cV zX1_readPart)) ?_
  refine aK_c (ex lin_if cls_if) ?_
  refine aK_c (ex lin_al cls_al) ?_
  refine aK_c (ex lin_cV (cls_cV zX1_place)) ?_
  refine aK_c (ex lin_ri cls_ri) ?_
  refine aK_c (ex lin_inc cls_inc) ?_
  refine aK_c (ex lin_go cls_go) ?_
  refine aK_c (ex lin_al cls_al) ?_
  refine aK_c (ex lin_cV (cls_cV zX1_token)) ?_
  refine aK_c (ex lin_ii cls_ii) ?_
  refine aK_c (ex lin_ic cls_ic) ?_
  refine aK_c (ex lin_ii cls_ii) ?_
  refine aK_c (ex lin_go cls_go) ?_
  refine aK_c (ex lin_al cls_al) ?_
  refine aK_c (ex lin_cV (cls_cV zX1_place)) ?_
  refine aK_c (ex lin_ri cls_ri) ?_
  exact aK_n
theorem zX1_faultOfTape : aCC CX1_faultOfTape := aCC.of kX1_faultOfTape
