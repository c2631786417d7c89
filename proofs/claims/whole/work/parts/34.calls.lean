theorem q_i16 : (16 : Int32).toInt = 16 := by decide
theorem q_i16384 : (16384 : Int32).toInt = 16384 := by decide
theorem q_i5000 : (5000 : Int32).toInt = 5000 := by decide
abbrev v_szok (a : Int) : Prop := 3 ≤ a ∧ a ≤ 5000
set_option maxHeartbeats 4000000 in
set_option maxRecDepth 100000 in
theorem c0_Shelf_requireSize (l : Launch) (hl9 : l.stackTraces = false) (E : qE) (S : qS) (a : Int32) (post : qS → Prop) (px : qS → Prop) (hpost : ∀ S1, (S1 = S ∧ v_szok a.toInt) → post S1) (hpx : ∀ S1, (S1 = S ∧ ¬ v_szok a.toInt) → px S1) : x_Mv l yX5_requireSize cX5_requireSize 1 { frames := 6, cells := 1, slots := 6, locals := 82 } E [.int a] S (post) q_IA (px) 1 6 := by
  refine x_ofW1 (by decide) (q_1c rfl q_1n) (Nat.le_of_ble_eq_true rfl) (fun p e s m below meth c C hV hr hlk hnm hnt ls hl => ?_)
  have hl : lv_has ls 1 [(0, .int (a))] := hl
  refine lv_iload_n C.1 C.2.1 dX5_requireSize_0 rfl (lv_at hl 0 rfl) ?_
  refine lv_iconst (v := 3) C.1 C.2.1 dX5_requireSize_1 (by decide) ?_
  refine lv_icmp_lt (tgt := 12) C.1 C.2.1 dX5_requireSize_2 (by decide) (fun c2 => ?_) (fun c2 => ?_)
  · have hb : ¬ v_szok a.toInt := fun h => by have := q_i_lt.mp c2; rw [q_i3] at this; omega
    exact q_thI (txt := "size is not 3 .. 5000") C hV hl9 hnt hlk hl.1 (by decide) dX5_requireSize_12 dX5_requireSize_15 dX5_requireSize_16 dX5_requireSize_18 dX5_requireSize_21 (by decide) (by decide) (by decide) (by decide) (by decide) (by decide) (hpx _ ⟨rfl, hb⟩)
  · refine lv_iload_n C.1 C.2.1 dX5_requireSize_5 rfl (lv_at hl 0 rfl) ?_
    refine lv_sipush (v := 5000) C.1 C.2.1 dX5_requireSize_6 (by decide) ?_
    refine lv_icmp_le (tgt := 22) C.1 C.2.1 dX5_requireSize_9 (by decide) (fun c9 => ?_) (fun c9 => ?_)
    · have hb : v_szok a.toInt := ⟨by
        rcases Int.lt_or_le a.toInt 3 with h | h
        · exact absurd (q_i_lt.mpr (by rw [q_i3]; exact h)) c2
        · exact h, by have := q_i_le.mp c9; rw [q_i5000] at this; exact this⟩
      refine vx_ret (q_vret C hV hr hlk (by decide) (by decide) dX5_requireSize_22 ?_)
      exact hpost _ ⟨rfl, hb⟩
    · have hb : ¬ v_szok a.toInt := fun h => c9 (q_i_le.mpr (by rw [q_i5000]; exact h.2))
      exact q_thI (txt := "size is not 3 .. 5000") C hV hl9 hnt hlk hl.1 (by decide) dX5_requireSize_12 dX5_requireSize_15 dX5_requireSize_16 dX5_requireSize_18 dX5_requireSize_21 (by decide) (by decide) (by decide) (by decide) (by decide) (by decide) (hpx _ ⟨rfl, hb⟩)
theorem c_Shelf_requireSize (l : Launch) (hl9 : l.stackTraces = false) (E : qE) (S : qS) (a : Int32) : x_Mv l yX5_requireSize cX5_requireSize 1 { frames := 6, cells := 1, slots := 6, locals := 82 } E [.int a] S (fun S1 => S1 = S ∧ v_szok a.toInt) q_IA (fun S1 => S1 = S ∧ ¬ v_szok a.toInt) 1 6 := c0_Shelf_requireSize l hl9 E S a _ _ (fun _ h => h) (fun _ h => h)

set_option maxHeartbeats 4000000 in
set_option maxRecDepth 100000 in
theorem c0_Shelf_space (l : Launch) (hl9 : l.stackTraces = false) (E : qE) (S : qS) (c9 h ar t n9 f9 tm : Nat) (P : List q_X) (ns : List Nat) (rows : Nat → List Nat) (hC : q_C S c9 n9 f9 tm P h ar t ns rows) (htm : tm + 1 < 2 ^ 40) (a : Int32) (post : Int32 → qS → Prop) (px : qS → Prop) (hpost : ∀ r S1, (r = nI n9 ∧ (16 ≤ a.toInt ∧ a.toInt ≤ 16384) ∧ ∃ q, q_CC S1 c9 a.toInt.toNat 0 (tm + 1) [(q, a.toInt.toNat, true, tm)] h ar t ∧ q_fk S S1) → post r S1) (hpx : ∀ S1, (S1 = S ∧ ¬ (16 ≤ a.toInt ∧ a.toInt ≤ 16384)) → px S1) : x_Mi l yX5_space cX5_space 3 { frames := 6, cells := 2, slots := 14, locals := 97 } E [.ref c9, .int a] S (post) q_IA (px) 2 14 := by
  refine x_ofW1 (by decide) (q_1c rfl (q_1c rfl q_1n)) (Nat.le_of_ble_eq_true rfl) (fun p e s m below meth c C hV hr hlk hnm hnt ls hl => ?_)
  have hl : lv_has ls 3 [(0, va_rf (some c9)), (1, .int (a))] := hl
  obtain ⟨hL_c9, hK_c9, hR8, hL_h, hK_h, hJ⟩ := q_C_cl hC
  refine lv_iload_n C.1 C.2.1 dX5_space_0 rfl (lv_at hl 1 rfl) ?_
  refine lv_bipush (v := 16) C.1 C.2.1 dX5_space_1 (by decide) ?_
  refine lv_icmp_lt (tgt := 13) C.1 C.2.1 dX5_space_3 (by decide) (fun c3 => ?_) (fun c3 => ?_)
  · have hb : ¬ (16 ≤ a.toInt ∧ a.toInt ≤ 16384) := fun h => by have := q_i_lt.mp c3; rw [q_i16] at this; omega
    exact q_thI (txt := "n is not 16 .. 16384") C hV hl9 hnt hlk hl.1 (by decide) dX5_space_13 dX5_space_16 dX5_space_17 dX5_space_19 dX5_space_22 (by decide) (by decide) (by decide) (by decide) (by decide) (by decide) (hpx _ ⟨rfl, hb⟩)
  · refine lv_iload_n C.1 C.2.1 dX5_space_6 rfl (lv_at hl 1 rfl) ?_
    refine lv_sipush (v := 16384) C.1 C.2.1 dX5_space_7 (by decide) ?_
    refine lv_icmp_le (tgt := 23) C.1 C.2.1 dX5_space_10 (by decide) (fun c10 => ?_) (fun c10 => ?_)
    · have hb : 16 ≤ a.toInt ∧ a.toInt ≤ 16384 := ⟨by
        rcases Int.lt_or_le a.toInt 16 with h | h
        · exact absurd (q_i_lt.mpr (by rw [q_i16]; exact h)) c3
        · exact h, by have := q_i_le.mp c10; rw [q_i16384] at this; exact this⟩
      obtain ⟨ha, ha2⟩ := q_nat (x := a) (by omega)
      refine q_aload_n (r := some c9) C dX5_space_23 rfl (lv_at hl 0 rfl) ?_
      refine g_Shelf_cellCount C hV hL_c9 hK_c9 (Or.inl wd_194) dX5_space_24 ?_
      refine q_ti (v' := nI n9) (hC.1.2.2.1) ?_
      refine q_istore_n (x := nI n9) (lv' := [(2, .int (nI n9)), (0, va_rf (some c9)), (1, .int (a))]) C dX5_space_27 rfl hl (by decide) (q_k0 (q_kN 0 rfl (by decide) (by decide) (q_kC 1 rfl (by decide) rfl q_kz))) (fun ls hl => ?_)
      refine q_aload_n (r := some c9) C dX5_space_28 rfl (lv_at hl 1 rfl) ?_
      refine lv_iload_n C.1 C.2.1 dX5_space_29 rfl (lv_at hl 2 rfl) ?_
      refine q_ti (v' := nI a.toInt.toNat) ha ?_
      refine q_cv hV (q_rV (b := c9) (As := [.int (nI a.toInt.toNat)]) (rest := []) C hV (c_Shelf_startWith l E S c9 h ar t a.toInt.toNat tm ns rows hL_c9 hK_c9 hR8 hC.2.2.2.1 hJ htm (by omega) (by omega)) wd_125 wd_122 wd_124 wd_0 wd_39 ok_X5_startWith ⟨rfl, rfl, Nat.le_of_ble_eq_true rfl, Nat.le_of_ble_eq_true rfl⟩ (q_rc4 hV hL_c9 hK_c9) rfl hl.1 rfl (q_sm q_1n (Nat.le_of_ble_eq_true rfl)) dX5_space_30 ⟨Nat.le_of_ble_eq_true rfl, Nat.le_of_ble_eq_true rfl⟩) (fun S30 H locs hp30 hV => ?_)
      obtain ⟨q, ns1, rows1, hC1, hf1⟩ := hp30
      refine lv_iload_n C.1 C.2.1 dX5_space_33 rfl (lv_at hl 0 rfl) ?_
      refine vx_ret (q_iret (v := nI n9) C hV hr hlk (by decide) (by decide) dX5_space_34 ?_)
      exact hpost _ _ ⟨rfl, hb, q, ⟨ns1, rows1, hC1⟩, hf1⟩
    · have hb : ¬ (16 ≤ a.toInt ∧ a.toInt ≤ 16384) := fun h => c10 (q_i_le.mpr (by rw [q_i16384]; exact h.2))
      exact q_thI (txt := "n is not 16 .. 16384") C hV hl9 hnt hlk hl.1 (by decide) dX5_space_13 dX5_space_16 dX5_space_17 dX5_space_19 dX5_space_22 (by decide) (by decide) (by decide) (by decide) (by decide) (by decide) (hpx _ ⟨rfl, hb⟩)
theorem c_Shelf_space (l : Launch) (hl9 : l.stackTraces = false) (E : qE) (S : qS) (c9 h ar t n9 f9 tm : Nat) (P : List q_X) (ns : List Nat) (rows : Nat → List Nat) (hC : q_C S c9 n9 f9 tm P h ar t ns rows) (htm : tm + 1 < 2 ^ 40) (a : Int32) : x_Mi l yX5_space cX5_space 3 { frames := 6, cells := 2, slots := 14, locals := 97 } E [.ref c9, .int a] S (fun r S1 => r = nI n9 ∧ (16 ≤ a.toInt ∧ a.toInt ≤ 16384) ∧ ∃ q, q_CC S1 c9 a.toInt.toNat 0 (tm + 1) [(q, a.toInt.toNat, true, tm)] h ar t ∧ q_fk S S1) q_IA (fun S1 => S1 = S ∧ ¬ (16 ≤ a.toInt ∧ a.toInt ≤ 16384)) 2 14 := c0_Shelf_space l hl9 E S c9 h ar t n9 f9 tm P ns rows hC htm a _ _ (fun _ _ h => h) (fun _ h => h)

set_option maxHeartbeats 4000000 in
set_option maxRecDepth 100000 in
theorem c0_Shelf_suffices (l : Launch) (hl9 : l.stackTraces = false) (E : qE) (S : qS) (c9 h ar t n9 f9 tm : Nat) (P : List q_X) (ns : List Nat) (rows : Nat → List Nat) (hC : q_C S c9 n9 f9 tm P h ar t ns rows) (a : Int32) (post : Int32 → qS → Prop) (px : qS → Prop) (hpost : ∀ r S1, (S1 = S ∧ v_szok a.toInt ∧ ((r = 0 ∧ v_non a.toInt.toNat (q_vl P)) ∨ ∃ A x B, P = A ++ x :: B ∧ v_isb a.toInt.toNat (q_vl A) x.2 (q_vl B) ∧ r = nI (1 + q_sz A))) → post r S1) (hpx : ∀ S1, (S1 = S ∧ ¬ v_szok a.toInt) → px S1) : x_Mi l yX5_suffices cX5_suffices 3 { frames := 7, cells := 1, slots := 6, locals := 103 } E [.ref c9, .int a] S (post) q_IA (px) 1 6 := by
  refine x_ofW1 (by decide) (q_1c rfl (q_1c rfl q_1n)) (Nat.le_of_ble_eq_true rfl) (fun p e s m below meth c C hV hr hlk hnm hnt ls hl => ?_)
  have hl : lv_has ls 3 [(0, va_rf (some c9)), (1, .int (a))] := hl
  obtain ⟨hL_c9, hK_c9, hR8, hL_h, hK_h, hJ⟩ := q_C_cl hC
  refine lv_iload_n C.1 C.2.1 dX5_suffices_0 rfl (lv_at hl 1 rfl) ?_
  refine q_xcv hV (x_rS (As := [.int (a)]) (rest := []) C hV (c_Shelf_requireSize l hl9 E S a) wd_374 wd_372 wd_373 wd_39 ok_X5_requireSize ⟨rfl, rfl, Nat.le_of_ble_eq_true rfl, Nat.le_of_ble_eq_true rfl⟩ rfl hl.1 rfl (q_sm q_1n (Nat.le_of_ble_eq_true rfl)) dX5_suffices_1 ⟨Nat.le_of_ble_eq_true rfl, Nat.le_of_ble_eq_true rfl⟩) (fun q1 ce1 S1 H locs hx1 hV hq1 hq2 hq3 => q_thru hV hnt hlk hq1 hq2 hq3 (by decide) (by decide) (hpx _ hx1)) (fun S1 H locs hp1 hV => ?_)
  obtain ⟨eS1, hp1⟩ := hp1
  rw [eS1] at hV
  have hb := hp1
  obtain ⟨ha, ha2⟩ := q_nat (x := a) (by omega)
  refine q_aload_n (r := some c9) C dX5_suffices_4 rfl (lv_at hl 0 rfl) ?_
  refine g_Shelf_shelves C hV hL_c9 hK_c9 (Or.inl wd_192) dX5_suffices_5 ?_
  refine q_tr (v' := some h) (hR8) ?_
  refine lv_iload_n C.1 C.2.1 dX5_suffices_8 rfl (lv_at hl 1 rfl) ?_
  refine q_ti (v' := nI a.toInt.toNat) ha ?_
  refine q_cq hV (q_rN (b := h) (As := [.int (nI a.toInt.toNat)]) (rest := []) C hV (c_Shelves_smallestFrom l E S h ar t ns rows hC.2.2.2.1 a.toInt.toNat (by omega) (by omega) hC.2.2.2.2.1) wd_379 wd_376 wd_378 wd_20 wd_40 ok_X2_smallestFrom ⟨rfl, rfl, Nat.le_of_ble_eq_true rfl, Nat.le_of_ble_eq_true rfl⟩ (q_rc2 hV hL_h hK_h) rfl hl.1 rfl (q_sm q_1n (Nat.le_of_ble_eq_true rfl)) dX5_suffices_9 ⟨Nat.le_of_ble_eq_true rfl, Nat.le_of_ble_eq_true rfl⟩) (fun r9 S9 H locs hp9 hV => ?_)
  obtain ⟨eS9, hp9⟩ := hp9
  rw [eS9] at hV
  refine q_astore_n (r := r9) (lv' := [(2, va_rf (r9)), (0, va_rf (some c9)), (1, .int (a))]) C dX5_suffices_12 rfl hl (by decide) (q_k0 (q_kN 0 rfl (by decide) (by decide) (q_kC 1 rfl (by decide) rfl q_kz))) (fun ls hl => ?_)
  refine q_aload_n (r := r9) C dX5_suffices_13 rfl (lv_at hl 0 rfl) ?_
  refine q_ifnonnull (r := r9) (tgt := 21) C dX5_suffices_14 (by decide) (fun x14 c14 => ?_) (fun c14 => ?_)
  · subst c14
    rcases hp9 with ⟨h9, -⟩ | ⟨z1, hz1, a1, u1, hr1, h9, hno⟩
    · exact absurd h9 (fun z => nomatch z)
    obtain ⟨A, x, B, rfl, ex, efr, esz, hbest⟩ := q_best hC (by omega) hz1 hr1 hno
    cases h9
    subst ex
    obtain ⟨hL_x, hK_x, hI0, hI1, hI2, -, -, hsz, hn9⟩ := q_C_at hC
    refine q_aload_n (r := some x.1) C dX5_suffices_21 rfl (lv_at hl 0 rfl) ?_
    refine g_Piece_at C hV hL_x hK_x (Or.inr ⟨_, wd_137⟩) dX5_suffices_22 ?_
    refine q_ti (v' := nI (1 + q_sz A)) (hI0) ?_
    refine vx_ret (q_iret (v := nI (1 + q_sz A)) C hV hr hlk (by decide) (by decide) dX5_suffices_25 ?_)
    exact hpost _ _ ⟨rfl, hb, Or.inr ⟨A, x, B, rfl, hbest, rfl⟩⟩
  · subst c14
    refine lv_iconst (v := 0) C.1 C.2.1 dX5_suffices_17 (by decide) ?_
    refine lv_goto (tgt := 25) C.1 C.2.1 dX5_suffices_18 (by decide) ?_
    refine vx_ret (q_iret (v := 0) C hV hr hlk (by decide) (by decide) dX5_suffices_25 ?_)
    rcases hp9 with ⟨-, hno⟩ | ⟨z1, hz1, a1, u1, hr1, h9, -⟩
    · exact hpost _ _ ⟨rfl, hb, Or.inl ⟨rfl, q_none hC (z := a.toInt.toNat) (by omega) hno⟩⟩
    · exact absurd h9 (fun z => nomatch z)
theorem c_Shelf_suffices (l : Launch) (hl9 : l.stackTraces = false) (E : qE) (S : qS) (c9 h ar t n9 f9 tm : Nat) (P : List q_X) (ns : List Nat) (rows : Nat → List Nat) (hC : q_C S c9 n9 f9 tm P h ar t ns rows) (a : Int32) : x_Mi l yX5_suffices cX5_suffices 3 { frames := 7, cells := 1, slots := 6, locals := 103 } E [.ref c9, .int a] S (fun r S1 => S1 = S ∧ v_szok a.toInt ∧ ((r = 0 ∧ v_non a.toInt.toNat (q_vl P)) ∨ ∃ A x B, P = A ++ x :: B ∧ v_isb a.toInt.toNat (q_vl A) x.2 (q_vl B) ∧ r = nI (1 + q_sz A))) q_IA (fun S1 => S1 = S ∧ ¬ v_szok a.toInt) 1 6 := c0_Shelf_suffices l hl9 E S c9 h ar t n9 f9 tm P ns rows hC a _ _ (fun _ _ h => h) (fun _ h => h)

set_option maxHeartbeats 4000000 in
set_option maxRecDepth 100000 in
theorem c0_Shelf_take (l : Launch) (hl9 : l.stackTraces = false) (E : qE) (S : qS) (c9 h ar t n9 f9 tm : Nat) (P : List q_X) (ns : List Nat) (rows : Nat → List Nat) (hC : q_C S c9 n9 f9 tm P h ar t ns rows) (htm : tm + 1 < 2 ^ 40) (a : Int32) (post : Int32 → qS → Prop) (px : qS → Prop) (hpost : ∀ r S1, (v_szok a.toInt ∧ q_fk S S1 ∧ ((r = 0 ∧ v_non a.toInt.toNat (q_vl P) ∧ q_CC S1 c9 n9 (f9 + 1) tm P h ar t) ∨ ∃ A x B, P = A ++ x :: B ∧ v_isb a.toInt.toNat (q_vl A) x.2 (q_vl B) ∧ r = nI (1 + q_sz A) ∧ ((x.2.1 = a.toInt.toNat ∧ q_CC S1 c9 n9 f9 tm (A ++ (x.1, a.toInt.toNat, false, x.2.2.2) :: B) h ar t) ∨ (a.toInt.toNat < x.2.1 ∧ ∃ q, q_CC S1 c9 n9 f9 (tm + 1) (A ++ (x.1, a.toInt.toNat, false, x.2.2.2) :: (q, x.2.1 - a.toInt.toNat, true, tm) :: B) h ar t)))) → post r S1) (hpx : ∀ S1, (S1 = S ∧ ¬ v_szok a.toInt) → px S1) : x_Mi l yX5_take cX5_take 3 { frames := 7, cells := 3, slots := 20, locals := 103 } E [.ref c9, .int a] S (post) q_IA (px) 3 20 := by
  refine x_ofW1 (by decide) (q_1c rfl (q_1c rfl q_1n)) (Nat.le_of_ble_eq_true rfl) (fun p e s m below meth c C hV hr hlk hnm hnt ls hl => ?_)
  have hl : lv_has ls 3 [(0, va_rf (some c9)), (1, .int (a))] := hl
  obtain ⟨hL_c9, hK_c9, hR8, hL_h, hK_h, hJ⟩ := q_C_cl hC
  refine lv_iload_n C.1 C.2.1 dX5_take_0 rfl (lv_at hl 1 rfl) ?_
  refine q_xcv hV (x_rS (As := [.int (a)]) (rest := []) C hV (c_Shelf_requireSize l hl9 E S a) wd_374 wd_372 wd_373 wd_39 ok_X5_requireSize ⟨rfl, rfl, Nat.le_of_ble_eq_true rfl, Nat.le_of_ble_eq_true rfl⟩ rfl hl.1 rfl (q_sm q_1n (Nat.le_of_ble_eq_true rfl)) dX5_take_1 ⟨Nat.le_of_ble_eq_true rfl, Nat.le_of_ble_eq_true rfl⟩) (fun q1 ce1 S1 H locs hx1 hV hq1 hq2 hq3 => q_thru hV hnt hlk hq1 hq2 hq3 (by decide) (by decide) (hpx _ hx1)) (fun S1 H locs hp1 hV => ?_)
  obtain ⟨eS1, hp1⟩ := hp1
  rw [eS1] at hV
  have hb := hp1
  obtain ⟨ha, ha2⟩ := q_nat (x := a) (by omega)
  refine q_aload_n (r := some c9) C dX5_take_4 rfl (lv_at hl 0 rfl) ?_
  refine g_Shelf_shelves C hV hL_c9 hK_c9 (Or.inl wd_192) dX5_take_5 ?_
  refine q_tr (v' := some h) (hR8) ?_
  refine lv_iload_n C.1 C.2.1 dX5_take_8 rfl (lv_at hl 1 rfl) ?_
  refine q_ti (v' := nI a.toInt.toNat) ha ?_
  refine q_cq hV (q_rN (b := h) (As := [.int (nI a.toInt.toNat)]) (rest := []) C hV (c_Shelves_smallestFrom l E S h ar t ns rows hC.2.2.2.1 a.toInt.toNat (by omega) (by omega) hC.2.2.2.2.1) wd_379 wd_376 wd_378 wd_20 wd_40 ok_X2_smallestFrom ⟨rfl, rfl, Nat.le_of_ble_eq_true rfl, Nat.le_of_ble_eq_true rfl⟩ (q_rc2 hV hL_h hK_h) rfl hl.1 rfl (q_sm q_1n (Nat.le_of_ble_eq_true rfl)) dX5_take_9 ⟨Nat.le_of_ble_eq_true rfl, Nat.le_of_ble_eq_true rfl⟩) (fun r9 S9 H locs hp9 hV => ?_)
  obtain ⟨eS9, hp9⟩ := hp9
  rw [eS9] at hV
  refine q_astore_n (r := r9) (lv' := [(2, va_rf (r9)), (0, va_rf (some c9)), (1, .int (a))]) C dX5_take_12 rfl hl (by decide) (q_k0 (q_kN 0 rfl (by decide) (by decide) (q_kC 1 rfl (by decide) rfl q_kz))) (fun ls hl => ?_)
  refine q_aload_n (r := r9) C dX5_take_13 rfl (lv_at hl 0 rfl) ?_
  refine q_ifnonnull (r := r9) (tgt := 29) C dX5_take_14 (by decide) (fun x14 c14 => ?_) (fun c14 => ?_)
  · subst c14
    rcases hp9 with ⟨h9, -⟩ | ⟨z1, hz1, a1, u1, hr1, h9, hno⟩
    · exact absurd h9 (fun z => nomatch z)
    obtain ⟨A, x, B, rfl, ex, efr, esz, hbest⟩ := q_best hC (by omega) hz1 hr1 hno
    cases h9
    subst ex
    obtain ⟨hL_x, hK_x, hI0, hI1, hI2, -, -, hsz, hn9⟩ := q_C_at hC
    refine q_aload_n (r := some c9) C dX5_take_29 rfl (lv_at hl 1 rfl) ?_
    refine g_Shelf_shelves C hV hL_c9 hK_c9 (Or.inl wd_192) dX5_take_30 ?_
    refine q_tr (v' := some h) (hR8) ?_
    refine q_aload_n (r := some x.1) C dX5_take_33 rfl (lv_at hl 0 rfl) ?_
    refine q_cv hV (q_rN (b := h) (As := [va_rf (some x.1)]) (rest := []) C hV (c_pullC l E S c9 n9 f9 tm A B x h ar t ns rows hC efr) wd_216 wd_213 wd_215 wd_9 wd_40 ok_X2_pullOut ⟨rfl, rfl, Nat.le_of_ble_eq_true rfl, Nat.le_of_ble_eq_true rfl⟩ (q_rc2 hV hL_h hK_h) rfl hl.1 rfl (q_sm q_1n (Nat.le_of_ble_eq_true rfl)) dX5_take_34 ⟨Nat.le_of_ble_eq_true rfl, Nat.le_of_ble_eq_true rfl⟩) (fun S34 H locs hp34 hV => ?_)
    obtain ⟨ns34, rows34, hC34, hf34⟩ := hp34
    obtain ⟨hL_x, hK_x, hI0, hI1, -, -, -, -, -⟩ := q_C_at hC34
    obtain ⟨hL_c3, hK_c3, -, -, -, -⟩ := q_C_cl hC34
    refine q_aload_n (r := some x.1) C dX5_take_37 rfl (lv_at hl 0 rfl) ?_
    refine g_Piece_cells C hV hL_x hK_x (Or.inr ⟨_, wd_139⟩) dX5_take_38 ?_
    refine q_ti (v' := nI x.2.1) (hI1) ?_
    refine lv_iload_n C.1 C.2.1 dX5_take_41 rfl (lv_at hl 2 rfl) ?_
    refine lv_icmp_le (tgt := 51) C.1 C.2.1 dX5_take_42 (by decide) (fun c42 => ?_) (fun c42 => ?_)
    · have heq : x.2.1 = a.toInt.toNat := by
        have h1 := q_i_le.mp c42
        rw [nI_toInt (by omega)] at h1
        have h2 := hbest.2.1
        omega
      refine q_aload_n (r := some x.1) C dX5_take_51 rfl (lv_at hl 0 rfl) ?_
      refine g_Piece_at C hV hL_x hK_x (Or.inr ⟨_, wd_137⟩) dX5_take_52 ?_
      refine q_ti (v' := nI (1 + q_sz A)) (hI0) ?_
      refine vx_ret (q_iret (v := nI (1 + q_sz A)) C hV hr hlk (by decide) (by decide) dX5_take_55 ?_)
      exact hpost _ _ ⟨hb, hf34, Or.inr ⟨A, x, B, rfl, hbest, rfl, Or.inl ⟨heq, ns34, rows34, by rw [← heq]; exact hC34⟩⟩⟩
    · have hlt : a.toInt.toNat < x.2.1 := by
        rcases Nat.lt_or_ge a.toInt.toNat x.2.1 with h | h
        · exact h
        · exact absurd (q_i_le.mpr (by rw [nI_toInt (by omega)]; omega)) c42
      refine q_aload_n (r := some c9) C dX5_take_45 rfl (lv_at hl 1 rfl) ?_
      refine q_aload_n (r := some x.1) C dX5_take_46 rfl (lv_at hl 0 rfl) ?_
      refine lv_iload_n C.1 C.2.1 dX5_take_47 rfl (lv_at hl 2 rfl) ?_
      refine q_ti (v' := nI a.toInt.toNat) ha ?_
      refine q_cv hV (q_rV (b := c9) (As := [va_rf (some x.1), .int (nI a.toInt.toNat)]) (rest := []) C hV (c_Shelf_cut l E S34 c9 h ar t n9 f9 tm x.1 x.2.1 a.toInt.toNat x.2.2.2 A B ns34 rows34 hC34 (by omega) hlt htm) wd_390 wd_387 wd_389 wd_22 wd_39 ok_X5_cut ⟨rfl, rfl, Nat.le_of_ble_eq_true rfl, Nat.le_of_ble_eq_true rfl⟩ (q_rc4 hV hL_c3 hK_c3) rfl hl.1 rfl (q_sm q_1n (Nat.le_of_ble_eq_true rfl)) dX5_take_48 ⟨Nat.le_of_ble_eq_true rfl, Nat.le_of_ble_eq_true rfl⟩) (fun S48 H locs hp48 hV => ?_)
      obtain ⟨q48, ⟨ns48, rows48, hC48⟩, hf48⟩ := hp48
      obtain ⟨hL_x, hK_x, hI0, -, -, -, -, -, -⟩ := q_C_at hC48
      refine q_aload_n (r := some x.1) C dX5_take_51 rfl (lv_at hl 0 rfl) ?_
      refine g_Piece_at C hV hL_x hK_x (Or.inr ⟨_, wd_137⟩) dX5_take_52 ?_
      refine q_ti (v' := nI (1 + q_sz A)) (hI0) ?_
      refine vx_ret (q_iret (v := nI (1 + q_sz A)) C hV hr hlk (by decide) (by decide) dX5_take_55 ?_)
      exact hpost _ _ ⟨hb, q_fr_tr hf34 hf48, Or.inr ⟨A, x, B, rfl, hbest, rfl, Or.inr ⟨hlt, q48, ns48, rows48, hC48⟩⟩⟩
  · subst c14
    refine q_aload_n (r := some c9) C dX5_take_17 rfl (lv_at hl 1 rfl) ?_
    refine lv_dup C.1 C.2.1 dX5_take_18 rfl ?_
    refine g_Shelf_misses C hV hL_c9 hK_c9 (Or.inl wd_195) dX5_take_19 ?_
    refine q_ti (v' := nI f9) (hC.2.2.1) ?_
    refine lv_iconst (v := 1) C.1 C.2.1 dX5_take_22 (by decide) ?_
    refine lv_iadd C.1 C.2.1 dX5_take_23 ?_
    refine p_Shelf_misses (v := (nI f9) + 1) C hV hL_c9 hK_c9 (Or.inl wd_195) dX5_take_24 (fun H locs hV => ?_)
    refine lv_iconst (v := 0) C.1 C.2.1 dX5_take_27 (by decide) ?_
    refine vx_ret (q_iret (v := 0) C hV hr hlk (by decide) (by decide) dX5_take_28 ?_)
    rcases hp9 with ⟨-, hno⟩ | ⟨z1, hz1, a1, u1, hr1, h9, -⟩
    · exact hpost _ _ ⟨hb, (q_C_miss hC).2, Or.inl ⟨rfl, q_none hC (z := a.toInt.toNat) (by omega) hno, ns, rows, (q_C_miss hC).1⟩⟩
    · exact absurd h9 (fun z => nomatch z)
theorem c_Shelf_take (l : Launch) (hl9 : l.stackTraces = false) (E : qE) (S : qS) (c9 h ar t n9 f9 tm : Nat) (P : List q_X) (ns : List Nat) (rows : Nat → List Nat) (hC : q_C S c9 n9 f9 tm P h ar t ns rows) (htm : tm + 1 < 2 ^ 40) (a : Int32) : x_Mi l yX5_take cX5_take 3 { frames := 7, cells := 3, slots := 20, locals := 103 } E [.ref c9, .int a] S (fun r S1 => v_szok a.toInt ∧ q_fk S S1 ∧ ((r = 0 ∧ v_non a.toInt.toNat (q_vl P) ∧ q_CC S1 c9 n9 (f9 + 1) tm P h ar t) ∨ ∃ A x B, P = A ++ x :: B ∧ v_isb a.toInt.toNat (q_vl A) x.2 (q_vl B) ∧ r = nI (1 + q_sz A) ∧ ((x.2.1 = a.toInt.toNat ∧ q_CC S1 c9 n9 f9 tm (A ++ (x.1, a.toInt.toNat, false, x.2.2.2) :: B) h ar t) ∨ (a.toInt.toNat < x.2.1 ∧ ∃ q, q_CC S1 c9 n9 f9 (tm + 1) (A ++ (x.1, a.toInt.toNat, false, x.2.2.2) :: (q, x.2.1 - a.toInt.toNat, true, tm) :: B) h ar t)))) q_IA (fun S1 => S1 = S ∧ ¬ v_szok a.toInt) 3 20 := c0_Shelf_take l hl9 E S c9 h ar t n9 f9 tm P ns rows hC htm a _ _ (fun _ _ h => h) (fun _ h => h)

set_option maxHeartbeats 4000000 in
set_option maxRecDepth 100000 in
theorem c0_Shelf_give (l : Launch) (hl9 : l.stackTraces = false) (E : qE) (S : qS) (c9 h ar t n9 f9 tm : Nat) (P : List q_X) (ns : List Nat) (rows : Nat → List Nat) (hC : q_C S c9 n9 f9 tm P h ar t ns rows) (htm : tm + 1 < 2 ^ 40) (a : Int32) (post : Int32 → qS → Prop) (px : qS → Prop) (hpost : ∀ r S1, (∃ A x B, P = A ++ x :: B ∧ x.2.2.1 = false ∧ a.toInt = 1 + q_sz A ∧ r = nI x.2.1 ∧ q_CC S1 c9 n9 f9 (tm + 1) (A ++ (x.1, x.2.1, true, tm) :: B) h ar t ∧ q_fk S S1) → post r S1) (hpx : ∀ S1, (S1 = S ∧ ∀ A x B, P = A ++ x :: B → a.toInt = 1 + q_sz A → x.2.2.1 = true) → px S1) : x_Mi l yX5_give cX5_give 3 { frames := 7, cells := 1, slots := 7, locals := 103 } E [.ref c9, .int a] S (post) q_NE (px) 1 7 := by
  refine x_ofW1 (by decide) (q_1c rfl (q_1c rfl q_1n)) (Nat.le_of_ble_eq_true rfl) (fun p e s m below meth c C hV hr hlk hnm hnt ls hl => ?_)
  have hl : lv_has ls 3 [(0, va_rf (some c9)), (1, .int (a))] := hl
  obtain ⟨hL_c9, hK_c9, hR8, hL_h, hK_h, hJ⟩ := q_C_cl hC
  refine q_aload_n (r := some c9) C dX5_give_0 rfl (lv_at hl 0 rfl) ?_
  refine lv_iload_n C.1 C.2.1 dX5_give_1 rfl (lv_at hl 1 rfl) ?_
  refine q_cq hV (q_rV (b := c9) (As := [.int (a)]) (rest := []) C hV (c_Shelf_beginningAt l E S c9 n9 P hC.1 hC.2.2.2.2.2.2.2.2.2 a) wd_240 wd_237 wd_239 wd_13 wd_39 ok_X5_beginningAt ⟨rfl, rfl, Nat.le_of_ble_eq_true rfl, Nat.le_of_ble_eq_true rfl⟩ (q_rc4 hV hL_c9 hK_c9) rfl hl.1 rfl (q_sm q_1n (Nat.le_of_ble_eq_true rfl)) dX5_give_2 ⟨Nat.le_of_ble_eq_true rfl, Nat.le_of_ble_eq_true rfl⟩) (fun r2 S2 H locs hp2 hV => ?_)
  obtain ⟨eS2, hp2⟩ := hp2
  rw [eS2] at hV
  refine q_astore_n (r := r2) (lv' := [(2, va_rf (r2)), (0, va_rf (some c9)), (1, .int (a))]) C dX5_give_5 rfl hl (by decide) (q_k0 (q_kN 0 rfl (by decide) (by decide) (q_kC 1 rfl (by decide) rfl q_kz))) (fun ls hl => ?_)
  refine q_aload_n (r := r2) C dX5_give_6 rfl (lv_at hl 0 rfl) ?_
  refine q_ifnull (r := r2) (tgt := 17) C dX5_give_7 (by decide) (fun c7 => ?_) (fun x7 c7 => ?_)
  · subst c7
    have hpx9 : ∀ A1 x1 B1, P = A1 ++ x1 :: B1 → a.toInt = 1 + q_sz A1 → x1.2.2.1 = true := by
      intro A1 x1 B1 e1 e2
      rcases hp2 with ⟨-, h9⟩ | ⟨A, x, B, -, h9, -⟩
      · exact absurd e2 (h9 A1 x1 B1 e1)
      · exact absurd h9 (fun z => nomatch z)
    exact q_thN (txt := "no used piece begins there") C hV hl9 hnt hlk hl.1 (by decide) dX5_give_17 dX5_give_20 dX5_give_21 dX5_give_23 dX5_give_26 (by decide) (by decide) (by decide) (by decide) (by decide) (by decide) (hpx _ ⟨rfl, hpx9⟩)
  · subst c7
    rcases hp2 with ⟨h9, -⟩ | ⟨A, x, B, rfl, h9, hat⟩
    · exact absurd h9 (fun z => nomatch z)
    cases h9
    obtain ⟨hL_x, hK_x, hI0, hI1, hI2, -, -, hsz, hn9⟩ := q_C_at hC
    refine q_aload_n (r := some x.1) C dX5_give_10 rfl (lv_at hl 0 rfl) ?_
    refine g_Piece_isFree C hV hL_x hK_x (Or.inr ⟨_, wd_142⟩) dX5_give_11 ?_
    refine q_ti (v' := q_fl x.2.2.1) (hI2) ?_
    refine lv_if_eq (tgt := 27) C.1 C.2.1 dX5_give_14 (by decide) (fun c14 => ?_) (fun c14 => ?_)
    · have hxf : x.2.2.1 = false := q_fl0.mp c14
      refine q_aload_n (r := some c9) C dX5_give_27 rfl (lv_at hl 1 rfl) ?_
      refine g_Shelf_shelves C hV hL_c9 hK_c9 (Or.inl wd_192) dX5_give_28 ?_
      refine q_tr (v' := some h) (hR8) ?_
      refine q_aload_n (r := some x.1) C dX5_give_31 rfl (lv_at hl 0 rfl) ?_
      refine q_cv hV (q_rN (b := h) (As := [va_rf (some x.1)]) (rest := []) C hV (c_putC l E S c9 n9 f9 tm A B x h ar t ns rows hC hxf htm) wd_169 wd_166 wd_168 wd_2 wd_40 ok_X2_putIn ⟨rfl, rfl, Nat.le_of_ble_eq_true rfl, Nat.le_of_ble_eq_true rfl⟩ (q_rc2 hV hL_h hK_h) rfl hl.1 rfl (q_sm q_1n (Nat.le_of_ble_eq_true rfl)) dX5_give_32 ⟨Nat.le_of_ble_eq_true rfl, Nat.le_of_ble_eq_true rfl⟩) (fun S32 H locs hp32 hV => ?_)
      obtain ⟨ns1, rows1, hC1, hf1⟩ := hp32
      obtain ⟨hL_x, hK_x, -, hI1, -, -, -, -, -⟩ := q_C_at hC1
      refine q_aload_n (r := some x.1) C dX5_give_35 rfl (lv_at hl 0 rfl) ?_
      refine g_Piece_cells C hV hL_x hK_x (Or.inr ⟨_, wd_139⟩) dX5_give_36 ?_
      refine q_ti (v' := nI x.2.1) (hI1) ?_
      refine vx_ret (q_iret (v := nI x.2.1) C hV hr hlk (by decide) (by decide) dX5_give_39 ?_)
      exact hpost _ _ ⟨A, x, B, rfl, hxf, hat, rfl, ⟨ns1, rows1, hC1⟩, hf1⟩
    · have hxf : x.2.2.1 = true := by cases e9 : x.2.2.1 with
        | true => rfl
        | false => exact absurd (q_fl0.mpr e9) c14
      have hpx9 : ∀ A1 x1 B1, A ++ x :: B = A1 ++ x1 :: B1 → a.toInt = 1 + q_sz A1 → x1.2.2.1 = true := by
        intro A1 x1 B1 e1 e2
        have hx1 : 1 ≤ x1.2.1 := hC.1.2.2.2.2.2.2.2 x1 (by rw [e1]; simp)
        have hx0 : 1 ≤ x.2.1 := hC.1.2.2.2.2.2.2.2 x (by simp)
        obtain ⟨-, ex, -⟩ := q_in_uniq (v := q_sz A) e1 (Nat.le_refl _) (by omega) (by omega) (by omega)
        rw [← ex]; exact hxf
      exact q_thN (txt := "no used piece begins there") C hV hl9 hnt hlk hl.1 (by decide) dX5_give_17 dX5_give_20 dX5_give_21 dX5_give_23 dX5_give_26 (by decide) (by decide) (by decide) (by decide) (by decide) (by decide) (hpx _ ⟨rfl, hpx9⟩)
theorem c_Shelf_give (l : Launch) (hl9 : l.stackTraces = false) (E : qE) (S : qS) (c9 h ar t n9 f9 tm : Nat) (P : List q_X) (ns : List Nat) (rows : Nat → List Nat) (hC : q_C S c9 n9 f9 tm P h ar t ns rows) (htm : tm + 1 < 2 ^ 40) (a : Int32) : x_Mi l yX5_give cX5_give 3 { frames := 7, cells := 1, slots := 7, locals := 103 } E [.ref c9, .int a] S (fun r S1 => ∃ A x B, P = A ++ x :: B ∧ x.2.2.1 = false ∧ a.toInt = 1 + q_sz A ∧ r = nI x.2.1 ∧ q_CC S1 c9 n9 f9 (tm + 1) (A ++ (x.1, x.2.1, true, tm) :: B) h ar t ∧ q_fk S S1) q_NE (fun S1 => S1 = S ∧ ∀ A x B, P = A ++ x :: B → a.toInt = 1 + q_sz A → x.2.2.1 = true) 1 7 := c0_Shelf_give l hl9 E S c9 h ar t n9 f9 tm P ns rows hC htm a _ _ (fun _ _ h => h) (fun _ h => h)

set_option maxHeartbeats 4000000 in
set_option maxRecDepth 100000 in
theorem c0_Shelf_join (l : Launch) (hl9 : l.stackTraces = false) (E : qE) (S : qS) (c9 h ar t n9 f9 tm : Nat) (P : List q_X) (ns : List Nat) (rows : Nat → List Nat) (hC : q_C S c9 n9 f9 tm P h ar t ns rows) (htm : tm + 1 < 2 ^ 40) (a : Int32) (post : Int32 → qS → Prop) (px : qS → Prop) (hpost : ∀ r S1, (∃ A x B, P = A ++ x :: B ∧ x.2.2.1 = true ∧ a.toInt = 1 + q_sz A ∧ r = nI (q_sw tm x (q_tk B)).2.1 ∧ q_CC S1 c9 n9 f9 (q_st tm (q_tk B)) (A ++ q_sw tm x (q_tk B) :: q_dr9 B) h ar t ∧ q_fk S S1) → post r S1) (hpx : ∀ S1, (S1 = S ∧ ∀ A x B, P = A ++ x :: B → a.toInt = 1 + q_sz A → x.2.2.1 = false) → px S1) : x_Mi l yX5_join cX5_join 3 { frames := 7, cells := 1, slots := 7, locals := 103 } E [.ref c9, .int a] S (post) q_NE (px) 1 7 := by
  refine x_ofW1 (by decide) (q_1c rfl (q_1c rfl q_1n)) (Nat.le_of_ble_eq_true rfl) (fun p e s m below meth c C hV hr hlk hnm hnt ls hl => ?_)
  have hl : lv_has ls 3 [(0, va_rf (some c9)), (1, .int (a))] := hl
  obtain ⟨hL_c9, hK_c9, hR8, hL_h, hK_h, hJ⟩ := q_C_cl hC
  refine q_aload_n (r := some c9) C dX5_join_0 rfl (lv_at hl 0 rfl) ?_
  refine lv_iload_n C.1 C.2.1 dX5_join_1 rfl (lv_at hl 1 rfl) ?_
  refine q_cq hV (q_rV (b := c9) (As := [.int (a)]) (rest := []) C hV (c_Shelf_beginningAt l E S c9 n9 P hC.1 hC.2.2.2.2.2.2.2.2.2 a) wd_240 wd_237 wd_239 wd_13 wd_39 ok_X5_beginningAt ⟨rfl, rfl, Nat.le_of_ble_eq_true rfl, Nat.le_of_ble_eq_true rfl⟩ (q_rc4 hV hL_c9 hK_c9) rfl hl.1 rfl (q_sm q_1n (Nat.le_of_ble_eq_true rfl)) dX5_join_2 ⟨Nat.le_of_ble_eq_true rfl, Nat.le_of_ble_eq_true rfl⟩) (fun r2 S2 H locs hp2 hV => ?_)
  obtain ⟨eS2, hp2⟩ := hp2
  rw [eS2] at hV
  refine q_astore_n (r := r2) (lv' := [(2, va_rf (r2)), (0, va_rf (some c9)), (1, .int (a))]) C dX5_join_5 rfl hl (by decide) (q_k0 (q_kN 0 rfl (by decide) (by decide) (q_kC 1 rfl (by decide) rfl q_kz))) (fun ls hl => ?_)
  refine q_aload_n (r := r2) C dX5_join_6 rfl (lv_at hl 0 rfl) ?_
  refine q_ifnull (r := r2) (tgt := 17) C dX5_join_7 (by decide) (fun c7 => ?_) (fun x7 c7 => ?_)
  · subst c7
    have hpx9 : ∀ A1 x1 B1, P = A1 ++ x1 :: B1 → a.toInt = 1 + q_sz A1 → x1.2.2.1 = false := by
      intro A1 x1 B1 e1 e2
      rcases hp2 with ⟨-, h9⟩ | ⟨A, x, B, -, h9, -⟩
      · exact absurd e2 (h9 A1 x1 B1 e1)
      · exact absurd h9 (fun z => nomatch z)
    exact q_thN (txt := "no free piece begins there") C hV hl9 hnt hlk hl.1 (by decide) dX5_join_17 dX5_join_20 dX5_join_21 dX5_join_23 dX5_join_26 (by decide) (by decide) (by decide) (by decide) (by decide) (by decide) (hpx _ ⟨rfl, hpx9⟩)
  · subst c7
    rcases hp2 with ⟨h9, -⟩ | ⟨A, x, B, rfl, h9, hat⟩
    · exact absurd h9 (fun z => nomatch z)
    cases h9
    obtain ⟨hL_x, hK_x, hI0, hI1, hI2, -, -, hsz, hn9⟩ := q_C_at hC
    refine q_aload_n (r := some x.1) C dX5_join_10 rfl (lv_at hl 0 rfl) ?_
    refine g_Piece_isFree C hV hL_x hK_x (Or.inr ⟨_, wd_142⟩) dX5_join_11 ?_
    refine q_ti (v' := q_fl x.2.2.1) (hI2) ?_
    refine lv_if_ne (tgt := 27) C.1 C.2.1 dX5_join_14 (by decide) (fun c14 => ?_) (fun c14 => ?_)
    · have c14 : ¬ q_fl x.2.2.1 = 0 := c14
      have hxf : x.2.2.1 = true := by cases e9 : x.2.2.1 with
        | true => rfl
        | false => exact absurd (q_fl0.mpr e9) c14
      refine q_aload_n (r := some c9) C dX5_join_27 rfl (lv_at hl 1 rfl) ?_
      refine q_aload_n (r := some x.1) C dX5_join_28 rfl (lv_at hl 0 rfl) ?_
      refine q_ci hV (q_rV (b := c9) (As := [va_rf (some x.1)]) (rest := []) C hV (c_Shelf_swallow l E S c9 h ar t n9 f9 tm A (q_tk B) (q_dr9 B) x ns rows (by rw [q_tk_dr]; exact hC) hxf (q_tk_free B) (q_dr_head B) htm) wd_212 wd_209 wd_211 wd_8 wd_39 ok_X5_swallowFreeBehind ⟨rfl, rfl, Nat.le_of_ble_eq_true rfl, Nat.le_of_ble_eq_true rfl⟩ (q_rc4 hV hL_c9 hK_c9) rfl hl.1 rfl (q_sm q_1n (Nat.le_of_ble_eq_true rfl)) dX5_join_29 ⟨Nat.le_of_ble_eq_true rfl, Nat.le_of_ble_eq_true rfl⟩) (fun i29 S29 H locs hp29 hV => ?_)
      obtain ⟨-, ⟨ns1, rows1, hC1⟩, hf1⟩ := hp29
      obtain ⟨hL_x, hK_x, -, hI1, -, -, -, -, -⟩ := q_C_at hC1
      rw [q_sw_1] at hL_x hK_x hI1
      refine lv_pop C.1 C.2.1 dX5_join_32 rfl ?_
      refine q_aload_n (r := some x.1) C dX5_join_33 rfl (lv_at hl 0 rfl) ?_
      refine g_Piece_cells C hV hL_x hK_x (Or.inr ⟨_, wd_139⟩) dX5_join_34 ?_
      refine q_ti (v' := nI (q_sw tm x (q_tk B)).2.1) (hI1) ?_
      refine vx_ret (q_iret (v := nI (q_sw tm x (q_tk B)).2.1) C hV hr hlk (by decide) (by decide) dX5_join_37 ?_)
      exact hpost _ _ ⟨A, x, B, rfl, hxf, hat, rfl, ⟨ns1, rows1, hC1⟩, hf1⟩
    · have c14 : q_fl x.2.2.1 = 0 := c14
      have hxf : x.2.2.1 = false := q_fl0.mp c14
      have hpx9 : ∀ A1 x1 B1, A ++ x :: B = A1 ++ x1 :: B1 → a.toInt = 1 + q_sz A1 → x1.2.2.1 = false := by
        intro A1 x1 B1 e1 e2
        have hx1 : 1 ≤ x1.2.1 := hC.1.2.2.2.2.2.2.2 x1 (by rw [e1]; simp)
        have hx0 : 1 ≤ x.2.1 := hC.1.2.2.2.2.2.2.2 x (by simp)
        obtain ⟨-, ex, -⟩ := q_in_uniq (v := q_sz A) e1 (Nat.le_refl _) (by omega) (by omega) (by omega)
        rw [← ex]; exact hxf
      exact q_thN (txt := "no free piece begins there") C hV hl9 hnt hlk hl.1 (by decide) dX5_join_17 dX5_join_20 dX5_join_21 dX5_join_23 dX5_join_26 (by decide) (by decide) (by decide) (by decide) (by decide) (by decide) (hpx _ ⟨rfl, hpx9⟩)
theorem c_Shelf_join (l : Launch) (hl9 : l.stackTraces = false) (E : qE) (S : qS) (c9 h ar t n9 f9 tm : Nat) (P : List q_X) (ns : List Nat) (rows : Nat → List Nat) (hC : q_C S c9 n9 f9 tm P h ar t ns rows) (htm : tm + 1 < 2 ^ 40) (a : Int32) : x_Mi l yX5_join cX5_join 3 { frames := 7, cells := 1, slots := 7, locals := 103 } E [.ref c9, .int a] S (fun r S1 => ∃ A x B, P = A ++ x :: B ∧ x.2.2.1 = true ∧ a.toInt = 1 + q_sz A ∧ r = nI (q_sw tm x (q_tk B)).2.1 ∧ q_CC S1 c9 n9 f9 (q_st tm (q_tk B)) (A ++ q_sw tm x (q_tk B) :: q_dr9 B) h ar t ∧ q_fk S S1) q_NE (fun S1 => S1 = S ∧ ∀ A x B, P = A ++ x :: B → a.toInt = 1 + q_sz A → x.2.2.1 = false) 1 7 := c0_Shelf_join l hl9 E S c9 h ar t n9 f9 tm P ns rows hC htm a _ _ (fun _ _ h => h) (fun _ h => h)

