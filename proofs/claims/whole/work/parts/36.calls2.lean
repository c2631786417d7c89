set_option maxHeartbeats 4000000 in
set_option maxRecDepth 100000 in
theorem c0_Shelf_free (l : Launch) (hl9 : l.stackTraces = false) (E : qE) (S : qS) (c9 h ar t n9 f9 tm : Nat) (P : List q_X) (ns : List Nat) (rows : Nat → List Nat) (hC : q_C S c9 n9 f9 tm P h ar t ns rows) (a k : Int32) (post : Int32 → qS → Prop) (px : qS → Prop) (hpost : ∀ r S1, (S1 = S ∧ 0 ≤ k.toInt ∧ v_free (q_vl P) a.toInt k.toInt r) → post r S1) (hpx : ∀ S1, (S1 = S ∧ k.toInt < 0) → px S1) : x_Mi l yX5_free cX5_free 5 { frames := 6, cells := 1, slots := 6, locals := 82 } E [.ref c9, .int a, .int k] S (post) q_IA (px) 1 6 := by
  refine x_ofW1 (by decide) (q_1c rfl (q_1c rfl (q_1c rfl q_1n))) (Nat.le_of_ble_eq_true rfl) (fun p e s m below meth c C hV hr hlk hnm hnt ls hl => ?_)
  have hl : lv_has ls 5 [(0, va_rf (some c9)), (1, .int (a)), (2, .int (k))] := hl
  obtain ⟨hL_c9, hK_c9, hR8, hL_h, hK_h, hJ⟩ := q_C_cl hC
  refine lv_iload_n C.1 C.2.1 dX5_free_0 rfl (lv_at hl 2 rfl) ?_
  refine lv_if_ge (tgt := 14) C.1 C.2.1 dX5_free_1 (by decide) (fun c1 => ?_) (fun c1 => ?_)
  · have hk0 : 0 ≤ k.toInt := by have := q_i_le.mp c1; rw [q_i0] at this; exact this
    obtain ⟨hk1, hk2⟩ := q_nat hk0
    refine q_aload_n (r := some c9) C dX5_free_14 rfl (lv_at hl 0 rfl) ?_
    refine g_Shelf_shelves C hV hL_c9 hK_c9 (Or.inl wd_192) dX5_free_15 ?_
    refine q_tr (v' := some h) (hR8) ?_
    refine lv_iload_n C.1 C.2.1 dX5_free_18 rfl (lv_at hl 1 rfl) ?_
    refine q_cq hV (q_rN (b := h) (As := [.int (a)]) (rest := []) C hV (c_Shelves_rowOf l E S h ar t ns rows hC.2.2.2.1 a) wd_220 wd_438 wd_219 wd_10 wd_40 ok_X2_rowOf ⟨rfl, rfl, Nat.le_of_ble_eq_true rfl, Nat.le_of_ble_eq_true rfl⟩ (q_rc2 hV hL_h hK_h) rfl hl.1 rfl (q_sm q_1n (Nat.le_of_ble_eq_true rfl)) dX5_free_19 ⟨Nat.le_of_ble_eq_true rfl, Nat.le_of_ble_eq_true rfl⟩) (fun r19 S19 H locs hp19 hV => ?_)
    obtain ⟨eS19, hp19⟩ := hp19
    rw [eS19] at hV
    refine q_astore_n (r := r19) (lv' := [(3, va_rf (r19)), (0, va_rf (some c9)), (1, .int (a)), (2, .int (k))]) C dX5_free_22 rfl hl (by decide) (q_k0 (q_kN 0 rfl (by decide) (by decide) (q_kN 1 rfl (by decide) (by decide) (q_kC 2 rfl (by decide) rfl q_kz)))) (fun ls hl => ?_)
    refine q_aload_n (r := r19) C dX5_free_23 rfl (lv_at hl 0 rfl) ?_
    refine q_ifnonnull (r := r19) (tgt := 31) C dX5_free_24 (by decide) (fun x24 c24 => ?_) (fun c24 => ?_)
    · subst c24
      obtain ⟨ha3, hrow⟩ : 3 ≤ a.toInt ∧ q_row S rows a.toInt.toNat x24 := by
        rcases hp19 with ⟨h9, -⟩ | ⟨b, h9, h3, hrow, -⟩
        · exact absurd h9 (fun z => nomatch z)
        · cases h9; exact ⟨h3, hrow⟩
      have hL_x24 := hrow.1
      have hK_x24 := hrow.2.1
      refine q_aload_n (r := some x24) C dX5_free_31 rfl (lv_at hl 0 rfl) ?_
      refine lv_iload_n C.1 C.2.1 dX5_free_32 rfl (lv_at hl 3 rfl) ?_
      refine q_ti (v' := nI k.toInt.toNat) hk1 ?_
      refine q_cq hV (q_rN (b := x24) (As := [.int (nI k.toInt.toNat)]) (rest := []) C hV (c_Row_kthLatest l E S x24 k.toInt.toNat (rows a.toInt.toNat) hL_x24 hK_x24 hk2 hrow.2.2.2.2 (fun b hb => ⟨(hC.2.2.2.1.2.2.2.2.2.2 _ b hb).1, (hC.2.2.2.1.2.2.2.2.2.2 _ b hb).2.1⟩)) wd_442 wd_439 wd_441 wd_23 wd_41 ok_X1_kthLatest ⟨rfl, rfl, Nat.le_of_ble_eq_true rfl, Nat.le_of_ble_eq_true rfl⟩ (q_rc1 hV hL_x24 hK_x24) rfl hl.1 rfl (q_sm q_1n (Nat.le_of_ble_eq_true rfl)) dX5_free_33 ⟨Nat.le_of_ble_eq_true rfl, Nat.le_of_ble_eq_true rfl⟩) (fun r33 S33 H locs hp33 hV => ?_)
      obtain ⟨eS33, hp33⟩ := hp33
      rw [eS33] at hV
      refine q_astore (r := r33) (lv' := [(4, va_rf (r33)), (3, va_rf (some x24)), (0, va_rf (some c9)), (1, .int (a)), (2, .int (k))]) C dX5_free_36 hl (by decide) (q_k0 (q_kC 0 rfl (by decide) (q_cat _) (q_kN 1 rfl (by decide) (by decide) (q_kN 2 rfl (by decide) (by decide) (q_kN 3 rfl (by decide) (by decide) q_kz))))) (fun ls hl => ?_)
      refine q_aload (r := r33) C dX5_free_38 (lv_at hl 0 rfl) ?_
      refine q_ifnonnull (r := r33) (tgt := 47) C dX5_free_40 (by decide) (fun x40 c40 => ?_) (fun c40 => ?_)
      · subst c40
        obtain ⟨A, x, B, rfl, ex, efr, esz, hcn⟩ := q_kth_some hC hp33.symm
        subst ex
        obtain ⟨hL_x, hK_x, hI0, -, -, -, -, -, -⟩ := q_C_at hC
        refine q_aload (r := some x.1) C dX5_free_47 (lv_at hl 0 rfl) ?_
        refine g_Piece_at C hV hL_x hK_x (Or.inr ⟨_, wd_137⟩) dX5_free_49 ?_
        refine q_ti (v' := nI (1 + q_sz A)) (hI0) ?_
        refine vx_ret (q_iret (v := nI (1 + q_sz A)) C hV hr hlk (by decide) (by decide) dX5_free_52 ?_)
        exact hpost _ _ ⟨rfl, hk0, Or.inr ⟨ha3, Or.inr ⟨q_vl A, x.2, q_vl B, q_vl_app A B x, efr, esz, hcn, by rw [v_sz_vl]⟩⟩⟩
      · subst c40
        refine lv_iconst (v := 0) C.1 C.2.1 dX5_free_43 (by decide) ?_
        refine lv_goto (tgt := 52) C.1 C.2.1 dX5_free_44 (by decide) ?_
        refine vx_ret (q_iret (v := 0) C hV hr hlk (by decide) (by decide) dX5_free_52 ?_)
        exact hpost _ _ ⟨rfl, hk0, Or.inr ⟨ha3, Or.inl ⟨rfl, q_kth_none hC (by omega) hp33.symm⟩⟩⟩
    · subst c24
      refine lv_null C.1 C.2.1 dX5_free_27 ?_
      refine lv_goto (tgt := 36) C.1 C.2.1 dX5_free_28 (by decide) ?_
      refine q_astore (r := none) (lv' := [(4, va_rf (none)), (3, va_rf (none)), (0, va_rf (some c9)), (1, .int (a)), (2, .int (k))]) C dX5_free_36 hl (by decide) (q_k0 (q_kC 0 rfl (by decide) (q_cat _) (q_kN 1 rfl (by decide) (by decide) (q_kN 2 rfl (by decide) (by decide) (q_kN 3 rfl (by decide) (by decide) q_kz))))) (fun ls hl => ?_)
      refine q_aload (r := none) C dX5_free_38 (lv_at hl 0 rfl) ?_
      refine q_ifnonnull (r := none) (tgt := 47) C dX5_free_40 (by decide) (fun _ h => nomatch h) (fun _ => ?_)
      refine lv_iconst (v := 0) C.1 C.2.1 dX5_free_43 (by decide) ?_
      refine lv_goto (tgt := 52) C.1 C.2.1 dX5_free_44 (by decide) ?_
      refine vx_ret (q_iret (v := 0) C hV hr hlk (by decide) (by decide) dX5_free_52 ?_)
      refine hpost _ _ ⟨rfl, hk0, ?_⟩
      rcases hp19 with ⟨-, h9⟩ | ⟨b, h9, -⟩
      · rcases h9 with h9 | h9
        · exact Or.inl ⟨h9, rfl⟩
        · rcases Int.lt_or_le a.toInt 3 with h3 | h3
          · exact Or.inl ⟨h3, rfl⟩
          · exact Or.inr ⟨h3, Or.inl ⟨rfl, q_kth_none hC (by omega) (by rw [h9]; rfl)⟩⟩
      · exact absurd h9 (fun z => nomatch z)
  · have hk0 : k.toInt < 0 := by
      rcases Int.lt_or_le k.toInt 0 with h | h
      · exact h
      · exact absurd (q_i_le.mpr (by rw [q_i0]; exact h)) c1
    exact q_thI (txt := "k is below 0") C hV hl9 hnt hlk hl.1 (by decide) dX5_free_4 dX5_free_7 dX5_free_8 dX5_free_10 dX5_free_13 (by decide) (by decide) (by decide) (by decide) (by decide) (by decide) (hpx _ ⟨rfl, hk0⟩)
theorem c_Shelf_free (l : Launch) (hl9 : l.stackTraces = false) (E : qE) (S : qS) (c9 h ar t n9 f9 tm : Nat) (P : List q_X) (ns : List Nat) (rows : Nat → List Nat) (hC : q_C S c9 n9 f9 tm P h ar t ns rows) (a k : Int32) : x_Mi l yX5_free cX5_free 5 { frames := 6, cells := 1, slots := 6, locals := 82 } E [.ref c9, .int a, .int k] S (fun r S1 => S1 = S ∧ 0 ≤ k.toInt ∧ v_free (q_vl P) a.toInt k.toInt r) q_IA (fun S1 => S1 = S ∧ k.toInt < 0) 1 6 := c0_Shelf_free l hl9 E S c9 h ar t n9 f9 tm P ns rows hC a k _ _ (fun _ _ h => h) (fun _ h => h)

set_option maxHeartbeats 4000000 in
set_option maxRecDepth 100000 in
theorem c0_Shelf_count (l : Launch) (hl9 : l.stackTraces = false) (E : qE) (S : qS) (c9 h ar t n9 f9 tm : Nat) (P : List q_X) (ns : List Nat) (rows : Nat → List Nat) (hC : q_C S c9 n9 f9 tm P h ar t ns rows) (a : Int32) (post : Int32 → qS → Prop) (px : qS → Prop) (hpost : ∀ r S1, (S1 = S ∧ (0 ≤ a.toInt ∧ a.toInt ≤ 7) ∧ r = nI (v_cnt a.toInt (q_vl P) n9 f9)) → post r S1) (hpx : ∀ S1, (S1 = S ∧ ¬ (0 ≤ a.toInt ∧ a.toInt ≤ 7)) → px S1) : x_Mi l yX5_count cX5_count 2 { frames := 6, cells := 1, slots := 6, locals := 82 } E [.ref c9, .int a] S (post) q_IA (px) 1 6 := by
  refine x_ofW1 (by decide) (q_1c rfl (q_1c rfl q_1n)) (Nat.le_of_ble_eq_true rfl) (fun p e s m below meth c C hV hr hlk hnm hnt ls hl => ?_)
  have hl : lv_has ls 2 [(0, va_rf (some c9)), (1, .int (a))] := hl
  obtain ⟨hL_c9, hK_c9, hR8, hL_h, hK_h, hJ⟩ := q_C_cl hC
  refine lv_iload_n C.1 C.2.1 dX5_count_0 rfl (lv_at hl 1 rfl) ?_
  by_cases hb : 0 ≤ a.toInt ∧ a.toInt ≤ 7
  · have h8 : a.toInt = 0 ∨ a.toInt = 1 ∨ a.toInt = 2 ∨ a.toInt = 3 ∨ a.toInt = 4 ∨ a.toInt = 5 ∨ a.toInt = 6 ∨ a.toInt = 7 := by omega
    rcases h8 with hw | hw | hw | hw | hw | hw | hw | hw
    · refine lv_tableIn (off := 47) (tgt := 48) C.1 C.2.1 dX5_count_1 (by omega) (by omega) (by rw [hw]; rfl) (by decide) ?_
      refine q_aload_n (r := some c9) C dX5_count_48 rfl (lv_at hl 0 rfl) ?_
      refine q_ci hV (q_rV (b := c9) (As := []) (rest := []) C hV (c_Shelf_freeCells l E S c9 n9 P hC.1) wd_453 wd_450 wd_452 wd_24 wd_39 ok_X5_freeCells ⟨rfl, rfl, Nat.le_of_ble_eq_true rfl, Nat.le_of_ble_eq_true rfl⟩ (q_rc4 hV hL_c9 hK_c9) rfl hl.1 rfl (q_sm q_1n (Nat.le_of_ble_eq_true rfl)) dX5_count_49 ⟨Nat.le_of_ble_eq_true rfl, Nat.le_of_ble_eq_true rfl⟩) (fun i49 S49 H locs hp49 hV => ?_)
      obtain ⟨eS49, hp49⟩ := hp49
      rw [eS49] at hV
      refine vx_ret (q_iret (v := i49) C hV hr hlk (by decide) (by decide) dX5_count_52 ?_)
      refine hpost _ _ ⟨rfl, hb, ?_⟩
      rw [v_cnt, hw]
      exact hp49
    · refine lv_tableIn (off := 52) (tgt := 53) C.1 C.2.1 dX5_count_1 (by omega) (by omega) (by rw [hw]; rfl) (by decide) ?_
      refine q_aload_n (r := some c9) C dX5_count_53 rfl (lv_at hl 0 rfl) ?_
      refine q_ci hV (q_rV (b := c9) (As := []) (rest := []) C hV (c_Shelf_crumbCells l E S c9 n9 P hC.1) wd_457 wd_454 wd_456 wd_25 wd_39 ok_X5_crumbCells ⟨rfl, rfl, Nat.le_of_ble_eq_true rfl, Nat.le_of_ble_eq_true rfl⟩ (q_rc4 hV hL_c9 hK_c9) rfl hl.1 rfl (q_sm q_1n (Nat.le_of_ble_eq_true rfl)) dX5_count_54 ⟨Nat.le_of_ble_eq_true rfl, Nat.le_of_ble_eq_true rfl⟩) (fun i54 S54 H locs hp54 hV => ?_)
      obtain ⟨eS54, hp54⟩ := hp54
      rw [eS54] at hV
      refine vx_ret (q_iret (v := i54) C hV hr hlk (by decide) (by decide) dX5_count_57 ?_)
      refine hpost _ _ ⟨rfl, hb, ?_⟩
      rw [v_cnt, hw]
      exact hp54
    · refine lv_tableIn (off := 57) (tgt := 58) C.1 C.2.1 dX5_count_1 (by omega) (by omega) (by rw [hw]; rfl) (by decide) ?_
      refine q_aload_n (r := some c9) C dX5_count_58 rfl (lv_at hl 0 rfl) ?_
      refine q_ci hV (q_rV (b := c9) (As := []) (rest := []) C hV (c_Shelf_usedPieces l E S c9 n9 P hC.1) wd_465 wd_462 wd_464 wd_27 wd_39 ok_X5_usedPieces ⟨rfl, rfl, Nat.le_of_ble_eq_true rfl, Nat.le_of_ble_eq_true rfl⟩ (q_rc4 hV hL_c9 hK_c9) rfl hl.1 rfl (q_sm q_1n (Nat.le_of_ble_eq_true rfl)) dX5_count_59 ⟨Nat.le_of_ble_eq_true rfl, Nat.le_of_ble_eq_true rfl⟩) (fun i59 S59 H locs hp59 hV => ?_)
      obtain ⟨eS59, hp59⟩ := hp59
      rw [eS59] at hV
      refine vx_ret (q_iret (v := i59) C hV hr hlk (by decide) (by decide) dX5_count_62 ?_)
      refine hpost _ _ ⟨rfl, hb, ?_⟩
      rw [v_cnt, hw]
      exact hp59
    · refine lv_tableIn (off := 62) (tgt := 63) C.1 C.2.1 dX5_count_1 (by omega) (by omega) (by rw [hw]; rfl) (by decide) ?_
      refine q_aload_n (r := some c9) C dX5_count_63 rfl (lv_at hl 0 rfl) ?_
      refine q_ci hV (q_rV (b := c9) (As := []) (rest := []) C hV (c_Shelf_shelvedPieces l E S c9 n9 P hC.1) wd_469 wd_466 wd_468 wd_28 wd_39 ok_X5_shelvedPieces ⟨rfl, rfl, Nat.le_of_ble_eq_true rfl, Nat.le_of_ble_eq_true rfl⟩ (q_rc4 hV hL_c9 hK_c9) rfl hl.1 rfl (q_sm q_1n (Nat.le_of_ble_eq_true rfl)) dX5_count_64 ⟨Nat.le_of_ble_eq_true rfl, Nat.le_of_ble_eq_true rfl⟩) (fun i64 S64 H locs hp64 hV => ?_)
      obtain ⟨eS64, hp64⟩ := hp64
      rw [eS64] at hV
      refine vx_ret (q_iret (v := i64) C hV hr hlk (by decide) (by decide) dX5_count_67 ?_)
      refine hpost _ _ ⟨rfl, hb, ?_⟩
      rw [v_cnt, hw]
      exact hp64
    · refine lv_tableIn (off := 67) (tgt := 68) C.1 C.2.1 dX5_count_1 (by omega) (by omega) (by rw [hw]; rfl) (by decide) ?_
      refine q_aload_n (r := some c9) C dX5_count_68 rfl (lv_at hl 0 rfl) ?_
      refine q_ci hV (q_rV (b := c9) (As := []) (rest := []) C hV (c_Shelf_crumbs l E S c9 n9 P hC.1) wd_473 wd_470 wd_472 wd_29 wd_39 ok_X5_crumbs ⟨rfl, rfl, Nat.le_of_ble_eq_true rfl, Nat.le_of_ble_eq_true rfl⟩ (q_rc4 hV hL_c9 hK_c9) rfl hl.1 rfl (q_sm q_1n (Nat.le_of_ble_eq_true rfl)) dX5_count_69 ⟨Nat.le_of_ble_eq_true rfl, Nat.le_of_ble_eq_true rfl⟩) (fun i69 S69 H locs hp69 hV => ?_)
      obtain ⟨eS69, hp69⟩ := hp69
      rw [eS69] at hV
      refine vx_ret (q_iret (v := i69) C hV hr hlk (by decide) (by decide) dX5_count_72 ?_)
      refine hpost _ _ ⟨rfl, hb, ?_⟩
      rw [v_cnt, hw]
      exact hp69
    · refine lv_tableIn (off := 72) (tgt := 73) C.1 C.2.1 dX5_count_1 (by omega) (by omega) (by rw [hw]; rfl) (by decide) ?_
      refine q_aload_n (r := some c9) C dX5_count_73 rfl (lv_at hl 0 rfl) ?_
      refine q_ci hV (q_rV (b := c9) (As := []) (rest := []) C hV (c_Shelf_greatestFree l E S c9 n9 P hC.1) wd_477 wd_474 wd_476 wd_30 wd_39 ok_X5_greatestFree ⟨rfl, rfl, Nat.le_of_ble_eq_true rfl, Nat.le_of_ble_eq_true rfl⟩ (q_rc4 hV hL_c9 hK_c9) rfl hl.1 rfl (q_sm q_1n (Nat.le_of_ble_eq_true rfl)) dX5_count_74 ⟨Nat.le_of_ble_eq_true rfl, Nat.le_of_ble_eq_true rfl⟩) (fun i74 S74 H locs hp74 hV => ?_)
      obtain ⟨eS74, hp74⟩ := hp74
      rw [eS74] at hV
      refine vx_ret (q_iret (v := i74) C hV hr hlk (by decide) (by decide) dX5_count_77 ?_)
      refine hpost _ _ ⟨rfl, hb, ?_⟩
      rw [v_cnt, hw]
      exact hp74
    · refine lv_tableIn (off := 77) (tgt := 78) C.1 C.2.1 dX5_count_1 (by omega) (by omega) (by rw [hw]; rfl) (by decide) ?_
      refine q_aload_n (r := some c9) C dX5_count_78 rfl (lv_at hl 0 rfl) ?_
      refine g_Shelf_misses C hV hL_c9 hK_c9 (Or.inl wd_195) dX5_count_79 ?_
      refine q_ti (v' := nI f9) (hC.2.2.1) ?_
      refine vx_ret (q_iret (v := nI f9) C hV hr hlk (by decide) (by decide) dX5_count_82 ?_)
      refine hpost _ _ ⟨rfl, hb, ?_⟩
      rw [v_cnt, hw]
      rfl
    · refine lv_tableIn (off := 82) (tgt := 83) C.1 C.2.1 dX5_count_1 (by omega) (by omega) (by rw [hw]; rfl) (by decide) ?_
      refine q_aload_n (r := some c9) C dX5_count_83 rfl (lv_at hl 0 rfl) ?_
      refine g_Shelf_cellCount C hV hL_c9 hK_c9 (Or.inl wd_194) dX5_count_84 ?_
      refine q_ti (v' := nI n9) (hC.1.2.2.1) ?_
      refine vx_ret (q_iret (v := nI n9) C hV hr hlk (by decide) (by decide) dX5_count_87 ?_)
      refine hpost _ _ ⟨rfl, hb, ?_⟩
      rw [v_cnt, hw]
      rfl
  · refine lv_tableOut (tgt := 88) C.1 C.2.1 dX5_count_1 (by omega) (by decide) ?_
    exact q_thI (txt := "what is not 0 .. 7") C hV hl9 hnt hlk hl.1 (by decide) dX5_count_88 dX5_count_91 dX5_count_92 dX5_count_94 dX5_count_97 (by decide) (by decide) (by decide) (by decide) (by decide) (by decide) (hpx _ ⟨rfl, hb⟩)
theorem c_Shelf_count (l : Launch) (hl9 : l.stackTraces = false) (E : qE) (S : qS) (c9 h ar t n9 f9 tm : Nat) (P : List q_X) (ns : List Nat) (rows : Nat → List Nat) (hC : q_C S c9 n9 f9 tm P h ar t ns rows) (a : Int32) : x_Mi l yX5_count cX5_count 2 { frames := 6, cells := 1, slots := 6, locals := 82 } E [.ref c9, .int a] S (fun r S1 => S1 = S ∧ (0 ≤ a.toInt ∧ a.toInt ≤ 7) ∧ r = nI (v_cnt a.toInt (q_vl P) n9 f9)) q_IA (fun S1 => S1 = S ∧ ¬ (0 ≤ a.toInt ∧ a.toInt ≤ 7)) 1 6 := c0_Shelf_count l hl9 E S c9 h ar t n9 f9 tm P ns rows hC a _ _ (fun _ _ h => h) (fun _ h => h)

