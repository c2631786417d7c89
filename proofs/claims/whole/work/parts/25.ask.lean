/-- a piece begins at a, or none does -/
def q_beg (P : List q_X) (a : Int) (r : Option Nat) : Prop := (r = none ∧ ∀ A x B, P = A ++ x :: B → a ≠ 1 + q_sz A) ∨ ∃ A x B, P = A ++ x :: B ∧ r = some x.1 ∧ a = 1 + q_sz A
def v_piece (V : List (Nat × Bool × Nat)) (a : Int) (r : Int32) : Prop := (r = 0 ∧ ∀ A x B, V = A ++ x :: B → a ≠ 1 + v_sz A) ∨ ∃ A x B, V = A ++ x :: B ∧ a = 1 + v_sz A ∧ r = if x.2.1 = true then -nI x.1 else nI x.1
def v_cover (V : List (Nat × Bool × Nat)) (a : Int) (r : Int32) : Prop := (r = 0 ∧ (a < 1 ∨ v_sz V < a)) ∨ ∃ A x B, V = A ++ x :: B ∧ 1 + v_sz A ≤ a ∧ a < 1 + v_sz A + x.1 ∧ r = nI (1 + v_sz A)
/-- a split of the values is one of the pieces -/
theorem q_vl_split {P : List q_X} {A B : List (Nat × Bool × Nat)} {x : Nat × Bool × Nat} (h : q_vl P = A ++ x :: B) : ∃ A1 x1 B1, P = A1 ++ x1 :: B1 ∧ q_vl A1 = A ∧ x1.2 = x ∧ q_vl B1 = B := by
  obtain ⟨A1, R, h1, h2, h3⟩ := List.map_eq_append_iff.mp h
  obtain ⟨x1, B1, h4, h5, h6⟩ := List.map_eq_cons_iff.mp h3
  exact ⟨A1, x1, B1, by rw [h1, h4], h2, h5, h6⟩
theorem q_vl_app (A B : List q_X) (x : q_X) : q_vl (A ++ x :: B) = q_vl A ++ x.2 :: q_vl B := by simp [q_vl]
set_option maxHeartbeats 4000000 in
set_option maxRecDepth 100000 in
theorem c0_Shelf_beginningAt (l : Launch) (E : qE) (S : qS) (c9 n9 : Nat) (P9 : List q_X) (hln : q_line S c9 n9 P9) (hn1 : 1 ≤ n9) (a : Int32) (post : Option Nat → qS → Prop) (hpost : ∀ r S1, (S1 = S ∧ q_beg P9 a.toInt r) → post r S1) : q_Mq l yX5_beginningAt cX5_beginningAt 3 (.object "ChunkShelf$Piece") { frames := 1, cells := 0, slots := 0, locals := 23 } E [.ref c9, .int a] S (post) 0 0 := by
  refine q_ofW1 (by decide) (q_1c rfl (q_1c rfl q_1n)) (Nat.le_of_ble_eq_true rfl) (fun p e s m below meth c C hV hr hlk hnm ls hl => ?_)
  have hl : lv_has ls 3 [(0, va_rf (some c9)), (1, .int (a))] := hl
  obtain ⟨hL_c9, hK_c9, hn9, hch9, hpc9, hsz9, hle9, hpos9⟩ := id hln
  refine q_aload_n (r := some c9) C dX5_beginningAt_0 rfl (lv_at hl 0 rfl) ?_
  refine lv_iload_n C.1 C.2.1 dX5_beginningAt_1 rfl (lv_at hl 1 rfl) ?_
  refine q_cq hV (q_rV (b := c9) (As := [.int (a)]) (rest := []) C hV (c_Shelf_holding l E S c9 n9 P9 hln hn1 a) wd_244 wd_241 wd_243 wd_14 wd_39 ok_X5_holding ⟨rfl, rfl, Nat.le_of_ble_eq_true rfl, Nat.le_of_ble_eq_true rfl⟩ (q_rc4 hV hL_c9 hK_c9) rfl hl.1 rfl (q_sm q_1n (Nat.le_of_ble_eq_true rfl)) dX5_beginningAt_2 ⟨Nat.le_of_ble_eq_true rfl, Nat.le_of_ble_eq_true rfl⟩) (fun r2 S2 H locs hp2 hV => ?_)
  obtain ⟨eS2, hp2⟩ := hp2
  rw [eS2] at hV
  refine q_astore_n (r := r2) (lv' := [(2, va_rf (r2)), (0, va_rf (some c9)), (1, .int (a))]) C dX5_beginningAt_5 rfl hl (by decide) (q_k0 (q_kN 0 rfl (by decide) (by decide) (q_kC 1 rfl (by decide) rfl q_kz))) (fun ls hl => ?_)
  refine q_aload_n (r := r2) C dX5_beginningAt_6 rfl (lv_at hl 0 rfl) ?_
  refine q_ifnull (r := r2) (tgt := 22) C dX5_beginningAt_7 (by decide) (fun c7 => ?_) (fun x7 c7 => ?_)
  · subst c7
    refine lv_null C.1 C.2.1 dX5_beginningAt_22 ?_
    refine q_aret (r := none) C hV hr hlk (Nat.le_of_ble_eq_true rfl) (Nat.le_of_ble_eq_true rfl) dX5_beginningAt_23 ?_
    refine hpost _ _ ⟨rfl, Or.inl ⟨rfl, fun A x B h9 => ?_⟩⟩
    rcases hp2 with ⟨h8, -⟩ | ⟨A1, x1, B1, -, h8, -⟩
    · have h7 := hsz9
      rw [h9, q_sz_app] at h7
      simp only [q_sz] at h7
      have h6 := hpos9 x (by rw [h9]; simp)
      omega
    · exact nomatch h8
  · subst c7
    obtain ⟨A9, y, B9, hsp, hy, ha1, hb1, hb2⟩ : ∃ A x B, P9 = A ++ x :: B ∧ x.1 = x7 ∧ 1 ≤ a.toInt ∧ (1 + q_sz A : Int) ≤ a.toInt ∧ a.toInt < 1 + q_sz A + x.2.1 := by
      rcases hp2 with ⟨-, h8⟩ | ⟨A1, x1, B1, h9, h8, h7, h6, h5⟩
      · exact nomatch h8
      · exact ⟨A1, x1, B1, h9, (Option.some.inj h8).symm, h7, h6, h5⟩
    subst hy
    have hszA : q_sz A9 + (y.2.1 + q_sz B9) = n9 := by rw [← hsz9, hsp, q_sz_app]; rfl
    obtain ⟨hL_y, hK_y, hAt, hCe, hFr, -⟩ := q_pok_at (S := S) (A := A9) (B := B9) (x := y) (by rw [← hsp]; exact hpc9)
    refine q_aload_n (r := some y.1) C dX5_beginningAt_10 rfl (lv_at hl 0 rfl) ?_
    refine g_Piece_at C hV hL_y hK_y (Or.inr ⟨_, wd_137⟩) dX5_beginningAt_11 ?_
    refine q_ti (v' := nI (1 + q_sz A9)) (hAt) ?_
    refine lv_iload_n C.1 C.2.1 dX5_beginningAt_14 rfl (lv_at hl 2 rfl) ?_
    refine lv_icmp_ne (tgt := 22) C.1 C.2.1 dX5_beginningAt_15 (by decide) (fun c15 => ?_) (fun c15 => ?_)
    · refine lv_null C.1 C.2.1 dX5_beginningAt_22 ?_
      refine q_aret (r := none) C hV hr hlk (Nat.le_of_ble_eq_true rfl) (Nat.le_of_ble_eq_true rfl) dX5_beginningAt_23 ?_
      refine hpost _ _ ⟨rfl, Or.inl ⟨rfl, fun A x B h9 e9 => ?_⟩⟩
      have h6 := hpos9 x (by rw [h9]; simp)
      obtain ⟨e1, e2, e3⟩ := q_in_uniq (v := q_sz A) (hsp.symm.trans h9) (by omega) (by omega) (by omega) (by omega)
      subst e1
      exact c15 (q_i_eq.mpr (by rw [nI_toInt (by have := hszA; omega)]; omega))
    · refine q_aload_n (r := some y.1) C dX5_beginningAt_18 rfl (lv_at hl 0 rfl) ?_
      refine lv_goto (tgt := 23) C.1 C.2.1 dX5_beginningAt_19 (by decide) ?_
      refine q_aret (r := some y.1) C hV hr hlk (Nat.le_of_ble_eq_true rfl) (Nat.le_of_ble_eq_true rfl) dX5_beginningAt_23 ?_
      have h7 := q_i_eq.mp c15
      rw [nI_toInt (by have := hszA; omega)] at h7
      exact hpost _ _ ⟨rfl, Or.inr ⟨A9, y, B9, hsp, rfl, by omega⟩⟩
theorem c_Shelf_beginningAt (l : Launch) (E : qE) (S : qS) (c9 n9 : Nat) (P9 : List q_X) (hln : q_line S c9 n9 P9) (hn1 : 1 ≤ n9) (a : Int32) : q_Mq l yX5_beginningAt cX5_beginningAt 3 (.object "ChunkShelf$Piece") { frames := 1, cells := 0, slots := 0, locals := 23 } E [.ref c9, .int a] S (fun r S1 => S1 = S ∧ q_beg P9 a.toInt r) 0 0 := c0_Shelf_beginningAt l E S c9 n9 P9 hln hn1 a _ (fun _ _ h => h)

set_option maxHeartbeats 4000000 in
set_option maxRecDepth 100000 in
theorem c0_Shelf_piece (l : Launch) (E : qE) (S : qS) (c9 n9 : Nat) (P9 : List q_X) (hln : q_line S c9 n9 P9) (hn1 : 1 ≤ n9) (a : Int32) (post : Int32 → qS → Prop) (hpost : ∀ r S1, (S1 = S ∧ v_piece (q_vl P9) a.toInt r) → post r S1) : q_Mi l yX5_piece cX5_piece 3 .int { frames := 2, cells := 0, slots := 0, locals := 45 } E [.ref c9, .int a] S (post) 0 0 := by
  refine q_ofW1 (by decide) (q_1c rfl (q_1c rfl q_1n)) (Nat.le_of_ble_eq_true rfl) (fun p e s m below meth c C hV hr hlk hnm ls hl => ?_)
  have hl : lv_has ls 3 [(0, va_rf (some c9)), (1, .int (a))] := hl
  obtain ⟨hL_c9, hK_c9, hn9, hch9, hpc9, hsz9, hle9, hpos9⟩ := id hln
  refine q_aload_n (r := some c9) C dX5_piece_0 rfl (lv_at hl 0 rfl) ?_
  refine lv_iload_n C.1 C.2.1 dX5_piece_1 rfl (lv_at hl 1 rfl) ?_
  refine q_cq hV (q_rV (b := c9) (As := [.int (a)]) (rest := []) C hV (c_Shelf_beginningAt l E S c9 n9 P9 hln hn1 a) wd_240 wd_237 wd_239 wd_13 wd_39 ok_X5_beginningAt ⟨rfl, rfl, Nat.le_of_ble_eq_true rfl, Nat.le_of_ble_eq_true rfl⟩ (q_rc4 hV hL_c9 hK_c9) rfl hl.1 rfl (q_sm q_1n (Nat.le_of_ble_eq_true rfl)) dX5_piece_2 ⟨Nat.le_of_ble_eq_true rfl, Nat.le_of_ble_eq_true rfl⟩) (fun r2 S2 H locs hp2 hV => ?_)
  obtain ⟨eS2, hp2⟩ := hp2
  rw [eS2] at hV
  refine q_astore_n (r := r2) (lv' := [(2, va_rf (r2)), (0, va_rf (some c9)), (1, .int (a))]) C dX5_piece_5 rfl hl (by decide) (q_k0 (q_kN 0 rfl (by decide) (by decide) (q_kC 1 rfl (by decide) rfl q_kz))) (fun ls hl => ?_)
  refine q_aload_n (r := r2) C dX5_piece_6 rfl (lv_at hl 0 rfl) ?_
  refine q_ifnonnull (r := r2) (tgt := 12) C dX5_piece_7 (by decide) (fun x7 c7 => ?_) (fun c7 => ?_)
  · subst c7
    obtain ⟨A9, y, B9, hsp, hy, ha9⟩ : ∃ A x B, P9 = A ++ x :: B ∧ x.1 = x7 ∧ a.toInt = 1 + q_sz A := by
      rcases hp2 with ⟨h8, -⟩ | ⟨A1, x1, B1, h9, h8, h7⟩
      · exact nomatch h8
      · exact ⟨A1, x1, B1, h9, (Option.some.inj h8).symm, h7⟩
    subst hy
    obtain ⟨hL_y, hK_y, hAt, hCe, hFr, -⟩ := q_pok_at (S := S) (A := A9) (B := B9) (x := y) (by rw [← hsp]; exact hpc9)
    refine q_aload_n (r := some y.1) C dX5_piece_12 rfl (lv_at hl 0 rfl) ?_
    refine g_Piece_isFree C hV hL_y hK_y (Or.inr ⟨_, wd_142⟩) dX5_piece_13 ?_
    refine q_ti (v' := q_fl y.2.2.1) (hFr) ?_
    refine lv_if_eq (tgt := 27) C.1 C.2.1 dX5_piece_16 (by decide) (fun c16 => ?_) (fun c16 => ?_)
    · refine q_aload_n (r := some y.1) C dX5_piece_27 rfl (lv_at hl 0 rfl) ?_
      refine g_Piece_cells C hV hL_y hK_y (Or.inr ⟨_, wd_139⟩) dX5_piece_28 ?_
      refine q_ti (v' := nI y.2.1) (hCe) ?_
      refine q_iret (v := nI y.2.1) C hV hr hlk (Nat.le_of_ble_eq_true rfl) (Nat.le_of_ble_eq_true rfl) dX5_piece_31 ?_
      refine hpost _ _ ⟨rfl, Or.inr ⟨q_vl A9, y.2, q_vl B9, by rw [hsp, q_vl_app], by rw [v_sz_vl]; exact ha9, ?_⟩⟩
      rw [if_neg (by rw [q_fl0.mp c16]; decide)]
    · refine q_aload_n (r := some y.1) C dX5_piece_19 rfl (lv_at hl 0 rfl) ?_
      refine g_Piece_cells C hV hL_y hK_y (Or.inr ⟨_, wd_139⟩) dX5_piece_20 ?_
      refine q_ti (v' := nI y.2.1) (hCe) ?_
      refine lv_ineg C.1 C.2.1 dX5_piece_23 ?_
      refine lv_goto (tgt := 31) C.1 C.2.1 dX5_piece_24 (by decide) ?_
      refine q_iret (v := -(nI y.2.1)) C hV hr hlk (Nat.le_of_ble_eq_true rfl) (Nat.le_of_ble_eq_true rfl) dX5_piece_31 ?_
      refine hpost _ _ ⟨rfl, Or.inr ⟨q_vl A9, y.2, q_vl B9, by rw [hsp, q_vl_app], by rw [v_sz_vl]; exact ha9, ?_⟩⟩
      have hbt : y.2.2.1 = true := by cases hbb : y.2.2.1 with | true => rfl | false => exact absurd (show q_fl y.2.2.1 = 0 by rw [hbb]; rfl) c16
      rw [if_pos hbt]
  · subst c7
    refine lv_iconst (v := 0) C.1 C.2.1 dX5_piece_10 (by decide) ?_
    refine q_iret (v := 0) C hV hr hlk (Nat.le_of_ble_eq_true rfl) (Nat.le_of_ble_eq_true rfl) dX5_piece_11 ?_
    refine hpost _ _ ⟨rfl, Or.inl ⟨rfl, fun A x B h9 => ?_⟩⟩
    obtain ⟨A1, x1, B1, h8, h7, -, -⟩ := q_vl_split h9
    rcases hp2 with ⟨-, h6⟩ | ⟨A2, x2, B2, -, h6, -⟩
    · rw [← h7, v_sz_vl]; exact h6 A1 x1 B1 h8
    · exact nomatch h6
theorem c_Shelf_piece (l : Launch) (E : qE) (S : qS) (c9 n9 : Nat) (P9 : List q_X) (hln : q_line S c9 n9 P9) (hn1 : 1 ≤ n9) (a : Int32) : q_Mi l yX5_piece cX5_piece 3 .int { frames := 2, cells := 0, slots := 0, locals := 45 } E [.ref c9, .int a] S (fun r S1 => S1 = S ∧ v_piece (q_vl P9) a.toInt r) 0 0 := c0_Shelf_piece l E S c9 n9 P9 hln hn1 a _ (fun _ _ h => h)

set_option maxHeartbeats 4000000 in
set_option maxRecDepth 100000 in
theorem c0_Shelf_cover (l : Launch) (E : qE) (S : qS) (c9 n9 : Nat) (P9 : List q_X) (hln : q_line S c9 n9 P9) (hn1 : 1 ≤ n9) (a : Int32) (post : Int32 → qS → Prop) (hpost : ∀ r S1, (S1 = S ∧ v_cover (q_vl P9) a.toInt r) → post r S1) : q_Mi l yX5_cover cX5_cover 3 .int { frames := 1, cells := 0, slots := 0, locals := 23 } E [.ref c9, .int a] S (post) 0 0 := by
  refine q_ofW1 (by decide) (q_1c rfl (q_1c rfl q_1n)) (Nat.le_of_ble_eq_true rfl) (fun p e s m below meth c C hV hr hlk hnm ls hl => ?_)
  have hl : lv_has ls 3 [(0, va_rf (some c9)), (1, .int (a))] := hl
  obtain ⟨hL_c9, hK_c9, hn9, hch9, hpc9, hsz9, hle9, hpos9⟩ := id hln
  refine q_aload_n (r := some c9) C dX5_cover_0 rfl (lv_at hl 0 rfl) ?_
  refine lv_iload_n C.1 C.2.1 dX5_cover_1 rfl (lv_at hl 1 rfl) ?_
  refine q_cq hV (q_rV (b := c9) (As := [.int (a)]) (rest := []) C hV (c_Shelf_holding l E S c9 n9 P9 hln hn1 a) wd_244 wd_241 wd_243 wd_14 wd_39 ok_X5_holding ⟨rfl, rfl, Nat.le_of_ble_eq_true rfl, Nat.le_of_ble_eq_true rfl⟩ (q_rc4 hV hL_c9 hK_c9) rfl hl.1 rfl (q_sm q_1n (Nat.le_of_ble_eq_true rfl)) dX5_cover_2 ⟨Nat.le_of_ble_eq_true rfl, Nat.le_of_ble_eq_true rfl⟩) (fun r2 S2 H locs hp2 hV => ?_)
  obtain ⟨eS2, hp2⟩ := hp2
  rw [eS2] at hV
  refine q_astore_n (r := r2) (lv' := [(2, va_rf (r2)), (0, va_rf (some c9)), (1, .int (a))]) C dX5_cover_5 rfl hl (by decide) (q_k0 (q_kN 0 rfl (by decide) (by decide) (q_kC 1 rfl (by decide) rfl q_kz))) (fun ls hl => ?_)
  refine q_aload_n (r := r2) C dX5_cover_6 rfl (lv_at hl 0 rfl) ?_
  refine q_ifnonnull (r := r2) (tgt := 14) C dX5_cover_7 (by decide) (fun x7 c7 => ?_) (fun c7 => ?_)
  · subst c7
    obtain ⟨A9, y, B9, hsp, hy, hb1, hb2⟩ : ∃ A x B, P9 = A ++ x :: B ∧ x.1 = x7 ∧ (1 + q_sz A : Int) ≤ a.toInt ∧ a.toInt < 1 + q_sz A + x.2.1 := by
      rcases hp2 with ⟨-, h8⟩ | ⟨A1, x1, B1, h9, h8, h7, h6, h5⟩
      · exact nomatch h8
      · exact ⟨A1, x1, B1, h9, (Option.some.inj h8).symm, h6, h5⟩
    subst hy
    obtain ⟨hL_y, hK_y, hAt, hCe, hFr, -⟩ := q_pok_at (S := S) (A := A9) (B := B9) (x := y) (by rw [← hsp]; exact hpc9)
    refine q_aload_n (r := some y.1) C dX5_cover_14 rfl (lv_at hl 0 rfl) ?_
    refine g_Piece_at C hV hL_y hK_y (Or.inr ⟨_, wd_137⟩) dX5_cover_15 ?_
    refine q_ti (v' := nI (1 + q_sz A9)) (hAt) ?_
    refine q_iret (v := nI (1 + q_sz A9)) C hV hr hlk (Nat.le_of_ble_eq_true rfl) (Nat.le_of_ble_eq_true rfl) dX5_cover_18 ?_
    exact hpost _ _ ⟨rfl, Or.inr ⟨q_vl A9, y.2, q_vl B9, by rw [hsp, q_vl_app], by rw [v_sz_vl]; exact hb1, by rw [v_sz_vl]; exact hb2, by rw [v_sz_vl]⟩⟩
  · subst c7
    refine lv_iconst (v := 0) C.1 C.2.1 dX5_cover_10 (by decide) ?_
    refine lv_goto (tgt := 18) C.1 C.2.1 dX5_cover_11 (by decide) ?_
    refine q_iret (v := 0) C hV hr hlk (Nat.le_of_ble_eq_true rfl) (Nat.le_of_ble_eq_true rfl) dX5_cover_18 ?_
    rcases hp2 with ⟨h8, -⟩ | ⟨A1, x1, B1, -, h8, -⟩
    · exact hpost _ _ ⟨rfl, Or.inl ⟨rfl, by rw [v_sz_vl, hsz9]; exact h8⟩⟩
    · exact nomatch h8
theorem c_Shelf_cover (l : Launch) (E : qE) (S : qS) (c9 n9 : Nat) (P9 : List q_X) (hln : q_line S c9 n9 P9) (hn1 : 1 ≤ n9) (a : Int32) : q_Mi l yX5_cover cX5_cover 3 .int { frames := 1, cells := 0, slots := 0, locals := 23 } E [.ref c9, .int a] S (fun r S1 => S1 = S ∧ v_cover (q_vl P9) a.toInt r) 0 0 := c0_Shelf_cover l E S c9 n9 P9 hln hn1 a _ (fun _ _ h => h)

