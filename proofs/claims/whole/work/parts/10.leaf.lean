/-- a row hung below par, to the side of n; at the root where par is none -/
def q_hang (S : qS) (q : Nat) (par : Option Nat) (n : Int32) (o : Option Nat) : qS := match par with
  | none => S.sR 7 q o
  | some a => if n < S.I 4 a then S.sR 3 a o else S.sR 4 a o
set_option maxHeartbeats 4000000 in
set_option maxRecDepth 100000 in
theorem c_Piece_init (l : Launch) (E : qE) (S : qS) (q : Nat) (a n : Int32) (b : Option Nat) (hL_q : q ∈ S.L) (hK_q : S.K q = 0) : q_Mv l yX0_init cX0_init 4 { frames := 1, cells := 0, slots := 0, locals := 12 } E [.ref q, .int a, .int n, va_rf b] S (fun S1 => S1 = ((S.sI 0 q a).sI 1 q n).sR 0 q b) 0 0 := by
  refine q_ofW1 (by decide) (q_1c rfl (q_1c rfl (q_1c rfl (q_1c (q_cat _) q_1n)))) (Nat.le_of_ble_eq_true rfl) (fun p e s m below meth c C hV hr hlk hnm ls hl => ?_)
  have hl : lv_has ls 4 [(0, va_rf (some q)), (1, .int (a)), (2, .int (n)), (3, va_rf (b))] := hl
  refine q_aload_n (r := some q) C dX0_init_0 rfl (lv_at hl 0 rfl) ?_
  refine q_objInit C wd_135 wd_58 wd_59 hl.1 dX0_init_1 (Nat.le_of_ble_eq_true rfl) (Nat.le_of_ble_eq_true rfl) ?_
  refine q_aload_n (r := some q) C dX0_init_4 rfl (lv_at hl 0 rfl) ?_
  refine lv_iload_n C.1 C.2.1 dX0_init_5 rfl (lv_at hl 1 rfl) ?_
  refine p_Piece_at (v := a) C hV hnm hL_q hK_q (wd_136) rfl dX0_init_6 (fun H locs hV => ?_)
  refine q_aload_n (r := some q) C dX0_init_9 rfl (lv_at hl 0 rfl) ?_
  refine lv_iload_n C.1 C.2.1 dX0_init_10 rfl (lv_at hl 2 rfl) ?_
  refine p_Piece_cells (v := n) C hV hL_q hK_q (Or.inl wd_138) dX0_init_11 (fun H locs hV => ?_)
  refine q_aload_n (r := some q) C dX0_init_14 rfl (lv_at hl 0 rfl) ?_
  refine q_aload_n (r := b) C dX0_init_15 rfl (lv_at hl 3 rfl) ?_
  refine p_Piece_behind (v := b) C hV hL_q hK_q (Or.inl wd_145) dX0_init_16 (fun H locs hV => ?_)
  refine q_vret C hV hr hlk (Nat.le_of_ble_eq_true rfl) (Nat.le_of_ble_eq_true rfl) dX0_init_19 ?_
  rfl
set_option maxHeartbeats 4000000 in
set_option maxRecDepth 100000 in
theorem c_Piece_isShelved (l : Launch) (E : qE) (S : qS) (q : Nat) (hL_q : q ∈ S.L) (hK_q : S.K q = 0) : q_Mi l yX0_isShelved cX0_isShelved 1 .boolean { frames := 0, cells := 0, slots := 0, locals := 0 } E [.ref q] S (fun r S1 => S1 = S ∧ r = if ¬ S.I 2 q = 0 ∧ 3 ≤ S.I 1 q then 1 else 0) 0 0 := by
  refine q_ofW1 (by decide) (q_1c rfl q_1n) (Nat.le_of_ble_eq_true rfl) (fun p e s m below meth c C hV hr hlk hnm ls hl => ?_)
  have hl : lv_has ls 1 [(0, va_rf (some q))] := hl
  refine q_aload_n (r := some q) C dX0_isShelved_0 rfl (lv_at hl 0 rfl) ?_
  refine g_Piece_isFree C hV hL_q hK_q (Or.inl wd_141) dX0_isShelved_1 ?_
  refine lv_if_eq (tgt := 19) C.1 C.2.1 dX0_isShelved_4 (by decide) (fun c4 => ?_) (fun c4 => ?_)
  · refine lv_iconst (v := 0) C.1 C.2.1 dX0_isShelved_19 (by decide) ?_
    refine q_zret (v := 0) C hV hr hlk (by decide) (Nat.le_of_ble_eq_true rfl) (Nat.le_of_ble_eq_true rfl) dX0_isShelved_20 ?_
    exact ⟨rfl, by simp_all⟩
  · refine q_aload_n (r := some q) C dX0_isShelved_7 rfl (lv_at hl 0 rfl) ?_
    refine g_Piece_cells C hV hL_q hK_q (Or.inl wd_138) dX0_isShelved_8 ?_
    refine lv_iconst (v := 3) C.1 C.2.1 dX0_isShelved_11 (by decide) ?_
    refine lv_icmp_lt (tgt := 19) C.1 C.2.1 dX0_isShelved_12 (by decide) (fun c12 => ?_) (fun c12 => ?_)
    · refine lv_iconst (v := 0) C.1 C.2.1 dX0_isShelved_19 (by decide) ?_
      refine q_zret (v := 0) C hV hr hlk (by decide) (Nat.le_of_ble_eq_true rfl) (Nat.le_of_ble_eq_true rfl) dX0_isShelved_20 ?_
      exact ⟨rfl, by simp_all⟩
    · refine lv_iconst (v := 1) C.1 C.2.1 dX0_isShelved_15 (by decide) ?_
      refine lv_goto (tgt := 20) C.1 C.2.1 dX0_isShelved_16 (by decide) ?_
      refine q_zret (v := 1) C hV hr hlk (by decide) (Nat.le_of_ble_eq_true rfl) (Nat.le_of_ble_eq_true rfl) dX0_isShelved_20 ?_
      exact ⟨rfl, by simp_all⟩
set_option maxHeartbeats 4000000 in
set_option maxRecDepth 100000 in
theorem c_Piece_isCrumb (l : Launch) (E : qE) (S : qS) (q : Nat) (hL_q : q ∈ S.L) (hK_q : S.K q = 0) : q_Mi l yX0_isCrumb cX0_isCrumb 1 .boolean { frames := 0, cells := 0, slots := 0, locals := 0 } E [.ref q] S (fun r S1 => S1 = S ∧ r = if ¬ S.I 2 q = 0 ∧ S.I 1 q < 3 then 1 else 0) 0 0 := by
  refine q_ofW1 (by decide) (q_1c rfl q_1n) (Nat.le_of_ble_eq_true rfl) (fun p e s m below meth c C hV hr hlk hnm ls hl => ?_)
  have hl : lv_has ls 1 [(0, va_rf (some q))] := hl
  refine q_aload_n (r := some q) C dX0_isCrumb_0 rfl (lv_at hl 0 rfl) ?_
  refine g_Piece_isFree C hV hL_q hK_q (Or.inl wd_141) dX0_isCrumb_1 ?_
  refine lv_if_eq (tgt := 19) C.1 C.2.1 dX0_isCrumb_4 (by decide) (fun c4 => ?_) (fun c4 => ?_)
  · refine lv_iconst (v := 0) C.1 C.2.1 dX0_isCrumb_19 (by decide) ?_
    refine q_zret (v := 0) C hV hr hlk (by decide) (Nat.le_of_ble_eq_true rfl) (Nat.le_of_ble_eq_true rfl) dX0_isCrumb_20 ?_
    exact ⟨rfl, by simp_all⟩
  · refine q_aload_n (r := some q) C dX0_isCrumb_7 rfl (lv_at hl 0 rfl) ?_
    refine g_Piece_cells C hV hL_q hK_q (Or.inl wd_138) dX0_isCrumb_8 ?_
    refine lv_iconst (v := 3) C.1 C.2.1 dX0_isCrumb_11 (by decide) ?_
    refine lv_icmp_ge (tgt := 19) C.1 C.2.1 dX0_isCrumb_12 (by decide) (fun c12 => ?_) (fun c12 => ?_)
    · refine lv_iconst (v := 0) C.1 C.2.1 dX0_isCrumb_19 (by decide) ?_
      refine q_zret (v := 0) C hV hr hlk (by decide) (Nat.le_of_ble_eq_true rfl) (Nat.le_of_ble_eq_true rfl) dX0_isCrumb_20 ?_
      exact ⟨rfl, by simp_all⟩
    · refine lv_iconst (v := 1) C.1 C.2.1 dX0_isCrumb_15 (by decide) ?_
      refine lv_goto (tgt := 20) C.1 C.2.1 dX0_isCrumb_16 (by decide) ?_
      refine q_zret (v := 1) C hV hr hlk (by decide) (Nat.le_of_ble_eq_true rfl) (Nat.le_of_ble_eq_true rfl) dX0_isCrumb_20 ?_
      exact ⟨rfl, by simp_all⟩
set_option maxHeartbeats 4000000 in
set_option maxRecDepth 100000 in
theorem c_Row_init (l : Launch) (E : qE) (S : qS) (q : Nat) (n : Int32) (hL_q : q ∈ S.L) (hK_q : S.K q = 1) : q_Mv l yX1_init cX1_init 2 { frames := 1, cells := 0, slots := 0, locals := 12 } E [.ref q, .int n] S (fun S1 => S1 = S.sI 4 q n) 0 0 := by
  refine q_ofW1 (by decide) (q_1c rfl (q_1c rfl q_1n)) (Nat.le_of_ble_eq_true rfl) (fun p e s m below meth c C hV hr hlk hnm ls hl => ?_)
  have hl : lv_has ls 2 [(0, va_rf (some q)), (1, .int (n))] := hl
  refine q_aload_n (r := some q) C dX1_init_0 rfl (lv_at hl 0 rfl) ?_
  refine q_objInit C wd_72 wd_58 wd_59 hl.1 dX1_init_1 (Nat.le_of_ble_eq_true rfl) (Nat.le_of_ble_eq_true rfl) ?_
  refine q_aload_n (r := some q) C dX1_init_4 rfl (lv_at hl 0 rfl) ?_
  refine lv_iload_n C.1 C.2.1 dX1_init_5 rfl (lv_at hl 1 rfl) ?_
  refine p_Row_cells (v := n) C hV hnm hL_q hK_q (wd_73) rfl dX1_init_6 (fun H locs hV => ?_)
  refine q_vret C hV hr hlk (Nat.le_of_ble_eq_true rfl) (Nat.le_of_ble_eq_true rfl) dX1_init_9 ?_
  rfl
set_option maxHeartbeats 4000000 in
set_option maxRecDepth 100000 in
theorem c_Row_push (l : Launch) (E : qE) (S : qS) (q x : Nat) (hL_q : q ∈ S.L) (hK_q : S.K q = 1) (hL_x : x ∈ S.L) (hK_x : S.K x = 0) : q_Mv l yX1_push cX1_push 2 { frames := 0, cells := 0, slots := 0, locals := 0 } E [.ref q, .ref x] S (fun S1 => S1 = (S.sR 1 x (S.R 2 q)).sR 2 q (some x)) 0 0 := by
  refine q_ofW1 (by decide) (q_1c rfl (q_1c rfl q_1n)) (Nat.le_of_ble_eq_true rfl) (fun p e s m below meth c C hV hr hlk hnm ls hl => ?_)
  have hl : lv_has ls 2 [(0, va_rf (some q)), (1, va_rf (some x))] := hl
  refine q_aload_n (r := some x) C dX1_push_0 rfl (lv_at hl 1 rfl) ?_
  refine q_aload_n (r := some q) C dX1_push_1 rfl (lv_at hl 0 rfl) ?_
  refine g_Row_latest C hV hL_q hK_q (Or.inl wd_77) dX1_push_2 ?_
  refine q_tr (v' := S.R 2 q) (rfl) ?_
  refine p_Piece_older (v := S.R 2 q) C hV hL_x hK_x (Or.inr ⟨_, wd_147⟩) dX1_push_5 (fun H locs hV => ?_)
  refine q_aload_n (r := some q) C dX1_push_8 rfl (lv_at hl 0 rfl) ?_
  refine q_aload_n (r := some x) C dX1_push_9 rfl (lv_at hl 1 rfl) ?_
  refine p_Row_latest (v := some x) C hV hL_q hK_q (Or.inl wd_77) dX1_push_10 (fun H locs hV => ?_)
  refine q_vret C hV hr hlk (Nat.le_of_ble_eq_true rfl) (Nat.le_of_ble_eq_true rfl) dX1_push_13 ?_
  rfl
set_option maxHeartbeats 4000000 in
set_option maxRecDepth 100000 in
theorem c_Tree_init (l : Launch) (E : qE) (S : qS) (q : Nat) (hL_q : q ∈ S.L) (hK_q : S.K q = 3) : q_Mv l yX3_init cX3_init 1 { frames := 1, cells := 0, slots := 0, locals := 12 } E [.ref q] S (fun S1 => S1 = S) 0 0 := by
  refine q_ofW1 (by decide) (q_1c rfl q_1n) (Nat.le_of_ble_eq_true rfl) (fun p e s m below meth c C hV hr hlk hnm ls hl => ?_)
  have hl : lv_has ls 1 [(0, va_rf (some q))] := hl
  refine q_aload_n (r := some q) C dX3_init_0 rfl (lv_at hl 0 rfl) ?_
  refine q_objInit C wd_106 wd_58 wd_59 hl.1 dX3_init_1 (Nat.le_of_ble_eq_true rfl) (Nat.le_of_ble_eq_true rfl) ?_
  refine q_vret C hV hr hlk (Nat.le_of_ble_eq_true rfl) (Nat.le_of_ble_eq_true rfl) dX3_init_4 ?_
  rfl
set_option maxHeartbeats 4000000 in
set_option maxRecDepth 100000 in
theorem c_Tree_hang (l : Launch) (E : qE) (S : qS) (q : Nat) (par : Option Nat) (n : Int32) (row : Option Nat) (hL_q : q ∈ S.L) (hK_q : S.K q = 3) (hp : ∀ a, par = some a → a ∈ S.L ∧ S.K a = 1) : q_Mv l yX3_hang cX3_hang 4 { frames := 0, cells := 0, slots := 0, locals := 0 } E [.ref q, va_rf par, .int n, va_rf row] S (fun S1 => S1 = q_hang S q par n row) 0 0 := by
  refine q_ofW1 (by decide) (q_1c rfl (q_1c (q_cat _) (q_1c rfl (q_1c (q_cat _) q_1n)))) (Nat.le_of_ble_eq_true rfl) (fun p e s m below meth c C hV hr hlk hnm ls hl => ?_)
  have hl : lv_has ls 4 [(0, va_rf (some q)), (1, va_rf (par)), (2, .int (n)), (3, va_rf (row))] := hl
  refine q_aload_n (r := par) C dX3_hang_0 rfl (lv_at hl 1 rfl) ?_
  refine q_ifnonnull (r := par) (tgt := 12) C dX3_hang_1 (by decide) (fun x1 c1 => ?_) (fun c1 => ?_)
  · subst c1
    obtain ⟨hL_x1, hK_x1⟩ := hp x1 rfl
    refine lv_iload_n C.1 C.2.1 dX3_hang_12 rfl (lv_at hl 2 rfl) ?_
    refine q_aload_n (r := some x1) C dX3_hang_13 rfl (lv_at hl 1 rfl) ?_
    refine g_Row_cells C hV hL_x1 hK_x1 (Or.inr ⟨_, wd_75⟩) dX3_hang_14 ?_
    refine lv_icmp_ge (tgt := 28) C.1 C.2.1 dX3_hang_17 (by decide) (fun c17 => ?_) (fun c17 => ?_)
    · refine q_aload_n (r := some x1) C dX3_hang_28 rfl (lv_at hl 1 rfl) ?_
      refine q_aload_n (r := row) C dX3_hang_29 rfl (lv_at hl 3 rfl) ?_
      refine p_Row_more (v := row) C hV hL_x1 hK_x1 (Or.inr ⟨_, wd_81⟩) dX3_hang_30 (fun H locs hV => ?_)
      refine q_vret C hV hr hlk (Nat.le_of_ble_eq_true rfl) (Nat.le_of_ble_eq_true rfl) dX3_hang_33 ?_
      first | rfl | exact (if_neg (Int32.not_lt.mpr c17) : (if n < S.I 4 x1 then S.sR 3 x1 row else S.sR 4 x1 row) = _).symm | exact (if_pos (Int32.not_le.mp c17) : (if n < S.I 4 x1 then S.sR 3 x1 row else S.sR 4 x1 row) = _).symm
    · refine q_aload_n (r := some x1) C dX3_hang_20 rfl (lv_at hl 1 rfl) ?_
      refine q_aload_n (r := row) C dX3_hang_21 rfl (lv_at hl 3 rfl) ?_
      refine p_Row_less (v := row) C hV hL_x1 hK_x1 (Or.inr ⟨_, wd_79⟩) dX3_hang_22 (fun H locs hV => ?_)
      refine lv_goto (tgt := 33) C.1 C.2.1 dX3_hang_25 (by decide) ?_
      refine q_vret C hV hr hlk (Nat.le_of_ble_eq_true rfl) (Nat.le_of_ble_eq_true rfl) dX3_hang_33 ?_
      first | rfl | exact (if_neg (Int32.not_lt.mpr c17) : (if n < S.I 4 x1 then S.sR 3 x1 row else S.sR 4 x1 row) = _).symm | exact (if_pos (Int32.not_le.mp c17) : (if n < S.I 4 x1 then S.sR 3 x1 row else S.sR 4 x1 row) = _).symm
  · subst c1
    refine q_aload_n (r := some q) C dX3_hang_4 rfl (lv_at hl 0 rfl) ?_
    refine q_aload_n (r := row) C dX3_hang_5 rfl (lv_at hl 3 rfl) ?_
    refine p_Tree_root (v := row) C hV hL_q hK_q (Or.inl wd_107) dX3_hang_6 (fun H locs hV => ?_)
    refine lv_goto (tgt := 33) C.1 C.2.1 dX3_hang_9 (by decide) ?_
    refine q_vret C hV hr hlk (Nat.le_of_ble_eq_true rfl) (Nat.le_of_ble_eq_true rfl) dX3_hang_33 ?_
    first | rfl | exact (if_neg (Int32.not_lt.mpr c17) : (if n < S.I 4 x1 then S.sR 3 x1 row else S.sR 4 x1 row) = _).symm | exact (if_pos (Int32.not_le.mp c17) : (if n < S.I 4 x1 then S.sR 3 x1 row else S.sR 4 x1 row) = _).symm
