set_option maxHeartbeats 4000000 in
set_option maxRecDepth 100000 in
theorem c0_Model_thrown (l : Launch) (E : qE) (S : qS) (m9 : Nat) (hL_m9 : m9 ∈ S.L) (hK_m9 : S.K m9 = 5) (post : Int32 → qS → Prop) (hpost : ∀ r S1, (S1 = S ∧ r = S.I 7 m9) → post r S1) : q_Mi l yX6_thrown cX6_thrown 1 .int { frames := 0, cells := 0, slots := 0, locals := 0 } E [.ref m9] S (post) 0 0 := by
  refine q_ofW1 (by decide) (q_1c rfl q_1n) (Nat.le_of_ble_eq_true rfl) (fun p e s m below meth c C hV hr hlk hnm ls hl => ?_)
  have hl : lv_has ls 1 [(0, va_rf (some m9))] := hl
  refine q_aload_n (r := some m9) C dX6_thrown_0 rfl (lv_at hl 0 rfl) ?_
  refine g_Model_thrown C hV hL_m9 hK_m9 (Or.inl wd_485) dX6_thrown_1 ?_
  refine q_iret (v := S.I 7 m9) C hV hr hlk (Nat.le_of_ble_eq_true rfl) (Nat.le_of_ble_eq_true rfl) dX6_thrown_4 ?_
  exact hpost _ _ ⟨rfl, rfl⟩
theorem c_Model_thrown (l : Launch) (E : qE) (S : qS) (m9 : Nat) (hL_m9 : m9 ∈ S.L) (hK_m9 : S.K m9 = 5) : q_Mi l yX6_thrown cX6_thrown 1 .int { frames := 0, cells := 0, slots := 0, locals := 0 } E [.ref m9] S (fun r S1 => S1 = S ∧ r = S.I 7 m9) 0 0 := c0_Model_thrown l E S m9 hL_m9 hK_m9 _ (fun _ _ h => h)

def v_th (b : Int32) : Int32 := if b = 0 then 1 else 0
set_option maxHeartbeats 4000000 in
set_option maxRecDepth 100000 in
theorem c0_Model_goes (l : Launch) (E : qE) (S : qS) (m9 : Nat) (hL_m9 : m9 ∈ S.L) (hK_m9 : S.K m9 = 5) (b : Int32) (hb : b = 0 ∨ b = 1) (post : Int32 → qS → Prop) (hpost : ∀ r S1, (r = b ∧ S1 = S.sI 7 m9 (v_th b)) → post r S1) : q_Mi l yX6_goes cX6_goes 2 .boolean { frames := 0, cells := 0, slots := 0, locals := 0 } E [.ref m9, .int b] S (post) 0 0 := by
  refine q_ofW1 (by decide) (q_1c rfl (q_1c rfl q_1n)) (Nat.le_of_ble_eq_true rfl) (fun p e s m below meth c C hV hr hlk hnm ls hl => ?_)
  have hl : lv_has ls 2 [(0, va_rf (some m9)), (1, .int (b))] := hl
  refine q_aload_n (r := some m9) C dX6_goes_0 rfl (lv_at hl 0 rfl) ?_
  refine lv_iload_n C.1 C.2.1 dX6_goes_1 rfl (lv_at hl 1 rfl) ?_
  refine lv_if_eq (tgt := 9) C.1 C.2.1 dX6_goes_2 (by decide) (fun c2 => ?_) (fun c2 => ?_)
  · refine lv_iconst (v := 1) C.1 C.2.1 dX6_goes_9 (by decide) ?_
    refine p_Model_thrown (v := 1) C hV hL_m9 hK_m9 (Or.inl wd_485) dX6_goes_10 (fun H locs hV => ?_)
    refine lv_iload_n C.1 C.2.1 dX6_goes_13 rfl (lv_at hl 1 rfl) ?_
    refine q_zret (v := b) C hV hr hlk hb (Nat.le_of_ble_eq_true rfl) (Nat.le_of_ble_eq_true rfl) dX6_goes_14 ?_
    refine hpost _ _ ⟨rfl, ?_⟩
    rw [v_th]
    first | rw [if_pos c2] | rw [if_neg c2]
  · refine lv_iconst (v := 0) C.1 C.2.1 dX6_goes_5 (by decide) ?_
    refine lv_goto (tgt := 10) C.1 C.2.1 dX6_goes_6 (by decide) ?_
    refine p_Model_thrown (v := 0) C hV hL_m9 hK_m9 (Or.inl wd_485) dX6_goes_10 (fun H locs hV => ?_)
    refine lv_iload_n C.1 C.2.1 dX6_goes_13 rfl (lv_at hl 1 rfl) ?_
    refine q_zret (v := b) C hV hr hlk hb (Nat.le_of_ble_eq_true rfl) (Nat.le_of_ble_eq_true rfl) dX6_goes_14 ?_
    refine hpost _ _ ⟨rfl, ?_⟩
    rw [v_th]
    first | rw [if_pos c2] | rw [if_neg c2]
theorem c_Model_goes (l : Launch) (E : qE) (S : qS) (m9 : Nat) (hL_m9 : m9 ∈ S.L) (hK_m9 : S.K m9 = 5) (b : Int32) (hb : b = 0 ∨ b = 1) : q_Mi l yX6_goes cX6_goes 2 .boolean { frames := 0, cells := 0, slots := 0, locals := 0 } E [.ref m9, .int b] S (fun r S1 => r = b ∧ S1 = S.sI 7 m9 (v_th b)) 0 0 := c0_Model_goes l E S m9 hL_m9 hK_m9 b hb _ (fun _ _ h => h)

set_option maxHeartbeats 4000000 in
set_option maxRecDepth 100000 in
theorem c0_Model_length (l : Launch) (E : qE) (S : qS) (m9 sz9 ti9 n9 : Nat) (hM : q_Mb S m9 sz9 ti9 n9) (j9 : Nat) (hj9 : j9 < 16385) (post : Int32 → qS → Prop) (hpost : ∀ r S1, (S1 = S ∧ r = v_ln (S.A sz9 j9)) → post r S1) : q_Mi l yX6_length cX6_length 2 .int { frames := 0, cells := 0, slots := 0, locals := 0 } E [.ref m9, .int (nI j9)] S (post) 0 0 := by
  refine q_ofW1 (by decide) (q_1c rfl (q_1c rfl q_1n)) (Nat.le_of_ble_eq_true rfl) (fun p e s m below meth c C hV hr hlk hnm ls hl => ?_)
  have hl : lv_has ls 2 [(0, va_rf (some m9)), (1, .int (nI j9))] := hl
  obtain ⟨⟨hL_m9, hK_m9, hR10, hR11⟩, ⟨hL_sz9, hK_sz9, hNs⟩, ⟨hL_ti9, hK_ti9, hNt⟩, hst9, hI8⟩ := hM
  have hN_sz9 : S.N sz9 < 2 ^ 31 := by rw [hNs]; decide
  have hN_ti9 : S.N ti9 < 2 ^ 31 := by rw [hNt]; decide
  refine q_aload_n (r := some m9) C dX6_length_0 rfl (lv_at hl 0 rfl) ?_
  refine g_Model_sizes C hV hL_m9 hK_m9 (Or.inl wd_487) dX6_length_1 ?_
  refine q_tr (v' := some sz9) (hR10) ?_
  refine lv_iload_n C.1 C.2.1 dX6_length_4 rfl (lv_at hl 1 rfl) ?_
  refine q_iald (j := j9) C hV hL_sz9 hK_sz9 (rfl) (show j9 < S.N sz9 by rw [hNs]; exact hj9) (hN_sz9) dX6_length_5 ?_
  refine lv_if_ge (tgt := 20) C.1 C.2.1 dX6_length_6 (by decide) (fun c6 => ?_) (fun c6 => ?_)
  · refine q_aload_n (r := some m9) C dX6_length_20 rfl (lv_at hl 0 rfl) ?_
    refine g_Model_sizes C hV hL_m9 hK_m9 (Or.inl wd_487) dX6_length_21 ?_
    refine q_tr (v' := some sz9) (hR10) ?_
    refine lv_iload_n C.1 C.2.1 dX6_length_24 rfl (lv_at hl 1 rfl) ?_
    refine q_iald (j := j9) C hV hL_sz9 hK_sz9 (rfl) (show j9 < S.N sz9 by rw [hNs]; exact hj9) (hN_sz9) dX6_length_25 ?_
    refine q_iret (v := S.A sz9 j9) C hV hr hlk (Nat.le_of_ble_eq_true rfl) (Nat.le_of_ble_eq_true rfl) dX6_length_26 ?_
    refine hpost _ _ ⟨rfl, ?_⟩
    rw [v_ln]
    first | rw [if_pos c6] | rw [if_neg c6]
  · refine lv_iconst (v := 0) C.1 C.2.1 dX6_length_9 (by decide) ?_
    refine q_aload_n (r := some m9) C dX6_length_10 rfl (lv_at hl 0 rfl) ?_
    refine g_Model_sizes C hV hL_m9 hK_m9 (Or.inl wd_487) dX6_length_11 ?_
    refine q_tr (v' := some sz9) (hR10) ?_
    refine lv_iload_n C.1 C.2.1 dX6_length_14 rfl (lv_at hl 1 rfl) ?_
    refine q_iald (j := j9) C hV hL_sz9 hK_sz9 (rfl) (show j9 < S.N sz9 by rw [hNs]; exact hj9) (hN_sz9) dX6_length_15 ?_
    refine lv_isub C.1 C.2.1 dX6_length_16 ?_
    refine lv_goto (tgt := 26) C.1 C.2.1 dX6_length_17 (by decide) ?_
    refine q_iret (v := 0 - (S.A sz9 j9)) C hV hr hlk (Nat.le_of_ble_eq_true rfl) (Nat.le_of_ble_eq_true rfl) dX6_length_26 ?_
    refine hpost _ _ ⟨rfl, ?_⟩
    rw [v_ln]
    first | rw [if_pos c6] | rw [if_neg c6]
theorem c_Model_length (l : Launch) (E : qE) (S : qS) (m9 sz9 ti9 n9 : Nat) (hM : q_Mb S m9 sz9 ti9 n9) (j9 : Nat) (hj9 : j9 < 16385) : q_Mi l yX6_length cX6_length 2 .int { frames := 0, cells := 0, slots := 0, locals := 0 } E [.ref m9, .int (nI j9)] S (fun r S1 => S1 = S ∧ r = v_ln (S.A sz9 j9)) 0 0 := c0_Model_length l E S m9 sz9 ti9 n9 hM j9 hj9 _ (fun _ _ h => h)

set_option maxHeartbeats 4000000 in
set_option maxRecDepth 100000 in
theorem c0_Model_release (l : Launch) (E : qE) (S : qS) (m9 sz9 ti9 n9 : Nat) (hM : q_Mb S m9 sz9 ti9 n9) (j9 : Nat) (x9 : Int32) (hj9 : j9 < 16385) (post : qS → Prop) (hpost : ∀ S1, (S1 = ((S.sI 9 m9 (S.I 9 m9 + 1)).sA sz9 j9 (0 - x9)).sA ti9 j9 (S.I 9 m9 + 1)) → post S1) : q_Mv l yX6_release cX6_release 3 { frames := 0, cells := 0, slots := 0, locals := 0 } E [.ref m9, .int (nI j9), .int x9] S (post) 0 0 := by
  refine q_ofW1 (by decide) (q_1c rfl (q_1c rfl (q_1c rfl q_1n))) (Nat.le_of_ble_eq_true rfl) (fun p e s m below meth c C hV hr hlk hnm ls hl => ?_)
  have hl : lv_has ls 3 [(0, va_rf (some m9)), (1, .int (nI j9)), (2, .int (x9))] := hl
  obtain ⟨⟨hL_m9, hK_m9, hR10, hR11⟩, ⟨hL_sz9, hK_sz9, hNs⟩, ⟨hL_ti9, hK_ti9, hNt⟩, hst9, hI8⟩ := hM
  have hN_sz9 : S.N sz9 < 2 ^ 31 := by rw [hNs]; decide
  have hN_ti9 : S.N ti9 < 2 ^ 31 := by rw [hNt]; decide
  refine q_aload_n (r := some m9) C dX6_release_0 rfl (lv_at hl 0 rfl) ?_
  refine lv_dup C.1 C.2.1 dX6_release_1 rfl ?_
  refine g_Model_now C hV hL_m9 hK_m9 (Or.inl wd_489) dX6_release_2 ?_
  refine lv_iconst (v := 1) C.1 C.2.1 dX6_release_5 (by decide) ?_
  refine lv_iadd C.1 C.2.1 dX6_release_6 ?_
  refine p_Model_now (v := (S.I 9 m9) + 1) C hV hL_m9 hK_m9 (Or.inl wd_489) dX6_release_7 (fun H locs hV => ?_)
  refine q_aload_n (r := some m9) C dX6_release_10 rfl (lv_at hl 0 rfl) ?_
  refine g_Model_sizes C hV hL_m9 hK_m9 (Or.inl wd_487) dX6_release_11 ?_
  refine q_tr (v' := some sz9) (hR10) ?_
  refine lv_iload_n C.1 C.2.1 dX6_release_14 rfl (lv_at hl 1 rfl) ?_
  refine lv_iconst (v := 0) C.1 C.2.1 dX6_release_15 (by decide) ?_
  refine lv_iload_n C.1 C.2.1 dX6_release_16 rfl (lv_at hl 2 rfl) ?_
  refine lv_isub C.1 C.2.1 dX6_release_17 ?_
  refine q_iast (j := j9) C hV hL_sz9 hK_sz9 (rfl) (show j9 < S.N sz9 by rw [hNs]; exact hj9) (hN_sz9) dX6_release_18 (fun H locs hV => ?_)
  refine q_aload_n (r := some m9) C dX6_release_19 rfl (lv_at hl 0 rfl) ?_
  refine g_Model_times C hV hL_m9 hK_m9 (Or.inl wd_488) dX6_release_20 ?_
  refine q_tr (v' := some ti9) (hR11) ?_
  refine lv_iload_n C.1 C.2.1 dX6_release_23 rfl (lv_at hl 1 rfl) ?_
  refine q_aload_n (r := some m9) C dX6_release_24 rfl (lv_at hl 0 rfl) ?_
  refine g_Model_now C hV hL_m9 hK_m9 (Or.inl wd_489) dX6_release_25 ?_
  refine q_ti (v' := S.I 9 m9 + 1) (qI_self S 9 m9 _) ?_
  refine q_iast (j := j9) C hV hL_ti9 hK_ti9 (rfl) (show j9 < S.N ti9 by rw [hNt]; exact hj9) (hN_ti9) dX6_release_28 (fun H locs hV => ?_)
  refine q_vret C hV hr hlk (Nat.le_of_ble_eq_true rfl) (Nat.le_of_ble_eq_true rfl) dX6_release_29 ?_
  exact hpost _ rfl
theorem c_Model_release (l : Launch) (E : qE) (S : qS) (m9 sz9 ti9 n9 : Nat) (hM : q_Mb S m9 sz9 ti9 n9) (j9 : Nat) (x9 : Int32) (hj9 : j9 < 16385) : q_Mv l yX6_release cX6_release 3 { frames := 0, cells := 0, slots := 0, locals := 0 } E [.ref m9, .int (nI j9), .int x9] S (fun S1 => S1 = ((S.sI 9 m9 (S.I 9 m9 + 1)).sA sz9 j9 (0 - x9)).sA ti9 j9 (S.I 9 m9 + 1)) 0 0 := c0_Model_release l E S m9 sz9 ti9 n9 hM j9 x9 hj9 _ (fun _ h => h)

set_option maxHeartbeats 4000000 in
set_option maxRecDepth 100000 in
theorem c0_Model_sized (l : Launch) (E : qE) (S : qS) (a : Int32) (post : Int32 → qS → Prop) (hpost : ∀ r S1, (S1 = S ∧ r = if v_szok a.toInt then 1 else 0) → post r S1) : q_Mi l yX6_sized cX6_sized 1 .boolean { frames := 0, cells := 0, slots := 0, locals := 0 } E [.int a] S (post) 0 0 := by
  refine q_ofW1 (by decide) (q_1c rfl q_1n) (Nat.le_of_ble_eq_true rfl) (fun p e s m below meth c C hV hr hlk hnm ls hl => ?_)
  have hl : lv_has ls 1 [(0, .int (a))] := hl
  refine lv_iload_n C.1 C.2.1 dX6_sized_0 rfl (lv_at hl 0 rfl) ?_
  refine lv_iconst (v := 3) C.1 C.2.1 dX6_sized_1 (by decide) ?_
  refine lv_icmp_lt (tgt := 16) C.1 C.2.1 dX6_sized_2 (by decide) (fun c2 => ?_) (fun c2 => ?_)
  · have hb : ¬ v_szok a.toInt := fun h => by have := q_i_lt.mp c2; rw [q_i3] at this; omega
    refine lv_iconst (v := 0) C.1 C.2.1 dX6_sized_16 (by decide) ?_
    refine q_zret (v := 0) C hV hr hlk (by decide) (Nat.le_of_ble_eq_true rfl) (Nat.le_of_ble_eq_true rfl) dX6_sized_17 ?_
    refine hpost _ _ ⟨rfl, ?_⟩
    first | rw [if_pos hb] | rw [if_neg hb]
  · refine lv_iload_n C.1 C.2.1 dX6_sized_5 rfl (lv_at hl 0 rfl) ?_
    refine lv_sipush (v := 5000) C.1 C.2.1 dX6_sized_6 (by decide) ?_
    refine lv_icmp_gt (tgt := 16) C.1 C.2.1 dX6_sized_9 (by decide) (fun c9 => ?_) (fun c9 => ?_)
    · have hb : ¬ v_szok a.toInt := fun h => by have := q_i_lt.mp c9; rw [q_i5000] at this; omega
      refine lv_iconst (v := 0) C.1 C.2.1 dX6_sized_16 (by decide) ?_
      refine q_zret (v := 0) C hV hr hlk (by decide) (Nat.le_of_ble_eq_true rfl) (Nat.le_of_ble_eq_true rfl) dX6_sized_17 ?_
      refine hpost _ _ ⟨rfl, ?_⟩
      first | rw [if_pos hb] | rw [if_neg hb]
    · have hb : v_szok a.toInt := ⟨by
        rcases Int.lt_or_le a.toInt 3 with h | h
        · exact absurd (q_i_lt.mpr (by rw [q_i3]; exact h)) c2
        · exact h, by
        rcases Int.lt_or_le 5000 a.toInt with h | h
        · exact absurd (q_i_lt.mpr (by rw [q_i5000]; exact h)) c9
        · exact h⟩
      refine lv_iconst (v := 1) C.1 C.2.1 dX6_sized_12 (by decide) ?_
      refine lv_goto (tgt := 17) C.1 C.2.1 dX6_sized_13 (by decide) ?_
      refine q_zret (v := 1) C hV hr hlk (by decide) (Nat.le_of_ble_eq_true rfl) (Nat.le_of_ble_eq_true rfl) dX6_sized_17 ?_
      refine hpost _ _ ⟨rfl, ?_⟩
      first | rw [if_pos hb] | rw [if_neg hb]
theorem c_Model_sized (l : Launch) (E : qE) (S : qS) (a : Int32) : q_Mi l yX6_sized cX6_sized 1 .boolean { frames := 0, cells := 0, slots := 0, locals := 0 } E [.int a] S (fun r S1 => S1 = S ∧ r = if v_szok a.toInt then 1 else 0) 0 0 := c0_Model_sized l E S a _ (fun _ _ h => h)

set_option maxHeartbeats 4000000 in
set_option maxRecDepth 100000 in
theorem c0_Model_known (l : Launch) (E : qE) (S : qS) (m9 sz9 ti9 n9 : Nat) (hM : q_Mb S m9 sz9 ti9 n9) (hn9 : n9 ≤ 16384) (a : Int32) (post : Int32 → qS → Prop) (hpost : ∀ r S1, (S1 = S ∧ r = if 1 ≤ a.toInt ∧ a.toInt ≤ n9 then 1 else 0) → post r S1) : q_Mi l yX6_known cX6_known 2 .boolean { frames := 0, cells := 0, slots := 0, locals := 0 } E [.ref m9, .int a] S (post) 0 0 := by
  refine q_ofW1 (by decide) (q_1c rfl (q_1c rfl q_1n)) (Nat.le_of_ble_eq_true rfl) (fun p e s m below meth c C hV hr hlk hnm ls hl => ?_)
  have hl : lv_has ls 2 [(0, va_rf (some m9)), (1, .int (a))] := hl
  obtain ⟨⟨hL_m9, hK_m9, hR10, hR11⟩, ⟨hL_sz9, hK_sz9, hNs⟩, ⟨hL_ti9, hK_ti9, hNt⟩, hst9, hI8⟩ := hM
  refine lv_iload_n C.1 C.2.1 dX6_known_0 rfl (lv_at hl 1 rfl) ?_
  refine lv_iconst (v := 1) C.1 C.2.1 dX6_known_1 (by decide) ?_
  refine lv_icmp_lt (tgt := 17) C.1 C.2.1 dX6_known_2 (by decide) (fun c2 => ?_) (fun c2 => ?_)
  · have hb : ¬ (1 ≤ a.toInt ∧ a.toInt ≤ n9) := fun h => by have := q_i_lt.mp c2; rw [show (1 : Int32).toInt = 1 from by decide] at this; omega
    refine lv_iconst (v := 0) C.1 C.2.1 dX6_known_17 (by decide) ?_
    refine q_zret (v := 0) C hV hr hlk (by decide) (Nat.le_of_ble_eq_true rfl) (Nat.le_of_ble_eq_true rfl) dX6_known_18 ?_
    refine hpost _ _ ⟨rfl, ?_⟩
    first | rw [if_pos hb] | rw [if_neg hb]
  · refine lv_iload_n C.1 C.2.1 dX6_known_5 rfl (lv_at hl 1 rfl) ?_
    refine q_aload_n (r := some m9) C dX6_known_6 rfl (lv_at hl 0 rfl) ?_
    refine g_Model_cells C hV hL_m9 hK_m9 (Or.inl wd_486) dX6_known_7 ?_
    refine q_ti (v' := nI n9) (hI8) ?_
    refine lv_icmp_gt (tgt := 17) C.1 C.2.1 dX6_known_10 (by decide) (fun c10 => ?_) (fun c10 => ?_)
    · have hb : ¬ (1 ≤ a.toInt ∧ a.toInt ≤ n9) := fun h => by have := q_i_lt.mp c10; rw [nI_toInt (by omega)] at this; omega
      refine lv_iconst (v := 0) C.1 C.2.1 dX6_known_17 (by decide) ?_
      refine q_zret (v := 0) C hV hr hlk (by decide) (Nat.le_of_ble_eq_true rfl) (Nat.le_of_ble_eq_true rfl) dX6_known_18 ?_
      refine hpost _ _ ⟨rfl, ?_⟩
      first | rw [if_pos hb] | rw [if_neg hb]
    · have hb : 1 ≤ a.toInt ∧ a.toInt ≤ n9 := ⟨by
        rcases Int.lt_or_le a.toInt 1 with h | h
        · exact absurd (q_i_lt.mpr (by rw [show (1 : Int32).toInt = 1 from by decide]; exact h)) c2
        · exact h, by
        rcases Int.lt_or_le n9 a.toInt with h | h
        · exact absurd (q_i_lt.mpr (by rw [nI_toInt (by omega)]; exact h)) c10
        · exact h⟩
      refine lv_iconst (v := 1) C.1 C.2.1 dX6_known_13 (by decide) ?_
      refine lv_goto (tgt := 18) C.1 C.2.1 dX6_known_14 (by decide) ?_
      refine q_zret (v := 1) C hV hr hlk (by decide) (Nat.le_of_ble_eq_true rfl) (Nat.le_of_ble_eq_true rfl) dX6_known_18 ?_
      refine hpost _ _ ⟨rfl, ?_⟩
      first | rw [if_pos hb] | rw [if_neg hb]
theorem c_Model_known (l : Launch) (E : qE) (S : qS) (m9 sz9 ti9 n9 : Nat) (hM : q_Mb S m9 sz9 ti9 n9) (hn9 : n9 ≤ 16384) (a : Int32) : q_Mi l yX6_known cX6_known 2 .boolean { frames := 0, cells := 0, slots := 0, locals := 0 } E [.ref m9, .int a] S (fun r S1 => S1 = S ∧ r = if 1 ≤ a.toInt ∧ a.toInt ≤ n9 then 1 else 0) 0 0 := c0_Model_known l E S m9 sz9 ti9 n9 hM hn9 a _ (fun _ _ h => h)

set_option maxHeartbeats 4000000 in
set_option maxRecDepth 100000 in
theorem c0_Model_faults (l : Launch) (E : qE) (S : qS) (m9 : Nat) (hL_m9 : m9 ∈ S.L) (hK_m9 : S.K m9 = 5) (post : Int32 → qS → Prop) (hpost : ∀ r S1, (S1 = S.sI 7 m9 0 ∧ r = 0) → post r S1) : q_Mi l yX6_faults cX6_faults 1 .int { frames := 0, cells := 0, slots := 0, locals := 0 } E [.ref m9] S (post) 0 0 := by
  refine q_ofW1 (by decide) (q_1c rfl q_1n) (Nat.le_of_ble_eq_true rfl) (fun p e s m below meth c C hV hr hlk hnm ls hl => ?_)
  have hl : lv_has ls 1 [(0, va_rf (some m9))] := hl
  refine q_aload_n (r := some m9) C dX6_faults_0 rfl (lv_at hl 0 rfl) ?_
  refine lv_iconst (v := 0) C.1 C.2.1 dX6_faults_1 (by decide) ?_
  refine p_Model_thrown (v := 0) C hV hL_m9 hK_m9 (Or.inl wd_485) dX6_faults_2 (fun H locs hV => ?_)
  refine lv_iconst (v := 0) C.1 C.2.1 dX6_faults_5 (by decide) ?_
  refine q_iret (v := 0) C hV hr hlk (Nat.le_of_ble_eq_true rfl) (Nat.le_of_ble_eq_true rfl) dX6_faults_6 ?_
  exact hpost _ _ ⟨rfl, rfl⟩
theorem c_Model_faults (l : Launch) (E : qE) (S : qS) (m9 : Nat) (hL_m9 : m9 ∈ S.L) (hK_m9 : S.K m9 = 5) : q_Mi l yX6_faults cX6_faults 1 .int { frames := 0, cells := 0, slots := 0, locals := 0 } E [.ref m9] S (fun r S1 => S1 = S.sI 7 m9 0 ∧ r = 0) 0 0 := c0_Model_faults l E S m9 hL_m9 hK_m9 _ (fun _ _ h => h)

