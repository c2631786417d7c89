set_option maxHeartbeats 4000000 in
set_option maxRecDepth 100000 in
theorem c0_Model_suffices (l : Launch) (E : qE) (S : qS) (m9 sz9 ti9 n9 f9 tm : Nat) (V : v_V) (hM : q_M S m9 sz9 ti9 n9 f9 tm V) (hdt : v_dt V) (a : Int32) (post : Int32 → qS → Prop) (hpost : ∀ r S1, ((v_szok a.toInt ∧ S1 = S.sI 7 m9 0 ∧ v_suf a.toInt.toNat V r) ∨ (¬ v_szok a.toInt ∧ S1 = S.sI 7 m9 1 ∧ r = 0)) → post r S1) : q_Mi l yX6_suffices cX6_suffices 2 .int { frames := 2, cells := 0, slots := 0, locals := 49 } E [.ref m9, .int a] S (post) 0 0 := by
  refine q_ofW1 (by decide) (q_1c rfl (q_1c rfl q_1n)) (Nat.le_of_ble_eq_true rfl) (fun p e s m below meth c C hV hr hlk hnm ls hl => ?_)
  have hl : lv_has ls 2 [(0, va_rf (some m9)), (1, .int (a))] := hl
  obtain ⟨⟨hL_m9, hK_m9, hR10, hR11⟩, ⟨hL_sz9, hK_sz9, hNs⟩, ⟨hL_ti9, hK_ti9, hNt⟩, hst9, hI8⟩ := hM.1
  have hN_sz9 : S.N sz9 < 2 ^ 31 := by rw [hNs]; decide
  have hN_ti9 : S.N ti9 < 2 ^ 31 := by rw [hNt]; decide
  have hok := hM.2.2.2.1
  refine q_aload_n (r := some m9) C dX6_suffices_0 rfl (lv_at hl 0 rfl) ?_
  refine lv_iload_n C.1 C.2.1 dX6_suffices_1 rfl (lv_at hl 1 rfl) ?_
  refine q_ci hV (q_rS (As := [.int (a)]) (rest := [va_rf (some m9)]) C hV (c_Model_sized l E S a) wd_527 wd_525 wd_526 wd_44 ok_X6_sized ⟨rfl, rfl, Nat.le_of_ble_eq_true rfl, Nat.le_of_ble_eq_true rfl⟩ rfl hl.1 rfl (q_sm (q_1c (q_cat _) q_1n) (Nat.le_of_ble_eq_true rfl)) dX6_suffices_2 ⟨Nat.le_of_ble_eq_true rfl, Nat.le_of_ble_eq_true rfl⟩) (fun i2 S2 H locs hp2 hV => ?_)
  obtain ⟨eS2, hp2⟩ := hp2
  rw [eS2] at hV
  refine q_ci hV (q_rV (b := m9) (As := [.int (i2)]) (rest := []) C hV (c_Model_goes l E S m9 hL_m9 hK_m9 i2 (by rw [hp2]; split <;> simp)) wd_516 wd_513 wd_515 wd_31 wd_44 ok_X6_goes ⟨rfl, rfl, Nat.le_of_ble_eq_true rfl, Nat.le_of_ble_eq_true rfl⟩ (q_rc5 hV hL_m9 hK_m9) rfl hl.1 rfl (q_sm q_1n (Nat.le_of_ble_eq_true rfl)) dX6_suffices_5 ⟨Nat.le_of_ble_eq_true rfl, Nat.le_of_ble_eq_true rfl⟩) (fun i5 S5 H locs hp5 hV => ?_)
  obtain ⟨h5, eS5⟩ := hp5
  refine lv_if_eq (tgt := 19) C.1 C.2.1 dX6_suffices_8 (by decide) (fun c8 => ?_) (fun c8 => ?_)
  · have hz : ¬ v_szok a.toInt := fun h => by rw [h5, hp2, if_pos h] at c8; exact absurd c8 (by decide)
    have eS : S5 = S.sI 7 m9 1 := by rw [eS5, hp2, if_neg hz]; rfl
    rw [eS] at hV
    refine lv_iconst (v := 0) C.1 C.2.1 dX6_suffices_19 (by decide) ?_
    refine q_iret (v := 0) C hV hr hlk (Nat.le_of_ble_eq_true rfl) (Nat.le_of_ble_eq_true rfl) dX6_suffices_20 ?_
    exact hpost _ _ (Or.inr ⟨hz, rfl, rfl⟩)
  · have hz : v_szok a.toInt := by
      rcases Classical.em (v_szok a.toInt) with h | h
      · exact h
      · rw [h5, hp2, if_neg h] at c8; exact absurd rfl c8
    have eS : S5 = S.sI 7 m9 0 := by rw [eS5, hp2, if_pos hz]; rfl
    rw [eS] at hV
    obtain ⟨ha, ha2⟩ := q_nat (x := a) (by omega)
    refine q_aload_n (r := some m9) C dX6_suffices_11 rfl (lv_at hl 0 rfl) ?_
    refine lv_iload_n C.1 C.2.1 dX6_suffices_12 rfl (lv_at hl 1 rfl) ?_
    refine q_ti (v' := nI a.toInt.toNat) ha ?_
    refine q_ci hV (q_rV (b := m9) (As := [.int (nI a.toInt.toNat)]) (rest := []) C hV (c_Model_best l E (S.sI 7 m9 0) m9 sz9 ti9 n9 f9 tm V (q_M_thr hM 0) a.toInt.toNat (by omega) ha2 hdt) wd_531 wd_528 wd_530 wd_33 wd_44 ok_X6_best ⟨rfl, rfl, Nat.le_of_ble_eq_true rfl, Nat.le_of_ble_eq_true rfl⟩ (q_rc5 hV hL_m9 hK_m9) rfl hl.1 rfl (q_sm q_1n (Nat.le_of_ble_eq_true rfl)) dX6_suffices_13 ⟨Nat.le_of_ble_eq_true rfl, Nat.le_of_ble_eq_true rfl⟩) (fun i13 S13 H locs hp13 hV => ?_)
    obtain ⟨eS13, hp13⟩ := hp13
    rw [eS13] at hV
    refine lv_goto (tgt := 20) C.1 C.2.1 dX6_suffices_16 (by decide) ?_
    refine q_iret (v := i13) C hV hr hlk (Nat.le_of_ble_eq_true rfl) (Nat.le_of_ble_eq_true rfl) dX6_suffices_20 ?_
    exact hpost _ _ (Or.inl ⟨hz, rfl, hp13⟩)
theorem c_Model_suffices (l : Launch) (E : qE) (S : qS) (m9 sz9 ti9 n9 f9 tm : Nat) (V : v_V) (hM : q_M S m9 sz9 ti9 n9 f9 tm V) (hdt : v_dt V) (a : Int32) : q_Mi l yX6_suffices cX6_suffices 2 .int { frames := 2, cells := 0, slots := 0, locals := 49 } E [.ref m9, .int a] S (fun r S1 => (v_szok a.toInt ∧ S1 = S.sI 7 m9 0 ∧ v_suf a.toInt.toNat V r) ∨ (¬ v_szok a.toInt ∧ S1 = S.sI 7 m9 1 ∧ r = 0)) 0 0 := c0_Model_suffices l E S m9 sz9 ti9 n9 f9 tm V hM hdt a _ (fun _ _ h => h)

theorem q_cn_one (f : Nat × Bool × Nat → Nat) (D : v_V) (v : Nat × Bool × Nat) : q_cn f (D ++ [v]) = q_cn f D + f v := by rw [q_cn_app]; rfl
theorem v_sg_pos {v : Nat × Bool × Nat} (h1 : 1 ≤ v.1) (hz : v.1 < 2 ^ 31) : v_sg v ≤ 0 ↔ v.2.1 = true := by
  rw [q_i_le, q_i0]
  cases hf : v.2.1 with
  | true => rw [v_sg_t hf hz]; exact ⟨fun _ => rfl, fun _ => by omega⟩
  | false => rw [v_sg_f hf hz]; constructor <;> intro h <;> first | omega | cases h
theorem v_sg_m3 {v : Nat × Bool × Nat} (hz : v.1 < 2 ^ 31) : v_sg v ≤ -3 ↔ v.2.1 = true ∧ 3 ≤ v.1 := by
  rw [q_i_le, show (-3 : Int32).toInt = -3 from by decide]
  cases hf : v.2.1 with
  | true => rw [v_sg_t hf hz]; constructor
            · intro h; exact ⟨rfl, by omega⟩
            · intro h; have := h.2; omega
  | false => rw [v_sg_f hf hz]; constructor
             · intro h; omega
             · intro h; exact absurd h.1 (by decide)
theorem q_i_gt {a b : Int32} : ¬ a < b ↔ b ≤ a := by rw [q_i_lt, q_i_le]; omega
set_option maxHeartbeats 4000000 in
set_option maxRecDepth 100000 in
theorem c0_Model_count (l : Launch) (E : qE) (S : qS) (m9 sz9 ti9 n9 f9 tm : Nat) (V : v_V) (hM : q_M S m9 sz9 ti9 n9 f9 tm V) (a : Int32) (post : Int32 → qS → Prop) (hpost : ∀ r S1, (((0 ≤ a.toInt ∧ a.toInt ≤ 7) ∧ S1 = S.sI 7 m9 0 ∧ r = nI (v_cnt a.toInt V n9 f9)) ∨ (¬ (0 ≤ a.toInt ∧ a.toInt ≤ 7) ∧ S1 = S.sI 7 m9 1 ∧ r = 0)) → post r S1) : q_Mi l yX6_count cX6_count 8 .int { frames := 2, cells := 0, slots := 0, locals := 48 } E [.ref m9, .int a] S (post) 0 0 := by
  refine q_ofW1 (by decide) (q_1c rfl (q_1c rfl q_1n)) (Nat.le_of_ble_eq_true rfl) (fun p e s m below meth c C hV hr hlk hnm ls hl => ?_)
  have hl : lv_has ls 8 [(0, va_rf (some m9)), (1, .int (a))] := hl
  obtain ⟨⟨hL_m9, hK_m9, hR10, hR11⟩, ⟨hL_sz9, hK_sz9, hNs⟩, ⟨hL_ti9, hK_ti9, hNt⟩, hst9, hI8⟩ := hM.1
  have hN_sz9 : S.N sz9 < 2 ^ 31 := by rw [hNs]; decide
  have hN_ti9 : S.N ti9 < 2 ^ 31 := by rw [hNt]; decide
  have hok := hM.2.2.2.1
  have hM7 := q_M_thr hM 0
  have loop : (0 ≤ a.toInt ∧ a.toInt ≤ 7) → ∀ (k : Nat) (x2 x3 x4 x5 x6 : Int32) (D R : v_V) (H : Heap) (locs : List Loc) (ls : Array Slot), R.length < k → q_V E s (S.sI 7 m9 0) H locs → lv_has ls 8 [(7, .int (nI (1 + v_sz D))), (6, .int (x6)), (5, .int (x5)), (4, .int (x4)), (3, .int (x3)), (2, .int (x2)), (0, va_rf (some m9)), (1, .int (a))] → D ++ R = V → x2 = nI (q_cn q_f0 D) → x3 = nI (q_cn q_f2 D) → x4 = nI (q_cn q_f3 D) → x5 = nI (q_cn q_f4 D) → x6 = nI (q_cn q_f1 D) → W p l e ({ frames := 2, cells := 0, slots := 0, locals := 48 } : Room) s m [.ref m9, .int a].toArray below meth c H locs (0) (0) (MQ below (va_Qi (post) (q_B E) E.A) [.ref m9, .int a].toArray s (0) (0) E.A) (F0 m 40 ls []) := by
    intro hz k
    induction k with
    | zero => intro x2 x3 x4 x5 x6 D R H locs ls hk; exact absurd hk (Nat.not_lt_zero _)
    | succ k ih =>
      intro x2 x3 x4 x5 x6 D R H locs ls hk hV hl hDR hx2 hx3 hx4 hx5 hx6
      refine lv_iload C.1 C.2.1 dX6_count_40 (lv_at hl 0 rfl) ?_
      refine q_aload_n (r := some m9) C dX6_count_42 rfl (lv_at hl 6 rfl) ?_
      refine g_Model_cells C hV hL_m9 hK_m9 (Or.inl wd_486) dX6_count_43 ?_
      refine q_ti (v' := nI n9) (hI8) ?_
      refine lv_icmp_gt (tgt := 198) C.1 C.2.1 dX6_count_46 (by decide) (fun c46 => ?_) (fun c46 => ?_)
      · obtain rfl := v_done hok hDR c46
        rw [List.append_nil] at hDR
        subst hDR
        refine lv_iload_n C.1 C.2.1 dX6_count_198 rfl (lv_at hl 7 rfl) ?_
        have h8 : a.toInt = 0 ∨ a.toInt = 1 ∨ a.toInt = 2 ∨ a.toInt = 3 ∨ a.toInt = 4 ∨ a.toInt = 5 ∨ a.toInt = 6 ∨ a.toInt = 7 := by omega
        rcases h8 with hw | hw | hw | hw | hw | hw | hw | hw
        · refine lv_tableIn (off := 41) (tgt := 240) C.1 C.2.1 dX6_count_199 (by omega) (by omega) (by rw [hw]; rfl) (by decide) ?_
          refine lv_iload_n C.1 C.2.1 dX6_count_240 rfl (lv_at hl 5 rfl) ?_
          refine q_iret (v := x2) C hV hr hlk (Nat.le_of_ble_eq_true rfl) (Nat.le_of_ble_eq_true rfl) dX6_count_241 ?_
          refine hpost _ _ (Or.inl ⟨hz, rfl, ?_⟩)
          rw [v_cnt, hw]
          exact hx2
        · refine lv_tableIn (off := 43) (tgt := 242) C.1 C.2.1 dX6_count_199 (by omega) (by omega) (by rw [hw]; rfl) (by decide) ?_
          refine lv_iload C.1 C.2.1 dX6_count_242 (lv_at hl 1 rfl) ?_
          refine q_iret (v := x6) C hV hr hlk (Nat.le_of_ble_eq_true rfl) (Nat.le_of_ble_eq_true rfl) dX6_count_244 ?_
          refine hpost _ _ (Or.inl ⟨hz, rfl, ?_⟩)
          rw [v_cnt, hw]
          exact hx6
        · refine lv_tableIn (off := 46) (tgt := 245) C.1 C.2.1 dX6_count_199 (by omega) (by omega) (by rw [hw]; rfl) (by decide) ?_
          refine lv_iload_n C.1 C.2.1 dX6_count_245 rfl (lv_at hl 4 rfl) ?_
          refine q_iret (v := x3) C hV hr hlk (Nat.le_of_ble_eq_true rfl) (Nat.le_of_ble_eq_true rfl) dX6_count_246 ?_
          refine hpost _ _ (Or.inl ⟨hz, rfl, ?_⟩)
          rw [v_cnt, hw]
          exact hx3
        · refine lv_tableIn (off := 48) (tgt := 247) C.1 C.2.1 dX6_count_199 (by omega) (by omega) (by rw [hw]; rfl) (by decide) ?_
          refine lv_iload C.1 C.2.1 dX6_count_247 (lv_at hl 3 rfl) ?_
          refine q_iret (v := x4) C hV hr hlk (Nat.le_of_ble_eq_true rfl) (Nat.le_of_ble_eq_true rfl) dX6_count_249 ?_
          refine hpost _ _ (Or.inl ⟨hz, rfl, ?_⟩)
          rw [v_cnt, hw]
          exact hx4
        · refine lv_tableIn (off := 51) (tgt := 250) C.1 C.2.1 dX6_count_199 (by omega) (by omega) (by rw [hw]; rfl) (by decide) ?_
          refine lv_iload C.1 C.2.1 dX6_count_250 (lv_at hl 2 rfl) ?_
          refine q_iret (v := x5) C hV hr hlk (Nat.le_of_ble_eq_true rfl) (Nat.le_of_ble_eq_true rfl) dX6_count_252 ?_
          refine hpost _ _ (Or.inl ⟨hz, rfl, ?_⟩)
          rw [v_cnt, hw]
          exact hx5
        · refine lv_tableIn (off := 54) (tgt := 253) C.1 C.2.1 dX6_count_199 (by omega) (by omega) (by rw [hw]; rfl) (by decide) ?_
          refine q_aload_n (r := some m9) C dX6_count_253 rfl (lv_at hl 6 rfl) ?_
          refine q_ci hV (q_rV (b := m9) (As := []) (rest := []) C hV (c_Model_greatest l E (S.sI 7 m9 0) m9 sz9 ti9 n9 f9 tm D hM7) wd_579 wd_576 wd_578 wd_37 wd_44 ok_X6_greatest ⟨rfl, rfl, Nat.le_of_ble_eq_true rfl, Nat.le_of_ble_eq_true rfl⟩ (q_rc5 hV hL_m9 hK_m9) rfl hl.1 rfl (q_sm q_1n (Nat.le_of_ble_eq_true rfl)) dX6_count_254 ⟨Nat.le_of_ble_eq_true rfl, Nat.le_of_ble_eq_true rfl⟩) (fun i254 S254 H locs hp254 hV => ?_)
          obtain ⟨eS254, hp254⟩ := hp254
          rw [eS254] at hV
          refine q_iret (v := i254) C hV hr hlk (Nat.le_of_ble_eq_true rfl) (Nat.le_of_ble_eq_true rfl) dX6_count_257 ?_
          refine hpost _ _ (Or.inl ⟨hz, rfl, ?_⟩)
          rw [v_cnt, hw]
          exact hp254
        · refine lv_tableIn (off := 59) (tgt := 258) C.1 C.2.1 dX6_count_199 (by omega) (by omega) (by rw [hw]; rfl) (by decide) ?_
          refine q_aload_n (r := some m9) C dX6_count_258 rfl (lv_at hl 6 rfl) ?_
          refine g_Model_failures C hV hL_m9 hK_m9 (Or.inl wd_490) dX6_count_259 ?_
          refine q_ti (v' := nI f9) (hM7.2.2.1) ?_
          refine q_iret (v := nI f9) C hV hr hlk (Nat.le_of_ble_eq_true rfl) (Nat.le_of_ble_eq_true rfl) dX6_count_262 ?_
          refine hpost _ _ (Or.inl ⟨hz, rfl, ?_⟩)
          rw [v_cnt, hw]
          rfl
        · refine lv_tableOut (tgt := 263) C.1 C.2.1 dX6_count_199 (by omega) (by decide) ?_
          refine q_aload_n (r := some m9) C dX6_count_263 rfl (lv_at hl 6 rfl) ?_
          refine g_Model_cells C hV hL_m9 hK_m9 (Or.inl wd_486) dX6_count_264 ?_
          refine q_ti (v' := nI n9) (hI8) ?_
          refine q_iret (v := nI n9) C hV hr hlk (Nat.le_of_ble_eq_true rfl) (Nat.le_of_ble_eq_true rfl) dX6_count_267 ?_
          refine hpost _ _ (Or.inl ⟨hz, rfl, ?_⟩)
          rw [v_cnt, hw]
          rfl
      · obtain ⟨v, R2, rfl⟩ := v_more hok hDR c46
        have hMv : q_M S m9 sz9 ti9 n9 f9 tm (D ++ v :: R2) := by rw [hDR]; exact hM
        obtain ⟨hAv, -, -, hv1, hsz, hn9⟩ := q_M_at hMv
        have hjb : 1 + v_sz D < 16385 := by omega
        have hlnv : v_ln (S.A sz9 (1 + v_sz D)) = nI v.1 := by rw [hAv]; exact v_ln_sg hv1 (by omega)
        have hnx : nI (1 + v_sz D) + nI v.1 = nI (1 + v_sz (D ++ [v])) := by rw [nI_add, v_sz_app]; exact congrArg nI (by simp only [v_sz]; omega)
        have J182 : ∀ (x2 x3 x4 x5 x6 w9 : Int32) (H : Heap) (locs : List Loc) (ls : Array Slot), q_V E s (S.sI 7 m9 0) H locs → lv_has ls 8 [(7, .int (nI (1 + v_sz D))), (6, .int (w9)), (5, .int (x5)), (4, .int (x4)), (3, .int (x3)), (2, .int (x2)), (0, va_rf (some m9)), (1, .int (a))] → x2 = nI (q_cn q_f0 (D ++ [v])) → x3 = nI (q_cn q_f2 (D ++ [v])) → x4 = nI (q_cn q_f3 (D ++ [v])) → x5 = nI (q_cn q_f4 (D ++ [v])) → x6 = nI (q_cn q_f1 (D ++ [v])) → W p l e ({ frames := 2, cells := 0, slots := 0, locals := 48 } : Room) s m [.ref m9, .int a].toArray below meth c H locs (0) (0) (MQ below (va_Qi (post) (q_B E) E.A) [.ref m9, .int a].toArray s (0) (0) E.A) (F0 m 182 ls [.int (x6)]) := by
          intro x2 x3 x4 x5 x6 w9 H locs ls hV hl hx2 hx3 hx4 hx5 hx6
          refine q_istore (x := x6) (lv' := [(6, .int (x6)), (7, .int (nI (1 + v_sz D))), (5, .int (x5)), (4, .int (x4)), (3, .int (x3)), (2, .int (x2)), (0, va_rf (some m9)), (1, .int (a))]) C dX6_count_182 hl (by decide) (q_k0 (q_kN 0 rfl (by decide) (by decide) (q_kC 2 rfl (by decide) rfl (q_kN 3 rfl (by decide) (by decide) (q_kN 4 rfl (by decide) (by decide) (q_kN 5 rfl (by decide) (by decide) (q_kN 6 rfl (by decide) (by decide) (q_kN 7 rfl (by decide) (by decide) q_kz)))))))) (fun ls hl => ?_)
          refine lv_iload C.1 C.2.1 dX6_count_184 (lv_at hl 1 rfl) ?_
          refine q_aload_n (r := some m9) C dX6_count_186 rfl (lv_at hl 6 rfl) ?_
          refine lv_iload C.1 C.2.1 dX6_count_187 (lv_at hl 1 rfl) ?_
          refine q_ci hV (q_rV (b := m9) (As := [.int (nI (1 + v_sz D))]) (rest := [.int (nI (1 + v_sz D))]) C hV (c_Model_length l E (S.sI 7 m9 0) m9 sz9 ti9 n9 hM7.1 (1 + v_sz D) hjb) wd_535 wd_532 wd_534 wd_34 wd_44 ok_X6_length ⟨rfl, rfl, Nat.le_of_ble_eq_true rfl, Nat.le_of_ble_eq_true rfl⟩ (q_rc5 hV hL_m9 hK_m9) rfl hl.1 rfl (q_sm (q_1c rfl q_1n) (Nat.le_of_ble_eq_true rfl)) dX6_count_189 ⟨Nat.le_of_ble_eq_true rfl, Nat.le_of_ble_eq_true rfl⟩) (fun i189 S189 H locs hp189 hV => ?_)
          obtain ⟨eS189, hp189⟩ := hp189
          rw [eS189] at hV
          replace hp189 := hp189.trans hlnv
          subst hp189
          refine lv_iadd C.1 C.2.1 dX6_count_192 ?_
          refine q_istore (x := (nI (1 + v_sz D)) + (nI v.1)) (lv' := [(7, .int ((nI (1 + v_sz D)) + (nI v.1))), (6, .int (x6)), (5, .int (x5)), (4, .int (x4)), (3, .int (x3)), (2, .int (x2)), (0, va_rf (some m9)), (1, .int (a))]) C dX6_count_193 hl (by decide) (q_k0 (q_kC 0 rfl (by decide) rfl (q_kN 2 rfl (by decide) (by decide) (q_kN 3 rfl (by decide) (by decide) (q_kN 4 rfl (by decide) (by decide) (q_kN 5 rfl (by decide) (by decide) (q_kN 6 rfl (by decide) (by decide) (q_kN 7 rfl (by decide) (by decide) q_kz)))))))) (fun ls hl => ?_)
          refine lv_goto (tgt := 40) C.1 C.2.1 dX6_count_195 (by decide) ?_
          rw [hnx] at hl
          exact ih _ _ _ _ _ (D ++ [v]) R2 H locs ls (by simp at hk; omega) hV hl (by rw [← hDR]; simp) hx2 hx3 hx4 hx5 hx6
        have J144 : ∀ (x2 x3 x4 x5 x6 w9 : Int32) (H : Heap) (locs : List Loc) (ls : Array Slot), q_V E s (S.sI 7 m9 0) H locs → lv_has ls 8 [(7, .int (nI (1 + v_sz D))), (6, .int (x6)), (5, .int (w9)), (4, .int (x4)), (3, .int (x3)), (2, .int (x2)), (0, va_rf (some m9)), (1, .int (a))] → x2 = nI (q_cn q_f0 (D ++ [v])) → x3 = nI (q_cn q_f2 (D ++ [v])) → x4 = nI (q_cn q_f3 (D ++ [v])) → x5 = nI (q_cn q_f4 (D ++ [v])) → x6 = nI (q_cn q_f1 D) → W p l e ({ frames := 2, cells := 0, slots := 0, locals := 48 } : Room) s m [.ref m9, .int a].toArray below meth c H locs (0) (0) (MQ below (va_Qi (post) (q_B E) E.A) [.ref m9, .int a].toArray s (0) (0) E.A) (F0 m 144 ls [.int (x5)]) := by
          intro x2 x3 x4 x5 x6 w9 H locs ls hV hl hx2 hx3 hx4 hx5 hx6
          refine q_istore (x := x5) (lv' := [(5, .int (x5)), (7, .int (nI (1 + v_sz D))), (6, .int (x6)), (4, .int (x4)), (3, .int (x3)), (2, .int (x2)), (0, va_rf (some m9)), (1, .int (a))]) C dX6_count_144 hl (by decide) (q_k0 (q_kN 0 rfl (by decide) (by decide) (q_kN 1 rfl (by decide) (by decide) (q_kC 3 rfl (by decide) rfl (q_kN 4 rfl (by decide) (by decide) (q_kN 5 rfl (by decide) (by decide) (q_kN 6 rfl (by decide) (by decide) (q_kN 7 rfl (by decide) (by decide) q_kz)))))))) (fun ls hl => ?_)
          refine q_aload_n (r := some m9) C dX6_count_146 rfl (lv_at hl 6 rfl) ?_
          refine g_Model_sizes C hV hL_m9 hK_m9 (Or.inl wd_487) dX6_count_147 ?_
          refine q_tr (v' := some sz9) (hR10) ?_
          refine lv_iload C.1 C.2.1 dX6_count_150 (lv_at hl 1 rfl) ?_
          refine q_iald (j := 1 + v_sz D) C hV hL_sz9 hK_sz9 (rfl) (show 1 + v_sz D < S.N sz9 by rw [hNs]; exact hjb) (hN_sz9) dX6_count_152 ?_
          refine q_ti (v' := v_sg v) (hAv) ?_
          refine lv_if_ge (tgt := 180) C.1 C.2.1 dX6_count_153 (by decide) (fun c153 => ?_) (fun c153 => ?_)
          · refine lv_iload C.1 C.2.1 dX6_count_180 (lv_at hl 2 rfl) ?_
            refine J182 x2 x3 x4 x5 x6 x6 H locs ls hV (lv_sub hl [1, 2, 0, 3, 4, 5, 6, 7] rfl) hx2 hx3 hx4 hx5 ?_
            rw [q_cn_one]
            unfold q_f1
            rw [if_neg (fun h => by rw [(v_sg_neg hv1 (by omega)).mp c153] at h; exact nomatch h.1), hx6]
            rfl
          · refine q_aload_n (r := some m9) C dX6_count_156 rfl (lv_at hl 6 rfl) ?_
            refine g_Model_sizes C hV hL_m9 hK_m9 (Or.inl wd_487) dX6_count_157 ?_
            refine q_tr (v' := some sz9) (hR10) ?_
            refine lv_iload C.1 C.2.1 dX6_count_160 (lv_at hl 1 rfl) ?_
            refine q_iald (j := 1 + v_sz D) C hV hL_sz9 hK_sz9 (rfl) (show 1 + v_sz D < S.N sz9 by rw [hNs]; exact hjb) (hN_sz9) dX6_count_162 ?_
            refine q_ti (v' := v_sg v) (hAv) ?_
            refine lv_bipush (v := (-3)) C.1 C.2.1 dX6_count_163 (by decide) ?_
            refine lv_icmp_le (tgt := 180) C.1 C.2.1 dX6_count_165 (by decide) (fun c165 => ?_) (fun c165 => ?_)
            · refine lv_iload C.1 C.2.1 dX6_count_180 (lv_at hl 2 rfl) ?_
              refine J182 x2 x3 x4 x5 x6 x6 H locs ls hV (lv_sub hl [1, 2, 0, 3, 4, 5, 6, 7] rfl) hx2 hx3 hx4 hx5 ?_
              rw [q_cn_one]
              unfold q_f1
              rw [if_neg (fun h => by have := ((v_sg_m3 (by omega)).mp c165).2; omega), hx6]
              rfl
            · refine lv_iload C.1 C.2.1 dX6_count_168 (lv_at hl 2 rfl) ?_
              refine q_aload_n (r := some m9) C dX6_count_170 rfl (lv_at hl 6 rfl) ?_
              refine lv_iload C.1 C.2.1 dX6_count_171 (lv_at hl 1 rfl) ?_
              refine q_ci hV (q_rV (b := m9) (As := [.int (nI (1 + v_sz D))]) (rest := [.int (x6)]) C hV (c_Model_length l E (S.sI 7 m9 0) m9 sz9 ti9 n9 hM7.1 (1 + v_sz D) hjb) wd_535 wd_532 wd_534 wd_34 wd_44 ok_X6_length ⟨rfl, rfl, Nat.le_of_ble_eq_true rfl, Nat.le_of_ble_eq_true rfl⟩ (q_rc5 hV hL_m9 hK_m9) rfl hl.1 rfl (q_sm (q_1c rfl q_1n) (Nat.le_of_ble_eq_true rfl)) dX6_count_173 ⟨Nat.le_of_ble_eq_true rfl, Nat.le_of_ble_eq_true rfl⟩) (fun i173 S173 H locs hp173 hV => ?_)
              obtain ⟨eS173, hp173⟩ := hp173
              rw [eS173] at hV
              replace hp173 := hp173.trans hlnv
              subst hp173
              refine lv_iadd C.1 C.2.1 dX6_count_176 ?_
              refine lv_goto (tgt := 182) C.1 C.2.1 dX6_count_177 (by decide) ?_
              refine J182 x2 x3 x4 x5 (x6 + (nI v.1)) x6 H locs ls hV (lv_sub hl [1, 2, 0, 3, 4, 5, 6, 7] rfl) hx2 hx3 hx4 hx5 ?_
              rw [q_cn_one]
              unfold q_f1
              have hfr : v.2.1 = true := by cases hf : v.2.1 with | true => rfl | false => exact absurd ((v_sg_neg hv1 (by omega)).mpr hf) c153
              have hcd : v.2.1 = true ∧ v.1 < 3 := ⟨hfr, by
                rcases Nat.lt_or_ge v.1 3 with h | h
                · exact h
                · exact absurd ((v_sg_m3 (by omega)).mpr ⟨hfr, h⟩) c165⟩
              rw [if_pos hcd, hx6]
              exact nI_add _ _
        have J111 : ∀ (x2 x3 x4 x5 x6 w9 : Int32) (H : Heap) (locs : List Loc) (ls : Array Slot), q_V E s (S.sI 7 m9 0) H locs → lv_has ls 8 [(7, .int (nI (1 + v_sz D))), (6, .int (x6)), (5, .int (x5)), (4, .int (w9)), (3, .int (x3)), (2, .int (x2)), (0, va_rf (some m9)), (1, .int (a))] → x2 = nI (q_cn q_f0 (D ++ [v])) → x3 = nI (q_cn q_f2 (D ++ [v])) → x4 = nI (q_cn q_f3 (D ++ [v])) → x5 = nI (q_cn q_f4 D) → x6 = nI (q_cn q_f1 D) → W p l e ({ frames := 2, cells := 0, slots := 0, locals := 48 } : Room) s m [.ref m9, .int a].toArray below meth c H locs (0) (0) (MQ below (va_Qi (post) (q_B E) E.A) [.ref m9, .int a].toArray s (0) (0) E.A) (F0 m 111 ls [.int (x4)]) := by
          intro x2 x3 x4 x5 x6 w9 H locs ls hV hl hx2 hx3 hx4 hx5 hx6
          refine q_istore (x := x4) (lv' := [(4, .int (x4)), (7, .int (nI (1 + v_sz D))), (6, .int (x6)), (5, .int (x5)), (3, .int (x3)), (2, .int (x2)), (0, va_rf (some m9)), (1, .int (a))]) C dX6_count_111 hl (by decide) (q_k0 (q_kN 0 rfl (by decide) (by decide) (q_kN 1 rfl (by decide) (by decide) (q_kN 2 rfl (by decide) (by decide) (q_kC 4 rfl (by decide) rfl (q_kN 5 rfl (by decide) (by decide) (q_kN 6 rfl (by decide) (by decide) (q_kN 7 rfl (by decide) (by decide) q_kz)))))))) (fun ls hl => ?_)
          refine q_aload_n (r := some m9) C dX6_count_113 rfl (lv_at hl 6 rfl) ?_
          refine g_Model_sizes C hV hL_m9 hK_m9 (Or.inl wd_487) dX6_count_114 ?_
          refine q_tr (v' := some sz9) (hR10) ?_
          refine lv_iload C.1 C.2.1 dX6_count_117 (lv_at hl 1 rfl) ?_
          refine q_iald (j := 1 + v_sz D) C hV hL_sz9 hK_sz9 (rfl) (show 1 + v_sz D < S.N sz9 by rw [hNs]; exact hjb) (hN_sz9) dX6_count_119 ?_
          refine q_ti (v' := v_sg v) (hAv) ?_
          refine lv_if_ge (tgt := 142) C.1 C.2.1 dX6_count_120 (by decide) (fun c120 => ?_) (fun c120 => ?_)
          · refine lv_iload C.1 C.2.1 dX6_count_142 (lv_at hl 3 rfl) ?_
            refine J144 x2 x3 x4 x5 x6 x5 H locs ls hV (lv_sub hl [1, 2, 3, 0, 4, 5, 6, 7] rfl) hx2 hx3 hx4 ?_ hx6
            rw [q_cn_one]
            unfold q_f4
            rw [if_neg (fun h => by rw [(v_sg_neg hv1 (by omega)).mp c120] at h; exact nomatch h.1), hx5]
            rfl
          · refine q_aload_n (r := some m9) C dX6_count_123 rfl (lv_at hl 6 rfl) ?_
            refine g_Model_sizes C hV hL_m9 hK_m9 (Or.inl wd_487) dX6_count_124 ?_
            refine q_tr (v' := some sz9) (hR10) ?_
            refine lv_iload C.1 C.2.1 dX6_count_127 (lv_at hl 1 rfl) ?_
            refine q_iald (j := 1 + v_sz D) C hV hL_sz9 hK_sz9 (rfl) (show 1 + v_sz D < S.N sz9 by rw [hNs]; exact hjb) (hN_sz9) dX6_count_129 ?_
            refine q_ti (v' := v_sg v) (hAv) ?_
            refine lv_bipush (v := (-3)) C.1 C.2.1 dX6_count_130 (by decide) ?_
            refine lv_icmp_le (tgt := 142) C.1 C.2.1 dX6_count_132 (by decide) (fun c132 => ?_) (fun c132 => ?_)
            · refine lv_iload C.1 C.2.1 dX6_count_142 (lv_at hl 3 rfl) ?_
              refine J144 x2 x3 x4 x5 x6 x5 H locs ls hV (lv_sub hl [1, 2, 3, 0, 4, 5, 6, 7] rfl) hx2 hx3 hx4 ?_ hx6
              rw [q_cn_one]
              unfold q_f4
              rw [if_neg (fun h => by have := ((v_sg_m3 (by omega)).mp c132).2; omega), hx5]
              rfl
            · refine lv_iload C.1 C.2.1 dX6_count_135 (lv_at hl 3 rfl) ?_
              refine lv_iconst (v := 1) C.1 C.2.1 dX6_count_137 (by decide) ?_
              refine lv_iadd C.1 C.2.1 dX6_count_138 ?_
              refine lv_goto (tgt := 144) C.1 C.2.1 dX6_count_139 (by decide) ?_
              refine J144 x2 x3 x4 (x5 + 1) x6 x5 H locs ls hV (lv_sub hl [1, 2, 3, 0, 4, 5, 6, 7] rfl) hx2 hx3 hx4 ?_ hx6
              rw [q_cn_one]
              unfold q_f4
              have hfr : v.2.1 = true := by cases hf : v.2.1 with | true => rfl | false => exact absurd ((v_sg_neg hv1 (by omega)).mpr hf) c120
              have hcd : v.2.1 = true ∧ v.1 < 3 := ⟨hfr, by
                rcases Nat.lt_or_ge v.1 3 with h | h
                · exact h
                · exact absurd ((v_sg_m3 (by omega)).mpr ⟨hfr, h⟩) c132⟩
              rw [if_pos hcd, hx5]
              exact nI_1 _
        have J89 : ∀ (x2 x3 x4 x5 x6 w9 : Int32) (H : Heap) (locs : List Loc) (ls : Array Slot), q_V E s (S.sI 7 m9 0) H locs → lv_has ls 8 [(7, .int (nI (1 + v_sz D))), (6, .int (x6)), (5, .int (x5)), (4, .int (x4)), (3, .int (x3)), (2, .int (w9)), (0, va_rf (some m9)), (1, .int (a))] → x2 = nI (q_cn q_f0 (D ++ [v])) → x3 = nI (q_cn q_f2 (D ++ [v])) → x4 = nI (q_cn q_f3 D) → x5 = nI (q_cn q_f4 D) → x6 = nI (q_cn q_f1 D) → W p l e ({ frames := 2, cells := 0, slots := 0, locals := 48 } : Room) s m [.ref m9, .int a].toArray below meth c H locs (0) (0) (MQ below (va_Qi (post) (q_B E) E.A) [.ref m9, .int a].toArray s (0) (0) E.A) (F0 m 89 ls [.int (x2)]) := by
          intro x2 x3 x4 x5 x6 w9 H locs ls hV hl hx2 hx3 hx4 hx5 hx6
          refine q_istore_n (x := x2) (lv' := [(2, .int (x2)), (7, .int (nI (1 + v_sz D))), (6, .int (x6)), (5, .int (x5)), (4, .int (x4)), (3, .int (x3)), (0, va_rf (some m9)), (1, .int (a))]) C dX6_count_89 rfl hl (by decide) (q_k0 (q_kN 0 rfl (by decide) (by decide) (q_kN 1 rfl (by decide) (by decide) (q_kN 2 rfl (by decide) (by decide) (q_kN 3 rfl (by decide) (by decide) (q_kN 4 rfl (by decide) (by decide) (q_kN 6 rfl (by decide) (by decide) (q_kC 7 rfl (by decide) rfl q_kz)))))))) (fun ls hl => ?_)
          refine q_aload_n (r := some m9) C dX6_count_90 rfl (lv_at hl 6 rfl) ?_
          refine g_Model_sizes C hV hL_m9 hK_m9 (Or.inl wd_487) dX6_count_91 ?_
          refine q_tr (v' := some sz9) (hR10) ?_
          refine lv_iload C.1 C.2.1 dX6_count_94 (lv_at hl 1 rfl) ?_
          refine q_iald (j := 1 + v_sz D) C hV hL_sz9 hK_sz9 (rfl) (show 1 + v_sz D < S.N sz9 by rw [hNs]; exact hjb) (hN_sz9) dX6_count_96 ?_
          refine q_ti (v' := v_sg v) (hAv) ?_
          refine lv_bipush (v := (-3)) C.1 C.2.1 dX6_count_97 (by decide) ?_
          refine lv_icmp_gt (tgt := 109) C.1 C.2.1 dX6_count_99 (by decide) (fun c99 => ?_) (fun c99 => ?_)
          · refine lv_iload C.1 C.2.1 dX6_count_109 (lv_at hl 4 rfl) ?_
            refine J111 x2 x3 x4 x5 x6 x4 H locs ls hV (lv_sub hl [1, 2, 3, 4, 5, 0, 6, 7] rfl) hx2 hx3 ?_ hx5 hx6
            rw [q_cn_one]
            unfold q_f3
            have hcd : ¬ (v.2.1 = true ∧ 3 ≤ v.1) := fun h => absurd ((v_sg_m3 (by omega)).mpr h) (fun z => q_i_gt.mpr z c99)
            rw [if_neg hcd, hx4]
            rfl
          · refine lv_iload C.1 C.2.1 dX6_count_102 (lv_at hl 4 rfl) ?_
            refine lv_iconst (v := 1) C.1 C.2.1 dX6_count_104 (by decide) ?_
            refine lv_iadd C.1 C.2.1 dX6_count_105 ?_
            refine lv_goto (tgt := 111) C.1 C.2.1 dX6_count_106 (by decide) ?_
            refine J111 x2 x3 (x4 + 1) x5 x6 x4 H locs ls hV (lv_sub hl [1, 2, 3, 4, 5, 0, 6, 7] rfl) hx2 hx3 ?_ hx5 hx6
            rw [q_cn_one]
            unfold q_f3
            have hcd : v.2.1 = true ∧ 3 ≤ v.1 := (v_sg_m3 (by omega)).mp (q_i_gt.mp c99)
            rw [if_pos hcd, hx4]
            exact nI_1 _
        have J66 : ∀ (x2 x3 x4 x5 x6 w9 : Int32) (H : Heap) (locs : List Loc) (ls : Array Slot), q_V E s (S.sI 7 m9 0) H locs → lv_has ls 8 [(7, .int (nI (1 + v_sz D))), (6, .int (x6)), (5, .int (x5)), (4, .int (x4)), (3, .int (w9)), (2, .int (x2)), (0, va_rf (some m9)), (1, .int (a))] → x2 = nI (q_cn q_f0 D) → x3 = nI (q_cn q_f2 (D ++ [v])) → x4 = nI (q_cn q_f3 D) → x5 = nI (q_cn q_f4 D) → x6 = nI (q_cn q_f1 D) → W p l e ({ frames := 2, cells := 0, slots := 0, locals := 48 } : Room) s m [.ref m9, .int a].toArray below meth c H locs (0) (0) (MQ below (va_Qi (post) (q_B E) E.A) [.ref m9, .int a].toArray s (0) (0) E.A) (F0 m 66 ls [.int (x3)]) := by
          intro x2 x3 x4 x5 x6 w9 H locs ls hV hl hx2 hx3 hx4 hx5 hx6
          refine q_istore_n (x := x3) (lv' := [(3, .int (x3)), (7, .int (nI (1 + v_sz D))), (6, .int (x6)), (5, .int (x5)), (4, .int (x4)), (2, .int (x2)), (0, va_rf (some m9)), (1, .int (a))]) C dX6_count_66 rfl hl (by decide) (q_k0 (q_kN 0 rfl (by decide) (by decide) (q_kN 1 rfl (by decide) (by decide) (q_kN 2 rfl (by decide) (by decide) (q_kN 3 rfl (by decide) (by decide) (q_kC 5 rfl (by decide) rfl (q_kN 6 rfl (by decide) (by decide) (q_kN 7 rfl (by decide) (by decide) q_kz)))))))) (fun ls hl => ?_)
          refine q_aload_n (r := some m9) C dX6_count_67 rfl (lv_at hl 6 rfl) ?_
          refine g_Model_sizes C hV hL_m9 hK_m9 (Or.inl wd_487) dX6_count_68 ?_
          refine q_tr (v' := some sz9) (hR10) ?_
          refine lv_iload C.1 C.2.1 dX6_count_71 (lv_at hl 1 rfl) ?_
          refine q_iald (j := 1 + v_sz D) C hV hL_sz9 hK_sz9 (rfl) (show 1 + v_sz D < S.N sz9 by rw [hNs]; exact hjb) (hN_sz9) dX6_count_73 ?_
          refine q_ti (v' := v_sg v) (hAv) ?_
          refine lv_if_ge (tgt := 88) C.1 C.2.1 dX6_count_74 (by decide) (fun c74 => ?_) (fun c74 => ?_)
          · refine lv_iload_n C.1 C.2.1 dX6_count_88 rfl (lv_at hl 5 rfl) ?_
            refine J89 x2 x3 x4 x5 x6 x2 H locs ls hV (lv_sub hl [1, 2, 3, 4, 0, 5, 6, 7] rfl) ?_ hx3 hx4 hx5 hx6
            rw [q_cn_one]
            unfold q_f0
            have hnf : ¬ v.2.1 = true := by rw [(v_sg_neg hv1 (by omega)).mp c74]; exact fun z => nomatch z
            rw [if_neg hnf, hx2]
            rfl
          · refine lv_iload_n C.1 C.2.1 dX6_count_77 rfl (lv_at hl 5 rfl) ?_
            refine q_aload_n (r := some m9) C dX6_count_78 rfl (lv_at hl 6 rfl) ?_
            refine lv_iload C.1 C.2.1 dX6_count_79 (lv_at hl 1 rfl) ?_
            refine q_ci hV (q_rV (b := m9) (As := [.int (nI (1 + v_sz D))]) (rest := [.int (x2)]) C hV (c_Model_length l E (S.sI 7 m9 0) m9 sz9 ti9 n9 hM7.1 (1 + v_sz D) hjb) wd_535 wd_532 wd_534 wd_34 wd_44 ok_X6_length ⟨rfl, rfl, Nat.le_of_ble_eq_true rfl, Nat.le_of_ble_eq_true rfl⟩ (q_rc5 hV hL_m9 hK_m9) rfl hl.1 rfl (q_sm (q_1c rfl q_1n) (Nat.le_of_ble_eq_true rfl)) dX6_count_81 ⟨Nat.le_of_ble_eq_true rfl, Nat.le_of_ble_eq_true rfl⟩) (fun i81 S81 H locs hp81 hV => ?_)
            obtain ⟨eS81, hp81⟩ := hp81
            rw [eS81] at hV
            replace hp81 := hp81.trans hlnv
            subst hp81
            refine lv_iadd C.1 C.2.1 dX6_count_84 ?_
            refine lv_goto (tgt := 89) C.1 C.2.1 dX6_count_85 (by decide) ?_
            refine J89 (x2 + (nI v.1)) x3 x4 x5 x6 x2 H locs ls hV (lv_sub hl [1, 2, 3, 4, 0, 5, 6, 7] rfl) ?_ hx3 hx4 hx5 hx6
            rw [q_cn_one]
            unfold q_f0
            have hfr : v.2.1 = true := by cases hf : v.2.1 with | true => rfl | false => exact absurd ((v_sg_neg hv1 (by omega)).mpr hf) c74
            rw [if_pos hfr, hx2]
            exact nI_add _ _
        refine q_aload_n (r := some m9) C dX6_count_49 rfl (lv_at hl 6 rfl) ?_
        refine g_Model_sizes C hV hL_m9 hK_m9 (Or.inl wd_487) dX6_count_50 ?_
        refine q_tr (v' := some sz9) (hR10) ?_
        refine lv_iload C.1 C.2.1 dX6_count_53 (lv_at hl 0 rfl) ?_
        refine q_iald (j := 1 + v_sz D) C hV hL_sz9 hK_sz9 (rfl) (show 1 + v_sz D < S.N sz9 by rw [hNs]; exact hjb) (hN_sz9) dX6_count_55 ?_
        refine q_ti (v' := v_sg v) (hAv) ?_
        refine lv_if_le (tgt := 65) C.1 C.2.1 dX6_count_56 (by decide) (fun c56 => ?_) (fun c56 => ?_)
        · refine lv_iload_n C.1 C.2.1 dX6_count_65 rfl (lv_at hl 4 rfl) ?_
          refine J66 x2 x3 x4 x5 x6 x3 H locs ls hV hl hx2 ?_ hx4 hx5 hx6
          rw [q_cn_one]
          unfold q_f2
          have hfr : v.2.1 = true := (v_sg_pos hv1 (by omega)).mp c56
          rw [if_pos hfr, hx3]
          rfl
        · refine lv_iload_n C.1 C.2.1 dX6_count_59 rfl (lv_at hl 4 rfl) ?_
          refine lv_iconst (v := 1) C.1 C.2.1 dX6_count_60 (by decide) ?_
          refine lv_iadd C.1 C.2.1 dX6_count_61 ?_
          refine lv_goto (tgt := 66) C.1 C.2.1 dX6_count_62 (by decide) ?_
          refine J66 x2 (x3 + 1) x4 x5 x6 x3 H locs ls hV hl hx2 ?_ hx4 hx5 hx6
          rw [q_cn_one]
          unfold q_f2
          have hnf : ¬ v.2.1 = true := fun h => c56 ((v_sg_pos hv1 (by omega)).mpr h)
          rw [if_neg hnf, hx3]
          exact nI_1 _
  refine q_aload_n (r := some m9) C dX6_count_0 rfl (lv_at hl 0 rfl) ?_
  refine lv_iload_n C.1 C.2.1 dX6_count_1 rfl (lv_at hl 1 rfl) ?_
  refine lv_if_lt (tgt := 15) C.1 C.2.1 dX6_count_2 (by decide) (fun c2 => ?_) (fun c2 => ?_)
  · have hz : ¬ (0 ≤ a.toInt ∧ a.toInt ≤ 7) := fun h => by have := q_i_lt.mp c2; rw [q_i0] at this; omega
    refine lv_iconst (v := 0) C.1 C.2.1 dX6_count_15 (by decide) ?_
    refine q_ci hV (q_rV (b := m9) (As := [.int (0)]) (rest := []) C hV (c_Model_goes l E (S) m9 hL_m9 hK_m9 0 (by decide)) wd_516 wd_513 wd_515 wd_31 wd_44 ok_X6_goes ⟨rfl, rfl, Nat.le_of_ble_eq_true rfl, Nat.le_of_ble_eq_true rfl⟩ (q_rc5 hV hL_m9 hK_m9) rfl hl.1 rfl (q_sm q_1n (Nat.le_of_ble_eq_true rfl)) dX6_count_16 ⟨Nat.le_of_ble_eq_true rfl, Nat.le_of_ble_eq_true rfl⟩) (fun i16 S16 H locs hp16 hV => ?_)
    obtain ⟨rfl, eS16⟩ := hp16
    rw [show v_th 0 = 1 from by decide] at eS16
    subst eS16
    refine lv_if_ne (tgt := 24) C.1 C.2.1 dX6_count_19 (by decide) (fun c19 => ?_) (fun c19 => ?_)
    · exact absurd rfl c19
    · refine lv_iconst (v := 0) C.1 C.2.1 dX6_count_22 (by decide) ?_
      refine q_iret (v := 0) C hV hr hlk (Nat.le_of_ble_eq_true rfl) (Nat.le_of_ble_eq_true rfl) dX6_count_23 ?_
      exact hpost _ _ (Or.inr ⟨hz, rfl, rfl⟩)
  · refine lv_iload_n C.1 C.2.1 dX6_count_5 rfl (lv_at hl 1 rfl) ?_
    refine lv_bipush (v := 7) C.1 C.2.1 dX6_count_6 (by decide) ?_
    refine lv_icmp_gt (tgt := 15) C.1 C.2.1 dX6_count_8 (by decide) (fun c8 => ?_) (fun c8 => ?_)
    · have hz : ¬ (0 ≤ a.toInt ∧ a.toInt ≤ 7) := fun h => by have := q_i_lt.mp c8; rw [show (7 : Int32).toInt = 7 from by decide] at this; omega
      refine lv_iconst (v := 0) C.1 C.2.1 dX6_count_15 (by decide) ?_
      refine q_ci hV (q_rV (b := m9) (As := [.int (0)]) (rest := []) C hV (c_Model_goes l E (S) m9 hL_m9 hK_m9 0 (by decide)) wd_516 wd_513 wd_515 wd_31 wd_44 ok_X6_goes ⟨rfl, rfl, Nat.le_of_ble_eq_true rfl, Nat.le_of_ble_eq_true rfl⟩ (q_rc5 hV hL_m9 hK_m9) rfl hl.1 rfl (q_sm q_1n (Nat.le_of_ble_eq_true rfl)) dX6_count_16 ⟨Nat.le_of_ble_eq_true rfl, Nat.le_of_ble_eq_true rfl⟩) (fun i16 S16 H locs hp16 hV => ?_)
      obtain ⟨rfl, eS16⟩ := hp16
      rw [show v_th 0 = 1 from by decide] at eS16
      subst eS16
      refine lv_if_ne (tgt := 24) C.1 C.2.1 dX6_count_19 (by decide) (fun c19 => ?_) (fun c19 => ?_)
      · exact absurd rfl c19
      · refine lv_iconst (v := 0) C.1 C.2.1 dX6_count_22 (by decide) ?_
        refine q_iret (v := 0) C hV hr hlk (Nat.le_of_ble_eq_true rfl) (Nat.le_of_ble_eq_true rfl) dX6_count_23 ?_
        exact hpost _ _ (Or.inr ⟨hz, rfl, rfl⟩)
    · have hz : 0 ≤ a.toInt ∧ a.toInt ≤ 7 := ⟨by
        rcases Int.lt_or_le a.toInt 0 with h | h
        · exact absurd (q_i_lt.mpr (by rw [q_i0]; exact h)) c2
        · exact h, by
        rcases Int.lt_or_le 7 a.toInt with h | h
        · exact absurd (q_i_lt.mpr (by rw [show (7 : Int32).toInt = 7 from by decide]; exact h)) c8
        · exact h⟩
      refine lv_iconst (v := 1) C.1 C.2.1 dX6_count_11 (by decide) ?_
      refine lv_goto (tgt := 16) C.1 C.2.1 dX6_count_12 (by decide) ?_
      refine q_ci hV (q_rV (b := m9) (As := [.int (1)]) (rest := []) C hV (c_Model_goes l E (S) m9 hL_m9 hK_m9 1 (by decide)) wd_516 wd_513 wd_515 wd_31 wd_44 ok_X6_goes ⟨rfl, rfl, Nat.le_of_ble_eq_true rfl, Nat.le_of_ble_eq_true rfl⟩ (q_rc5 hV hL_m9 hK_m9) rfl hl.1 rfl (q_sm q_1n (Nat.le_of_ble_eq_true rfl)) dX6_count_16 ⟨Nat.le_of_ble_eq_true rfl, Nat.le_of_ble_eq_true rfl⟩) (fun i16 S16 H locs hp16 hV => ?_)
      obtain ⟨rfl, eS16⟩ := hp16
      rw [show v_th 1 = 0 from by decide] at eS16
      subst eS16
      refine lv_if_ne (tgt := 24) C.1 C.2.1 dX6_count_19 (by decide) (fun c19 => ?_) (fun c19 => ?_)
      · refine lv_iconst (v := 0) C.1 C.2.1 dX6_count_24 (by decide) ?_
        refine q_istore_n (x := 0) (lv' := [(2, .int (0)), (0, va_rf (some m9)), (1, .int (a))]) C dX6_count_25 rfl hl (by decide) (q_k0 (q_kN 0 rfl (by decide) (by decide) (q_kC 1 rfl (by decide) rfl q_kz))) (fun ls hl => ?_)
        refine lv_iconst (v := 0) C.1 C.2.1 dX6_count_26 (by decide) ?_
        refine q_istore_n (x := 0) (lv' := [(3, .int (0)), (2, .int (0)), (0, va_rf (some m9)), (1, .int (a))]) C dX6_count_27 rfl hl (by decide) (q_k0 (q_kC 0 rfl (by decide) rfl (q_kN 1 rfl (by decide) (by decide) (q_kN 2 rfl (by decide) (by decide) q_kz)))) (fun ls hl => ?_)
        refine lv_iconst (v := 0) C.1 C.2.1 dX6_count_28 (by decide) ?_
        refine q_istore (x := 0) (lv' := [(4, .int (0)), (3, .int (0)), (2, .int (0)), (0, va_rf (some m9)), (1, .int (a))]) C dX6_count_29 hl (by decide) (q_k0 (q_kC 0 rfl (by decide) rfl (q_kN 1 rfl (by decide) (by decide) (q_kN 2 rfl (by decide) (by decide) (q_kN 3 rfl (by decide) (by decide) q_kz))))) (fun ls hl => ?_)
        refine lv_iconst (v := 0) C.1 C.2.1 dX6_count_31 (by decide) ?_
        refine q_istore (x := 0) (lv' := [(5, .int (0)), (4, .int (0)), (3, .int (0)), (2, .int (0)), (0, va_rf (some m9)), (1, .int (a))]) C dX6_count_32 hl (by decide) (q_k0 (q_kC 0 rfl (by decide) rfl (q_kN 1 rfl (by decide) (by decide) (q_kN 2 rfl (by decide) (by decide) (q_kN 3 rfl (by decide) (by decide) (q_kN 4 rfl (by decide) (by decide) q_kz)))))) (fun ls hl => ?_)
        refine lv_iconst (v := 0) C.1 C.2.1 dX6_count_34 (by decide) ?_
        refine q_istore (x := 0) (lv' := [(6, .int (0)), (5, .int (0)), (4, .int (0)), (3, .int (0)), (2, .int (0)), (0, va_rf (some m9)), (1, .int (a))]) C dX6_count_35 hl (by decide) (q_k0 (q_kC 0 rfl (by decide) rfl (q_kN 1 rfl (by decide) (by decide) (q_kN 2 rfl (by decide) (by decide) (q_kN 3 rfl (by decide) (by decide) (q_kN 4 rfl (by decide) (by decide) (q_kN 5 rfl (by decide) (by decide) q_kz))))))) (fun ls hl => ?_)
        refine lv_iconst (v := 1) C.1 C.2.1 dX6_count_37 (by decide) ?_
        refine q_istore (x := 1) (lv' := [(7, .int (1)), (6, .int (0)), (5, .int (0)), (4, .int (0)), (3, .int (0)), (2, .int (0)), (0, va_rf (some m9)), (1, .int (a))]) C dX6_count_38 hl (by decide) (q_k0 (q_kC 0 rfl (by decide) rfl (q_kN 1 rfl (by decide) (by decide) (q_kN 2 rfl (by decide) (by decide) (q_kN 3 rfl (by decide) (by decide) (q_kN 4 rfl (by decide) (by decide) (q_kN 5 rfl (by decide) (by decide) (q_kN 6 rfl (by decide) (by decide) q_kz)))))))) (fun ls hl => ?_)
        exact loop hz (V.length + 1) 0 0 0 0 0 [] V H locs ls (Nat.lt_succ_self _) hV hl (List.nil_append _) nI_0.symm nI_0.symm nI_0.symm nI_0.symm nI_0.symm
      · exact absurd c19 (by decide)
theorem c_Model_count (l : Launch) (E : qE) (S : qS) (m9 sz9 ti9 n9 f9 tm : Nat) (V : v_V) (hM : q_M S m9 sz9 ti9 n9 f9 tm V) (a : Int32) : q_Mi l yX6_count cX6_count 8 .int { frames := 2, cells := 0, slots := 0, locals := 48 } E [.ref m9, .int a] S (fun r S1 => ((0 ≤ a.toInt ∧ a.toInt ≤ 7) ∧ S1 = S.sI 7 m9 0 ∧ r = nI (v_cnt a.toInt V n9 f9)) ∨ (¬ (0 ≤ a.toInt ∧ a.toInt ≤ 7) ∧ S1 = S.sI 7 m9 1 ∧ r = 0)) 0 0 := c0_Model_count l E S m9 sz9 ti9 n9 f9 tm V hM a _ (fun _ _ h => h)

