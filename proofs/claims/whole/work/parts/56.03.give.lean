set_option maxHeartbeats 4000000 in
set_option maxRecDepth 100000 in
theorem lw_give {p : Program} {e : Env} {s : State} {m : MethodId} {below : List Frame} {meth : Method} {c : Code} (l : Launch) (hl9 : l.stackTraces = false) {b L : Nat} {xs : Nat → Int32} (hL : L ≤ 1536) (C : CallFix p m c cL_law 7 s #[Value.ref b] q_T RL) (hX : va_X b L xs s s.heap) (hbl : b < s.heap.size) (E : qE) (hEA : ∀ q, E.A q ↔ s.heap.size ≤ q) (x9 m9 o9 h ar t sz ti : Nat) (v : Int64) (j cc ss n f tm : Nat) (P : List q_X) (S : qS) (H : Heap) (locs : List Loc) (ls : Array Slot) (hV : q_V (E.o o9 v) s S H locs) (hl : lv_has ls 7 [(4, .int (nI (3 * j))), (3, va_rf (some o9)), (2, va_rf (some m9)), (1, va_rf (some x9)), (0, va_rf (some b))]) (hA : q_ALL S x9 m9 h ar t sz ti n f tm P j) (hj3 : 3 * j + 3 ≤ L) (hcc : cc ≤ 100 + 513 * j) (hss : ss ≤ 40000 + 3591 * j) (kk : (∀ (v1 : Int64) (S2 : qS) (H : Heap) (locs : List Loc) (ls : Array Slot) (cc2 ss2 : Nat), q_V (E.o o9 v1) s S2 H locs → lv_has ls 7 [(4, .int (nI (3 * j))), (3, va_rf (some o9)), (2, va_rf (some m9)), (1, va_rf (some x9)), (0, va_rf (some b))] → q_INV S2 x9 m9 h ar t sz ti (j + 1) → cc2 ≤ cc + 513 → ss2 ≤ ss + 3591 → W p l e room_1 s m #[Value.ref b] below meth c H locs (cc2) (ss2) (lw_Z below #[Value.ref b] s) (F0 m 576 ls []))) : W p l e room_1 s m #[Value.ref b] below meth c H locs (cc) (ss) (lw_Z below #[Value.ref b] s) (F0 m 208 ls []) := by
  have hbA : ¬ E.A b := fun z => absurd ((hEA b).mp z) (by omega)
  have hL31 : L < 2 ^ 31 := by omega
  have hj512 : j < 512 := by omega
  have hA0 := hA
  obtain ⟨⟨ns, rows, hC⟩, hM, hu, hlen, htm9⟩ := hA0
  have hL_x9 := hC.1.1
  have hK_x9 := hC.1.2.1
  have hdt := q_ALL_dt hA
  have hu9 : ∀ x ∈ P, x.2.2.1 = false → 3 ≤ x.2.1 := fun x hx hf => hu x.2 (List.mem_map.mpr ⟨x, hx, rfl⟩) hf
  refine q_aload_n (r := some x9) C dL_law_208 rfl (lv_at hl 3 rfl) ?_
  refine q_aload_n (r := some b) C dL_law_209 rfl (lv_at hl 4 rfl) ?_
  refine lv_iload C.1 C.2.1 dL_law_210 (lv_at hl 0 rfl) ?_
  refine lv_iconst (v := 1) C.1 C.2.1 dL_law_212 (by decide) ?_
  refine lv_iadd C.1 C.2.1 dL_law_213 ?_
  refine q_sld C hV hX hbl hbA hL31 (j := 3 * j + 1) (nI_add (3 * j) 1) (by omega) dL_law_214 ?_
  refine q_aload_n (r := some o9) C dL_law_215 rfl (lv_at hl 1 rfl) ?_
  refine q_cL (E := E) hV (x_rSX (E := E.o o9 v) (As := [va_rf (some x9), .int (xs (3 * j + 1)), va_rf (some o9)]) (rest := []) C hV (c_L_give l E S x9 o9 v (xs (3 * j + 1)) hL_x9 hK_x9 _ _ (c_Shelf_give l hl9 (E.o o9 v) S x9 h ar t n f tm P ns rows hC (by omega) (xs (3 * j + 1)))) wd_393 wd_391 wd_392 wd_38 ok_L_give ⟨rfl, rfl, Nat.le_of_ble_eq_true rfl, Nat.le_of_ble_eq_true rfl⟩ rfl hl.1 rfl (q_sm q_1n (Nat.le_of_ble_eq_true rfl)) dL_law_216 ⟨by show _ ≤ 601024; omega, by show _ ≤ 7293034; omega⟩) (fun k9 v1 S1 H locs hp hV => ?_)
  have hfk : q_fk S S1 := by
    rcases hp with ⟨-, r9, -, A9, x9, B9, -, -, -, -, -, h9⟩ | ⟨-, -, h9, -⟩
    · exact h9
    · have h8 : S1 = S := h9; rw [h8]; exact q_fr_rf
  have hM1 := q_M_fk hM hfk
  have hL_m1 := hM1.1.1.1
  have hK_m1 := hM1.1.1.2.1
  refine q_istore (x := k9) (lv' := [(5, .int (k9)), (4, .int (nI (3 * j))), (3, va_rf (some o9)), (2, va_rf (some m9)), (1, va_rf (some x9)), (0, va_rf (some b))]) C dL_law_219 hl (by decide) (q_k0 (q_kC 0 rfl (by decide) rfl (q_kN 1 rfl (by decide) (by decide) (q_kN 2 rfl (by decide) (by decide) (q_kN 3 rfl (by decide) (by decide) (q_kN 4 rfl (by decide) (by decide) q_kz)))))) (fun ls hl => ?_)
  refine q_aload_n (r := some m9) C dL_law_221 rfl (lv_at hl 3 rfl) ?_
  refine q_aload_n (r := some b) C dL_law_222 rfl (lv_at hl 5 rfl) ?_
  refine lv_iload C.1 C.2.1 dL_law_223 (lv_at hl 1 rfl) ?_
  refine lv_iconst (v := 1) C.1 C.2.1 dL_law_225 (by decide) ?_
  refine lv_iadd C.1 C.2.1 dL_law_226 ?_
  refine q_sld C hV hX hbl hbA hL31 (j := 3 * j + 1) (nI_add (3 * j) 1) (by omega) dL_law_227 ?_
  refine q_ci hV (q_rV (b := m9) (As := [.int (xs (3 * j + 1))]) (rest := []) C hV (c_Model_give l (E.o o9 v1) S1 m9 sz ti n f tm (q_vl P) hM1 (by omega) (xs (3 * j + 1))) wd_539 wd_536 wd_537 wd_538 wd_44 ok_X6_give ⟨rfl, rfl, Nat.le_of_ble_eq_true rfl, Nat.le_of_ble_eq_true rfl⟩ (q_rc5 hV hL_m1 hK_m1) rfl hl.1 rfl (q_sm q_1n (Nat.le_of_ble_eq_true rfl)) dL_law_228 ⟨by show _ ≤ 601024; omega, by show _ ≤ 7293034; omega⟩) (fun i228 S228 H locs hp228 hV => ?_)
  obtain ⟨e7, e0, hI⟩ := op_give hA hp hp228
  obtain ⟨n2, f2, tm2, P2, hA2⟩ := hI
  have hL_m2 := hA2.2.1.1.1.1
  have hK_m2 := hA2.2.1.1.1.2.1
  refine q_istore (x := i228) (lv' := [(6, .int (i228)), (5, .int (k9)), (4, .int (nI (3 * j))), (3, va_rf (some o9)), (2, va_rf (some m9)), (1, va_rf (some x9)), (0, va_rf (some b))]) C dL_law_231 hl (by decide) (q_k0 (q_kC 0 rfl (by decide) rfl (q_kN 1 rfl (by decide) (by decide) (q_kN 2 rfl (by decide) (by decide) (q_kN 3 rfl (by decide) (by decide) (q_kN 4 rfl (by decide) (by decide) (q_kN 5 rfl (by decide) (by decide) q_kz))))))) (fun ls hl => ?_)
  refine q_aload_n (r := some m9) C dL_law_233 rfl (lv_at hl 4 rfl) ?_
  refine q_ci hV (q_rV (b := m9) (As := []) (rest := []) C hV (c_Model_thrown l (E.o o9 v1) S228 m9 hL_m2 hK_m2) wd_508 wd_505 wd_506 wd_507 wd_44 ok_X6_thrown ⟨rfl, rfl, Nat.le_of_ble_eq_true rfl, Nat.le_of_ble_eq_true rfl⟩ (q_rc5 hV hL_m2 hK_m2) rfl hl.1 rfl (q_sm q_1n (Nat.le_of_ble_eq_true rfl)) dL_law_234 ⟨by show _ ≤ 601024; omega, by show _ ≤ 7293034; omega⟩) (fun i234 S234 H locs hp234 hV => ?_)
  obtain ⟨eS234, hp234⟩ := hp234
  rw [eS234] at hV
  replace hp234 := hp234.trans e7
  subst hp234
  refine lv_iload C.1 C.2.1 dL_law_237 (lv_at hl 1 rfl) ?_
  refine lv_icmp_eq (tgt := 244) C.1 C.2.1 dL_law_239 (by decide) (fun c239 => ?_) (fun c239 => ?_)
  · refine lv_iload C.1 C.2.1 dL_law_244 (lv_at hl 1 rfl) ?_
    refine lv_if_ne (tgt := 261) C.1 C.2.1 dL_law_246 (by decide) (fun c246 => ?_) (fun c246 => ?_)
    · refine lv_goto (tgt := 576) C.1 C.2.1 dL_law_261 (by decide) ?_
      exact kk v1 S228 H locs ls _ _ hV (lv_sub hl [2, 3, 4, 5, 6] rfl) ⟨n2, f2, tm2, P2, hA2⟩ (by omega) (by omega)
    · refine q_aload_n (r := some o9) C dL_law_249 rfl (lv_at hl 3 rfl) ?_
      refine lv_iconst (v := 0) C.1 C.2.1 dL_law_250 (by decide) ?_
      refine q_lald (E := E) C hV dL_law_251 ?_
      refine lv_iload C.1 C.2.1 dL_law_252 (lv_at hl 0 rfl) ?_
      refine lv_i2l C.1 C.2.1 dL_law_254 rfl ?_
      refine W.lcmp C.1 C.2.1 dL_law_255 ?_
      refine lv_if_eq (tgt := 261) C.1 C.2.1 dL_law_256 (by decide) (fun c256 => ?_) (fun c256 => ?_)
      · refine lv_goto (tgt := 576) C.1 C.2.1 dL_law_261 (by decide) ?_
        exact kk v1 S228 H locs ls _ _ hV (lv_sub hl [2, 3, 4, 5, 6] rfl) ⟨n2, f2, tm2, P2, hA2⟩ (by omega) (by omega)
      · exact absurd ((lg_cmp_eq _ _).mpr (e0 c246)) c256
  · exact absurd rfl c239
