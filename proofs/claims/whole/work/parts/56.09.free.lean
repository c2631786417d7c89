set_option maxHeartbeats 4000000 in
set_option maxRecDepth 100000 in
theorem lw_free {p : Program} {e : Env} {s : State} {m : MethodId} {below : List Frame} {meth : Method} {c : Code} (l : Launch) (hl9 : l.stackTraces = false) {b L : Nat} {xs : Nat → Int32} (hL : L ≤ 1536) (C : CallFix p m c cL_law 7 s #[Value.ref b] q_T RL) (hX : va_X b L xs s s.heap) (hbl : b < s.heap.size) (E : qE) (hEA : ∀ q, E.A q ↔ s.heap.size ≤ q) (x9 m9 o9 h ar t sz ti : Nat) (v : Int64) (j cc ss n f tm : Nat) (P : List q_X) (S : qS) (H : Heap) (locs : List Loc) (ls : Array Slot) (hV : q_V (E.o o9 v) s S H locs) (hl : lv_has ls 7 [(4, .int (nI (3 * j))), (3, va_rf (some o9)), (2, va_rf (some m9)), (1, va_rf (some x9)), (0, va_rf (some b))]) (hA : q_ALL S x9 m9 h ar t sz ti n f tm P j) (hj3 : 3 * j + 3 ≤ L) (hcc : cc ≤ 100 + 513 * j) (hss : ss ≤ 40000 + 3591 * j) (kk : (∀ (v1 : Int64) (S2 : qS) (H : Heap) (locs : List Loc) (ls : Array Slot) (cc2 ss2 : Nat), q_V (E.o o9 v1) s S2 H locs → lv_has ls 7 [(4, .int (nI (3 * j))), (3, va_rf (some o9)), (2, va_rf (some m9)), (1, va_rf (some x9)), (0, va_rf (some b))] → q_INV S2 x9 m9 h ar t sz ti (j + 1) → cc2 ≤ cc + 513 → ss2 ≤ ss + 3591 → W p l e room_1 s m #[Value.ref b] below meth c H locs (cc2) (ss2) (lw_Z below #[Value.ref b] s) (F0 m 576 ls []))) : W p l e room_1 s m #[Value.ref b] below meth c H locs (cc) (ss) (lw_Z below #[Value.ref b] s) (F0 m 439 ls []) := by
  have hbA : ¬ E.A b := fun z => absurd ((hEA b).mp z) (by omega)
  have hL31 : L < 2 ^ 31 := by omega
  have hj512 : j < 512 := by omega
  have hA0 := hA
  obtain ⟨⟨ns, rows, hC⟩, hM, hu, hlen, htm9⟩ := hA0
  have hL_x9 := hC.1.1
  have hK_x9 := hC.1.2.1
  have hdt := q_ALL_dt hA
  have hu9 : ∀ x ∈ P, x.2.2.1 = false → 3 ≤ x.2.1 := fun x hx hf => hu x.2 (List.mem_map.mpr ⟨x, hx, rfl⟩) hf
  refine q_aload_n (r := some x9) C dL_law_439 rfl (lv_at hl 3 rfl) ?_
  refine q_aload_n (r := some b) C dL_law_440 rfl (lv_at hl 4 rfl) ?_
  refine lv_iload C.1 C.2.1 dL_law_441 (lv_at hl 0 rfl) ?_
  refine lv_iconst (v := 1) C.1 C.2.1 dL_law_443 (by decide) ?_
  refine lv_iadd C.1 C.2.1 dL_law_444 ?_
  refine q_sld C hV hX hbl hbA hL31 (j := 3 * j + 1) (nI_add (3 * j) 1) (by omega) dL_law_445 ?_
  refine q_aload_n (r := some b) C dL_law_446 rfl (lv_at hl 4 rfl) ?_
  refine lv_iload C.1 C.2.1 dL_law_447 (lv_at hl 0 rfl) ?_
  refine lv_iconst (v := 2) C.1 C.2.1 dL_law_449 (by decide) ?_
  refine lv_iadd C.1 C.2.1 dL_law_450 ?_
  refine q_sld C hV hX hbl hbA hL31 (j := 3 * j + 2) (nI_add (3 * j) 2) (by omega) dL_law_451 ?_
  refine q_aload_n (r := some o9) C dL_law_452 rfl (lv_at hl 1 rfl) ?_
  refine q_cL (E := E) hV (x_rSX (E := E.o o9 v) (As := [va_rf (some x9), .int (xs (3 * j + 1)), .int (xs (3 * j + 2)), va_rf (some o9)]) (rest := []) C hV (c_L_free l E S x9 o9 v (xs (3 * j + 1)) (xs (3 * j + 2)) hL_x9 hK_x9 _ _ (c_Shelf_free l hl9 (E.o o9 v) S x9 h ar t n f tm P ns rows hC (xs (3 * j + 1)) (xs (3 * j + 2)))) wd_432 wd_430 wd_431 wd_38 ok_L_free ⟨rfl, rfl, Nat.le_of_ble_eq_true rfl, Nat.le_of_ble_eq_true rfl⟩ rfl hl.1 rfl (q_sm q_1n (Nat.le_of_ble_eq_true rfl)) dL_law_453 ⟨by show _ ≤ 601024; omega, by show _ ≤ 7293034; omega⟩) (fun k9 v1 S1 H locs hp hV => ?_)
  have hfk : q_fk S S1 := by
    rcases hp with ⟨-, r9, -, h9, -⟩ | ⟨-, -, h9, -⟩
    · have h8 : S1 = S := h9; rw [h8]; exact q_fr_rf
    · have h8 : S1 = S := h9; rw [h8]; exact q_fr_rf
  have hM1 := q_M_fk hM hfk
  have hL_m1 := hM1.1.1.1
  have hK_m1 := hM1.1.1.2.1
  refine q_istore (x := k9) (lv' := [(5, .int (k9)), (4, .int (nI (3 * j))), (3, va_rf (some o9)), (2, va_rf (some m9)), (1, va_rf (some x9)), (0, va_rf (some b))]) C dL_law_456 hl (by decide) (q_k0 (q_kC 0 rfl (by decide) rfl (q_kN 1 rfl (by decide) (by decide) (q_kN 2 rfl (by decide) (by decide) (q_kN 3 rfl (by decide) (by decide) (q_kN 4 rfl (by decide) (by decide) q_kz)))))) (fun ls hl => ?_)
  refine q_aload_n (r := some m9) C dL_law_458 rfl (lv_at hl 3 rfl) ?_
  refine q_aload_n (r := some b) C dL_law_459 rfl (lv_at hl 5 rfl) ?_
  refine lv_iload C.1 C.2.1 dL_law_460 (lv_at hl 1 rfl) ?_
  refine lv_iconst (v := 1) C.1 C.2.1 dL_law_462 (by decide) ?_
  refine lv_iadd C.1 C.2.1 dL_law_463 ?_
  refine q_sld C hV hX hbl hbA hL31 (j := 3 * j + 1) (nI_add (3 * j) 1) (by omega) dL_law_464 ?_
  refine q_aload_n (r := some b) C dL_law_465 rfl (lv_at hl 5 rfl) ?_
  refine lv_iload C.1 C.2.1 dL_law_466 (lv_at hl 1 rfl) ?_
  refine lv_iconst (v := 2) C.1 C.2.1 dL_law_468 (by decide) ?_
  refine lv_iadd C.1 C.2.1 dL_law_469 ?_
  refine q_sld C hV hX hbl hbA hL31 (j := 3 * j + 2) (nI_add (3 * j) 2) (by omega) dL_law_470 ?_
  refine q_ci hV (q_rV (b := m9) (As := [.int (xs (3 * j + 1)), .int (xs (3 * j + 2))]) (rest := []) C hV (c_Model_free l (E.o o9 v1) S1 m9 sz ti n f tm (q_vl P) hM1  (xs (3 * j + 1)) (xs (3 * j + 2))) wd_571 wd_568 wd_569 wd_570 wd_44 ok_X6_free ⟨rfl, rfl, Nat.le_of_ble_eq_true rfl, Nat.le_of_ble_eq_true rfl⟩ (q_rc5 hV hL_m1 hK_m1) rfl hl.1 rfl (q_sm q_1n (Nat.le_of_ble_eq_true rfl)) dL_law_471 ⟨by show _ ≤ 601024; omega, by show _ ≤ 7293034; omega⟩) (fun i471 S471 H locs hp471 hV => ?_)
  obtain ⟨e7, e0, hI⟩ := op_free hA hp hp471
  obtain ⟨n2, f2, tm2, P2, hA2⟩ := hI
  have hL_m2 := hA2.2.1.1.1.1
  have hK_m2 := hA2.2.1.1.1.2.1
  refine q_istore (x := i471) (lv' := [(6, .int (i471)), (5, .int (k9)), (4, .int (nI (3 * j))), (3, va_rf (some o9)), (2, va_rf (some m9)), (1, va_rf (some x9)), (0, va_rf (some b))]) C dL_law_474 hl (by decide) (q_k0 (q_kC 0 rfl (by decide) rfl (q_kN 1 rfl (by decide) (by decide) (q_kN 2 rfl (by decide) (by decide) (q_kN 3 rfl (by decide) (by decide) (q_kN 4 rfl (by decide) (by decide) (q_kN 5 rfl (by decide) (by decide) q_kz))))))) (fun ls hl => ?_)
  refine q_aload_n (r := some m9) C dL_law_476 rfl (lv_at hl 4 rfl) ?_
  refine q_ci hV (q_rV (b := m9) (As := []) (rest := []) C hV (c_Model_thrown l (E.o o9 v1) S471 m9 hL_m2 hK_m2) wd_508 wd_505 wd_506 wd_507 wd_44 ok_X6_thrown ⟨rfl, rfl, Nat.le_of_ble_eq_true rfl, Nat.le_of_ble_eq_true rfl⟩ (q_rc5 hV hL_m2 hK_m2) rfl hl.1 rfl (q_sm q_1n (Nat.le_of_ble_eq_true rfl)) dL_law_477 ⟨by show _ ≤ 601024; omega, by show _ ≤ 7293034; omega⟩) (fun i477 S477 H locs hp477 hV => ?_)
  obtain ⟨eS477, hp477⟩ := hp477
  rw [eS477] at hV
  replace hp477 := hp477.trans e7
  subst hp477
  refine lv_iload C.1 C.2.1 dL_law_480 (lv_at hl 1 rfl) ?_
  refine lv_icmp_eq (tgt := 487) C.1 C.2.1 dL_law_482 (by decide) (fun c482 => ?_) (fun c482 => ?_)
  · refine lv_iload C.1 C.2.1 dL_law_487 (lv_at hl 1 rfl) ?_
    refine lv_if_ne (tgt := 504) C.1 C.2.1 dL_law_489 (by decide) (fun c489 => ?_) (fun c489 => ?_)
    · refine lv_goto (tgt := 576) C.1 C.2.1 dL_law_504 (by decide) ?_
      exact kk v1 S471 H locs ls _ _ hV (lv_sub hl [2, 3, 4, 5, 6] rfl) ⟨n2, f2, tm2, P2, hA2⟩ (by omega) (by omega)
    · refine q_aload_n (r := some o9) C dL_law_492 rfl (lv_at hl 3 rfl) ?_
      refine lv_iconst (v := 0) C.1 C.2.1 dL_law_493 (by decide) ?_
      refine q_lald (E := E) C hV dL_law_494 ?_
      refine lv_iload C.1 C.2.1 dL_law_495 (lv_at hl 0 rfl) ?_
      refine lv_i2l C.1 C.2.1 dL_law_497 rfl ?_
      refine W.lcmp C.1 C.2.1 dL_law_498 ?_
      refine lv_if_eq (tgt := 504) C.1 C.2.1 dL_law_499 (by decide) (fun c499 => ?_) (fun c499 => ?_)
      · refine lv_goto (tgt := 576) C.1 C.2.1 dL_law_504 (by decide) ?_
        exact kk v1 S471 H locs ls _ _ hV (lv_sub hl [2, 3, 4, 5, 6] rfl) ⟨n2, f2, tm2, P2, hA2⟩ (by omega) (by omega)
      · exact absurd ((lg_cmp_eq _ _).mpr (e0 c489)) c499
  · exact absurd rfl c482
