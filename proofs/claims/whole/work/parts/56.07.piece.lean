set_option maxHeartbeats 4000000 in
set_option maxRecDepth 100000 in
theorem lw_piece {p : Program} {e : Env} {s : State} {m : MethodId} {below : List Frame} {meth : Method} {c : Code} (l : Launch) (hl9 : l.stackTraces = false) {b L : Nat} {xs : Nat → Int32} (hL : L ≤ 1536) (C : CallFix p m c cL_law 7 s #[Value.ref b] q_T RL) (hX : va_X b L xs s s.heap) (hbl : b < s.heap.size) (E : qE) (hEA : ∀ q, E.A q ↔ s.heap.size ≤ q) (x9 m9 o9 h ar t sz ti : Nat) (v : Int64) (j cc ss n f tm : Nat) (P : List q_X) (S : qS) (H : Heap) (locs : List Loc) (ls : Array Slot) (hV : q_V (E.o o9 v) s S H locs) (hl : lv_has ls 7 [(4, .int (nI (3 * j))), (3, va_rf (some o9)), (2, va_rf (some m9)), (1, va_rf (some x9)), (0, va_rf (some b))]) (hA : q_ALL S x9 m9 h ar t sz ti n f tm P j) (hj3 : 3 * j + 3 ≤ L) (hcc : cc ≤ 100 + 513 * j) (hss : ss ≤ 40000 + 3591 * j) (kk : (∀ (v1 : Int64) (S2 : qS) (H : Heap) (locs : List Loc) (ls : Array Slot) (cc2 ss2 : Nat), q_V (E.o o9 v1) s S2 H locs → lv_has ls 7 [(4, .int (nI (3 * j))), (3, va_rf (some o9)), (2, va_rf (some m9)), (1, va_rf (some x9)), (0, va_rf (some b))] → q_INV S2 x9 m9 h ar t sz ti (j + 1) → cc2 ≤ cc + 513 → ss2 ≤ ss + 3591 → W p l e room_1 s m #[Value.ref b] below meth c H locs (cc2) (ss2) (lw_Z below #[Value.ref b] s) (F0 m 576 ls []))) : W p l e room_1 s m #[Value.ref b] below meth c H locs (cc) (ss) (lw_Z below #[Value.ref b] s) (F0 m 389 ls []) := by
  have hbA : ¬ E.A b := fun z => absurd ((hEA b).mp z) (by omega)
  have hL31 : L < 2 ^ 31 := by omega
  have hj512 : j < 512 := by omega
  have hA0 := hA
  obtain ⟨⟨ns, rows, hC⟩, hM, hu, hlen, htm9⟩ := hA0
  have hL_x9 := hC.1.1
  have hK_x9 := hC.1.2.1
  have hdt := q_ALL_dt hA
  have hu9 : ∀ x ∈ P, x.2.2.1 = false → 3 ≤ x.2.1 := fun x hx hf => hu x.2 (List.mem_map.mpr ⟨x, hx, rfl⟩) hf
  refine q_aload_n (r := some x9) C dL_law_389 rfl (lv_at hl 3 rfl) ?_
  refine q_aload_n (r := some b) C dL_law_390 rfl (lv_at hl 4 rfl) ?_
  refine lv_iload C.1 C.2.1 dL_law_391 (lv_at hl 0 rfl) ?_
  refine lv_iconst (v := 1) C.1 C.2.1 dL_law_393 (by decide) ?_
  refine lv_iadd C.1 C.2.1 dL_law_394 ?_
  refine q_sld C hV hX hbl hbA hL31 (j := 3 * j + 1) (nI_add (3 * j) 1) (by omega) dL_law_395 ?_
  refine q_ci hV (q_rV (b := x9) (As := [.int (xs (3 * j + 1))]) (rest := []) C hV (c_Shelf_piece l (E.o o9 v) S x9 n P hC.1 hC.2.2.2.2.2.2.2.2.2 (xs (3 * j + 1))) wd_236 wd_233 wd_234 wd_235 wd_39 ok_X5_piece ⟨rfl, rfl, Nat.le_of_ble_eq_true rfl, Nat.le_of_ble_eq_true rfl⟩ (q_rc4 hV hL_x9 hK_x9) rfl hl.1 rfl (q_sm q_1n (Nat.le_of_ble_eq_true rfl)) dL_law_396 ⟨by show _ ≤ 601024; omega, by show _ ≤ 7293034; omega⟩) (fun i396 S396 H locs hp396 hV => ?_)
  obtain ⟨eS396, hp396⟩ := hp396
  rw [eS396] at hV
  have hM1 := hM
  have hL_m1 := hM1.1.1.1
  have hK_m1 := hM1.1.1.2.1
  refine q_aload_n (r := some m9) C dL_law_399 rfl (lv_at hl 2 rfl) ?_
  refine q_aload_n (r := some b) C dL_law_400 rfl (lv_at hl 4 rfl) ?_
  refine lv_iload C.1 C.2.1 dL_law_401 (lv_at hl 0 rfl) ?_
  refine lv_iconst (v := 1) C.1 C.2.1 dL_law_403 (by decide) ?_
  refine lv_iadd C.1 C.2.1 dL_law_404 ?_
  refine q_sld C hV hX hbl hbA hL31 (j := 3 * j + 1) (nI_add (3 * j) 1) (by omega) dL_law_405 ?_
  refine q_ci hV (q_rV (b := m9) (As := [.int (xs (3 * j + 1))]) (rest := [.int (i396)]) C hV (c_Model_piece l (E.o o9 v) S m9 sz ti n f tm (q_vl P) hM1 (xs (3 * j + 1))) wd_563 wd_560 wd_561 wd_562 wd_44 ok_X6_piece ⟨rfl, rfl, Nat.le_of_ble_eq_true rfl, Nat.le_of_ble_eq_true rfl⟩ (q_rc5 hV hL_m1 hK_m1) rfl hl.1 rfl (q_sm (q_1c rfl q_1n) (Nat.le_of_ble_eq_true rfl)) dL_law_406 ⟨by show _ ≤ 601024; omega, by show _ ≤ 7293034; omega⟩) (fun i406 S406 H locs hp406 hV => ?_)
  obtain ⟨e0, hI⟩ := op_piece hA hp396 hp406
  obtain ⟨n2, f2, tm2, P2, hA2⟩ := hI
  refine lv_icmp_eq (tgt := 576) C.1 C.2.1 dL_law_409 (by decide) (fun c409 => ?_) (fun c409 => ?_)
  · exact kk v S406 H locs ls _ _ hV hl ⟨n2, f2, tm2, P2, hA2⟩ (by omega) (by omega)
  · exact absurd e0 c409
