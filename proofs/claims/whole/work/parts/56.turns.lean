set_option maxHeartbeats 4000000 in
set_option maxRecDepth 100000 in
theorem lw_space {p : Program} {e : Env} {s : State} {m : MethodId} {below : List Frame} {meth : Method} {c : Code} (l : Launch) (hl9 : l.stackTraces = false) {b L : Nat} {xs : Nat → Int32} (hL : L ≤ 1536) (C : CallFix p m c cL_law 7 s #[Value.ref b] q_T RL) (hX : va_X b L xs s s.heap) (hbl : b < s.heap.size) (E : qE) (hEA : ∀ q, E.A q ↔ s.heap.size ≤ q) (x9 m9 o9 h ar t sz ti : Nat) (v : Int64) (j cc ss n f tm : Nat) (P : List q_X) (S : qS) (H : Heap) (locs : List Loc) (ls : Array Slot) (hV : q_V (E.o o9 v) s S H locs) (hl : lv_has ls 7 [(4, .int (nI (3 * j))), (3, va_rf (some o9)), (2, va_rf (some m9)), (1, va_rf (some x9)), (0, va_rf (some b))]) (hA : q_ALL S x9 m9 h ar t sz ti n f tm P j) (hj3 : 3 * j + 3 ≤ L) (hcc : cc ≤ 100 + 513 * j) (hss : ss ≤ 40000 + 2052 * j) (kk : (∀ (v1 : Int64) (S2 : qS) (H : Heap) (locs : List Loc) (ls : Array Slot) (cc2 ss2 : Nat), q_V (E.o o9 v1) s S2 H locs → lv_has ls 7 [(4, .int (nI (3 * j))), (3, va_rf (some o9)), (2, va_rf (some m9)), (1, va_rf (some x9)), (0, va_rf (some b))] → q_INV S2 x9 m9 h ar t sz ti (j + 1) → cc2 ≤ cc + 513 → ss2 ≤ ss + 2052 → W p l e room_1 s m #[Value.ref b] below meth c H locs (cc2) (ss2) (lw_Z below #[Value.ref b] s) (F0 m 576 ls []))) : W p l e room_1 s m #[Value.ref b] below meth c H locs (cc) (ss) (lw_Z below #[Value.ref b] s) (F0 m 96 ls []) := by
  have hbA : ¬ E.A b := fun z => absurd ((hEA b).mp z) (by omega)
  have hL31 : L < 2 ^ 31 := by omega
  have hj512 : j < 512 := by omega
  have hA0 := hA
  obtain ⟨⟨ns, rows, hC⟩, hM, hu, hlen, htm9⟩ := hA0
  have hL_x9 := hC.1.1
  have hK_x9 := hC.1.2.1
  have hdt := q_ALL_dt hA
  have hu9 : ∀ x ∈ P, x.2.2.1 = false → 3 ≤ x.2.1 := fun x hx hf => hu x.2 (List.mem_map.mpr ⟨x, hx, rfl⟩) hf
  refine q_aload_n (r := some x9) C dL_law_96 rfl (lv_at hl 3 rfl) ?_
  refine q_aload_n (r := some b) C dL_law_97 rfl (lv_at hl 4 rfl) ?_
  refine lv_iload C.1 C.2.1 dL_law_98 (lv_at hl 0 rfl) ?_
  refine lv_iconst (v := 1) C.1 C.2.1 dL_law_100 (by decide) ?_
  refine lv_iadd C.1 C.2.1 dL_law_101 ?_
  refine q_sld C hV hX hbl hbA hL31 (j := 3 * j + 1) (nI_add (3 * j) 1) (by omega) dL_law_102 ?_
  refine q_aload_n (r := some o9) C dL_law_103 rfl (lv_at hl 1 rfl) ?_
  refine q_cL (E := E) hV (x_rSX (E := E.o o9 v) (As := [va_rf (some x9), .int (xs (3 * j + 1)), va_rf (some o9)]) (rest := []) C hV (c_L_space l E S x9 o9 v (xs (3 * j + 1)) hL_x9 hK_x9 _ _ (c_Shelf_space l hl9 (E.o o9 v) S x9 h ar t n f tm P ns rows hC (by omega) (xs (3 * j + 1)))) wd_258 wd_256 wd_257 wd_36 ok_L_space ⟨rfl, rfl, Nat.le_of_ble_eq_true rfl, Nat.le_of_ble_eq_true rfl⟩ rfl hl.1 rfl (q_sm q_1n (Nat.le_of_ble_eq_true rfl)) dL_law_104 ⟨by show _ ≤ 601024; omega, by show _ ≤ 7293033; omega⟩) (fun k9 v1 S1 H locs hp hV => ?_)
  have hfk : q_fk S S1 := by
    rcases hp with ⟨-, r9, -, -, -, q9, -, h9⟩ | ⟨-, -, h9, -⟩
    · exact h9
    · rw [h9]; exact q_fr_rf
  have hM1 := q_M_fk hM hfk
  have hL_m1 := hM1.1.1.1
  have hK_m1 := hM1.1.1.2.1
  refine q_istore (x := k9) (lv' := [(5, .int (k9)), (4, .int (nI (3 * j))), (3, va_rf (some o9)), (2, va_rf (some m9)), (1, va_rf (some x9)), (0, va_rf (some b))]) C dL_law_107 hl (by decide) (q_k0 (q_kC 0 rfl (by decide) rfl (q_kN 1 rfl (by decide) (by decide) (q_kN 2 rfl (by decide) (by decide) (q_kN 3 rfl (by decide) (by decide) (q_kN 4 rfl (by decide) (by decide) q_kz)))))) (fun ls hl => ?_)
  refine q_aload_n (r := some m9) C dL_law_109 rfl (lv_at hl 3 rfl) ?_
  refine q_aload_n (r := some b) C dL_law_110 rfl (lv_at hl 5 rfl) ?_
  refine lv_iload C.1 C.2.1 dL_law_111 (lv_at hl 1 rfl) ?_
  refine lv_iconst (v := 1) C.1 C.2.1 dL_law_113 (by decide) ?_
  refine lv_iadd C.1 C.2.1 dL_law_114 ?_
  refine q_sld C hV hX hbl hbA hL31 (j := 3 * j + 1) (nI_add (3 * j) 1) (by omega) dL_law_115 ?_
  refine q_ci hV (q_rV (b := m9) (As := [.int (xs (3 * j + 1))]) (rest := []) C hV (c_Model_space l (E.o o9 v1) S1 m9 sz ti n f tm (q_vl P) hM1 (by omega) (xs (3 * j + 1))) wd_474 wd_471 wd_472 wd_473 wd_42 ok_X5_space ⟨rfl, rfl, Nat.le_of_ble_eq_true rfl, Nat.le_of_ble_eq_true rfl⟩ (q_rc5 hV hL_m1 hK_m1) rfl hl.1 rfl (q_sm q_1n (Nat.le_of_ble_eq_true rfl)) dL_law_116 ⟨by show _ ≤ 601024; omega, by show _ ≤ 7293033; omega⟩) (fun i116 S116 H locs hp116 hV => ?_)
  obtain ⟨e7, e0, hI⟩ := op_space hA hp hp116
  obtain ⟨n2, f2, tm2, P2, hA2⟩ := hI
  have hL_m2 := hA2.2.1.1.1.1
  have hK_m2 := hA2.2.1.1.1.2.1
  refine q_istore (x := i116) (lv' := [(6, .int (i116)), (5, .int (k9)), (4, .int (nI (3 * j))), (3, va_rf (some o9)), (2, va_rf (some m9)), (1, va_rf (some x9)), (0, va_rf (some b))]) C dL_law_119 hl (by decide) (q_k0 (q_kC 0 rfl (by decide) rfl (q_kN 1 rfl (by decide) (by decide) (q_kN 2 rfl (by decide) (by decide) (q_kN 3 rfl (by decide) (by decide) (q_kN 4 rfl (by decide) (by decide) (q_kN 5 rfl (by decide) (by decide) q_kz))))))) (fun ls hl => ?_)
  refine q_aload_n (r := some m9) C dL_law_121 rfl (lv_at hl 4 rfl) ?_
  refine q_ci hV (q_rV (b := m9) (As := []) (rest := []) C hV (c_Model_thrown l (E.o o9 v1) S116 m9 hL_m2 hK_m2) wd_470 wd_467 wd_468 wd_469 wd_42 ok_X5_thrown ⟨rfl, rfl, Nat.le_of_ble_eq_true rfl, Nat.le_of_ble_eq_true rfl⟩ (q_rc5 hV hL_m2 hK_m2) rfl hl.1 rfl (q_sm q_1n (Nat.le_of_ble_eq_true rfl)) dL_law_122 ⟨by show _ ≤ 601024; omega, by show _ ≤ 7293033; omega⟩) (fun i122 S122 H locs hp122 hV => ?_)
  obtain ⟨eS122, hp122⟩ := hp122
  rw [eS122] at hV
  replace hp122 := hp122.trans e7
  subst hp122
  refine lv_iload C.1 C.2.1 dL_law_125 (lv_at hl 1 rfl) ?_
  refine lv_icmp_eq (tgt := 132) C.1 C.2.1 dL_law_127 (by decide) (fun c127 => ?_) (fun c127 => ?_)
  · refine lv_iload C.1 C.2.1 dL_law_132 (lv_at hl 1 rfl) ?_
    refine lv_if_ne (tgt := 149) C.1 C.2.1 dL_law_134 (by decide) (fun c134 => ?_) (fun c134 => ?_)
    · refine lv_goto (tgt := 576) C.1 C.2.1 dL_law_149 (by decide) ?_
      exact kk v1 S116 H locs ls _ _ hV (lv_sub hl [2, 3, 4, 5, 6] rfl) ⟨n2, f2, tm2, P2, hA2⟩ (by omega) (by omega)
    · refine q_aload_n (r := some o9) C dL_law_137 rfl (lv_at hl 3 rfl) ?_
      refine lv_iconst (v := 0) C.1 C.2.1 dL_law_138 (by decide) ?_
      refine q_lald (E := E) C hV dL_law_139 ?_
      refine lv_iload C.1 C.2.1 dL_law_140 (lv_at hl 0 rfl) ?_
      refine lv_i2l C.1 C.2.1 dL_law_142 rfl ?_
      refine W.lcmp C.1 C.2.1 dL_law_143 ?_
      refine lv_if_eq (tgt := 149) C.1 C.2.1 dL_law_144 (by decide) (fun c144 => ?_) (fun c144 => ?_)
      · refine lv_goto (tgt := 576) C.1 C.2.1 dL_law_149 (by decide) ?_
        exact kk v1 S116 H locs ls _ _ hV (lv_sub hl [2, 3, 4, 5, 6] rfl) ⟨n2, f2, tm2, P2, hA2⟩ (by omega) (by omega)
      · exact absurd ((lg_cmp_eq _ _).mpr (e0 c134)) c144
  · exact absurd rfl c127
set_option maxHeartbeats 4000000 in
set_option maxRecDepth 100000 in
theorem lw_take {p : Program} {e : Env} {s : State} {m : MethodId} {below : List Frame} {meth : Method} {c : Code} (l : Launch) (hl9 : l.stackTraces = false) {b L : Nat} {xs : Nat → Int32} (hL : L ≤ 1536) (C : CallFix p m c cL_law 7 s #[Value.ref b] q_T RL) (hX : va_X b L xs s s.heap) (hbl : b < s.heap.size) (E : qE) (hEA : ∀ q, E.A q ↔ s.heap.size ≤ q) (x9 m9 o9 h ar t sz ti : Nat) (v : Int64) (j cc ss n f tm : Nat) (P : List q_X) (S : qS) (H : Heap) (locs : List Loc) (ls : Array Slot) (hV : q_V (E.o o9 v) s S H locs) (hl : lv_has ls 7 [(4, .int (nI (3 * j))), (3, va_rf (some o9)), (2, va_rf (some m9)), (1, va_rf (some x9)), (0, va_rf (some b))]) (hA : q_ALL S x9 m9 h ar t sz ti n f tm P j) (hj3 : 3 * j + 3 ≤ L) (hcc : cc ≤ 100 + 513 * j) (hss : ss ≤ 40000 + 2052 * j) (kk : (∀ (v1 : Int64) (S2 : qS) (H : Heap) (locs : List Loc) (ls : Array Slot) (cc2 ss2 : Nat), q_V (E.o o9 v1) s S2 H locs → lv_has ls 7 [(4, .int (nI (3 * j))), (3, va_rf (some o9)), (2, va_rf (some m9)), (1, va_rf (some x9)), (0, va_rf (some b))] → q_INV S2 x9 m9 h ar t sz ti (j + 1) → cc2 ≤ cc + 513 → ss2 ≤ ss + 2052 → W p l e room_1 s m #[Value.ref b] below meth c H locs (cc2) (ss2) (lw_Z below #[Value.ref b] s) (F0 m 576 ls []))) : W p l e room_1 s m #[Value.ref b] below meth c H locs (cc) (ss) (lw_Z below #[Value.ref b] s) (F0 m 152 ls []) := by
  have hbA : ¬ E.A b := fun z => absurd ((hEA b).mp z) (by omega)
  have hL31 : L < 2 ^ 31 := by omega
  have hj512 : j < 512 := by omega
  have hA0 := hA
  obtain ⟨⟨ns, rows, hC⟩, hM, hu, hlen, htm9⟩ := hA0
  have hL_x9 := hC.1.1
  have hK_x9 := hC.1.2.1
  have hdt := q_ALL_dt hA
  have hu9 : ∀ x ∈ P, x.2.2.1 = false → 3 ≤ x.2.1 := fun x hx hf => hu x.2 (List.mem_map.mpr ⟨x, hx, rfl⟩) hf
  refine q_aload_n (r := some x9) C dL_law_152 rfl (lv_at hl 3 rfl) ?_
  refine q_aload_n (r := some b) C dL_law_153 rfl (lv_at hl 4 rfl) ?_
  refine lv_iload C.1 C.2.1 dL_law_154 (lv_at hl 0 rfl) ?_
  refine lv_iconst (v := 1) C.1 C.2.1 dL_law_156 (by decide) ?_
  refine lv_iadd C.1 C.2.1 dL_law_157 ?_
  refine q_sld C hV hX hbl hbA hL31 (j := 3 * j + 1) (nI_add (3 * j) 1) (by omega) dL_law_158 ?_
  refine q_aload_n (r := some o9) C dL_law_159 rfl (lv_at hl 1 rfl) ?_
  refine q_cL (E := E) hV (x_rSX (E := E.o o9 v) (As := [va_rf (some x9), .int (xs (3 * j + 1)), va_rf (some o9)]) (rest := []) C hV (c_L_take l E S x9 o9 v (xs (3 * j + 1)) hL_x9 hK_x9 _ _ (c_Shelf_take l hl9 (E.o o9 v) S x9 h ar t n f tm P ns rows hC (by omega) (xs (3 * j + 1)))) wd_333 wd_331 wd_332 wd_36 ok_L_take ⟨rfl, rfl, Nat.le_of_ble_eq_true rfl, Nat.le_of_ble_eq_true rfl⟩ rfl hl.1 rfl (q_sm q_1n (Nat.le_of_ble_eq_true rfl)) dL_law_160 ⟨by show _ ≤ 601024; omega, by show _ ≤ 7293033; omega⟩) (fun k9 v1 S1 H locs hp hV => ?_)
  have hfk : q_fk S S1 := by
    rcases hp with ⟨-, r9, -, -, h9, -⟩ | ⟨-, -, h9, -⟩
    · exact h9
    · rw [h9]; exact q_fr_rf
  have hM1 := q_M_fk hM hfk
  have hL_m1 := hM1.1.1.1
  have hK_m1 := hM1.1.1.2.1
  refine q_istore (x := k9) (lv' := [(5, .int (k9)), (4, .int (nI (3 * j))), (3, va_rf (some o9)), (2, va_rf (some m9)), (1, va_rf (some x9)), (0, va_rf (some b))]) C dL_law_163 hl (by decide) (q_k0 (q_kC 0 rfl (by decide) rfl (q_kN 1 rfl (by decide) (by decide) (q_kN 2 rfl (by decide) (by decide) (q_kN 3 rfl (by decide) (by decide) (q_kN 4 rfl (by decide) (by decide) q_kz)))))) (fun ls hl => ?_)
  refine q_aload_n (r := some m9) C dL_law_165 rfl (lv_at hl 3 rfl) ?_
  refine q_aload_n (r := some b) C dL_law_166 rfl (lv_at hl 5 rfl) ?_
  refine lv_iload C.1 C.2.1 dL_law_167 (lv_at hl 1 rfl) ?_
  refine lv_iconst (v := 1) C.1 C.2.1 dL_law_169 (by decide) ?_
  refine lv_iadd C.1 C.2.1 dL_law_170 ?_
  refine q_sld C hV hX hbl hbA hL31 (j := 3 * j + 1) (nI_add (3 * j) 1) (by omega) dL_law_171 ?_
  refine q_ci hV (q_rV (b := m9) (As := [.int (xs (3 * j + 1))]) (rest := []) C hV (c_Model_take l (E.o o9 v1) S1 m9 sz ti n f tm (q_vl P) hM1 hdt (by omega) (xs (3 * j + 1))) wd_486 wd_483 wd_484 wd_485 wd_42 ok_X5_take ⟨rfl, rfl, Nat.le_of_ble_eq_true rfl, Nat.le_of_ble_eq_true rfl⟩ (q_rc5 hV hL_m1 hK_m1) rfl hl.1 rfl (q_sm q_1n (Nat.le_of_ble_eq_true rfl)) dL_law_172 ⟨by show _ ≤ 601024; omega, by show _ ≤ 7293033; omega⟩) (fun i172 S172 H locs hp172 hV => ?_)
  obtain ⟨e7, e0, hI⟩ := op_take hA hp hp172
  obtain ⟨n2, f2, tm2, P2, hA2⟩ := hI
  have hL_m2 := hA2.2.1.1.1.1
  have hK_m2 := hA2.2.1.1.1.2.1
  refine q_istore (x := i172) (lv' := [(6, .int (i172)), (5, .int (k9)), (4, .int (nI (3 * j))), (3, va_rf (some o9)), (2, va_rf (some m9)), (1, va_rf (some x9)), (0, va_rf (some b))]) C dL_law_175 hl (by decide) (q_k0 (q_kC 0 rfl (by decide) rfl (q_kN 1 rfl (by decide) (by decide) (q_kN 2 rfl (by decide) (by decide) (q_kN 3 rfl (by decide) (by decide) (q_kN 4 rfl (by decide) (by decide) (q_kN 5 rfl (by decide) (by decide) q_kz))))))) (fun ls hl => ?_)
  refine q_aload_n (r := some m9) C dL_law_177 rfl (lv_at hl 4 rfl) ?_
  refine q_ci hV (q_rV (b := m9) (As := []) (rest := []) C hV (c_Model_thrown l (E.o o9 v1) S172 m9 hL_m2 hK_m2) wd_470 wd_467 wd_468 wd_469 wd_42 ok_X5_thrown ⟨rfl, rfl, Nat.le_of_ble_eq_true rfl, Nat.le_of_ble_eq_true rfl⟩ (q_rc5 hV hL_m2 hK_m2) rfl hl.1 rfl (q_sm q_1n (Nat.le_of_ble_eq_true rfl)) dL_law_178 ⟨by show _ ≤ 601024; omega, by show _ ≤ 7293033; omega⟩) (fun i178 S178 H locs hp178 hV => ?_)
  obtain ⟨eS178, hp178⟩ := hp178
  rw [eS178] at hV
  replace hp178 := hp178.trans e7
  subst hp178
  refine lv_iload C.1 C.2.1 dL_law_181 (lv_at hl 1 rfl) ?_
  refine lv_icmp_eq (tgt := 188) C.1 C.2.1 dL_law_183 (by decide) (fun c183 => ?_) (fun c183 => ?_)
  · refine lv_iload C.1 C.2.1 dL_law_188 (lv_at hl 1 rfl) ?_
    refine lv_if_ne (tgt := 205) C.1 C.2.1 dL_law_190 (by decide) (fun c190 => ?_) (fun c190 => ?_)
    · refine lv_goto (tgt := 576) C.1 C.2.1 dL_law_205 (by decide) ?_
      exact kk v1 S172 H locs ls _ _ hV (lv_sub hl [2, 3, 4, 5, 6] rfl) ⟨n2, f2, tm2, P2, hA2⟩ (by omega) (by omega)
    · refine q_aload_n (r := some o9) C dL_law_193 rfl (lv_at hl 3 rfl) ?_
      refine lv_iconst (v := 0) C.1 C.2.1 dL_law_194 (by decide) ?_
      refine q_lald (E := E) C hV dL_law_195 ?_
      refine lv_iload C.1 C.2.1 dL_law_196 (lv_at hl 0 rfl) ?_
      refine lv_i2l C.1 C.2.1 dL_law_198 rfl ?_
      refine W.lcmp C.1 C.2.1 dL_law_199 ?_
      refine lv_if_eq (tgt := 205) C.1 C.2.1 dL_law_200 (by decide) (fun c200 => ?_) (fun c200 => ?_)
      · refine lv_goto (tgt := 576) C.1 C.2.1 dL_law_205 (by decide) ?_
        exact kk v1 S172 H locs ls _ _ hV (lv_sub hl [2, 3, 4, 5, 6] rfl) ⟨n2, f2, tm2, P2, hA2⟩ (by omega) (by omega)
      · exact absurd ((lg_cmp_eq _ _).mpr (e0 c190)) c200
  · exact absurd rfl c183
set_option maxHeartbeats 4000000 in
set_option maxRecDepth 100000 in
theorem lw_give {p : Program} {e : Env} {s : State} {m : MethodId} {below : List Frame} {meth : Method} {c : Code} (l : Launch) (hl9 : l.stackTraces = false) {b L : Nat} {xs : Nat → Int32} (hL : L ≤ 1536) (C : CallFix p m c cL_law 7 s #[Value.ref b] q_T RL) (hX : va_X b L xs s s.heap) (hbl : b < s.heap.size) (E : qE) (hEA : ∀ q, E.A q ↔ s.heap.size ≤ q) (x9 m9 o9 h ar t sz ti : Nat) (v : Int64) (j cc ss n f tm : Nat) (P : List q_X) (S : qS) (H : Heap) (locs : List Loc) (ls : Array Slot) (hV : q_V (E.o o9 v) s S H locs) (hl : lv_has ls 7 [(4, .int (nI (3 * j))), (3, va_rf (some o9)), (2, va_rf (some m9)), (1, va_rf (some x9)), (0, va_rf (some b))]) (hA : q_ALL S x9 m9 h ar t sz ti n f tm P j) (hj3 : 3 * j + 3 ≤ L) (hcc : cc ≤ 100 + 513 * j) (hss : ss ≤ 40000 + 2052 * j) (kk : (∀ (v1 : Int64) (S2 : qS) (H : Heap) (locs : List Loc) (ls : Array Slot) (cc2 ss2 : Nat), q_V (E.o o9 v1) s S2 H locs → lv_has ls 7 [(4, .int (nI (3 * j))), (3, va_rf (some o9)), (2, va_rf (some m9)), (1, va_rf (some x9)), (0, va_rf (some b))] → q_INV S2 x9 m9 h ar t sz ti (j + 1) → cc2 ≤ cc + 513 → ss2 ≤ ss + 2052 → W p l e room_1 s m #[Value.ref b] below meth c H locs (cc2) (ss2) (lw_Z below #[Value.ref b] s) (F0 m 576 ls []))) : W p l e room_1 s m #[Value.ref b] below meth c H locs (cc) (ss) (lw_Z below #[Value.ref b] s) (F0 m 208 ls []) := by
  have hbA : ¬ E.A b := fun z => absurd ((hEA b).mp z) (by omega)
  have hL31 : L < 2 ^ 31 := by omega
  have hj512 : j < 512 := by omega
  have hA0 := hA
  obtain ⟨⟨ns, rows, hC⟩, hM, hu, hlen, htm9⟩ := hA0
  have hL_x9 := hC.1.1
  have hK_x9 := hC.1.2.1
  have hdt := q_ALL_dt hA
  have hu9 : ∀ x ∈ P, x.2.2.1 = false → 3 ≤ x.2.1 := fun x hx hf => hu x.2 (List.mem_map.mpr ⟨x, hx, rfl⟩) hf
  refine q_aload_n (r := some x9) C dL_law_208 rfl (lv_at hl 3 rfl) ?_
  refine q_aload_n (r := some b) C dL_law_209 rfl (lv_at hl 4 rfl) ?_
  refine lv_iload C.1 C.2.1 dL_law_210 (lv_at hl 0 rfl) ?_
  refine lv_iconst (v := 1) C.1 C.2.1 dL_law_212 (by decide) ?_
  refine lv_iadd C.1 C.2.1 dL_law_213 ?_
  refine q_sld C hV hX hbl hbA hL31 (j := 3 * j + 1) (nI_add (3 * j) 1) (by omega) dL_law_214 ?_
  refine q_aload_n (r := some o9) C dL_law_215 rfl (lv_at hl 1 rfl) ?_
  refine q_cL (E := E) hV (x_rSX (E := E.o o9 v) (As := [va_rf (some x9), .int (xs (3 * j + 1)), va_rf (some o9)]) (rest := []) C hV (c_L_give l E S x9 o9 v (xs (3 * j + 1)) hL_x9 hK_x9 _ _ (c_Shelf_give l hl9 (E.o o9 v) S x9 h ar t n f tm P ns rows hC (by omega) (xs (3 * j + 1)))) wd_355 wd_353 wd_354 wd_36 ok_L_give ⟨rfl, rfl, Nat.le_of_ble_eq_true rfl, Nat.le_of_ble_eq_true rfl⟩ rfl hl.1 rfl (q_sm q_1n (Nat.le_of_ble_eq_true rfl)) dL_law_216 ⟨by show _ ≤ 601024; omega, by show _ ≤ 7293033; omega⟩) (fun k9 v1 S1 H locs hp hV => ?_)
  have hfk : q_fk S S1 := by
    rcases hp with ⟨-, r9, -, A9, x9, B9, -, -, -, -, -, h9⟩ | ⟨-, -, h9, -⟩
    · exact h9
    · rw [h9]; exact q_fr_rf
  have hM1 := q_M_fk hM hfk
  have hL_m1 := hM1.1.1.1
  have hK_m1 := hM1.1.1.2.1
  refine q_istore (x := k9) (lv' := [(5, .int (k9)), (4, .int (nI (3 * j))), (3, va_rf (some o9)), (2, va_rf (some m9)), (1, va_rf (some x9)), (0, va_rf (some b))]) C dL_law_219 hl (by decide) (q_k0 (q_kC 0 rfl (by decide) rfl (q_kN 1 rfl (by decide) (by decide) (q_kN 2 rfl (by decide) (by decide) (q_kN 3 rfl (by decide) (by decide) (q_kN 4 rfl (by decide) (by decide) q_kz)))))) (fun ls hl => ?_)
  refine q_aload_n (r := some m9) C dL_law_221 rfl (lv_at hl 3 rfl) ?_
  refine q_aload_n (r := some b) C dL_law_222 rfl (lv_at hl 5 rfl) ?_
  refine lv_iload C.1 C.2.1 dL_law_223 (lv_at hl 1 rfl) ?_
  refine lv_iconst (v := 1) C.1 C.2.1 dL_law_225 (by decide) ?_
  refine lv_iadd C.1 C.2.1 dL_law_226 ?_
  refine q_sld C hV hX hbl hbA hL31 (j := 3 * j + 1) (nI_add (3 * j) 1) (by omega) dL_law_227 ?_
  refine q_ci hV (q_rV (b := m9) (As := [.int (xs (3 * j + 1))]) (rest := []) C hV (c_Model_give l (E.o o9 v1) S1 m9 sz ti n f tm (q_vl P) hM1 (by omega) (xs (3 * j + 1))) wd_501 wd_498 wd_499 wd_500 wd_42 ok_X5_give ⟨rfl, rfl, Nat.le_of_ble_eq_true rfl, Nat.le_of_ble_eq_true rfl⟩ (q_rc5 hV hL_m1 hK_m1) rfl hl.1 rfl (q_sm q_1n (Nat.le_of_ble_eq_true rfl)) dL_law_228 ⟨by show _ ≤ 601024; omega, by show _ ≤ 7293033; omega⟩) (fun i228 S228 H locs hp228 hV => ?_)
  obtain ⟨e7, e0, hI⟩ := op_give hA hp hp228
  obtain ⟨n2, f2, tm2, P2, hA2⟩ := hI
  have hL_m2 := hA2.2.1.1.1.1
  have hK_m2 := hA2.2.1.1.1.2.1
  refine q_istore (x := i228) (lv' := [(6, .int (i228)), (5, .int (k9)), (4, .int (nI (3 * j))), (3, va_rf (some o9)), (2, va_rf (some m9)), (1, va_rf (some x9)), (0, va_rf (some b))]) C dL_law_231 hl (by decide) (q_k0 (q_kC 0 rfl (by decide) rfl (q_kN 1 rfl (by decide) (by decide) (q_kN 2 rfl (by decide) (by decide) (q_kN 3 rfl (by decide) (by decide) (q_kN 4 rfl (by decide) (by decide) (q_kN 5 rfl (by decide) (by decide) q_kz))))))) (fun ls hl => ?_)
  refine q_aload_n (r := some m9) C dL_law_233 rfl (lv_at hl 4 rfl) ?_
  refine q_ci hV (q_rV (b := m9) (As := []) (rest := []) C hV (c_Model_thrown l (E.o o9 v1) S228 m9 hL_m2 hK_m2) wd_470 wd_467 wd_468 wd_469 wd_42 ok_X5_thrown ⟨rfl, rfl, Nat.le_of_ble_eq_true rfl, Nat.le_of_ble_eq_true rfl⟩ (q_rc5 hV hL_m2 hK_m2) rfl hl.1 rfl (q_sm q_1n (Nat.le_of_ble_eq_true rfl)) dL_law_234 ⟨by show _ ≤ 601024; omega, by show _ ≤ 7293033; omega⟩) (fun i234 S234 H locs hp234 hV => ?_)
  obtain ⟨eS234, hp234⟩ := hp234
  rw [eS234] at hV
  replace hp234 := hp234.trans e7
  subst hp234
  refine lv_iload C.1 C.2.1 dL_law_237 (lv_at hl 1 rfl) ?_
  refine lv_icmp_eq (tgt := 244) C.1 C.2.1 dL_law_239 (by decide) (fun c239 => ?_) (fun c239 => ?_)
  · refine lv_iload C.1 C.2.1 dL_law_244 (lv_at hl 1 rfl) ?_
    refine lv_if_ne (tgt := 261) C.1 C.2.1 dL_law_246 (by decide) (fun c246 => ?_) (fun c246 => ?_)
    · refine lv_goto (tgt := 576) C.1 C.2.1 dL_law_261 (by decide) ?_
      exact kk v1 S228 H locs ls _ _ hV (lv_sub hl [2, 3, 4, 5, 6] rfl) ⟨n2, f2, tm2, P2, hA2⟩ (by omega) (by omega)
    · refine q_aload_n (r := some o9) C dL_law_249 rfl (lv_at hl 3 rfl) ?_
      refine lv_iconst (v := 0) C.1 C.2.1 dL_law_250 (by decide) ?_
      refine q_lald (E := E) C hV dL_law_251 ?_
      refine lv_iload C.1 C.2.1 dL_law_252 (lv_at hl 0 rfl) ?_
      refine lv_i2l C.1 C.2.1 dL_law_254 rfl ?_
      refine W.lcmp C.1 C.2.1 dL_law_255 ?_
      refine lv_if_eq (tgt := 261) C.1 C.2.1 dL_law_256 (by decide) (fun c256 => ?_) (fun c256 => ?_)
      · refine lv_goto (tgt := 576) C.1 C.2.1 dL_law_261 (by decide) ?_
        exact kk v1 S228 H locs ls _ _ hV (lv_sub hl [2, 3, 4, 5, 6] rfl) ⟨n2, f2, tm2, P2, hA2⟩ (by omega) (by omega)
      · exact absurd ((lg_cmp_eq _ _).mpr (e0 c246)) c256
  · exact absurd rfl c239
set_option maxHeartbeats 4000000 in
set_option maxRecDepth 100000 in
theorem lw_join {p : Program} {e : Env} {s : State} {m : MethodId} {below : List Frame} {meth : Method} {c : Code} (l : Launch) (hl9 : l.stackTraces = false) {b L : Nat} {xs : Nat → Int32} (hL : L ≤ 1536) (C : CallFix p m c cL_law 7 s #[Value.ref b] q_T RL) (hX : va_X b L xs s s.heap) (hbl : b < s.heap.size) (E : qE) (hEA : ∀ q, E.A q ↔ s.heap.size ≤ q) (x9 m9 o9 h ar t sz ti : Nat) (v : Int64) (j cc ss n f tm : Nat) (P : List q_X) (S : qS) (H : Heap) (locs : List Loc) (ls : Array Slot) (hV : q_V (E.o o9 v) s S H locs) (hl : lv_has ls 7 [(4, .int (nI (3 * j))), (3, va_rf (some o9)), (2, va_rf (some m9)), (1, va_rf (some x9)), (0, va_rf (some b))]) (hA : q_ALL S x9 m9 h ar t sz ti n f tm P j) (hj3 : 3 * j + 3 ≤ L) (hcc : cc ≤ 100 + 513 * j) (hss : ss ≤ 40000 + 2052 * j) (kk : (∀ (v1 : Int64) (S2 : qS) (H : Heap) (locs : List Loc) (ls : Array Slot) (cc2 ss2 : Nat), q_V (E.o o9 v1) s S2 H locs → lv_has ls 7 [(4, .int (nI (3 * j))), (3, va_rf (some o9)), (2, va_rf (some m9)), (1, va_rf (some x9)), (0, va_rf (some b))] → q_INV S2 x9 m9 h ar t sz ti (j + 1) → cc2 ≤ cc + 513 → ss2 ≤ ss + 2052 → W p l e room_1 s m #[Value.ref b] below meth c H locs (cc2) (ss2) (lw_Z below #[Value.ref b] s) (F0 m 576 ls []))) : W p l e room_1 s m #[Value.ref b] below meth c H locs (cc) (ss) (lw_Z below #[Value.ref b] s) (F0 m 264 ls []) := by
  have hbA : ¬ E.A b := fun z => absurd ((hEA b).mp z) (by omega)
  have hL31 : L < 2 ^ 31 := by omega
  have hj512 : j < 512 := by omega
  have hA0 := hA
  obtain ⟨⟨ns, rows, hC⟩, hM, hu, hlen, htm9⟩ := hA0
  have hL_x9 := hC.1.1
  have hK_x9 := hC.1.2.1
  have hdt := q_ALL_dt hA
  have hu9 : ∀ x ∈ P, x.2.2.1 = false → 3 ≤ x.2.1 := fun x hx hf => hu x.2 (List.mem_map.mpr ⟨x, hx, rfl⟩) hf
  refine q_aload_n (r := some x9) C dL_law_264 rfl (lv_at hl 3 rfl) ?_
  refine q_aload_n (r := some b) C dL_law_265 rfl (lv_at hl 4 rfl) ?_
  refine lv_iload C.1 C.2.1 dL_law_266 (lv_at hl 0 rfl) ?_
  refine lv_iconst (v := 1) C.1 C.2.1 dL_law_268 (by decide) ?_
  refine lv_iadd C.1 C.2.1 dL_law_269 ?_
  refine q_sld C hV hX hbl hbA hL31 (j := 3 * j + 1) (nI_add (3 * j) 1) (by omega) dL_law_270 ?_
  refine q_aload_n (r := some o9) C dL_law_271 rfl (lv_at hl 1 rfl) ?_
  refine q_cL (E := E) hV (x_rSX (E := E.o o9 v) (As := [va_rf (some x9), .int (xs (3 * j + 1)), va_rf (some o9)]) (rest := []) C hV (c_L_join l E S x9 o9 v (xs (3 * j + 1)) hL_x9 hK_x9 _ _ (c_Shelf_join l hl9 (E.o o9 v) S x9 h ar t n f tm P ns rows hC (by omega) (xs (3 * j + 1)))) wd_379 wd_377 wd_378 wd_36 ok_L_join ⟨rfl, rfl, Nat.le_of_ble_eq_true rfl, Nat.le_of_ble_eq_true rfl⟩ rfl hl.1 rfl (q_sm q_1n (Nat.le_of_ble_eq_true rfl)) dL_law_272 ⟨by show _ ≤ 601024; omega, by show _ ≤ 7293033; omega⟩) (fun k9 v1 S1 H locs hp hV => ?_)
  have hfk : q_fk S S1 := by
    rcases hp with ⟨-, r9, -, A9, x9, B9, -, -, -, -, -, h9⟩ | ⟨-, -, h9, -⟩
    · exact h9
    · rw [h9]; exact q_fr_rf
  have hM1 := q_M_fk hM hfk
  have hL_m1 := hM1.1.1.1
  have hK_m1 := hM1.1.1.2.1
  refine q_istore (x := k9) (lv' := [(5, .int (k9)), (4, .int (nI (3 * j))), (3, va_rf (some o9)), (2, va_rf (some m9)), (1, va_rf (some x9)), (0, va_rf (some b))]) C dL_law_275 hl (by decide) (q_k0 (q_kC 0 rfl (by decide) rfl (q_kN 1 rfl (by decide) (by decide) (q_kN 2 rfl (by decide) (by decide) (q_kN 3 rfl (by decide) (by decide) (q_kN 4 rfl (by decide) (by decide) q_kz)))))) (fun ls hl => ?_)
  refine q_aload_n (r := some m9) C dL_law_277 rfl (lv_at hl 3 rfl) ?_
  refine q_aload_n (r := some b) C dL_law_278 rfl (lv_at hl 5 rfl) ?_
  refine lv_iload C.1 C.2.1 dL_law_279 (lv_at hl 1 rfl) ?_
  refine lv_iconst (v := 1) C.1 C.2.1 dL_law_281 (by decide) ?_
  refine lv_iadd C.1 C.2.1 dL_law_282 ?_
  refine q_sld C hV hX hbl hbA hL31 (j := 3 * j + 1) (nI_add (3 * j) 1) (by omega) dL_law_283 ?_
  refine q_ci hV (q_rV (b := m9) (As := [.int (xs (3 * j + 1))]) (rest := []) C hV (c_Model_join l (E.o o9 v1) S1 m9 sz ti n f tm (q_vl P) hM1 (by omega) (xs (3 * j + 1))) wd_509 wd_506 wd_507 wd_508 wd_42 ok_X5_join ⟨rfl, rfl, Nat.le_of_ble_eq_true rfl, Nat.le_of_ble_eq_true rfl⟩ (q_rc5 hV hL_m1 hK_m1) rfl hl.1 rfl (q_sm q_1n (Nat.le_of_ble_eq_true rfl)) dL_law_284 ⟨by show _ ≤ 601024; omega, by show _ ≤ 7293033; omega⟩) (fun i284 S284 H locs hp284 hV => ?_)
  obtain ⟨e7, e0, hI⟩ := op_join hA hp hp284
  obtain ⟨n2, f2, tm2, P2, hA2⟩ := hI
  have hL_m2 := hA2.2.1.1.1.1
  have hK_m2 := hA2.2.1.1.1.2.1
  refine q_istore (x := i284) (lv' := [(6, .int (i284)), (5, .int (k9)), (4, .int (nI (3 * j))), (3, va_rf (some o9)), (2, va_rf (some m9)), (1, va_rf (some x9)), (0, va_rf (some b))]) C dL_law_287 hl (by decide) (q_k0 (q_kC 0 rfl (by decide) rfl (q_kN 1 rfl (by decide) (by decide) (q_kN 2 rfl (by decide) (by decide) (q_kN 3 rfl (by decide) (by decide) (q_kN 4 rfl (by decide) (by decide) (q_kN 5 rfl (by decide) (by decide) q_kz))))))) (fun ls hl => ?_)
  refine q_aload_n (r := some m9) C dL_law_289 rfl (lv_at hl 4 rfl) ?_
  refine q_ci hV (q_rV (b := m9) (As := []) (rest := []) C hV (c_Model_thrown l (E.o o9 v1) S284 m9 hL_m2 hK_m2) wd_470 wd_467 wd_468 wd_469 wd_42 ok_X5_thrown ⟨rfl, rfl, Nat.le_of_ble_eq_true rfl, Nat.le_of_ble_eq_true rfl⟩ (q_rc5 hV hL_m2 hK_m2) rfl hl.1 rfl (q_sm q_1n (Nat.le_of_ble_eq_true rfl)) dL_law_290 ⟨by show _ ≤ 601024; omega, by show _ ≤ 7293033; omega⟩) (fun i290 S290 H locs hp290 hV => ?_)
  obtain ⟨eS290, hp290⟩ := hp290
  rw [eS290] at hV
  replace hp290 := hp290.trans e7
  subst hp290
  refine lv_iload C.1 C.2.1 dL_law_293 (lv_at hl 1 rfl) ?_
  refine lv_icmp_eq (tgt := 300) C.1 C.2.1 dL_law_295 (by decide) (fun c295 => ?_) (fun c295 => ?_)
  · refine lv_iload C.1 C.2.1 dL_law_300 (lv_at hl 1 rfl) ?_
    refine lv_if_ne (tgt := 317) C.1 C.2.1 dL_law_302 (by decide) (fun c302 => ?_) (fun c302 => ?_)
    · refine lv_goto (tgt := 576) C.1 C.2.1 dL_law_317 (by decide) ?_
      exact kk v1 S284 H locs ls _ _ hV (lv_sub hl [2, 3, 4, 5, 6] rfl) ⟨n2, f2, tm2, P2, hA2⟩ (by omega) (by omega)
    · refine q_aload_n (r := some o9) C dL_law_305 rfl (lv_at hl 3 rfl) ?_
      refine lv_iconst (v := 0) C.1 C.2.1 dL_law_306 (by decide) ?_
      refine q_lald (E := E) C hV dL_law_307 ?_
      refine lv_iload C.1 C.2.1 dL_law_308 (lv_at hl 0 rfl) ?_
      refine lv_i2l C.1 C.2.1 dL_law_310 rfl ?_
      refine W.lcmp C.1 C.2.1 dL_law_311 ?_
      refine lv_if_eq (tgt := 317) C.1 C.2.1 dL_law_312 (by decide) (fun c312 => ?_) (fun c312 => ?_)
      · refine lv_goto (tgt := 576) C.1 C.2.1 dL_law_317 (by decide) ?_
        exact kk v1 S284 H locs ls _ _ hV (lv_sub hl [2, 3, 4, 5, 6] rfl) ⟨n2, f2, tm2, P2, hA2⟩ (by omega) (by omega)
      · exact absurd ((lg_cmp_eq _ _).mpr (e0 c302)) c312
  · exact absurd rfl c295
set_option maxHeartbeats 4000000 in
set_option maxRecDepth 100000 in
theorem lw_joinAll {p : Program} {e : Env} {s : State} {m : MethodId} {below : List Frame} {meth : Method} {c : Code} (l : Launch) (hl9 : l.stackTraces = false) {b L : Nat} {xs : Nat → Int32} (hL : L ≤ 1536) (C : CallFix p m c cL_law 7 s #[Value.ref b] q_T RL) (hX : va_X b L xs s s.heap) (hbl : b < s.heap.size) (E : qE) (hEA : ∀ q, E.A q ↔ s.heap.size ≤ q) (x9 m9 o9 h ar t sz ti : Nat) (v : Int64) (j cc ss n f tm : Nat) (P : List q_X) (S : qS) (H : Heap) (locs : List Loc) (ls : Array Slot) (hV : q_V (E.o o9 v) s S H locs) (hl : lv_has ls 7 [(4, .int (nI (3 * j))), (3, va_rf (some o9)), (2, va_rf (some m9)), (1, va_rf (some x9)), (0, va_rf (some b))]) (hA : q_ALL S x9 m9 h ar t sz ti n f tm P j) (hj3 : 3 * j + 3 ≤ L) (hcc : cc ≤ 100 + 513 * j) (hss : ss ≤ 40000 + 2052 * j) (kk : (∀ (v1 : Int64) (S2 : qS) (H : Heap) (locs : List Loc) (ls : Array Slot) (cc2 ss2 : Nat), q_V (E.o o9 v1) s S2 H locs → lv_has ls 7 [(4, .int (nI (3 * j))), (3, va_rf (some o9)), (2, va_rf (some m9)), (1, va_rf (some x9)), (0, va_rf (some b))] → q_INV S2 x9 m9 h ar t sz ti (j + 1) → cc2 ≤ cc + 513 → ss2 ≤ ss + 2052 → W p l e room_1 s m #[Value.ref b] below meth c H locs (cc2) (ss2) (lw_Z below #[Value.ref b] s) (F0 m 576 ls []))) : W p l e room_1 s m #[Value.ref b] below meth c H locs (cc) (ss) (lw_Z below #[Value.ref b] s) (F0 m 320 ls []) := by
  have hbA : ¬ E.A b := fun z => absurd ((hEA b).mp z) (by omega)
  have hL31 : L < 2 ^ 31 := by omega
  have hj512 : j < 512 := by omega
  have hA0 := hA
  obtain ⟨⟨ns, rows, hC⟩, hM, hu, hlen, htm9⟩ := hA0
  have hL_x9 := hC.1.1
  have hK_x9 := hC.1.2.1
  have hdt := q_ALL_dt hA
  have hu9 : ∀ x ∈ P, x.2.2.1 = false → 3 ≤ x.2.1 := fun x hx hf => hu x.2 (List.mem_map.mpr ⟨x, hx, rfl⟩) hf
  refine q_aload_n (r := some x9) C dL_law_320 rfl (lv_at hl 3 rfl) ?_
  refine q_ci hV (q_rV (b := x9) (As := []) (rest := []) C hV (c_Shelf_joinAll l (E.o o9 v) S x9 h ar t n f tm 513 P ns rows hC (by omega) (by omega)) wd_193 wd_190 wd_191 wd_192 wd_37 ok_X4_joinAll ⟨rfl, rfl, Nat.le_of_ble_eq_true rfl, Nat.le_of_ble_eq_true rfl⟩ (q_rc4 hV hL_x9 hK_x9) rfl hl.1 rfl (q_sm q_1n (Nat.le_of_ble_eq_true rfl)) dL_law_321 ⟨by show _ ≤ 601024; omega, by show _ ≤ 7293033; omega⟩) (fun i321 S321 H locs hp321 hV => ?_)
  have hfk : q_fk S S321 := by obtain ⟨-, P9, -, -, h9⟩ := hp321; exact h9
  have hM1 := q_M_fk hM hfk
  have hL_m1 := hM1.1.1.1
  have hK_m1 := hM1.1.1.2.1
  refine q_aload_n (r := some m9) C dL_law_324 rfl (lv_at hl 2 rfl) ?_
  refine q_ci hV (q_rV (b := m9) (As := []) (rest := [.int (i321)]) C hV (c_Model_joinAll l (E.o o9 v) S321 m9 sz ti n f tm (q_vl P) hM1 (by rw [show (q_vl P).length = P.length from by simp]; omega)) wd_517 wd_514 wd_515 wd_516 wd_42 ok_X5_joinAll ⟨rfl, rfl, Nat.le_of_ble_eq_true rfl, Nat.le_of_ble_eq_true rfl⟩ (q_rc5 hV hL_m1 hK_m1) rfl hl.1 rfl (q_sm (q_1c rfl q_1n) (Nat.le_of_ble_eq_true rfl)) dL_law_325 ⟨by show _ ≤ 601024; omega, by show _ ≤ 7293033; omega⟩) (fun i325 S325 H locs hp325 hV => ?_)
  obtain ⟨e0, hI⟩ := op_joinAll hA hj512 hp321 hp325
  obtain ⟨n2, f2, tm2, P2, hA2⟩ := hI
  refine lv_icmp_eq (tgt := 576) C.1 C.2.1 dL_law_328 (by decide) (fun c328 => ?_) (fun c328 => ?_)
  · exact kk v S325 H locs ls _ _ hV hl ⟨n2, f2, tm2, P2, hA2⟩ (by omega) (by omega)
  · exact absurd e0 c328
set_option maxHeartbeats 4000000 in
set_option maxRecDepth 100000 in
theorem lw_suffices {p : Program} {e : Env} {s : State} {m : MethodId} {below : List Frame} {meth : Method} {c : Code} (l : Launch) (hl9 : l.stackTraces = false) {b L : Nat} {xs : Nat → Int32} (hL : L ≤ 1536) (C : CallFix p m c cL_law 7 s #[Value.ref b] q_T RL) (hX : va_X b L xs s s.heap) (hbl : b < s.heap.size) (E : qE) (hEA : ∀ q, E.A q ↔ s.heap.size ≤ q) (x9 m9 o9 h ar t sz ti : Nat) (v : Int64) (j cc ss n f tm : Nat) (P : List q_X) (S : qS) (H : Heap) (locs : List Loc) (ls : Array Slot) (hV : q_V (E.o o9 v) s S H locs) (hl : lv_has ls 7 [(4, .int (nI (3 * j))), (3, va_rf (some o9)), (2, va_rf (some m9)), (1, va_rf (some x9)), (0, va_rf (some b))]) (hA : q_ALL S x9 m9 h ar t sz ti n f tm P j) (hj3 : 3 * j + 3 ≤ L) (hcc : cc ≤ 100 + 513 * j) (hss : ss ≤ 40000 + 2052 * j) (kk : (∀ (v1 : Int64) (S2 : qS) (H : Heap) (locs : List Loc) (ls : Array Slot) (cc2 ss2 : Nat), q_V (E.o o9 v1) s S2 H locs → lv_has ls 7 [(4, .int (nI (3 * j))), (3, va_rf (some o9)), (2, va_rf (some m9)), (1, va_rf (some x9)), (0, va_rf (some b))] → q_INV S2 x9 m9 h ar t sz ti (j + 1) → cc2 ≤ cc + 513 → ss2 ≤ ss + 2052 → W p l e room_1 s m #[Value.ref b] below meth c H locs (cc2) (ss2) (lw_Z below #[Value.ref b] s) (F0 m 576 ls []))) : W p l e room_1 s m #[Value.ref b] below meth c H locs (cc) (ss) (lw_Z below #[Value.ref b] s) (F0 m 333 ls []) := by
  have hbA : ¬ E.A b := fun z => absurd ((hEA b).mp z) (by omega)
  have hL31 : L < 2 ^ 31 := by omega
  have hj512 : j < 512 := by omega
  have hA0 := hA
  obtain ⟨⟨ns, rows, hC⟩, hM, hu, hlen, htm9⟩ := hA0
  have hL_x9 := hC.1.1
  have hK_x9 := hC.1.2.1
  have hdt := q_ALL_dt hA
  have hu9 : ∀ x ∈ P, x.2.2.1 = false → 3 ≤ x.2.1 := fun x hx hf => hu x.2 (List.mem_map.mpr ⟨x, hx, rfl⟩) hf
  refine q_aload_n (r := some x9) C dL_law_333 rfl (lv_at hl 3 rfl) ?_
  refine q_aload_n (r := some b) C dL_law_334 rfl (lv_at hl 4 rfl) ?_
  refine lv_iload C.1 C.2.1 dL_law_335 (lv_at hl 0 rfl) ?_
  refine lv_iconst (v := 1) C.1 C.2.1 dL_law_337 (by decide) ?_
  refine lv_iadd C.1 C.2.1 dL_law_338 ?_
  refine q_sld C hV hX hbl hbA hL31 (j := 3 * j + 1) (nI_add (3 * j) 1) (by omega) dL_law_339 ?_
  refine q_aload_n (r := some o9) C dL_law_340 rfl (lv_at hl 1 rfl) ?_
  refine q_cL (E := E) hV (x_rSX (E := E.o o9 v) (As := [va_rf (some x9), .int (xs (3 * j + 1)), va_rf (some o9)]) (rest := []) C hV (c_L_suffices l E S x9 o9 v (xs (3 * j + 1)) hL_x9 hK_x9 _ _ (c_Shelf_suffices l hl9 (E.o o9 v) S x9 h ar t n f tm P ns rows hC (xs (3 * j + 1)))) wd_387 wd_385 wd_386 wd_36 ok_L_suffices ⟨rfl, rfl, Nat.le_of_ble_eq_true rfl, Nat.le_of_ble_eq_true rfl⟩ rfl hl.1 rfl (q_sm q_1n (Nat.le_of_ble_eq_true rfl)) dL_law_341 ⟨by show _ ≤ 601024; omega, by show _ ≤ 7293033; omega⟩) (fun k9 v1 S1 H locs hp hV => ?_)
  have hfk : q_fk S S1 := by
    rcases hp with ⟨-, r9, -, h9, -⟩ | ⟨-, -, h9, -⟩
    · rw [h9]; exact q_fr_rf
    · rw [h9]; exact q_fr_rf
  have hM1 := q_M_fk hM hfk
  have hL_m1 := hM1.1.1.1
  have hK_m1 := hM1.1.1.2.1
  refine q_istore (x := k9) (lv' := [(5, .int (k9)), (4, .int (nI (3 * j))), (3, va_rf (some o9)), (2, va_rf (some m9)), (1, va_rf (some x9)), (0, va_rf (some b))]) C dL_law_344 hl (by decide) (q_k0 (q_kC 0 rfl (by decide) rfl (q_kN 1 rfl (by decide) (by decide) (q_kN 2 rfl (by decide) (by decide) (q_kN 3 rfl (by decide) (by decide) (q_kN 4 rfl (by decide) (by decide) q_kz)))))) (fun ls hl => ?_)
  refine q_aload_n (r := some m9) C dL_law_346 rfl (lv_at hl 3 rfl) ?_
  refine q_aload_n (r := some b) C dL_law_347 rfl (lv_at hl 5 rfl) ?_
  refine lv_iload C.1 C.2.1 dL_law_348 (lv_at hl 1 rfl) ?_
  refine lv_iconst (v := 1) C.1 C.2.1 dL_law_350 (by decide) ?_
  refine lv_iadd C.1 C.2.1 dL_law_351 ?_
  refine q_sld C hV hX hbl hbA hL31 (j := 3 * j + 1) (nI_add (3 * j) 1) (by omega) dL_law_352 ?_
  refine q_ci hV (q_rV (b := m9) (As := [.int (xs (3 * j + 1))]) (rest := []) C hV (c_Model_suffices l (E.o o9 v1) S1 m9 sz ti n f tm (q_vl P) hM1 hdt (xs (3 * j + 1))) wd_521 wd_518 wd_519 wd_520 wd_42 ok_X5_suffices ⟨rfl, rfl, Nat.le_of_ble_eq_true rfl, Nat.le_of_ble_eq_true rfl⟩ (q_rc5 hV hL_m1 hK_m1) rfl hl.1 rfl (q_sm q_1n (Nat.le_of_ble_eq_true rfl)) dL_law_353 ⟨by show _ ≤ 601024; omega, by show _ ≤ 7293033; omega⟩) (fun i353 S353 H locs hp353 hV => ?_)
  obtain ⟨e7, e0, hI⟩ := op_suffices hA hp hp353
  obtain ⟨n2, f2, tm2, P2, hA2⟩ := hI
  have hL_m2 := hA2.2.1.1.1.1
  have hK_m2 := hA2.2.1.1.1.2.1
  refine q_istore (x := i353) (lv' := [(6, .int (i353)), (5, .int (k9)), (4, .int (nI (3 * j))), (3, va_rf (some o9)), (2, va_rf (some m9)), (1, va_rf (some x9)), (0, va_rf (some b))]) C dL_law_356 hl (by decide) (q_k0 (q_kC 0 rfl (by decide) rfl (q_kN 1 rfl (by decide) (by decide) (q_kN 2 rfl (by decide) (by decide) (q_kN 3 rfl (by decide) (by decide) (q_kN 4 rfl (by decide) (by decide) (q_kN 5 rfl (by decide) (by decide) q_kz))))))) (fun ls hl => ?_)
  refine q_aload_n (r := some m9) C dL_law_358 rfl (lv_at hl 4 rfl) ?_
  refine q_ci hV (q_rV (b := m9) (As := []) (rest := []) C hV (c_Model_thrown l (E.o o9 v1) S353 m9 hL_m2 hK_m2) wd_470 wd_467 wd_468 wd_469 wd_42 ok_X5_thrown ⟨rfl, rfl, Nat.le_of_ble_eq_true rfl, Nat.le_of_ble_eq_true rfl⟩ (q_rc5 hV hL_m2 hK_m2) rfl hl.1 rfl (q_sm q_1n (Nat.le_of_ble_eq_true rfl)) dL_law_359 ⟨by show _ ≤ 601024; omega, by show _ ≤ 7293033; omega⟩) (fun i359 S359 H locs hp359 hV => ?_)
  obtain ⟨eS359, hp359⟩ := hp359
  rw [eS359] at hV
  replace hp359 := hp359.trans e7
  subst hp359
  refine lv_iload C.1 C.2.1 dL_law_362 (lv_at hl 1 rfl) ?_
  refine lv_icmp_eq (tgt := 369) C.1 C.2.1 dL_law_364 (by decide) (fun c364 => ?_) (fun c364 => ?_)
  · refine lv_iload C.1 C.2.1 dL_law_369 (lv_at hl 1 rfl) ?_
    refine lv_if_ne (tgt := 386) C.1 C.2.1 dL_law_371 (by decide) (fun c371 => ?_) (fun c371 => ?_)
    · refine lv_goto (tgt := 576) C.1 C.2.1 dL_law_386 (by decide) ?_
      exact kk v1 S353 H locs ls _ _ hV (lv_sub hl [2, 3, 4, 5, 6] rfl) ⟨n2, f2, tm2, P2, hA2⟩ (by omega) (by omega)
    · refine q_aload_n (r := some o9) C dL_law_374 rfl (lv_at hl 3 rfl) ?_
      refine lv_iconst (v := 0) C.1 C.2.1 dL_law_375 (by decide) ?_
      refine q_lald (E := E) C hV dL_law_376 ?_
      refine lv_iload C.1 C.2.1 dL_law_377 (lv_at hl 0 rfl) ?_
      refine lv_i2l C.1 C.2.1 dL_law_379 rfl ?_
      refine W.lcmp C.1 C.2.1 dL_law_380 ?_
      refine lv_if_eq (tgt := 386) C.1 C.2.1 dL_law_381 (by decide) (fun c381 => ?_) (fun c381 => ?_)
      · refine lv_goto (tgt := 576) C.1 C.2.1 dL_law_386 (by decide) ?_
        exact kk v1 S353 H locs ls _ _ hV (lv_sub hl [2, 3, 4, 5, 6] rfl) ⟨n2, f2, tm2, P2, hA2⟩ (by omega) (by omega)
      · exact absurd ((lg_cmp_eq _ _).mpr (e0 c371)) c381
  · exact absurd rfl c364
