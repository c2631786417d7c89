set_option maxHeartbeats 4000000 in
set_option maxRecDepth 100000 in
theorem lw_loop {p : Program} {e : Env} {s : State} {m : MethodId} {below : List Frame} {meth : Method} {c : Code} (l : Launch) (hl9 : l.stackTraces = false) {b L : Nat} {xs : Nat → Int32} (hL : L ≤ 1536) (C : CallFix p m c cL_law 7 s #[Value.ref b] q_T RL) (hX : va_X b L xs s s.heap) (hbl : b < s.heap.size) (E : qE) (hEA : ∀ q, E.A q ↔ s.heap.size ≤ q) (x9 m9 o9 h ar t sz ti : Nat) (hrt : meth.sig.returnType = ret) (hlk : meth.locks = false) : ∀ (k : Nat) (v : Int64) (j cc ss n f tm : Nat) (P : List q_X) (S : qS) (H : Heap) (locs : List Loc) (ls : Array Slot), 513 - j < k → q_V (E.o o9 v) s S H locs → lv_has ls 7 [(4, .int (nI (3 * j))), (3, va_rf (some o9)), (2, va_rf (some m9)), (1, va_rf (some x9)), (0, va_rf (some b))] → q_ALL S x9 m9 h ar t sz ti n f tm P j → 3 * j ≤ L → cc ≤ 100 + 513 * j → ss ≤ 40000 + 3591 * j → W p l e room_1 s m #[Value.ref b] below meth c H locs (cc) (ss) (lw_Z below #[Value.ref b] s) (F0 m 23 ls []) := by
  have hbA : ¬ E.A b := fun z => absurd ((hEA b).mp z) (by omega)
  have hL31 : L < 2 ^ 31 := by omega
  have hL3 : (nI L - 3).toInt = (L : Int) - 3 := by
    rw [Int32.toInt_sub, nI_toInt hL31, q_i3]
    rw [Int.bmod_eq_of_le] <;> omega
  intro k
  induction k with
  | zero => intro v j cc ss n f tm P S H locs ls hk; exact absurd hk (Nat.not_lt_zero _)
  | succ k ih =>
    intro v j cc ss n f tm P S H locs ls hk hV hl hA hjL hcc hss
    refine lv_iload C.1 C.2.1 dL_law_23 (lv_at hl 0 rfl) ?_
    refine q_aload_n (r := some b) C dL_law_25 rfl (lv_at hl 4 rfl) ?_
    refine q_slen C hV hX hbl hbA dL_law_26 ?_
    refine lv_iconst (v := 3) C.1 C.2.1 dL_law_27 (by decide) ?_
    refine lv_isub C.1 C.2.1 dL_law_28 ?_
    refine lv_icmp_gt (tgt := 582) C.1 C.2.1 dL_law_29 (by decide) (fun c29 => ?_) (fun c29 => ?_)
    · refine lv_iconst (v := 1) C.1 C.2.1 dL_law_582 (by decide) ?_
      refine va_forget (fun q hq => (hEA q.base).mp (hV.2.2.2.2.1.2.2 q hq)) (W.widen (k := 601024) (n := 7293034) (by omega) (by omega) ?_)
      exact lw_ret C.1 C.2.1 hrt hlk dL_law_583
    · have hj3 : 3 * j + 3 ≤ L := by
        rcases Nat.lt_or_ge L (3 * j + 3) with h | h
        · exact absurd (q_i_lt.mpr (by rw [hL3, nI_toInt (by omega)]; omega)) c29
        · exact h
      have kk : (∀ (v1 : Int64) (S2 : qS) (H : Heap) (locs : List Loc) (ls : Array Slot) (cc2 ss2 : Nat), q_V (E.o o9 v1) s S2 H locs → lv_has ls 7 [(4, .int (nI (3 * j))), (3, va_rf (some o9)), (2, va_rf (some m9)), (1, va_rf (some x9)), (0, va_rf (some b))] → q_INV S2 x9 m9 h ar t sz ti (j + 1) → cc2 ≤ cc + 513 → ss2 ≤ ss + 3591 → W p l e room_1 s m #[Value.ref b] below meth c H locs (cc2) (ss2) (lw_Z below #[Value.ref b] s) (F0 m 576 ls [])) := by
        intro v1 S2 H locs ls cc2 ss2 hV hl hI hc2 hs2
        obtain ⟨n2, f2, tm2, P2, hA2⟩ := hI
        refine q_iinc (v := nI (3 * (j + 1))) (k := 0) (lv' := [(4, .int (nI (3 * (j + 1)))), (3, va_rf (some o9)), (2, va_rf (some m9)), (1, va_rf (some x9)), (0, va_rf (some b))]) C dL_law_576 hl rfl (by rw [show Int32.ofInt 3 = nI 3 from by decide]; exact nI_add (3 * j) 3) (by decide) (q_k0 (q_kC 1 rfl (by decide) (q_cat _) (q_kN 2 rfl (by decide) (by decide) (q_kN 3 rfl (by decide) (by decide) (q_kN 4 rfl (by decide) (by decide) q_kz))))) (fun ls hl => ?_)
        refine lv_goto (tgt := 23) C.1 C.2.1 dL_law_579 (by decide) ?_
        exact ih v1 (j + 1) cc2 ss2 n2 f2 tm2 P2 S2 H locs ls (by omega) hV hl hA2 (by omega) (by omega) (by omega)
      refine q_aload_n (r := some b) C dL_law_32 rfl (lv_at hl 4 rfl) ?_
      refine lv_iload C.1 C.2.1 dL_law_33 (lv_at hl 0 rfl) ?_
      refine q_sld C hV hX hbl hbA hL31 (j := 3 * j + 0) rfl (by omega) dL_law_35 ?_
      refine lv_bipush (v := 15) C.1 C.2.1 dL_law_36 (by decide) ?_
      refine lv_iand C.1 C.2.1 dL_law_38 ?_
      obtain ⟨j0, hj0, ej0⟩ := pk_andE (xs (3 * j)) (m := 15) 4 (by decide)
      refine q_ti (v' := nI j0) ej0 ?_
      have hj0i : (nI j0).toInt = j0 := nI_toInt (by omega)
      have h8 : j0 = 0 ∨ j0 = 1 ∨ j0 = 2 ∨ j0 = 3 ∨ j0 = 4 ∨ j0 = 5 ∨ j0 = 6 ∨ j0 = 7 ∨ j0 = 8 ∨ j0 = 9 ∨ j0 = 10 ∨ 10 < j0 := by omega
      rcases h8 with hw | hw | hw | hw | hw | hw | hw | hw | hw | hw | hw | hw
      · refine lv_tableIn (off := 57) (tgt := 96) C.1 C.2.1 dL_law_39 (by omega) (by omega) (by rw [hj0i, hw]; rfl) (by decide) ?_
        exact lw_space l hl9 hL C hX hbl E hEA x9 m9 o9 h ar t sz ti v j cc ss n f tm P S H locs ls hV hl hA hj3 hcc hss kk
      · refine lv_tableIn (off := 113) (tgt := 152) C.1 C.2.1 dL_law_39 (by omega) (by omega) (by rw [hj0i, hw]; rfl) (by decide) ?_
        exact lw_take l hl9 hL C hX hbl E hEA x9 m9 o9 h ar t sz ti v j cc ss n f tm P S H locs ls hV hl hA hj3 hcc hss kk
      · refine lv_tableIn (off := 169) (tgt := 208) C.1 C.2.1 dL_law_39 (by omega) (by omega) (by rw [hj0i, hw]; rfl) (by decide) ?_
        exact lw_give l hl9 hL C hX hbl E hEA x9 m9 o9 h ar t sz ti v j cc ss n f tm P S H locs ls hV hl hA hj3 hcc hss kk
      · refine lv_tableIn (off := 225) (tgt := 264) C.1 C.2.1 dL_law_39 (by omega) (by omega) (by rw [hj0i, hw]; rfl) (by decide) ?_
        exact lw_join l hl9 hL C hX hbl E hEA x9 m9 o9 h ar t sz ti v j cc ss n f tm P S H locs ls hV hl hA hj3 hcc hss kk
      · refine lv_tableIn (off := 281) (tgt := 320) C.1 C.2.1 dL_law_39 (by omega) (by omega) (by rw [hj0i, hw]; rfl) (by decide) ?_
        exact lw_joinAll l hl9 hL C hX hbl E hEA x9 m9 o9 h ar t sz ti v j cc ss n f tm P S H locs ls hV hl hA hj3 hcc hss kk
      · refine lv_tableIn (off := 294) (tgt := 333) C.1 C.2.1 dL_law_39 (by omega) (by omega) (by rw [hj0i, hw]; rfl) (by decide) ?_
        exact lw_suffices l hl9 hL C hX hbl E hEA x9 m9 o9 h ar t sz ti v j cc ss n f tm P S H locs ls hV hl hA hj3 hcc hss kk
      · refine lv_tableIn (off := 350) (tgt := 389) C.1 C.2.1 dL_law_39 (by omega) (by omega) (by rw [hj0i, hw]; rfl) (by decide) ?_
        exact lw_piece l hl9 hL C hX hbl E hEA x9 m9 o9 h ar t sz ti v j cc ss n f tm P S H locs ls hV hl hA hj3 hcc hss kk
      · refine lv_tableIn (off := 375) (tgt := 414) C.1 C.2.1 dL_law_39 (by omega) (by omega) (by rw [hj0i, hw]; rfl) (by decide) ?_
        exact lw_cover l hl9 hL C hX hbl E hEA x9 m9 o9 h ar t sz ti v j cc ss n f tm P S H locs ls hV hl hA hj3 hcc hss kk
      · refine lv_tableIn (off := 400) (tgt := 439) C.1 C.2.1 dL_law_39 (by omega) (by omega) (by rw [hj0i, hw]; rfl) (by decide) ?_
        exact lw_free l hl9 hL C hX hbl E hEA x9 m9 o9 h ar t sz ti v j cc ss n f tm P S H locs ls hV hl hA hj3 hcc hss kk
      · refine lv_tableIn (off := 468) (tgt := 507) C.1 C.2.1 dL_law_39 (by omega) (by omega) (by rw [hj0i, hw]; rfl) (by decide) ?_
        exact lw_count l hl9 hL C hX hbl E hEA x9 m9 o9 h ar t sz ti v j cc ss n f tm P S H locs ls hV hl hA hj3 hcc hss kk
      · refine lv_tableIn (off := 524) (tgt := 563) C.1 C.2.1 dL_law_39 (by omega) (by omega) (by rw [hj0i, hw]; rfl) (by decide) ?_
        exact lw_faults l hl9 hL C hX hbl E hEA x9 m9 o9 h ar t sz ti v j cc ss n f tm P S H locs ls hV hl hA hj3 hcc hss kk
      · refine lv_tableOut (tgt := 576) C.1 C.2.1 dL_law_39 (by omega) (by decide) ?_
        exact kk v S H locs ls cc ss hV hl (q_ALL_same hA hA.1 q_gr_rf hA.2.1) (by omega) (by omega)
