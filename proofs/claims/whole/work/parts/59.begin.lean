set_option maxHeartbeats 4000000 in
set_option maxRecDepth 100000 in
theorem whole_start {p : Program} {e : Env} {s : State} {m : MethodId} {below : List Frame} {meth : Method} {c : Code} (l : Launch) (hl9 : l.stackTraces = false) {b L : Nat} {xs : Nat → Int32} (hL : L ≤ 1536) (C0 : lw_At p s m meth c b L xs) : W p l e room_1 s m #[Value.ref b] below meth c s.heap [] 0 0 (lw_Z below #[Value.ref b] s) (entryFrame m ([Value.ref b] : List Value).toArray 7) := by
  obtain ⟨hx, hcb, hrt, hml, hown, hts, hX, hbl, hlk, hgv⟩ := C0
  obtain ⟨E, hEA, hEX, hK, hZ⟩ := q_start hts hgv
  have C : CallFix p m c cL_law 7 s #[Value.ref b] q_T RL := ⟨hx, hcb, hml, hown, fun w hw => hts w (q_Tsub hw)⟩
  have ew : q_w E q0S = [] := by show E.X ++ _ = _; rw [hEX]; rfl
  have hV : q_V E s q0S s.heap [] := ⟨hK, hZ, by rw [ew]; exact (fun k q hk => nomatch hk), by rw [ew]; exact ⟨(fun i j p q hi => nomatch hi), (fun k q hk => nomatch hk)⟩, va_S.rf, fun q hq => (hEA q).mpr hq⟩
  rw [lg_entry_eq]
  have hl := lv_entry [Value.ref b] (n := 7) (Nat.le_of_ble_eq_true rfl)
  rw [q_1args _ 0 (q_1c rfl q_1n)] at hl
  generalize (lg_sl [Value.ref b] ++ List.replicate (7 - (lg_sl [Value.ref b]).length) Slot.unset).toArray = ls at hl ⊢
  have hl : lv_has ls 7 [(0, va_rf (some b))] := hl
  refine n_Shelf C hV wd_52 (by show _ ≤ 601024; omega) (by show _ ≤ 7293034; omega) dL_law_0 (fun q0 H hq0 hV => ?_)
  refine lv_dup C.1 C.2.1 dL_law_3 rfl ?_
  refine q_cv hV (q_rI (b := q0) (As := []) (rest := [va_rf (some q0)]) C hV (c_Shelf_init l E (q0S.nO q0 4) q0 (q_nO_in _ _ _) (q_nO_K _ _ _)) wd_56 (Or.inl wd_54) wd_55 wd_39 rfl ok_X5_init ⟨rfl, rfl, Nat.le_of_ble_eq_true rfl, Nat.le_of_ble_eq_true rfl⟩ rfl hl.1 rfl (q_sm (q_1c (q_cat _) q_1n) (Nat.le_of_ble_eq_true rfl)) dL_law_4 ⟨by show _ ≤ 601024; omega, by show _ ≤ 7293034; omega⟩) (fun S4 H locs hp4 hV => ?_)
  obtain ⟨qp, h, ar, t, ns, rows, hC, -⟩ := hp4
  have hL_q0 := hC.1.1
  have hK_q0 := hC.1.2.1
  refine q_astore_n (r := some q0) (lv' := [(1, va_rf (some q0)), (0, va_rf (some b))]) C dL_law_7 rfl hl (by decide) (q_k0 (q_kC 0 rfl (by decide) (q_cat _) q_kz)) (fun ls hl => ?_)
  refine n_Model C hV wd_479 (by show _ ≤ 601024; omega) (by show _ ≤ 7293034; omega) dL_law_8 (fun q8 H hq8 hV => ?_)
  refine lv_dup C.1 C.2.1 dL_law_11 rfl ?_
  refine q_cv hV (q_rI (b := q8) (As := []) (rest := [va_rf (some q8)]) C hV (c_Model_init l E (S4.nO q8 5) q8 (q_nO_in _ _ _) (q_nO_K _ _ _) (va_up_self _ _ _) (va_up_self _ _ _) (va_up_self _ _ _)) wd_483 (Or.inl wd_481) wd_482 wd_44 rfl ok_X6_init ⟨rfl, rfl, Nat.le_of_ble_eq_true rfl, Nat.le_of_ble_eq_true rfl⟩ rfl hl.1 rfl (q_sm (q_1c (q_cat _) q_1n) (Nat.le_of_ble_eq_true rfl)) dL_law_12 ⟨by show _ ≤ 601024; omega, by show _ ≤ 7293034; omega⟩) (fun S12 H locs hp12 hV => ?_)
  obtain ⟨sz, ti, hM, hf12⟩ := hp12
  have hf0 : q_fr S4 S12 (fun j _ => 7 ≤ j) (fun j _ => 10 ≤ j) q_c0 := q_fr_tr (q_fr_nO hq8) hf12
  have hC2 := q_C_fr (f1 := 0) hC hf0 (fun j x z => Or.inr (Or.inr z)) (fun j x z => z) (fun j x z => z) ((hf0.2.1 q0 hL_q0 6 (fun z => absurd (show 7 ≤ 6 from z) (by decide))).trans hC.2.2.1)
  refine q_astore_n (r := some q8) (lv' := [(2, va_rf (some q8)), (1, va_rf (some q0)), (0, va_rf (some b))]) C dL_law_15 rfl hl (by decide) (q_k0 (q_kC 0 rfl (by decide) (q_cat _) (q_kN 1 rfl (by decide) (by decide) q_kz))) (fun ls hl => ?_)
  refine lv_iconst (v := 1) C.1 C.2.1 dL_law_16 (by decide) ?_
  refine q_newL C hEX hV (by show _ ≤ 601024; omega) (by show _ ≤ 7293034; omega) dL_law_17 (fun o9 H hV => ?_)
  refine q_astore_n (r := some o9) (lv' := [(3, va_rf (some o9)), (2, va_rf (some q8)), (1, va_rf (some q0)), (0, va_rf (some b))]) C dL_law_19 rfl hl (by decide) (q_k0 (q_kC 0 rfl (by decide) (q_cat _) (q_kN 1 rfl (by decide) (by decide) (q_kN 2 rfl (by decide) (by decide) q_kz)))) (fun ls hl => ?_)
  refine lv_iconst (v := 0) C.1 C.2.1 dL_law_20 (by decide) ?_
  refine q_istore (x := 0) (lv' := [(4, .int (0)), (3, va_rf (some o9)), (2, va_rf (some q8)), (1, va_rf (some q0)), (0, va_rf (some b))]) C dL_law_21 hl (by decide) (q_k0 (q_kC 0 rfl (by decide) (q_cat _) (q_kN 1 rfl (by decide) (by decide) (q_kN 2 rfl (by decide) (by decide) (q_kN 3 rfl (by decide) (by decide) q_kz))))) (fun ls hl => ?_)
  have hA : q_ALL S12 q0 q8 h ar t sz ti 1024 0 1 [(qp, 1024, true, 0)] 0 := ⟨⟨ns, rows, hC2⟩, hM, (fun v hv hf => by rw [List.mem_singleton.mp hv] at hf; exact nomatch hf), Nat.le_refl _, Nat.le_refl _⟩
  exact lw_loop l hl9 hL C hX hbl E hEA q0 q8 o9 h ar t sz ti hrt hlk 514 0 0 _ _ 1024 0 1 _ S12 H _ ls (by decide) hV hl hA (by omega) (by omega) (by omega)
