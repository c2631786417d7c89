set_option maxHeartbeats 4000000 in
set_option maxRecDepth 100000 in
theorem c0_Shelf_freeCells (l : Launch) (E : qE) (S : qS) (c9 n9 : Nat) (P9 : List q_X) (hln : q_line S c9 n9 P9) (post : Int32 → qS → Prop) (hpost : ∀ r S1, (S1 = S ∧ r = nI (q_cn q_f0 (q_vl P9))) → post r S1) : q_Mi l yX5_freeCells cX5_freeCells 3 .int { frames := 0, cells := 0, slots := 0, locals := 0 } E [.ref c9] S (post) 0 0 := by
  refine q_ofW1 (by decide) (q_1c rfl q_1n) (Nat.le_of_ble_eq_true rfl) (fun p e s m below meth c C hV hr hlk hnm ls hl => ?_)
  have hl : lv_has ls 3 [(0, va_rf (some c9))] := hl
  obtain ⟨hL_c9, hK_c9, hn9, hch9, hpc9, hsz9, hle9, hpos9⟩ := id hln
  have loop : ∀ (k : Nat) (ac : Int32) (pp : Option Nat) (k9 : Nat) (R : List q_X) (a9 : Nat) (ls : Array Slot), R.length < k → lv_has ls 3 [(2, va_rf (pp)), (1, .int (ac)), (0, va_rf (some c9))] → q_ch (S.R 0) pp (q_ad R) → q_pcs S a9 R → ac = nI k9 → k9 + q_cn q_f0 (q_vl R) = q_cn q_f0 (q_vl P9) → (∀ x ∈ R, x ∈ P9) → W p l e ({ frames := 0, cells := 0, slots := 0, locals := 0 } : Room) s m [.ref c9].toArray below meth c s.heap [] (0) (0) (MQ below (va_Qi (post) (q_B E) E.A) [.ref c9].toArray s (0) (0) E.A) (F0 m 7 ls []) := by
    intro k
    induction k with
    | zero => intro ac pp k9 R a9 ls hk; exact absurd hk (Nat.not_lt_zero _)
    | succ k ih =>
      intro ac pp k9 R a9 ls hk hl hch hpc hac hcn hmem
      refine q_aload_n (r := pp) C dX5_freeCells_7 rfl (lv_at hl 0 rfl) ?_
      refine q_ifnull (r := pp) (tgt := 37) C dX5_freeCells_8 (by decide) (fun c8 => ?_) (fun x8 c8 => ?_)
      · subst c8
        refine lv_iload_n C.1 C.2.1 dX5_freeCells_37 rfl (lv_at hl 1 rfl) ?_
        refine q_iret (v := ac) C hV hr hlk (Nat.le_of_ble_eq_true rfl) (Nat.le_of_ble_eq_true rfl) dX5_freeCells_38 ?_
        have hR : R = [] := by cases R with | nil => rfl | cons y t => exact nomatch hch.1
        subst hR
        refine hpost _ _ ⟨rfl, ?_⟩
        rw [hac, ← hcn]
        rfl
      · subst c8
        obtain ⟨y, R9, rfl, hy, hch2⟩ : ∃ y R9, R = y :: R9 ∧ y.1 = x8 ∧ q_ch (S.R 0) (S.R 0 x8) (q_ad R9) := by
          cases R with
          | nil => exact nomatch (show some x8 = none from hch)
          | cons y t => have e := Option.some.inj hch.1; exact ⟨y, t, rfl, e.symm, by have h2 := hch.2; rw [← e] at h2; exact h2⟩
        subst hy
        have hpc2 := hpc
        obtain ⟨hL_y, hK_y, hAt, hCe, hFr, -⟩ := hpc.1
        have hy1 := q_sz_mem (hmem y List.mem_cons_self)
        have hyp := hpos9 y (hmem y List.mem_cons_self)
        refine lv_iload_n C.1 C.2.1 dX5_freeCells_11 rfl (lv_at hl 1 rfl) ?_
        refine q_aload_n (r := some y.1) C dX5_freeCells_12 rfl (lv_at hl 0 rfl) ?_
        refine g_Piece_isFree C hV hL_y hK_y (Or.inr ⟨_, wd_142⟩) dX5_freeCells_13 ?_
        refine q_ti (v' := q_fl y.2.2.1) (hFr) ?_
        refine lv_if_eq (tgt := 26) C.1 C.2.1 dX5_freeCells_16 (by decide) (fun c16 => ?_) (fun c16 => ?_)
        · refine lv_iconst (v := 0) C.1 C.2.1 dX5_freeCells_26 (by decide) ?_
          refine lv_iadd C.1 C.2.1 dX5_freeCells_27 ?_
          refine q_istore_n (x := ac + 0) (lv' := [(1, .int (ac + 0)), (2, va_rf (some y.1)), (0, va_rf (some c9))]) C dX5_freeCells_28 rfl hl (by decide) (q_k0 (q_kN 0 rfl (by decide) (by decide) (q_kC 2 rfl (by decide) (q_cat _) q_kz))) (fun ls hl => ?_)
          refine q_aload_n (r := some y.1) C dX5_freeCells_29 rfl (lv_at hl 1 rfl) ?_
          refine g_Piece_behind C hV hL_y hK_y (Or.inr ⟨_, wd_146⟩) dX5_freeCells_30 ?_
          refine q_nr (fun r30 h30 => ?_)
          refine q_astore_n (r := r30) (lv' := [(2, va_rf (r30)), (1, .int (ac + 0)), (0, va_rf (some c9))]) C dX5_freeCells_33 rfl hl (by decide) (q_k0 (q_kC 0 rfl (by decide) rfl (q_kN 2 rfl (by decide) (by decide) q_kz))) (fun ls hl => ?_)
          refine lv_goto (tgt := 7) C.1 C.2.1 dX5_freeCells_34 (by decide) ?_
          subst h30
          refine ih _ (S.R 0 y.1) (k9 + q_f0 y.2) R9 (a9 + y.2.1) ls (by simp at hk; omega) hl hch2 hpc2.2 ?_ (by have hcn2 : k9 + (q_f0 y.2 + q_cn q_f0 (q_vl R9)) = q_cn q_f0 (q_vl P9) := hcn; omega) (fun x hx => hmem x (List.mem_cons_of_mem _ hx))
          have hfv : q_f0 y.2 = 0 := (if_neg (by rw [q_fl0.mp c16]; decide))
          rw [hfv, hac]
          exact (by rw [Nat.add_zero]; exact Int32.add_zero _)
        · refine q_aload_n (r := some y.1) C dX5_freeCells_19 rfl (lv_at hl 0 rfl) ?_
          refine g_Piece_cells C hV hL_y hK_y (Or.inr ⟨_, wd_139⟩) dX5_freeCells_20 ?_
          refine q_ti (v' := nI y.2.1) (hCe) ?_
          refine lv_goto (tgt := 27) C.1 C.2.1 dX5_freeCells_23 (by decide) ?_
          refine lv_iadd C.1 C.2.1 dX5_freeCells_27 ?_
          refine q_istore_n (x := ac + (nI y.2.1)) (lv' := [(1, .int (ac + (nI y.2.1))), (2, va_rf (some y.1)), (0, va_rf (some c9))]) C dX5_freeCells_28 rfl hl (by decide) (q_k0 (q_kN 0 rfl (by decide) (by decide) (q_kC 2 rfl (by decide) (q_cat _) q_kz))) (fun ls hl => ?_)
          refine q_aload_n (r := some y.1) C dX5_freeCells_29 rfl (lv_at hl 1 rfl) ?_
          refine g_Piece_behind C hV hL_y hK_y (Or.inr ⟨_, wd_146⟩) dX5_freeCells_30 ?_
          refine q_nr (fun r30 h30 => ?_)
          refine q_astore_n (r := r30) (lv' := [(2, va_rf (r30)), (1, .int (ac + (nI y.2.1))), (0, va_rf (some c9))]) C dX5_freeCells_33 rfl hl (by decide) (q_k0 (q_kC 0 rfl (by decide) rfl (q_kN 2 rfl (by decide) (by decide) q_kz))) (fun ls hl => ?_)
          refine lv_goto (tgt := 7) C.1 C.2.1 dX5_freeCells_34 (by decide) ?_
          subst h30
          refine ih _ (S.R 0 y.1) (k9 + q_f0 y.2) R9 (a9 + y.2.1) ls (by simp at hk; omega) hl hch2 hpc2.2 ?_ (by have hcn2 : k9 + (q_f0 y.2 + q_cn q_f0 (q_vl R9)) = q_cn q_f0 (q_vl P9) := hcn; omega) (fun x hx => hmem x (List.mem_cons_of_mem _ hx))
          have hfv : q_f0 y.2 = y.2.1 := (if_pos (by cases hbb : y.2.2.1 with | true => rfl | false => exact absurd (show q_fl y.2.2.1 = 0 by rw [hbb]; rfl) c16))
          rw [hfv, hac]
          exact nI_add k9 y.2.1
  refine lv_iconst (v := 0) C.1 C.2.1 dX5_freeCells_0 (by decide) ?_
  refine q_istore_n (x := 0) (lv' := [(1, .int (0)), (0, va_rf (some c9))]) C dX5_freeCells_1 rfl hl (by decide) (q_k0 (q_kC 0 rfl (by decide) (q_cat _) q_kz)) (fun ls hl => ?_)
  refine q_aload_n (r := some c9) C dX5_freeCells_2 rfl (lv_at hl 1 rfl) ?_
  refine g_Shelf_lowest C hV hL_c9 hK_c9 (Or.inl wd_193) dX5_freeCells_3 ?_
  refine q_nr (fun r3 h3 => ?_)
  refine q_astore_n (r := r3) (lv' := [(2, va_rf (r3)), (1, .int (0)), (0, va_rf (some c9))]) C dX5_freeCells_6 rfl hl (by decide) (q_k0 (q_kC 0 rfl (by decide) rfl (q_kN 1 rfl (by decide) (by decide) q_kz))) (fun ls hl => ?_)
  exact loop (P9.length + 1) 0 r3 0 P9 1 ls (Nat.lt_succ_self _) hl (by rw [h3]; exact hch9) hpc9 nI_0.symm (Nat.zero_add _) (fun x hx => hx)
theorem c_Shelf_freeCells (l : Launch) (E : qE) (S : qS) (c9 n9 : Nat) (P9 : List q_X) (hln : q_line S c9 n9 P9) : q_Mi l yX5_freeCells cX5_freeCells 3 .int { frames := 0, cells := 0, slots := 0, locals := 0 } E [.ref c9] S (fun r S1 => S1 = S ∧ r = nI (q_cn q_f0 (q_vl P9))) 0 0 := c0_Shelf_freeCells l E S c9 n9 P9 hln _ (fun _ _ h => h)

set_option maxHeartbeats 4000000 in
set_option maxRecDepth 100000 in
theorem c0_Shelf_crumbCells (l : Launch) (E : qE) (S : qS) (c9 n9 : Nat) (P9 : List q_X) (hln : q_line S c9 n9 P9) (post : Int32 → qS → Prop) (hpost : ∀ r S1, (S1 = S ∧ r = nI (q_cn q_f1 (q_vl P9))) → post r S1) : q_Mi l yX5_crumbCells cX5_crumbCells 3 .int { frames := 1, cells := 0, slots := 0, locals := 20 } E [.ref c9] S (post) 0 0 := by
  refine q_ofW1 (by decide) (q_1c rfl q_1n) (Nat.le_of_ble_eq_true rfl) (fun p e s m below meth c C hV hr hlk hnm ls hl => ?_)
  have hl : lv_has ls 3 [(0, va_rf (some c9))] := hl
  obtain ⟨hL_c9, hK_c9, hn9, hch9, hpc9, hsz9, hle9, hpos9⟩ := id hln
  have loop : ∀ (k : Nat) (ac : Int32) (pp : Option Nat) (k9 : Nat) (R : List q_X) (a9 : Nat) (H : Heap) (locs : List Loc) (ls : Array Slot), R.length < k → q_V E s S H locs → lv_has ls 3 [(2, va_rf (pp)), (1, .int (ac)), (0, va_rf (some c9))] → q_ch (S.R 0) pp (q_ad R) → q_pcs S a9 R → ac = nI k9 → k9 + q_cn q_f1 (q_vl R) = q_cn q_f1 (q_vl P9) → (∀ x ∈ R, x ∈ P9) → W p l e ({ frames := 1, cells := 0, slots := 0, locals := 20 } : Room) s m [.ref c9].toArray below meth c H locs (0) (0) (MQ below (va_Qi (post) (q_B E) E.A) [.ref c9].toArray s (0) (0) E.A) (F0 m 7 ls []) := by
    intro k
    induction k with
    | zero => intro ac pp k9 R a9 H locs ls hk; exact absurd hk (Nat.not_lt_zero _)
    | succ k ih =>
      intro ac pp k9 R a9 H locs ls hk hV hl hch hpc hac hcn hmem
      refine q_aload_n (r := pp) C dX5_crumbCells_7 rfl (lv_at hl 0 rfl) ?_
      refine q_ifnull (r := pp) (tgt := 37) C dX5_crumbCells_8 (by decide) (fun c8 => ?_) (fun x8 c8 => ?_)
      · subst c8
        refine lv_iload_n C.1 C.2.1 dX5_crumbCells_37 rfl (lv_at hl 1 rfl) ?_
        refine q_iret (v := ac) C hV hr hlk (Nat.le_of_ble_eq_true rfl) (Nat.le_of_ble_eq_true rfl) dX5_crumbCells_38 ?_
        have hR : R = [] := by cases R with | nil => rfl | cons y t => exact nomatch hch.1
        subst hR
        refine hpost _ _ ⟨rfl, ?_⟩
        rw [hac, ← hcn]
        rfl
      · subst c8
        obtain ⟨y, R9, rfl, hy, hch2⟩ : ∃ y R9, R = y :: R9 ∧ y.1 = x8 ∧ q_ch (S.R 0) (S.R 0 x8) (q_ad R9) := by
          cases R with
          | nil => exact nomatch (show some x8 = none from hch)
          | cons y t => have e := Option.some.inj hch.1; exact ⟨y, t, rfl, e.symm, by have h2 := hch.2; rw [← e] at h2; exact h2⟩
        subst hy
        have hpc2 := hpc
        obtain ⟨hL_y, hK_y, hAt, hCe, hFr, -⟩ := hpc.1
        have hy1 := q_sz_mem (hmem y List.mem_cons_self)
        have hyp := hpos9 y (hmem y List.mem_cons_self)
        refine lv_iload_n C.1 C.2.1 dX5_crumbCells_11 rfl (lv_at hl 1 rfl) ?_
        refine q_aload_n (r := some y.1) C dX5_crumbCells_12 rfl (lv_at hl 0 rfl) ?_
        refine q_ci hV (q_rN (b := y.1) (As := []) (rest := [.int (ac)]) C hV (c_Piece_isCrumb l E S y.1 hL_y hK_y) wd_461 wd_458 wd_460 wd_26 wd_43 ok_X0_isCrumb ⟨rfl, rfl, Nat.le_of_ble_eq_true rfl, Nat.le_of_ble_eq_true rfl⟩ (q_rc0 hV hL_y hK_y) rfl hl.1 rfl (q_sm (q_1c rfl q_1n) (Nat.le_of_ble_eq_true rfl)) dX5_crumbCells_13 ⟨Nat.le_of_ble_eq_true rfl, Nat.le_of_ble_eq_true rfl⟩) (fun i13 S13 H locs hp13 hV => ?_)
        obtain ⟨eS13, hp13⟩ := hp13
        rw [eS13] at hV
        refine lv_if_eq (tgt := 26) C.1 C.2.1 dX5_crumbCells_16 (by decide) (fun c16 => ?_) (fun c16 => ?_)
        · have hiff : (¬ S.I 2 y.1 = 0 ∧ S.I 1 y.1 < 3) ↔ (y.2.2.1 = true ∧ y.2.1 < 3) := by
            rw [hFr, hCe, q_fl0]
            have h3 : (3 : Int32) = nI 3 := by decide
            rw [h3, nI_ltI (by omega) (by omega)]
            cases y.2.2.1 <;> simp
          have hcnd : ¬ (y.2.2.1 = true ∧ y.2.1 < 3) := fun h9 => by rw [if_pos (hiff.mpr h9)] at hp13; rw [hp13] at c16; exact absurd c16 (by decide)
          refine lv_iconst (v := 0) C.1 C.2.1 dX5_crumbCells_26 (by decide) ?_
          refine lv_iadd C.1 C.2.1 dX5_crumbCells_27 ?_
          refine q_istore_n (x := ac + 0) (lv' := [(1, .int (ac + 0)), (2, va_rf (some y.1)), (0, va_rf (some c9))]) C dX5_crumbCells_28 rfl hl (by decide) (q_k0 (q_kN 0 rfl (by decide) (by decide) (q_kC 2 rfl (by decide) (q_cat _) q_kz))) (fun ls hl => ?_)
          refine q_aload_n (r := some y.1) C dX5_crumbCells_29 rfl (lv_at hl 1 rfl) ?_
          refine g_Piece_behind C hV hL_y hK_y (Or.inr ⟨_, wd_146⟩) dX5_crumbCells_30 ?_
          refine q_nr (fun r30 h30 => ?_)
          refine q_astore_n (r := r30) (lv' := [(2, va_rf (r30)), (1, .int (ac + 0)), (0, va_rf (some c9))]) C dX5_crumbCells_33 rfl hl (by decide) (q_k0 (q_kC 0 rfl (by decide) rfl (q_kN 2 rfl (by decide) (by decide) q_kz))) (fun ls hl => ?_)
          refine lv_goto (tgt := 7) C.1 C.2.1 dX5_crumbCells_34 (by decide) ?_
          subst h30
          refine ih _ (S.R 0 y.1) (k9 + q_f1 y.2) R9 (a9 + y.2.1) H locs ls (by simp at hk; omega) hV hl hch2 hpc2.2 ?_ (by have hcn2 : k9 + (q_f1 y.2 + q_cn q_f1 (q_vl R9)) = q_cn q_f1 (q_vl P9) := hcn; omega) (fun x hx => hmem x (List.mem_cons_of_mem _ hx))
          have hfv : q_f1 y.2 = 0 := (if_neg hcnd)
          rw [hfv, hac]
          exact (by rw [Nat.add_zero]; exact Int32.add_zero _)
        · have hiff : (¬ S.I 2 y.1 = 0 ∧ S.I 1 y.1 < 3) ↔ (y.2.2.1 = true ∧ y.2.1 < 3) := by
            rw [hFr, hCe, q_fl0]
            have h3 : (3 : Int32) = nI 3 := by decide
            rw [h3, nI_ltI (by omega) (by omega)]
            cases y.2.2.1 <;> simp
          have hcnd : y.2.2.1 = true ∧ y.2.1 < 3 := by
            rcases Classical.em (y.2.2.1 = true ∧ y.2.1 < 3) with h9 | h9
            · exact h9
            · rw [if_neg (fun h8 => h9 (hiff.mp h8))] at hp13; exact absurd hp13 c16
          refine q_aload_n (r := some y.1) C dX5_crumbCells_19 rfl (lv_at hl 0 rfl) ?_
          refine g_Piece_cells C hV hL_y hK_y (Or.inr ⟨_, wd_139⟩) dX5_crumbCells_20 ?_
          refine q_ti (v' := nI y.2.1) (hCe) ?_
          refine lv_goto (tgt := 27) C.1 C.2.1 dX5_crumbCells_23 (by decide) ?_
          refine lv_iadd C.1 C.2.1 dX5_crumbCells_27 ?_
          refine q_istore_n (x := ac + (nI y.2.1)) (lv' := [(1, .int (ac + (nI y.2.1))), (2, va_rf (some y.1)), (0, va_rf (some c9))]) C dX5_crumbCells_28 rfl hl (by decide) (q_k0 (q_kN 0 rfl (by decide) (by decide) (q_kC 2 rfl (by decide) (q_cat _) q_kz))) (fun ls hl => ?_)
          refine q_aload_n (r := some y.1) C dX5_crumbCells_29 rfl (lv_at hl 1 rfl) ?_
          refine g_Piece_behind C hV hL_y hK_y (Or.inr ⟨_, wd_146⟩) dX5_crumbCells_30 ?_
          refine q_nr (fun r30 h30 => ?_)
          refine q_astore_n (r := r30) (lv' := [(2, va_rf (r30)), (1, .int (ac + (nI y.2.1))), (0, va_rf (some c9))]) C dX5_crumbCells_33 rfl hl (by decide) (q_k0 (q_kC 0 rfl (by decide) rfl (q_kN 2 rfl (by decide) (by decide) q_kz))) (fun ls hl => ?_)
          refine lv_goto (tgt := 7) C.1 C.2.1 dX5_crumbCells_34 (by decide) ?_
          subst h30
          refine ih _ (S.R 0 y.1) (k9 + q_f1 y.2) R9 (a9 + y.2.1) H locs ls (by simp at hk; omega) hV hl hch2 hpc2.2 ?_ (by have hcn2 : k9 + (q_f1 y.2 + q_cn q_f1 (q_vl R9)) = q_cn q_f1 (q_vl P9) := hcn; omega) (fun x hx => hmem x (List.mem_cons_of_mem _ hx))
          have hfv : q_f1 y.2 = y.2.1 := (if_pos hcnd)
          rw [hfv, hac]
          exact nI_add k9 y.2.1
  refine lv_iconst (v := 0) C.1 C.2.1 dX5_crumbCells_0 (by decide) ?_
  refine q_istore_n (x := 0) (lv' := [(1, .int (0)), (0, va_rf (some c9))]) C dX5_crumbCells_1 rfl hl (by decide) (q_k0 (q_kC 0 rfl (by decide) (q_cat _) q_kz)) (fun ls hl => ?_)
  refine q_aload_n (r := some c9) C dX5_crumbCells_2 rfl (lv_at hl 1 rfl) ?_
  refine g_Shelf_lowest C hV hL_c9 hK_c9 (Or.inl wd_193) dX5_crumbCells_3 ?_
  refine q_nr (fun r3 h3 => ?_)
  refine q_astore_n (r := r3) (lv' := [(2, va_rf (r3)), (1, .int (0)), (0, va_rf (some c9))]) C dX5_crumbCells_6 rfl hl (by decide) (q_k0 (q_kC 0 rfl (by decide) rfl (q_kN 1 rfl (by decide) (by decide) q_kz))) (fun ls hl => ?_)
  exact loop (P9.length + 1) 0 r3 0 P9 1 s.heap [] ls (Nat.lt_succ_self _) hV hl (by rw [h3]; exact hch9) hpc9 nI_0.symm (Nat.zero_add _) (fun x hx => hx)
theorem c_Shelf_crumbCells (l : Launch) (E : qE) (S : qS) (c9 n9 : Nat) (P9 : List q_X) (hln : q_line S c9 n9 P9) : q_Mi l yX5_crumbCells cX5_crumbCells 3 .int { frames := 1, cells := 0, slots := 0, locals := 20 } E [.ref c9] S (fun r S1 => S1 = S ∧ r = nI (q_cn q_f1 (q_vl P9))) 0 0 := c0_Shelf_crumbCells l E S c9 n9 P9 hln _ (fun _ _ h => h)

set_option maxHeartbeats 4000000 in
set_option maxRecDepth 100000 in
theorem c0_Shelf_usedPieces (l : Launch) (E : qE) (S : qS) (c9 n9 : Nat) (P9 : List q_X) (hln : q_line S c9 n9 P9) (post : Int32 → qS → Prop) (hpost : ∀ r S1, (S1 = S ∧ r = nI (q_cn q_f2 (q_vl P9))) → post r S1) : q_Mi l yX5_usedPieces cX5_usedPieces 3 .int { frames := 0, cells := 0, slots := 0, locals := 0 } E [.ref c9] S (post) 0 0 := by
  refine q_ofW1 (by decide) (q_1c rfl q_1n) (Nat.le_of_ble_eq_true rfl) (fun p e s m below meth c C hV hr hlk hnm ls hl => ?_)
  have hl : lv_has ls 3 [(0, va_rf (some c9))] := hl
  obtain ⟨hL_c9, hK_c9, hn9, hch9, hpc9, hsz9, hle9, hpos9⟩ := id hln
  have loop : ∀ (k : Nat) (ac : Int32) (pp : Option Nat) (k9 : Nat) (R : List q_X) (a9 : Nat) (ls : Array Slot), R.length < k → lv_has ls 3 [(2, va_rf (pp)), (1, .int (ac)), (0, va_rf (some c9))] → q_ch (S.R 0) pp (q_ad R) → q_pcs S a9 R → ac = nI k9 → k9 + q_cn q_f2 (q_vl R) = q_cn q_f2 (q_vl P9) → (∀ x ∈ R, x ∈ P9) → W p l e ({ frames := 0, cells := 0, slots := 0, locals := 0 } : Room) s m [.ref c9].toArray below meth c s.heap [] (0) (0) (MQ below (va_Qi (post) (q_B E) E.A) [.ref c9].toArray s (0) (0) E.A) (F0 m 7 ls []) := by
    intro k
    induction k with
    | zero => intro ac pp k9 R a9 ls hk; exact absurd hk (Nat.not_lt_zero _)
    | succ k ih =>
      intro ac pp k9 R a9 ls hk hl hch hpc hac hcn hmem
      refine q_aload_n (r := pp) C dX5_usedPieces_7 rfl (lv_at hl 0 rfl) ?_
      refine q_ifnull (r := pp) (tgt := 34) C dX5_usedPieces_8 (by decide) (fun c8 => ?_) (fun x8 c8 => ?_)
      · subst c8
        refine lv_iload_n C.1 C.2.1 dX5_usedPieces_34 rfl (lv_at hl 1 rfl) ?_
        refine q_iret (v := ac) C hV hr hlk (Nat.le_of_ble_eq_true rfl) (Nat.le_of_ble_eq_true rfl) dX5_usedPieces_35 ?_
        have hR : R = [] := by cases R with | nil => rfl | cons y t => exact nomatch hch.1
        subst hR
        refine hpost _ _ ⟨rfl, ?_⟩
        rw [hac, ← hcn]
        rfl
      · subst c8
        obtain ⟨y, R9, rfl, hy, hch2⟩ : ∃ y R9, R = y :: R9 ∧ y.1 = x8 ∧ q_ch (S.R 0) (S.R 0 x8) (q_ad R9) := by
          cases R with
          | nil => exact nomatch (show some x8 = none from hch)
          | cons y t => have e := Option.some.inj hch.1; exact ⟨y, t, rfl, e.symm, by have h2 := hch.2; rw [← e] at h2; exact h2⟩
        subst hy
        have hpc2 := hpc
        obtain ⟨hL_y, hK_y, hAt, hCe, hFr, -⟩ := hpc.1
        have hy1 := q_sz_mem (hmem y List.mem_cons_self)
        have hyp := hpos9 y (hmem y List.mem_cons_self)
        refine lv_iload_n C.1 C.2.1 dX5_usedPieces_11 rfl (lv_at hl 1 rfl) ?_
        refine q_aload_n (r := some y.1) C dX5_usedPieces_12 rfl (lv_at hl 0 rfl) ?_
        refine g_Piece_isFree C hV hL_y hK_y (Or.inr ⟨_, wd_142⟩) dX5_usedPieces_13 ?_
        refine q_ti (v' := q_fl y.2.2.1) (hFr) ?_
        refine lv_if_eq (tgt := 23) C.1 C.2.1 dX5_usedPieces_16 (by decide) (fun c16 => ?_) (fun c16 => ?_)
        · refine lv_iconst (v := 1) C.1 C.2.1 dX5_usedPieces_23 (by decide) ?_
          refine lv_iadd C.1 C.2.1 dX5_usedPieces_24 ?_
          refine q_istore_n (x := ac + 1) (lv' := [(1, .int (ac + 1)), (2, va_rf (some y.1)), (0, va_rf (some c9))]) C dX5_usedPieces_25 rfl hl (by decide) (q_k0 (q_kN 0 rfl (by decide) (by decide) (q_kC 2 rfl (by decide) (q_cat _) q_kz))) (fun ls hl => ?_)
          refine q_aload_n (r := some y.1) C dX5_usedPieces_26 rfl (lv_at hl 1 rfl) ?_
          refine g_Piece_behind C hV hL_y hK_y (Or.inr ⟨_, wd_146⟩) dX5_usedPieces_27 ?_
          refine q_nr (fun r27 h27 => ?_)
          refine q_astore_n (r := r27) (lv' := [(2, va_rf (r27)), (1, .int (ac + 1)), (0, va_rf (some c9))]) C dX5_usedPieces_30 rfl hl (by decide) (q_k0 (q_kC 0 rfl (by decide) rfl (q_kN 2 rfl (by decide) (by decide) q_kz))) (fun ls hl => ?_)
          refine lv_goto (tgt := 7) C.1 C.2.1 dX5_usedPieces_31 (by decide) ?_
          subst h27
          refine ih _ (S.R 0 y.1) (k9 + q_f2 y.2) R9 (a9 + y.2.1) ls (by simp at hk; omega) hl hch2 hpc2.2 ?_ (by have hcn2 : k9 + (q_f2 y.2 + q_cn q_f2 (q_vl R9)) = q_cn q_f2 (q_vl P9) := hcn; omega) (fun x hx => hmem x (List.mem_cons_of_mem _ hx))
          have hfv : q_f2 y.2 = 1 := (if_neg (by rw [q_fl0.mp c16]; decide))
          rw [hfv, hac]
          exact nI_1 k9
        · refine lv_iconst (v := 0) C.1 C.2.1 dX5_usedPieces_19 (by decide) ?_
          refine lv_goto (tgt := 24) C.1 C.2.1 dX5_usedPieces_20 (by decide) ?_
          refine lv_iadd C.1 C.2.1 dX5_usedPieces_24 ?_
          refine q_istore_n (x := ac + 0) (lv' := [(1, .int (ac + 0)), (2, va_rf (some y.1)), (0, va_rf (some c9))]) C dX5_usedPieces_25 rfl hl (by decide) (q_k0 (q_kN 0 rfl (by decide) (by decide) (q_kC 2 rfl (by decide) (q_cat _) q_kz))) (fun ls hl => ?_)
          refine q_aload_n (r := some y.1) C dX5_usedPieces_26 rfl (lv_at hl 1 rfl) ?_
          refine g_Piece_behind C hV hL_y hK_y (Or.inr ⟨_, wd_146⟩) dX5_usedPieces_27 ?_
          refine q_nr (fun r27 h27 => ?_)
          refine q_astore_n (r := r27) (lv' := [(2, va_rf (r27)), (1, .int (ac + 0)), (0, va_rf (some c9))]) C dX5_usedPieces_30 rfl hl (by decide) (q_k0 (q_kC 0 rfl (by decide) rfl (q_kN 2 rfl (by decide) (by decide) q_kz))) (fun ls hl => ?_)
          refine lv_goto (tgt := 7) C.1 C.2.1 dX5_usedPieces_31 (by decide) ?_
          subst h27
          refine ih _ (S.R 0 y.1) (k9 + q_f2 y.2) R9 (a9 + y.2.1) ls (by simp at hk; omega) hl hch2 hpc2.2 ?_ (by have hcn2 : k9 + (q_f2 y.2 + q_cn q_f2 (q_vl R9)) = q_cn q_f2 (q_vl P9) := hcn; omega) (fun x hx => hmem x (List.mem_cons_of_mem _ hx))
          have hfv : q_f2 y.2 = 0 := (if_pos (by cases hbb : y.2.2.1 with | true => rfl | false => exact absurd (show q_fl y.2.2.1 = 0 by rw [hbb]; rfl) c16))
          rw [hfv, hac]
          exact (by rw [Nat.add_zero]; exact Int32.add_zero _)
  refine lv_iconst (v := 0) C.1 C.2.1 dX5_usedPieces_0 (by decide) ?_
  refine q_istore_n (x := 0) (lv' := [(1, .int (0)), (0, va_rf (some c9))]) C dX5_usedPieces_1 rfl hl (by decide) (q_k0 (q_kC 0 rfl (by decide) (q_cat _) q_kz)) (fun ls hl => ?_)
  refine q_aload_n (r := some c9) C dX5_usedPieces_2 rfl (lv_at hl 1 rfl) ?_
  refine g_Shelf_lowest C hV hL_c9 hK_c9 (Or.inl wd_193) dX5_usedPieces_3 ?_
  refine q_nr (fun r3 h3 => ?_)
  refine q_astore_n (r := r3) (lv' := [(2, va_rf (r3)), (1, .int (0)), (0, va_rf (some c9))]) C dX5_usedPieces_6 rfl hl (by decide) (q_k0 (q_kC 0 rfl (by decide) rfl (q_kN 1 rfl (by decide) (by decide) q_kz))) (fun ls hl => ?_)
  exact loop (P9.length + 1) 0 r3 0 P9 1 ls (Nat.lt_succ_self _) hl (by rw [h3]; exact hch9) hpc9 nI_0.symm (Nat.zero_add _) (fun x hx => hx)
theorem c_Shelf_usedPieces (l : Launch) (E : qE) (S : qS) (c9 n9 : Nat) (P9 : List q_X) (hln : q_line S c9 n9 P9) : q_Mi l yX5_usedPieces cX5_usedPieces 3 .int { frames := 0, cells := 0, slots := 0, locals := 0 } E [.ref c9] S (fun r S1 => S1 = S ∧ r = nI (q_cn q_f2 (q_vl P9))) 0 0 := c0_Shelf_usedPieces l E S c9 n9 P9 hln _ (fun _ _ h => h)

set_option maxHeartbeats 4000000 in
set_option maxRecDepth 100000 in
theorem c0_Shelf_shelvedPieces (l : Launch) (E : qE) (S : qS) (c9 n9 : Nat) (P9 : List q_X) (hln : q_line S c9 n9 P9) (post : Int32 → qS → Prop) (hpost : ∀ r S1, (S1 = S ∧ r = nI (q_cn q_f3 (q_vl P9))) → post r S1) : q_Mi l yX5_shelvedPieces cX5_shelvedPieces 3 .int { frames := 1, cells := 0, slots := 0, locals := 20 } E [.ref c9] S (post) 0 0 := by
  refine q_ofW1 (by decide) (q_1c rfl q_1n) (Nat.le_of_ble_eq_true rfl) (fun p e s m below meth c C hV hr hlk hnm ls hl => ?_)
  have hl : lv_has ls 3 [(0, va_rf (some c9))] := hl
  obtain ⟨hL_c9, hK_c9, hn9, hch9, hpc9, hsz9, hle9, hpos9⟩ := id hln
  have loop : ∀ (k : Nat) (ac : Int32) (pp : Option Nat) (k9 : Nat) (R : List q_X) (a9 : Nat) (H : Heap) (locs : List Loc) (ls : Array Slot), R.length < k → q_V E s S H locs → lv_has ls 3 [(2, va_rf (pp)), (1, .int (ac)), (0, va_rf (some c9))] → q_ch (S.R 0) pp (q_ad R) → q_pcs S a9 R → ac = nI k9 → k9 + q_cn q_f3 (q_vl R) = q_cn q_f3 (q_vl P9) → (∀ x ∈ R, x ∈ P9) → W p l e ({ frames := 1, cells := 0, slots := 0, locals := 20 } : Room) s m [.ref c9].toArray below meth c H locs (0) (0) (MQ below (va_Qi (post) (q_B E) E.A) [.ref c9].toArray s (0) (0) E.A) (F0 m 7 ls []) := by
    intro k
    induction k with
    | zero => intro ac pp k9 R a9 H locs ls hk; exact absurd hk (Nat.not_lt_zero _)
    | succ k ih =>
      intro ac pp k9 R a9 H locs ls hk hV hl hch hpc hac hcn hmem
      refine q_aload_n (r := pp) C dX5_shelvedPieces_7 rfl (lv_at hl 0 rfl) ?_
      refine q_ifnull (r := pp) (tgt := 34) C dX5_shelvedPieces_8 (by decide) (fun c8 => ?_) (fun x8 c8 => ?_)
      · subst c8
        refine lv_iload_n C.1 C.2.1 dX5_shelvedPieces_34 rfl (lv_at hl 1 rfl) ?_
        refine q_iret (v := ac) C hV hr hlk (Nat.le_of_ble_eq_true rfl) (Nat.le_of_ble_eq_true rfl) dX5_shelvedPieces_35 ?_
        have hR : R = [] := by cases R with | nil => rfl | cons y t => exact nomatch hch.1
        subst hR
        refine hpost _ _ ⟨rfl, ?_⟩
        rw [hac, ← hcn]
        rfl
      · subst c8
        obtain ⟨y, R9, rfl, hy, hch2⟩ : ∃ y R9, R = y :: R9 ∧ y.1 = x8 ∧ q_ch (S.R 0) (S.R 0 x8) (q_ad R9) := by
          cases R with
          | nil => exact nomatch (show some x8 = none from hch)
          | cons y t => have e := Option.some.inj hch.1; exact ⟨y, t, rfl, e.symm, by have h2 := hch.2; rw [← e] at h2; exact h2⟩
        subst hy
        have hpc2 := hpc
        obtain ⟨hL_y, hK_y, hAt, hCe, hFr, -⟩ := hpc.1
        have hy1 := q_sz_mem (hmem y List.mem_cons_self)
        have hyp := hpos9 y (hmem y List.mem_cons_self)
        refine lv_iload_n C.1 C.2.1 dX5_shelvedPieces_11 rfl (lv_at hl 1 rfl) ?_
        refine q_aload_n (r := some y.1) C dX5_shelvedPieces_12 rfl (lv_at hl 0 rfl) ?_
        refine q_ci hV (q_rN (b := y.1) (As := []) (rest := [.int (ac)]) C hV (c_Piece_isShelved l E S y.1 hL_y hK_y) wd_256 wd_253 wd_255 wd_15 wd_43 ok_X0_isShelved ⟨rfl, rfl, Nat.le_of_ble_eq_true rfl, Nat.le_of_ble_eq_true rfl⟩ (q_rc0 hV hL_y hK_y) rfl hl.1 rfl (q_sm (q_1c rfl q_1n) (Nat.le_of_ble_eq_true rfl)) dX5_shelvedPieces_13 ⟨Nat.le_of_ble_eq_true rfl, Nat.le_of_ble_eq_true rfl⟩) (fun i13 S13 H locs hp13 hV => ?_)
        obtain ⟨eS13, hp13⟩ := hp13
        rw [eS13] at hV
        refine lv_if_eq (tgt := 23) C.1 C.2.1 dX5_shelvedPieces_16 (by decide) (fun c16 => ?_) (fun c16 => ?_)
        · have hiff : (¬ S.I 2 y.1 = 0 ∧ 3 ≤ S.I 1 y.1) ↔ (y.2.2.1 = true ∧ 3 ≤ y.2.1) := by
            rw [hFr, hCe, q_fl0]
            have h3 : (3 : Int32) = nI 3 := by decide
            rw [h3, nI_leI (by omega) (by omega)]
            cases y.2.2.1 <;> simp
          have hcnd : ¬ (y.2.2.1 = true ∧ 3 ≤ y.2.1) := fun h9 => by rw [if_pos (hiff.mpr h9)] at hp13; rw [hp13] at c16; exact absurd c16 (by decide)
          refine lv_iconst (v := 0) C.1 C.2.1 dX5_shelvedPieces_23 (by decide) ?_
          refine lv_iadd C.1 C.2.1 dX5_shelvedPieces_24 ?_
          refine q_istore_n (x := ac + 0) (lv' := [(1, .int (ac + 0)), (2, va_rf (some y.1)), (0, va_rf (some c9))]) C dX5_shelvedPieces_25 rfl hl (by decide) (q_k0 (q_kN 0 rfl (by decide) (by decide) (q_kC 2 rfl (by decide) (q_cat _) q_kz))) (fun ls hl => ?_)
          refine q_aload_n (r := some y.1) C dX5_shelvedPieces_26 rfl (lv_at hl 1 rfl) ?_
          refine g_Piece_behind C hV hL_y hK_y (Or.inr ⟨_, wd_146⟩) dX5_shelvedPieces_27 ?_
          refine q_nr (fun r27 h27 => ?_)
          refine q_astore_n (r := r27) (lv' := [(2, va_rf (r27)), (1, .int (ac + 0)), (0, va_rf (some c9))]) C dX5_shelvedPieces_30 rfl hl (by decide) (q_k0 (q_kC 0 rfl (by decide) rfl (q_kN 2 rfl (by decide) (by decide) q_kz))) (fun ls hl => ?_)
          refine lv_goto (tgt := 7) C.1 C.2.1 dX5_shelvedPieces_31 (by decide) ?_
          subst h27
          refine ih _ (S.R 0 y.1) (k9 + q_f3 y.2) R9 (a9 + y.2.1) H locs ls (by simp at hk; omega) hV hl hch2 hpc2.2 ?_ (by have hcn2 : k9 + (q_f3 y.2 + q_cn q_f3 (q_vl R9)) = q_cn q_f3 (q_vl P9) := hcn; omega) (fun x hx => hmem x (List.mem_cons_of_mem _ hx))
          have hfv : q_f3 y.2 = 0 := (if_neg hcnd)
          rw [hfv, hac]
          exact (by rw [Nat.add_zero]; exact Int32.add_zero _)
        · have hiff : (¬ S.I 2 y.1 = 0 ∧ 3 ≤ S.I 1 y.1) ↔ (y.2.2.1 = true ∧ 3 ≤ y.2.1) := by
            rw [hFr, hCe, q_fl0]
            have h3 : (3 : Int32) = nI 3 := by decide
            rw [h3, nI_leI (by omega) (by omega)]
            cases y.2.2.1 <;> simp
          have hcnd : y.2.2.1 = true ∧ 3 ≤ y.2.1 := by
            rcases Classical.em (y.2.2.1 = true ∧ 3 ≤ y.2.1) with h9 | h9
            · exact h9
            · rw [if_neg (fun h8 => h9 (hiff.mp h8))] at hp13; exact absurd hp13 c16
          refine lv_iconst (v := 1) C.1 C.2.1 dX5_shelvedPieces_19 (by decide) ?_
          refine lv_goto (tgt := 24) C.1 C.2.1 dX5_shelvedPieces_20 (by decide) ?_
          refine lv_iadd C.1 C.2.1 dX5_shelvedPieces_24 ?_
          refine q_istore_n (x := ac + 1) (lv' := [(1, .int (ac + 1)), (2, va_rf (some y.1)), (0, va_rf (some c9))]) C dX5_shelvedPieces_25 rfl hl (by decide) (q_k0 (q_kN 0 rfl (by decide) (by decide) (q_kC 2 rfl (by decide) (q_cat _) q_kz))) (fun ls hl => ?_)
          refine q_aload_n (r := some y.1) C dX5_shelvedPieces_26 rfl (lv_at hl 1 rfl) ?_
          refine g_Piece_behind C hV hL_y hK_y (Or.inr ⟨_, wd_146⟩) dX5_shelvedPieces_27 ?_
          refine q_nr (fun r27 h27 => ?_)
          refine q_astore_n (r := r27) (lv' := [(2, va_rf (r27)), (1, .int (ac + 1)), (0, va_rf (some c9))]) C dX5_shelvedPieces_30 rfl hl (by decide) (q_k0 (q_kC 0 rfl (by decide) rfl (q_kN 2 rfl (by decide) (by decide) q_kz))) (fun ls hl => ?_)
          refine lv_goto (tgt := 7) C.1 C.2.1 dX5_shelvedPieces_31 (by decide) ?_
          subst h27
          refine ih _ (S.R 0 y.1) (k9 + q_f3 y.2) R9 (a9 + y.2.1) H locs ls (by simp at hk; omega) hV hl hch2 hpc2.2 ?_ (by have hcn2 : k9 + (q_f3 y.2 + q_cn q_f3 (q_vl R9)) = q_cn q_f3 (q_vl P9) := hcn; omega) (fun x hx => hmem x (List.mem_cons_of_mem _ hx))
          have hfv : q_f3 y.2 = 1 := (if_pos hcnd)
          rw [hfv, hac]
          exact nI_1 k9
  refine lv_iconst (v := 0) C.1 C.2.1 dX5_shelvedPieces_0 (by decide) ?_
  refine q_istore_n (x := 0) (lv' := [(1, .int (0)), (0, va_rf (some c9))]) C dX5_shelvedPieces_1 rfl hl (by decide) (q_k0 (q_kC 0 rfl (by decide) (q_cat _) q_kz)) (fun ls hl => ?_)
  refine q_aload_n (r := some c9) C dX5_shelvedPieces_2 rfl (lv_at hl 1 rfl) ?_
  refine g_Shelf_lowest C hV hL_c9 hK_c9 (Or.inl wd_193) dX5_shelvedPieces_3 ?_
  refine q_nr (fun r3 h3 => ?_)
  refine q_astore_n (r := r3) (lv' := [(2, va_rf (r3)), (1, .int (0)), (0, va_rf (some c9))]) C dX5_shelvedPieces_6 rfl hl (by decide) (q_k0 (q_kC 0 rfl (by decide) rfl (q_kN 1 rfl (by decide) (by decide) q_kz))) (fun ls hl => ?_)
  exact loop (P9.length + 1) 0 r3 0 P9 1 s.heap [] ls (Nat.lt_succ_self _) hV hl (by rw [h3]; exact hch9) hpc9 nI_0.symm (Nat.zero_add _) (fun x hx => hx)
theorem c_Shelf_shelvedPieces (l : Launch) (E : qE) (S : qS) (c9 n9 : Nat) (P9 : List q_X) (hln : q_line S c9 n9 P9) : q_Mi l yX5_shelvedPieces cX5_shelvedPieces 3 .int { frames := 1, cells := 0, slots := 0, locals := 20 } E [.ref c9] S (fun r S1 => S1 = S ∧ r = nI (q_cn q_f3 (q_vl P9))) 0 0 := c0_Shelf_shelvedPieces l E S c9 n9 P9 hln _ (fun _ _ h => h)

set_option maxHeartbeats 4000000 in
set_option maxRecDepth 100000 in
theorem c0_Shelf_crumbs (l : Launch) (E : qE) (S : qS) (c9 n9 : Nat) (P9 : List q_X) (hln : q_line S c9 n9 P9) (post : Int32 → qS → Prop) (hpost : ∀ r S1, (S1 = S ∧ r = nI (q_cn q_f4 (q_vl P9))) → post r S1) : q_Mi l yX5_crumbs cX5_crumbs 3 .int { frames := 1, cells := 0, slots := 0, locals := 20 } E [.ref c9] S (post) 0 0 := by
  refine q_ofW1 (by decide) (q_1c rfl q_1n) (Nat.le_of_ble_eq_true rfl) (fun p e s m below meth c C hV hr hlk hnm ls hl => ?_)
  have hl : lv_has ls 3 [(0, va_rf (some c9))] := hl
  obtain ⟨hL_c9, hK_c9, hn9, hch9, hpc9, hsz9, hle9, hpos9⟩ := id hln
  have loop : ∀ (k : Nat) (ac : Int32) (pp : Option Nat) (k9 : Nat) (R : List q_X) (a9 : Nat) (H : Heap) (locs : List Loc) (ls : Array Slot), R.length < k → q_V E s S H locs → lv_has ls 3 [(2, va_rf (pp)), (1, .int (ac)), (0, va_rf (some c9))] → q_ch (S.R 0) pp (q_ad R) → q_pcs S a9 R → ac = nI k9 → k9 + q_cn q_f4 (q_vl R) = q_cn q_f4 (q_vl P9) → (∀ x ∈ R, x ∈ P9) → W p l e ({ frames := 1, cells := 0, slots := 0, locals := 20 } : Room) s m [.ref c9].toArray below meth c H locs (0) (0) (MQ below (va_Qi (post) (q_B E) E.A) [.ref c9].toArray s (0) (0) E.A) (F0 m 7 ls []) := by
    intro k
    induction k with
    | zero => intro ac pp k9 R a9 H locs ls hk; exact absurd hk (Nat.not_lt_zero _)
    | succ k ih =>
      intro ac pp k9 R a9 H locs ls hk hV hl hch hpc hac hcn hmem
      refine q_aload_n (r := pp) C dX5_crumbs_7 rfl (lv_at hl 0 rfl) ?_
      refine q_ifnull (r := pp) (tgt := 34) C dX5_crumbs_8 (by decide) (fun c8 => ?_) (fun x8 c8 => ?_)
      · subst c8
        refine lv_iload_n C.1 C.2.1 dX5_crumbs_34 rfl (lv_at hl 1 rfl) ?_
        refine q_iret (v := ac) C hV hr hlk (Nat.le_of_ble_eq_true rfl) (Nat.le_of_ble_eq_true rfl) dX5_crumbs_35 ?_
        have hR : R = [] := by cases R with | nil => rfl | cons y t => exact nomatch hch.1
        subst hR
        refine hpost _ _ ⟨rfl, ?_⟩
        rw [hac, ← hcn]
        rfl
      · subst c8
        obtain ⟨y, R9, rfl, hy, hch2⟩ : ∃ y R9, R = y :: R9 ∧ y.1 = x8 ∧ q_ch (S.R 0) (S.R 0 x8) (q_ad R9) := by
          cases R with
          | nil => exact nomatch (show some x8 = none from hch)
          | cons y t => have e := Option.some.inj hch.1; exact ⟨y, t, rfl, e.symm, by have h2 := hch.2; rw [← e] at h2; exact h2⟩
        subst hy
        have hpc2 := hpc
        obtain ⟨hL_y, hK_y, hAt, hCe, hFr, -⟩ := hpc.1
        have hy1 := q_sz_mem (hmem y List.mem_cons_self)
        have hyp := hpos9 y (hmem y List.mem_cons_self)
        refine lv_iload_n C.1 C.2.1 dX5_crumbs_11 rfl (lv_at hl 1 rfl) ?_
        refine q_aload_n (r := some y.1) C dX5_crumbs_12 rfl (lv_at hl 0 rfl) ?_
        refine q_ci hV (q_rN (b := y.1) (As := []) (rest := [.int (ac)]) C hV (c_Piece_isCrumb l E S y.1 hL_y hK_y) wd_461 wd_458 wd_460 wd_26 wd_43 ok_X0_isCrumb ⟨rfl, rfl, Nat.le_of_ble_eq_true rfl, Nat.le_of_ble_eq_true rfl⟩ (q_rc0 hV hL_y hK_y) rfl hl.1 rfl (q_sm (q_1c rfl q_1n) (Nat.le_of_ble_eq_true rfl)) dX5_crumbs_13 ⟨Nat.le_of_ble_eq_true rfl, Nat.le_of_ble_eq_true rfl⟩) (fun i13 S13 H locs hp13 hV => ?_)
        obtain ⟨eS13, hp13⟩ := hp13
        rw [eS13] at hV
        refine lv_if_eq (tgt := 23) C.1 C.2.1 dX5_crumbs_16 (by decide) (fun c16 => ?_) (fun c16 => ?_)
        · have hiff : (¬ S.I 2 y.1 = 0 ∧ S.I 1 y.1 < 3) ↔ (y.2.2.1 = true ∧ y.2.1 < 3) := by
            rw [hFr, hCe, q_fl0]
            have h3 : (3 : Int32) = nI 3 := by decide
            rw [h3, nI_ltI (by omega) (by omega)]
            cases y.2.2.1 <;> simp
          have hcnd : ¬ (y.2.2.1 = true ∧ y.2.1 < 3) := fun h9 => by rw [if_pos (hiff.mpr h9)] at hp13; rw [hp13] at c16; exact absurd c16 (by decide)
          refine lv_iconst (v := 0) C.1 C.2.1 dX5_crumbs_23 (by decide) ?_
          refine lv_iadd C.1 C.2.1 dX5_crumbs_24 ?_
          refine q_istore_n (x := ac + 0) (lv' := [(1, .int (ac + 0)), (2, va_rf (some y.1)), (0, va_rf (some c9))]) C dX5_crumbs_25 rfl hl (by decide) (q_k0 (q_kN 0 rfl (by decide) (by decide) (q_kC 2 rfl (by decide) (q_cat _) q_kz))) (fun ls hl => ?_)
          refine q_aload_n (r := some y.1) C dX5_crumbs_26 rfl (lv_at hl 1 rfl) ?_
          refine g_Piece_behind C hV hL_y hK_y (Or.inr ⟨_, wd_146⟩) dX5_crumbs_27 ?_
          refine q_nr (fun r27 h27 => ?_)
          refine q_astore_n (r := r27) (lv' := [(2, va_rf (r27)), (1, .int (ac + 0)), (0, va_rf (some c9))]) C dX5_crumbs_30 rfl hl (by decide) (q_k0 (q_kC 0 rfl (by decide) rfl (q_kN 2 rfl (by decide) (by decide) q_kz))) (fun ls hl => ?_)
          refine lv_goto (tgt := 7) C.1 C.2.1 dX5_crumbs_31 (by decide) ?_
          subst h27
          refine ih _ (S.R 0 y.1) (k9 + q_f4 y.2) R9 (a9 + y.2.1) H locs ls (by simp at hk; omega) hV hl hch2 hpc2.2 ?_ (by have hcn2 : k9 + (q_f4 y.2 + q_cn q_f4 (q_vl R9)) = q_cn q_f4 (q_vl P9) := hcn; omega) (fun x hx => hmem x (List.mem_cons_of_mem _ hx))
          have hfv : q_f4 y.2 = 0 := (if_neg hcnd)
          rw [hfv, hac]
          exact (by rw [Nat.add_zero]; exact Int32.add_zero _)
        · have hiff : (¬ S.I 2 y.1 = 0 ∧ S.I 1 y.1 < 3) ↔ (y.2.2.1 = true ∧ y.2.1 < 3) := by
            rw [hFr, hCe, q_fl0]
            have h3 : (3 : Int32) = nI 3 := by decide
            rw [h3, nI_ltI (by omega) (by omega)]
            cases y.2.2.1 <;> simp
          have hcnd : y.2.2.1 = true ∧ y.2.1 < 3 := by
            rcases Classical.em (y.2.2.1 = true ∧ y.2.1 < 3) with h9 | h9
            · exact h9
            · rw [if_neg (fun h8 => h9 (hiff.mp h8))] at hp13; exact absurd hp13 c16
          refine lv_iconst (v := 1) C.1 C.2.1 dX5_crumbs_19 (by decide) ?_
          refine lv_goto (tgt := 24) C.1 C.2.1 dX5_crumbs_20 (by decide) ?_
          refine lv_iadd C.1 C.2.1 dX5_crumbs_24 ?_
          refine q_istore_n (x := ac + 1) (lv' := [(1, .int (ac + 1)), (2, va_rf (some y.1)), (0, va_rf (some c9))]) C dX5_crumbs_25 rfl hl (by decide) (q_k0 (q_kN 0 rfl (by decide) (by decide) (q_kC 2 rfl (by decide) (q_cat _) q_kz))) (fun ls hl => ?_)
          refine q_aload_n (r := some y.1) C dX5_crumbs_26 rfl (lv_at hl 1 rfl) ?_
          refine g_Piece_behind C hV hL_y hK_y (Or.inr ⟨_, wd_146⟩) dX5_crumbs_27 ?_
          refine q_nr (fun r27 h27 => ?_)
          refine q_astore_n (r := r27) (lv' := [(2, va_rf (r27)), (1, .int (ac + 1)), (0, va_rf (some c9))]) C dX5_crumbs_30 rfl hl (by decide) (q_k0 (q_kC 0 rfl (by decide) rfl (q_kN 2 rfl (by decide) (by decide) q_kz))) (fun ls hl => ?_)
          refine lv_goto (tgt := 7) C.1 C.2.1 dX5_crumbs_31 (by decide) ?_
          subst h27
          refine ih _ (S.R 0 y.1) (k9 + q_f4 y.2) R9 (a9 + y.2.1) H locs ls (by simp at hk; omega) hV hl hch2 hpc2.2 ?_ (by have hcn2 : k9 + (q_f4 y.2 + q_cn q_f4 (q_vl R9)) = q_cn q_f4 (q_vl P9) := hcn; omega) (fun x hx => hmem x (List.mem_cons_of_mem _ hx))
          have hfv : q_f4 y.2 = 1 := (if_pos hcnd)
          rw [hfv, hac]
          exact nI_1 k9
  refine lv_iconst (v := 0) C.1 C.2.1 dX5_crumbs_0 (by decide) ?_
  refine q_istore_n (x := 0) (lv' := [(1, .int (0)), (0, va_rf (some c9))]) C dX5_crumbs_1 rfl hl (by decide) (q_k0 (q_kC 0 rfl (by decide) (q_cat _) q_kz)) (fun ls hl => ?_)
  refine q_aload_n (r := some c9) C dX5_crumbs_2 rfl (lv_at hl 1 rfl) ?_
  refine g_Shelf_lowest C hV hL_c9 hK_c9 (Or.inl wd_193) dX5_crumbs_3 ?_
  refine q_nr (fun r3 h3 => ?_)
  refine q_astore_n (r := r3) (lv' := [(2, va_rf (r3)), (1, .int (0)), (0, va_rf (some c9))]) C dX5_crumbs_6 rfl hl (by decide) (q_k0 (q_kC 0 rfl (by decide) rfl (q_kN 1 rfl (by decide) (by decide) q_kz))) (fun ls hl => ?_)
  exact loop (P9.length + 1) 0 r3 0 P9 1 s.heap [] ls (Nat.lt_succ_self _) hV hl (by rw [h3]; exact hch9) hpc9 nI_0.symm (Nat.zero_add _) (fun x hx => hx)
theorem c_Shelf_crumbs (l : Launch) (E : qE) (S : qS) (c9 n9 : Nat) (P9 : List q_X) (hln : q_line S c9 n9 P9) : q_Mi l yX5_crumbs cX5_crumbs 3 .int { frames := 1, cells := 0, slots := 0, locals := 20 } E [.ref c9] S (fun r S1 => S1 = S ∧ r = nI (q_cn q_f4 (q_vl P9))) 0 0 := c0_Shelf_crumbs l E S c9 n9 P9 hln _ (fun _ _ h => h)

