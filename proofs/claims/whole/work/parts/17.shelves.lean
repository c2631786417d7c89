/-- the row of a size, or that it has none -/
def q_rowAt (S : qS) (ar : Nat) (ns : List Nat) (rows : Nat → List Nat) (n : Int) (r : Option Nat) : Prop :=
  (r = none ∧ (n < 3 ∨ rows n.toNat = [])) ∨ ∃ a, r = some a ∧ 3 ≤ n ∧ q_row S rows n.toNat a ∧ (n < 64 → S.B ar (n.toNat - 3) = some a) ∧ (64 ≤ n → a ∈ ns)
theorem q_i3 : (3 : Int32).toInt = 3 := by decide
theorem q_i64 : (64 : Int32).toInt = 64 := by decide
theorem q_i0 : (0 : Int32).toInt = 0 := by decide
theorem q_nat {x : Int32} (h : 0 ≤ x.toInt) : x = nI x.toInt.toNat ∧ x.toInt.toNat < 2 ^ 31 := by
  have hb : x.toInt < 2 ^ 31 := Int32.toInt_lt x
  have h2 : x.toInt.toNat < 2 ^ 31 := by omega
  refine ⟨q_i_eq.mpr ?_, h2⟩
  rw [nI_toInt h2]
  omega
theorem q_sub3 {x : Int32} (h : 3 ≤ x.toInt) : x - 3 = nI (x.toInt.toNat - 3) := by
  obtain ⟨e, hb⟩ := q_nat (x := x) (by omega)
  have h3 : (3 : Int32) = nI 3 := by decide
  rw [h3]
  conv => lhs; rw [e]
  exact pk_sub (by omega)
set_option maxHeartbeats 4000000 in
set_option maxRecDepth 100000 in
theorem c0_Shelves_rowOf (l : Launch) (E : qE) (S : qS) (h ar t : Nat) (ns : List Nat) (rows : Nat → List Nat) (hs : q_sh S h ar t ns rows) (n : Int32) (post : Option Nat → qS → Prop) (hpost : ∀ r S1, (S1 = S ∧ q_rowAt S ar ns rows n.toInt r) → post r S1) : q_Mq l yX2_rowOf cX2_rowOf 2 (.object "ChunkShelf$Row") { frames := 1, cells := 0, slots := 0, locals := 22 } E [.ref h, .int n] S (post) 0 0 := by
  refine q_ofW1 (by decide) (q_1c rfl (q_1c rfl q_1n)) (Nat.le_of_ble_eq_true rfl) (fun p e s m below meth c C hV hr hlk hnm ls hl => ?_)
  have hl : lv_has ls 2 [(0, va_rf (some h)), (1, .int (n))] := hl
  have hs0 := hs
  obtain ⟨⟨hL_h, hK_h, hsm, hgr⟩, ⟨hL_ar, hK_ar, hNar⟩, hsmall, htree, hgreat, hgreat2, hpcs⟩ := hs
  have hL_t := htree.1
  have hK_t := htree.2.1
  have hN_ar : S.N ar < 2 ^ 31 := by rw [hNar]; decide
  refine lv_iload_n C.1 C.2.1 dX2_rowOf_0 rfl (lv_at hl 1 rfl) ?_
  refine lv_iconst (v := 3) C.1 C.2.1 dX2_rowOf_1 (by decide) ?_
  refine lv_icmp_ge (tgt := 7) C.1 C.2.1 dX2_rowOf_2 (by decide) (fun c2 => ?_) (fun c2 => ?_)
  · refine lv_iload_n C.1 C.2.1 dX2_rowOf_7 rfl (lv_at hl 1 rfl) ?_
    refine lv_bipush (v := 64) C.1 C.2.1 dX2_rowOf_8 (by decide) ?_
    refine lv_icmp_ge (tgt := 24) C.1 C.2.1 dX2_rowOf_10 (by decide) (fun c10 => ?_) (fun c10 => ?_)
    · refine q_aload_n (r := some h) C dX2_rowOf_24 rfl (lv_at hl 0 rfl) ?_
      refine g_Shelves_great C hV hL_h hK_h (Or.inl wd_113) dX2_rowOf_25 ?_
      refine q_tr (v' := some t) (hgr) ?_
      refine lv_iload_n C.1 C.2.1 dX2_rowOf_28 rfl (lv_at hl 1 rfl) ?_
      refine q_cq hV (q_rN (b := t) (As := [.int (n)]) (rest := []) C hV (c_Tree_rowOf l E S t n ns htree) wd_177 wd_221 wd_176 wd_4 wd_42 ok_X3_rowOf ⟨rfl, rfl, Nat.le_of_ble_eq_true rfl, Nat.le_of_ble_eq_true rfl⟩ (q_rc3 hV hL_t hK_t) rfl hl.1 rfl (q_sm q_1n (Nat.le_of_ble_eq_true rfl)) dX2_rowOf_29 ⟨Nat.le_of_ble_eq_true rfl, Nat.le_of_ble_eq_true rfl⟩) (fun r29 S29 H locs hp29 hV => ?_)
      obtain ⟨eS29, hp29⟩ := hp29
      rw [eS29] at hV
      refine q_aret (r := r29) C hV hr hlk (Nat.le_of_ble_eq_true rfl) (Nat.le_of_ble_eq_true rfl) dX2_rowOf_32 ?_
      have h3 := q_i_le.mp c2
      rw [q_i3] at h3
      have h4 := q_i_le.mp c10
      rw [q_i64] at h4
      refine hpost _ _ ⟨rfl, ?_⟩
      cases hr29 : r29 with
      | none =>
        refine Or.inl ⟨rfl, Or.inr ?_⟩
        rw [hr29] at hp29
        rcases Classical.em (rows n.toInt.toNat = []) with h | h
        · exact h
        · exfalso
          obtain ⟨r, h5, h6⟩ := hgreat2 n.toInt.toNat (by omega) h
          have h7 := List.find?_eq_none.mp hp29.symm r h5
          have h8 := q_row_z h6
          simp at h7
          omega
      | some a =>
        rw [hr29] at hp29
        have h5 := List.mem_of_find?_eq_some hp29.symm
        have h6 := List.find?_some hp29.symm
        simp at h6
        obtain ⟨z, h7, h8⟩ := hgreat a h5
        have h9 := q_row_z h8
        have ez : z = n.toInt.toNat := by omega
        subst ez
        exact Or.inr ⟨a, rfl, h3, h8, fun h => absurd h (by omega), fun _ => h5⟩
    · have h3 := q_i_le.mp c2
      rw [q_i3] at h3
      have h4 := mt q_i_le.mpr c10
      rw [q_i64] at h4
      obtain ⟨rw_, hrw0, hrow⟩ := hsmall (n.toInt.toNat - 3) (by omega)
      rw [show n.toInt.toNat - 3 + 3 = n.toInt.toNat by omega] at hrow
      have hrw : S.B ar (n.toInt.toNat - 3) = some rw_ := hrw0
      refine q_aload_n (r := some h) C dX2_rowOf_13 rfl (lv_at hl 0 rfl) ?_
      refine g_Shelves_small C hV hL_h hK_h (Or.inl wd_112) dX2_rowOf_14 ?_
      refine q_tr (v' := some ar) (hsm) ?_
      refine lv_iload_n C.1 C.2.1 dX2_rowOf_17 rfl (lv_at hl 1 rfl) ?_
      refine lv_iconst (v := 3) C.1 C.2.1 dX2_rowOf_18 (by decide) ?_
      refine lv_isub C.1 C.2.1 dX2_rowOf_19 ?_
      refine q_aald (j := n.toInt.toNat - 3) C hV hL_ar hK_ar (q_sub3 h3) (by rw [hNar]; omega) (hN_ar) dX2_rowOf_20 ?_
      refine q_nr (fun r20 h20 => ?_)
      refine lv_goto (tgt := 32) C.1 C.2.1 dX2_rowOf_21 (by decide) ?_
      refine q_aret (r := r20) C hV hr hlk (Nat.le_of_ble_eq_true rfl) (Nat.le_of_ble_eq_true rfl) dX2_rowOf_32 ?_
      subst h20
      refine hpost _ _ ⟨rfl, Or.inr ⟨rw_, hrw, h3, hrow, fun _ => hrw0, fun h => absurd h (by omega)⟩⟩
  · refine lv_null C.1 C.2.1 dX2_rowOf_5 ?_
    refine q_aret (r := none) C hV hr hlk (Nat.le_of_ble_eq_true rfl) (Nat.le_of_ble_eq_true rfl) dX2_rowOf_6 ?_
    have h2 := mt q_i_le.mpr c2
    rw [q_i3] at h2
    exact hpost _ _ ⟨rfl, Or.inl ⟨rfl, Or.inl (by omega)⟩⟩
theorem c_Shelves_rowOf (l : Launch) (E : qE) (S : qS) (h ar t : Nat) (ns : List Nat) (rows : Nat → List Nat) (hs : q_sh S h ar t ns rows) (n : Int32) : q_Mq l yX2_rowOf cX2_rowOf 2 (.object "ChunkShelf$Row") { frames := 1, cells := 0, slots := 0, locals := 22 } E [.ref h, .int n] S (fun r S1 => S1 = S ∧ q_rowAt S ar ns rows n.toInt r) 0 0 := c0_Shelves_rowOf l E S h ar t ns rows hs n _ (fun _ _ h => h)

set_option maxHeartbeats 4000000 in
set_option maxRecDepth 100000 in
theorem c0_Shelves_smallestFrom (l : Launch) (E : qE) (S : qS) (h ar t : Nat) (ns : List Nat) (rows : Nat → List Nat) (hs : q_sh S h ar t ns rows) (z0 : Nat) (hz0 : 3 ≤ z0) (hz1 : z0 < 2 ^ 30) (hne : ∀ r ∈ ns, rows (q_z S r).toNat ≠ []) (post : Option Nat → qS → Prop) (hpost : ∀ r S1, (S1 = S ∧ ((r = none ∧ ∀ y, z0 ≤ y → rows y = []) ∨ ∃ z, z0 ≤ z ∧ ∃ a u, rows z = a :: u ∧ r = some a ∧ ∀ y, z0 ≤ y → y < z → rows y = [])) → post r S1) : q_Mq l yX2_smallestFrom cX2_smallestFrom 4 (.object "ChunkShelf$Piece") { frames := 1, cells := 0, slots := 0, locals := 23 } E [.ref h, .int (nI z0)] S (post) 0 0 := by
  refine q_ofW1 (by decide) (q_1c rfl (q_1c rfl q_1n)) (Nat.le_of_ble_eq_true rfl) (fun p e s m below meth c C hV hr hlk hnm ls hl => ?_)
  have hl : lv_has ls 4 [(0, va_rf (some h)), (1, .int (nI z0))] := hl
  have hs0 := hs
  obtain ⟨⟨hL_h, hK_h, hsm, hgr⟩, ⟨hL_ar, hK_ar, hNar⟩, hsmall, htree, hgreat, hgreat2, hpcs⟩ := hs
  have hL_t := htree.1
  have hK_t := htree.2.1
  have hN_ar : S.N ar < 2 ^ 31 := by rw [hNar]; decide
  have loop : ∀ (k : Nat) (i : Int32) (z : Nat) (ls : Array Slot), 64 + 1 - z < k → lv_has ls 4 [(2, .int (i)), (0, va_rf (some h)), (1, .int (nI z0))] → i = nI z → z0 ≤ z → z < 2 ^ 30 → (∀ y, z0 ≤ y → y < z → rows y = []) → W p l e ({ frames := 1, cells := 0, slots := 0, locals := 23 } : Room) s m [.ref h, .int (nI z0)].toArray below meth c s.heap [] (0) (0) (MQ below (va_Qq (post) (q_B E) E.A) [.ref h, .int (nI z0)].toArray s (0) (0) E.A) (F0 m 6 ls []) := by
    intro k
    induction k with
    | zero => intro i z ls hk; exact absurd hk (Nat.not_lt_zero _)
    | succ k ih =>
      intro i z ls hk hl hi hz hzb hem
      refine lv_iload_n C.1 C.2.1 dX2_smallestFrom_6 rfl (lv_at hl 0 rfl) ?_
      refine lv_bipush (v := 64) C.1 C.2.1 dX2_smallestFrom_7 (by decide) ?_
      refine lv_icmp_ge (tgt := 39) C.1 C.2.1 dX2_smallestFrom_9 (by decide) (fun c9 => ?_) (fun c9 => ?_)
      · have h3 : 64 ≤ z := by
          rcases Nat.lt_or_ge z 64 with h | h
          · exfalso
            rw [hi] at c9
            exact nI_ge (b := 64) h (by omega) c9
          · exact h
        refine q_aload_n (r := some h) C dX2_smallestFrom_39 rfl (lv_at hl 1 rfl) ?_
        refine g_Shelves_great C hV hL_h hK_h (Or.inl wd_113) dX2_smallestFrom_40 ?_
        refine q_tr (v' := some t) (hgr) ?_
        refine lv_iload_n C.1 C.2.1 dX2_smallestFrom_43 rfl (lv_at hl 2 rfl) ?_
        refine q_cq hV (q_rN (b := t) (As := [.int (nI z0)]) (rest := []) C hV (c_Tree_leastFrom l E S t (nI z0) ns htree) wd_386 wd_383 wd_385 wd_21 wd_42 ok_X3_leastFrom ⟨rfl, rfl, Nat.le_of_ble_eq_true rfl, Nat.le_of_ble_eq_true rfl⟩ (q_rc3 hV hL_t hK_t) rfl hl.1 rfl (q_sm q_1n (Nat.le_of_ble_eq_true rfl)) dX2_smallestFrom_44 ⟨Nat.le_of_ble_eq_true rfl, Nat.le_of_ble_eq_true rfl⟩) (fun r44 S44 H locs hp44 hV => ?_)
        obtain ⟨eS44, hp44⟩ := hp44
        rw [eS44] at hV
        refine q_astore_n (r := r44) (lv' := [(2, va_rf (r44)), (0, va_rf (some h)), (1, .int (nI z0))]) C dX2_smallestFrom_47 rfl hl (by decide) (q_k0 (q_kN 1 rfl (by decide) (by decide) (q_kC 2 rfl (by decide) rfl q_kz))) (fun ls hl => ?_)
        refine q_aload_n (r := r44) C dX2_smallestFrom_48 rfl (lv_at hl 0 rfl) ?_
        refine q_ifnonnull (r := r44) (tgt := 56) C dX2_smallestFrom_49 (by decide) (fun x49 c49 => ?_) (fun c49 => ?_)
        · subst c49
          have h5 := List.mem_of_find?_eq_some hp44.symm
          obtain ⟨hL_x49, hK_x49⟩ := htree.2.2.2.1 x49 h5
          refine q_aload_n (r := some x49) C dX2_smallestFrom_56 rfl (lv_at hl 0 rfl) ?_
          refine g_Row_latest C hV hL_x49 hK_x49 (Or.inr ⟨_, wd_78⟩) dX2_smallestFrom_57 ?_
          refine q_nr (fun r57 h57 => ?_)
          refine q_aret (r := r57) C hV hr hlk (Nat.le_of_ble_eq_true rfl) (Nat.le_of_ble_eq_true rfl) dX2_smallestFrom_60 ?_
          obtain ⟨z9, h7, h8⟩ := hgreat x49 h5
          have h9 := q_row_z h8
          have h6 := List.find?_some hp44.symm
          rw [nI_toInt (by omega)] at h6
          simp at h6
          have hch := h8.2.2.2.2
          have hn := hne x49 h5
          rw [h9] at hn
          have e9 : (z9 : Int).toNat = z9 := by omega
          rw [e9] at hn
          cases hrz : rows z9 with
          | nil => exact absurd hrz hn
          | cons a u =>
            rw [hrz] at hch
            refine hpost _ _ ⟨rfl, Or.inr ⟨z9, by omega, a, u, hrz, by rw [h57]; exact hch.1, fun y h10 h11 => ?_⟩⟩
            rcases Nat.lt_or_ge y 64 with h12 | h12
            · exact hem y h10 (by omega)
            · rcases Classical.em (rows y = []) with h13 | h13
              · exact h13
              · exfalso
                obtain ⟨r, h14, h15⟩ := hgreat2 y h12 h13
                have h16 := q_row_z h15
                obtain ⟨as, bs, h17, h18⟩ := (List.find?_eq_some_iff_append.mp hp44.symm).2
                have h19 : r ∈ as := by
                  rw [h17] at h14
                  rcases List.mem_append.mp h14 with h | h
                  · exact h
                  · exfalso
                    have hso := htree.2.2.2.2
                    rw [h17] at hso
                    have hso2 := List.pairwise_cons.mp (List.pairwise_append.mp hso).2.1
                    rcases List.mem_cons.mp h with h | h
                    · rw [h] at h16; omega
                    · have := hso2.1 r h; omega
                have h20 := h18 r h19
                rw [nI_toInt (by omega)] at h20
                simp at h20
                omega
        · subst c49
          refine lv_null C.1 C.2.1 dX2_smallestFrom_52 ?_
          refine lv_goto (tgt := 60) C.1 C.2.1 dX2_smallestFrom_53 (by decide) ?_
          refine q_aret (r := none) C hV hr hlk (Nat.le_of_ble_eq_true rfl) (Nat.le_of_ble_eq_true rfl) dX2_smallestFrom_60 ?_
          refine hpost _ _ ⟨rfl, Or.inl ⟨rfl, fun y hy => ?_⟩⟩
          rcases Nat.lt_or_ge y 64 with h5 | h5
          · exact hem y hy (by omega)
          · rcases Classical.em (rows y = []) with h6 | h6
            · exact h6
            · exfalso
              obtain ⟨r, h7, h8⟩ := hgreat2 y h5 h6
              have h9 := List.find?_eq_none.mp hp44.symm r h7
              have h10 := q_row_z h8
              rw [nI_toInt (by omega)] at h9
              simp at h9
              omega
      · have h3 : z < 64 := by
          rcases Nat.lt_or_ge z 64 with h | h
          · exact h
          · exact absurd (by rw [hi]; exact nI_le (a := 64) h (by omega)) c9
        obtain ⟨rw_, hrw0, hrow⟩ := hsmall (z - 3) (by omega)
        rw [show z - 3 + 3 = z by omega] at hrow
        have hL_rw_ := hrow.1
        have hK_rw_ := hrow.2.1
        refine q_aload_n (r := some h) C dX2_smallestFrom_12 rfl (lv_at hl 1 rfl) ?_
        refine g_Shelves_small C hV hL_h hK_h (Or.inl wd_112) dX2_smallestFrom_13 ?_
        refine q_tr (v' := some ar) (hsm) ?_
        refine lv_iload_n C.1 C.2.1 dX2_smallestFrom_16 rfl (lv_at hl 0 rfl) ?_
        refine lv_iconst (v := 3) C.1 C.2.1 dX2_smallestFrom_17 (by decide) ?_
        refine lv_isub C.1 C.2.1 dX2_smallestFrom_18 ?_
        refine q_aald (j := z - 3) C hV hL_ar hK_ar (by rw [hi]; exact pk_sub (a := z) (b := 3) (by omega)) (by rw [hNar]; omega) (hN_ar) dX2_smallestFrom_19 ?_
        refine q_tr (v' := some rw_) (hrw0) ?_
        refine q_astore_n (r := some rw_) (lv' := [(3, va_rf (some rw_)), (2, .int (i)), (0, va_rf (some h)), (1, .int (nI z0))]) C dX2_smallestFrom_20 rfl hl (by decide) (q_k0 (q_kC 0 rfl (by decide) rfl (q_kN 1 rfl (by decide) (by decide) (q_kN 2 rfl (by decide) (by decide) q_kz)))) (fun ls hl => ?_)
        refine q_aload_n (r := some rw_) C dX2_smallestFrom_21 rfl (lv_at hl 0 rfl) ?_
        refine g_Row_latest C hV hL_rw_ hK_rw_ (Or.inr ⟨_, wd_78⟩) dX2_smallestFrom_22 ?_
        refine q_nr (fun r22 h22 => ?_)
        refine q_ifnull (r := r22) (tgt := 33) C dX2_smallestFrom_25 (by decide) (fun c25 => ?_) (fun x25 c25 => ?_)
        · subst c25
          obtain ⟨i33, e33⟩ : ∃ y : Int32, y = i + 1 := ⟨_, rfl⟩
          refine q_iinc (v := i33) (k := 1) (lv' := [(2, .int (i33)), (3, va_rf (some rw_)), (0, va_rf (some h)), (1, .int (nI z0))]) C dX2_smallestFrom_33 hl rfl (by rw [e33]; rfl) (by decide) (q_k0 (q_kN 0 rfl (by decide) (by decide) (q_kN 2 rfl (by decide) (by decide) (q_kC 3 rfl (by decide) rfl q_kz)))) (fun ls hl => ?_)
          refine lv_goto (tgt := 6) C.1 C.2.1 dX2_smallestFrom_36 (by decide) ?_
          exact ih i33 (z + 1) ls (by omega) (lv_sub hl [0, 2, 3] rfl) (by rw [e33, hi]; exact nI_1 z) (by omega) (by omega) (fun y h1 h2 => by
            rcases Nat.lt_or_ge y z with h3 | h3
            · exact hem y h1 h3
            · have ey : y = z := by omega
              subst ey
              have hch := hrow.2.2.2.2
              rw [← h22] at hch
              cases hrz : rows y with
              | nil => rfl
              | cons a u => rw [hrz] at hch; exact nomatch hch.1)
        · subst c25
          refine q_aload_n (r := some rw_) C dX2_smallestFrom_28 rfl (lv_at hl 0 rfl) ?_
          refine g_Row_latest C hV hL_rw_ hK_rw_ (Or.inr ⟨_, wd_78⟩) dX2_smallestFrom_29 ?_
          refine q_nr (fun r29 h29 => ?_)
          refine q_aret (r := r29) C hV hr hlk (Nat.le_of_ble_eq_true rfl) (Nat.le_of_ble_eq_true rfl) dX2_smallestFrom_32 ?_
          have hch := hrow.2.2.2.2
          rw [← h22] at hch
          cases hrz : rows z with
          | nil => rw [hrz] at hch; exact nomatch (show some x25 = none from hch)
          | cons a u =>
            rw [hrz] at hch
            refine hpost _ _ ⟨rfl, Or.inr ⟨z, hz, a, u, hrz, ?_, hem⟩⟩
            rw [h29, ← h22, hch.1]
  refine lv_iload_n C.1 C.2.1 dX2_smallestFrom_0 rfl (lv_at hl 1 rfl) ?_
  refine lv_iconst (v := 3) C.1 C.2.1 dX2_smallestFrom_1 (by decide) ?_
  refine va_mmax C.1 C.2.1 (C.2.2.1.trans hl.1.symm) C.2.2.2.1 (C.2.2.2.2 _ wd_380) (C.2.2.2.2 _ wd_381) (C.2.2.2.2 _ wd_49) (C.2.2.2.2 _ wd_382) (Nat.le_of_ble_eq_true rfl) (Nat.le_of_ble_eq_true rfl) (Nat.zero_le _) (Nat.zero_le _) dX2_smallestFrom_2 ?_
  refine q_ti (v' := nI z0) (by rw [if_neg]; intro hh; have h1 := q_i_lt.mp hh; rw [nI_toInt (by omega), q_i3] at h1; omega) ?_
  refine q_istore_n (x := nI z0) (lv' := [(2, .int (nI z0)), (0, va_rf (some h)), (1, .int (nI z0))]) C dX2_smallestFrom_5 rfl hl (by decide) (q_k0 (q_kN 0 rfl (by decide) (by decide) (q_kC 1 rfl (by decide) rfl q_kz))) (fun ls hl => ?_)
  exact loop (64 + 1 - z0 + 1) (nI z0) z0 ls (by omega) hl rfl (by omega) hz1 (fun y h1 h2 => absurd h1 (by omega))
theorem c_Shelves_smallestFrom (l : Launch) (E : qE) (S : qS) (h ar t : Nat) (ns : List Nat) (rows : Nat → List Nat) (hs : q_sh S h ar t ns rows) (z0 : Nat) (hz0 : 3 ≤ z0) (hz1 : z0 < 2 ^ 30) (hne : ∀ r ∈ ns, rows (q_z S r).toNat ≠ []) : q_Mq l yX2_smallestFrom cX2_smallestFrom 4 (.object "ChunkShelf$Piece") { frames := 1, cells := 0, slots := 0, locals := 23 } E [.ref h, .int (nI z0)] S (fun r S1 => S1 = S ∧ ((r = none ∧ ∀ y, z0 ≤ y → rows y = []) ∨ ∃ z, z0 ≤ z ∧ ∃ a u, rows z = a :: u ∧ r = some a ∧ ∀ y, z0 ≤ y → y < z → rows y = [])) 0 0 := c0_Shelves_smallestFrom l E S h ar t ns rows hs z0 hz0 hz1 hne _ (fun _ _ h => h)

