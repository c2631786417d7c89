abbrev q_cOR (l : List Nat) : Nat → Nat → Prop := fun j x => (j = 1 ∧ x ∈ l) ∨ j = 2 ∨ j = 3 ∨ j = 4 ∨ j = 7
theorem q_pull_end {S : qS} {h ar t g : Nat} {ns : List Nat} {rows : Nat → List Nat} (hs : q_sh S h ar t ns rows) (hne : q_ne S ns rows) (v : Int32) : q_sh (S.sI 2 g v) h ar t ns rows ∧ q_ne (S.sI 2 g v) ns rows :=
  ⟨q_sh_fr (cI := q_cPI g) (cR := q_c0) (cJ := q_c0) hs (q_fr_sI ⟨rfl, rfl⟩) (fun a z => absurd z.1 (by decide)) (fun y x hx z => absurd z.1 (by decide)) (fun a => ⟨id, id, id, id, id, id⟩) (fun y x hx => id), fun r hr => hne r hr⟩
theorem q_sh_drop {S S1 : qS} {h ar t z r g : Nat} {ns : List Nat} {rows : Nat → List Nat} (hs : q_sh S h ar t ns rows) (hr : q_row S rows z r) (hlo : z < 64 → S.B ar (z - 3) = some r) (hhi : 64 ≤ z → r ∈ ns) (hf : q_fr S S1 q_c0 (fun j x => (j = 1 ∧ x ∈ rows z) ∨ (j = 2 ∧ x = r)) q_c0) (hch : q_ch (S1.R 1) (S1.R 2 r) ((rows z).erase g)) : q_sh S1 h ar t ns (va_up rows z ((rows z).erase g)) := by
  have hpcs := hs.2.2.2.2.2.2
  refine q_sh_up hs hf hr (fun _ z => z) (fun _ _ _ _ z => z) (fun a => ⟨?_, ?_, ?_, ?_, ?_⟩) (fun a hc => ?_) (fun y hy x hx hc => ?_) hch (fun x hx => ?_) hlo hhi
  · rintro (⟨h1, -⟩ | ⟨h1, -⟩) <;> exact absurd h1 (by decide)
  · rintro (⟨h1, -⟩ | ⟨h1, -⟩) <;> exact absurd h1 (by decide)
  · rintro (⟨h1, -⟩ | ⟨h1, -⟩) <;> exact absurd h1 (by decide)
  · rintro (⟨h1, -⟩ | ⟨h1, -⟩) <;> exact absurd h1 (by decide)
  · rintro (⟨h1, -⟩ | ⟨h1, -⟩) <;> exact absurd h1 (by decide)
  · rcases hc with ⟨h1, -⟩ | ⟨-, h1⟩
    · exact absurd h1 (by decide)
    · exact h1
  · rcases hc with ⟨-, h1⟩ | ⟨h1, -⟩
    · obtain ⟨-, -, e1, l1⟩ := hpcs y x hx
      obtain ⟨-, -, e2, l2⟩ := hpcs z x h1
      exact hy ((nI_eq l1 l2).mp (e1.symm.trans e2))
    · exact absurd h1 (by decide)
  · have hx0 := List.mem_of_mem_erase hx
    obtain ⟨h1, h2, h3, -⟩ := hpcs z x hx0
    exact ⟨(hf.1 x h1).1, (hf.1 x h1).2.1.trans h2, (hf.2.1 x h1 1 (fun z => z)).trans h3⟩
theorem q_sh_gone {S S1 : qS} {h ar t z r : Nat} {pre post_ : List Nat} {rows : Nat → List Nat} (hs : q_sh S h ar t (pre ++ r :: post_) rows) (hr : q_row S rows z r) (hrz : rows z = []) (hf : q_fr S S1 q_c0 q_cT q_c0) (ht : q_tree S1 t (pre ++ post_)) : q_sh S1 h ar t (pre ++ post_) rows := by
  have nT : ∀ j x, j ≠ 3 → j ≠ 4 → j ≠ 7 → ¬ q_cT j x := fun j x h3 h4 h7 hc => by rcases hc with h | h | h; exact h3 h; exact h4 h; exact h7 h
  have rw1 : ∀ y r, q_row S rows y r → q_row S1 rows y r := fun y r hr => q_row_fr hr hf (fun z => z) (nT 2 r (by decide) (by decide) (by decide)) (fun p hp => ⟨(hs.2.2.2.2.2.2 y p hp).1, nT 1 p (by decide) (by decide) (by decide)⟩) rfl
  refine q_sh_tree hs hf ht (fun x hx => ?_) (fun y hy hne => ?_)
  · obtain ⟨y, h1, h2⟩ := hs.2.2.2.2.1 x (by simp only [List.mem_append, List.mem_cons] at hx ⊢; rcases hx with h | h <;> simp [h])
    exact ⟨y, h1, rw1 y x h2⟩
  · obtain ⟨x, h1, h2⟩ := hs.2.2.2.2.2.1 y hy hne
    refine ⟨x, ?_, rw1 y x h2⟩
    simp only [List.mem_append, List.mem_cons] at h1 ⊢
    rcases h1 with h1 | h1 | h1
    · exact Or.inl h1
    · subst h1
      have e := q_row_one h2 hr
      subst e
      exact absurd hrz hne
    · exact Or.inr h1
theorem q_ne_of {S S1 : qS} {ns ns' : List Nat} {rows rows' : Nat → List Nat} (hne : q_ne S ns rows) (h : ∀ r ∈ ns', r ∈ ns ∧ q_z S1 r = q_z S r ∧ (rows (q_z S r).toNat ≠ [] → rows' (q_z S r).toNat ≠ [])) : q_ne S1 ns' rows' := fun r hr => by
  obtain ⟨h1, h2, h3⟩ := h r hr
  rw [h2]
  exact h3 (hne r h1)
set_option maxHeartbeats 4000000 in
set_option maxRecDepth 100000 in
theorem c0_Shelves_pullOut (l : Launch) (E : qE) (S : qS) (h ar t : Nat) (ns : List Nat) (rows : Nat → List Nat) (hs : q_sh S h ar t ns rows) (hne : q_ne S ns rows) (g z : Nat) (hL_g : g ∈ S.L) (hK_g : S.K g = 0) (hcz : S.I 1 g = nI z) (hz : z < 2 ^ 31) (hin : 3 ≤ z → g ∈ rows z) (post : qS → Prop) (hpost : ∀ S1, (∃ ns', q_sh S1 h ar t ns' (if 3 ≤ z then va_up rows z ((rows z).erase g) else rows) ∧ q_ne S1 ns' (if 3 ≤ z then va_up rows z ((rows z).erase g) else rows) ∧ q_fr S S1 (q_cPI g) (q_cOR (rows z)) q_c0 ∧ S1.I 2 g = 0) → post S1) : q_Mv l yX2_pullOut cX2_pullOut 3 { frames := 2, cells := 0, slots := 0, locals := 44 } E [.ref h, .ref g] S (post) 0 0 := by
  refine q_ofW1 (by decide) (q_1c rfl (q_1c rfl q_1n)) (Nat.le_of_ble_eq_true rfl) (fun p e s m below meth c C hV hr hlk hnm ls hl => ?_)
  have hl : lv_has ls 3 [(0, va_rf (some h)), (1, va_rf (some g))] := hl
  have hs0 := hs
  obtain ⟨⟨hL_h, hK_h, -, hgr⟩, -⟩ := hs
  have hpcs := hs0.2.2.2.2.2.2
  refine q_aload_n (r := some h) C dX2_pullOut_0 rfl (lv_at hl 0 rfl) ?_
  refine q_aload_n (r := some g) C dX2_pullOut_1 rfl (lv_at hl 1 rfl) ?_
  refine g_Piece_cells C hV hL_g hK_g (Or.inr ⟨_, wd_140⟩) dX2_pullOut_2 ?_
  refine q_ti (v' := nI z) (hcz) ?_
  refine q_cq hV (q_rV (b := h) (As := [.int (nI z)]) (rest := []) C hV (c_Shelves_rowOf l E S h ar t ns rows hs0 (nI z)) wd_220 wd_217 wd_219 wd_10 wd_40 ok_X2_rowOf ⟨rfl, rfl, Nat.le_of_ble_eq_true rfl, Nat.le_of_ble_eq_true rfl⟩ (q_rc2 hV hL_h hK_h) rfl hl.1 rfl (q_sm q_1n (Nat.le_of_ble_eq_true rfl)) dX2_pullOut_5 ⟨Nat.le_of_ble_eq_true rfl, Nat.le_of_ble_eq_true rfl⟩) (fun r5 S5 H locs hp5 hV => ?_)
  obtain ⟨eS5, hp5⟩ := hp5
  rw [eS5] at hV
  refine q_astore_n (r := r5) (lv' := [(2, va_rf (r5)), (0, va_rf (some h)), (1, va_rf (some g))]) C dX2_pullOut_8 rfl hl (by decide) (q_k0 (q_kN 0 rfl (by decide) (by decide) (q_kC 1 rfl (by decide) (q_cat _) q_kz))) (fun ls hl => ?_)
  refine q_aload_n (r := r5) C dX2_pullOut_9 rfl (lv_at hl 0 rfl) ?_
  refine q_ifnull (r := r5) (tgt := 42) C dX2_pullOut_10 (by decide) (fun c10 => ?_) (fun x10 c10 => ?_)
  · subst c10
    refine q_aload_n (r := some g) C dX2_pullOut_42 rfl (lv_at hl 2 rfl) ?_
    refine lv_iconst (v := 0) C.1 C.2.1 dX2_pullOut_43 (by decide) ?_
    refine p_Piece_isFree (v := 0) C hV hL_g hK_g (by decide) (Or.inr ⟨_, wd_143⟩) dX2_pullOut_44 (fun H locs hV => ?_)
    refine q_vret C hV hr hlk (Nat.le_of_ble_eq_true rfl) (Nat.le_of_ble_eq_true rfl) dX2_pullOut_47 ?_
    have hz3 : ¬ 3 ≤ z := fun h3 => by
      rcases hp5 with ⟨-, h5 | h5⟩ | ⟨a, h5, -⟩
      · rw [nI_toInt hz] at h5; omega
      · rw [nI_toInt hz, Int.toNat_natCast] at h5; have h6 := hin h3; rw [h5] at h6; cases h6
      · exact nomatch h5
    obtain ⟨hsF, hneF⟩ := q_pull_end (g := g) hs0 hne 0
    refine hpost _ ⟨ns, by rw [if_neg hz3]; exact hsF, by rw [if_neg hz3]; exact hneF, q_fr_sI ⟨rfl, rfl⟩, qI_self _ _ _ _⟩
  · subst c10
    obtain ⟨hz3, hrow, hlo, hhi⟩ : 3 ≤ z ∧ q_row S rows z x10 ∧ (z < 64 → S.B ar (z - 3) = some x10) ∧ (64 ≤ z → x10 ∈ ns) := by
      rcases hp5 with ⟨h5, -⟩ | ⟨a, h5, h6, h7, h8, h9⟩
      · exact nomatch h5
      · cases h5
        rw [nI_toInt hz] at h6 h7 h8 h9
        rw [Int.toNat_natCast] at h7 h8
        exact ⟨by omega, h7, fun h => h8 (by omega), fun h => h9 (by omega)⟩
    have hL_x10 := hrow.1
    have hK_x10 := hrow.2.1
    refine q_aload_n (r := some x10) C dX2_pullOut_13 rfl (lv_at hl 0 rfl) ?_
    refine q_aload_n (r := some g) C dX2_pullOut_14 rfl (lv_at hl 2 rfl) ?_
    refine q_cv hV (q_rN (b := x10) (As := [va_rf (some g)]) (rest := []) C hV (c_Row_drop l E S x10 g (rows z) hL_x10 hK_x10 hL_g hK_g hrow.2.2.2.2 (fun a ha => ⟨(hpcs z a ha).1, (hpcs z a ha).2.1⟩)) wd_225 wd_222 wd_224 wd_11 wd_41 ok_X1_drop ⟨rfl, rfl, Nat.le_of_ble_eq_true rfl, Nat.le_of_ble_eq_true rfl⟩ (q_rc1 hV hL_x10 hK_x10) rfl hl.1 rfl (q_sm q_1n (Nat.le_of_ble_eq_true rfl)) dX2_pullOut_15 ⟨Nat.le_of_ble_eq_true rfl, Nat.le_of_ble_eq_true rfl⟩) (fun S15 H locs hp15 hV => ?_)
    have hs15 := q_sh_drop (g := g) hs0 hrow hlo hhi hp15.1 hp15.2.2
    have hL_x15 := (hp15.1.1 x10 hL_x10).1
    have hK_x15 := (hp15.1.1 x10 hL_x10).2.1.trans hK_x10
    have hL_g15 := (hp15.1.1 g hL_g).1
    have hK_g15 := (hp15.1.1 g hL_g).2.1.trans hK_g
    obtain ⟨hL_h15, hK_h15, -, hgr15⟩ := id hs15.1
    have hzz : ∀ r ∈ ns, q_z S15 r = q_z S r := fun r hr => by show (S15.I 4 r).toInt = _; rw [hp15.1.2.1 r (hs0.2.2.2.1.2.2.2.1 r hr).1 4 (fun z => z)]; rfl
    have hIx : S15.I 4 x10 = nI z := (hp15.1.2.1 x10 hL_x10 4 (fun z => z)).trans hrow.2.2.1
    refine q_aload_n (r := some x10) C dX2_pullOut_18 rfl (lv_at hl 0 rfl) ?_
    refine g_Row_latest C hV hL_x15 hK_x15 (Or.inr ⟨_, wd_78⟩) dX2_pullOut_19 ?_
    refine q_nr (fun r19 h19 => ?_)
    refine q_ifnonnull (r := r19) (tgt := 42) C dX2_pullOut_22 (by decide) (fun x22 c22 => ?_) (fun c22 => ?_)
    · subst c22
      have hne9 : (rows z).erase g ≠ [] := fun h9 => by
        have h10 := hp15.2.2
        rw [h9, ← h19] at h10
        exact nomatch (show some x22 = none from h10)
      have hne15 : q_ne S15 ns (va_up rows z ((rows z).erase g)) := q_ne_of hne (fun r hr9 => ⟨hr9, hzz r hr9, fun h9 => by
        by_cases e : (q_z S r).toNat = z
        · rw [e, va_up_self]; exact hne9
        · rw [va_up_ne _ _ e]; exact h9⟩)
      refine q_aload_n (r := some g) C dX2_pullOut_42 rfl (lv_at hl 2 rfl) ?_
      refine lv_iconst (v := 0) C.1 C.2.1 dX2_pullOut_43 (by decide) ?_
      refine p_Piece_isFree (v := 0) C hV hL_g15 hK_g15 (by decide) (Or.inr ⟨_, wd_143⟩) dX2_pullOut_44 (fun H locs hV => ?_)
      refine q_vret C hV hr hlk (Nat.le_of_ble_eq_true rfl) (Nat.le_of_ble_eq_true rfl) dX2_pullOut_47 ?_
      obtain ⟨hsF, hneF⟩ := q_pull_end (g := g) hs15 hne15 0
      refine hpost _ ⟨ns, by rw [if_pos hz3]; exact hsF, by rw [if_pos hz3]; exact hneF, q_fr_tr (q_fr_mo hp15.1 (fun _ _ z => z.elim) (fun j x z => z.elim Or.inl (fun z => Or.inr (Or.inl z.1))) (fun _ _ z => z)) (q_fr_sI ⟨rfl, rfl⟩), qI_self _ _ _ _⟩
    · subst c22
      refine q_aload_n (r := some x10) C dX2_pullOut_25 rfl (lv_at hl 0 rfl) ?_
      refine g_Row_cells C hV hL_x15 hK_x15 (Or.inr ⟨_, wd_76⟩) dX2_pullOut_26 ?_
      refine q_ti (v' := nI z) (hIx) ?_
      refine lv_bipush (v := 64) C.1 C.2.1 dX2_pullOut_29 (by decide) ?_
      refine lv_icmp_lt (tgt := 42) C.1 C.2.1 dX2_pullOut_31 (by decide) (fun c31 => ?_) (fun c31 => ?_)
      · have hz6 : z < 64 := by have h9 := q_i_lt.mp c31; rw [nI_toInt hz, q_i64] at h9; omega
        have hne15 : q_ne S15 ns (va_up rows z ((rows z).erase g)) := q_ne_of hne (fun r hr9 => ⟨hr9, hzz r hr9, fun h9 => by
          obtain ⟨y, h10, h11⟩ := hs0.2.2.2.2.1 r hr9
          have h12 := q_row_z h11
          rw [va_up_ne _ _ (by omega)]
          exact h9⟩)
        refine q_aload_n (r := some g) C dX2_pullOut_42 rfl (lv_at hl 2 rfl) ?_
        refine lv_iconst (v := 0) C.1 C.2.1 dX2_pullOut_43 (by decide) ?_
        refine p_Piece_isFree (v := 0) C hV hL_g15 hK_g15 (by decide) (Or.inr ⟨_, wd_143⟩) dX2_pullOut_44 (fun H locs hV => ?_)
        refine q_vret C hV hr hlk (Nat.le_of_ble_eq_true rfl) (Nat.le_of_ble_eq_true rfl) dX2_pullOut_47 ?_
        obtain ⟨hsF, hneF⟩ := q_pull_end (g := g) hs15 hne15 0
        refine hpost _ ⟨ns, by rw [if_pos hz3]; exact hsF, by rw [if_pos hz3]; exact hneF, q_fr_tr (q_fr_mo hp15.1 (fun _ _ z => z.elim) (fun j x z => z.elim Or.inl (fun z => Or.inr (Or.inl z.1))) (fun _ _ z => z)) (q_fr_sI ⟨rfl, rfl⟩), qI_self _ _ _ _⟩
      · have hz6 : 64 ≤ z := by have h9 := mt q_i_lt.mpr c31; rw [nI_toInt hz, q_i64] at h9; omega
        obtain ⟨pre, post_, hns⟩ := List.append_of_mem (hhi hz6)
        have hem : (rows z).erase g = [] := by
          have h10 := hp15.2.2
          rw [← h19] at h10
          cases hr9 : (rows z).erase g with
          | nil => rfl
          | cons a u => rw [hr9] at h10; exact nomatch h10.1
        have htr15 : q_tree S15 t (pre ++ x10 :: post_) := by rw [← hns]; exact hs15.2.2.2.1
        have hL_t := htr15.1
        have hK_t := htr15.2.1
        refine q_aload_n (r := some h) C dX2_pullOut_34 rfl (lv_at hl 1 rfl) ?_
        refine g_Shelves_great C hV hL_h15 hK_h15 (Or.inl wd_113) dX2_pullOut_35 ?_
        refine q_tr (v' := some t) (hgr15) ?_
        refine q_aload_n (r := some x10) C dX2_pullOut_38 rfl (lv_at hl 0 rfl) ?_
        refine q_cv hV (q_rN (b := t) (As := [va_rf (some x10)]) (rest := []) C hV (c_Tree_remove l E S15 t x10 pre post_ htr15) wd_229 wd_226 wd_228 wd_12 wd_42 ok_X3_remove ⟨rfl, rfl, Nat.le_of_ble_eq_true rfl, Nat.le_of_ble_eq_true rfl⟩ (q_rc3 hV hL_t hK_t) rfl hl.1 rfl (q_sm q_1n (Nat.le_of_ble_eq_true rfl)) dX2_pullOut_39 ⟨Nat.le_of_ble_eq_true rfl, Nat.le_of_ble_eq_true rfl⟩) (fun S39 H locs hp39 hV => ?_)
        have hrow15 : q_row S15 (va_up rows z ((rows z).erase g)) z x10 := ⟨hL_x15, hK_x15, hIx, hz, by rw [va_up_self]; exact hp15.2.2⟩
        have hs39 := q_sh_gone (z := z) (r := x10) (by rw [← hns]; exact hs15) hrow15 (by rw [va_up_self]; exact hem) hp39.1 hp39.2
        have hL_g39 := (hp39.1.1 g hL_g15).1
        have hK_g39 := (hp39.1.1 g hL_g15).2.1.trans hK_g15
        have hne39 : q_ne S39 (pre ++ post_) (va_up rows z ((rows z).erase g)) := q_ne_of hne (fun r hr9 => by
          have hrn : r ∈ ns := by rw [hns]; simp only [List.mem_append, List.mem_cons] at hr9 ⊢; rcases hr9 with h | h <;> simp [h]
          refine ⟨hrn, ?_, fun h9 => ?_⟩
          · rw [← hzz r hrn]
            show (S39.I 4 r).toInt = (S15.I 4 r).toInt
            rw [hp39.1.2.1 r (hs15.2.2.2.1.2.2.2.1 r hrn).1 4 (fun z => z)]
          · obtain ⟨y, h10, h11⟩ := hs0.2.2.2.2.1 r hrn
            have h12 := q_row_z h11
            rw [va_up_ne]
            · exact h9
            · intro e
              have h13 : r = x10 := q_so_inj hs0.2.2.2.1.2.2.2.2 hrn (hhi hz6) (by rw [q_row_z hrow]; omega)
              have hnd := q_so_nodup hs0.2.2.2.1.2.2.2.2
              rw [hns] at hnd
              subst h13
              have h14 := List.nodup_append.mp hnd
              rcases List.mem_append.mp hr9 with h | h
              · exact h14.2.2 r h r List.mem_cons_self rfl
              · exact (List.nodup_cons.mp h14.2.1).1 h)
        refine q_aload_n (r := some g) C dX2_pullOut_42 rfl (lv_at hl 2 rfl) ?_
        refine lv_iconst (v := 0) C.1 C.2.1 dX2_pullOut_43 (by decide) ?_
        refine p_Piece_isFree (v := 0) C hV hL_g39 hK_g39 (by decide) (Or.inr ⟨_, wd_143⟩) dX2_pullOut_44 (fun H locs hV => ?_)
        refine q_vret C hV hr hlk (Nat.le_of_ble_eq_true rfl) (Nat.le_of_ble_eq_true rfl) dX2_pullOut_47 ?_
        obtain ⟨hsF, hneF⟩ := q_pull_end (g := g) hs39 hne39 0
        refine hpost _ ⟨pre ++ post_, by rw [if_pos hz3]; exact hsF, by rw [if_pos hz3]; exact hneF, q_fr_tr (q_fr_tr (q_fr_mo hp15.1 (fun _ _ z => z.elim) (fun j x z => z.elim Or.inl (fun z => Or.inr (Or.inl z.1))) (fun _ _ z => z)) (q_fr_mo hp39.1 (fun _ _ z => z.elim) (fun j x z => Or.inr (Or.inr z)) (fun _ _ z => z))) (q_fr_sI ⟨rfl, rfl⟩), qI_self _ _ _ _⟩
theorem c_Shelves_pullOut (l : Launch) (E : qE) (S : qS) (h ar t : Nat) (ns : List Nat) (rows : Nat → List Nat) (hs : q_sh S h ar t ns rows) (hne : q_ne S ns rows) (g z : Nat) (hL_g : g ∈ S.L) (hK_g : S.K g = 0) (hcz : S.I 1 g = nI z) (hz : z < 2 ^ 31) (hin : 3 ≤ z → g ∈ rows z) : q_Mv l yX2_pullOut cX2_pullOut 3 { frames := 2, cells := 0, slots := 0, locals := 44 } E [.ref h, .ref g] S (fun S1 => ∃ ns', q_sh S1 h ar t ns' (if 3 ≤ z then va_up rows z ((rows z).erase g) else rows) ∧ q_ne S1 ns' (if 3 ≤ z then va_up rows z ((rows z).erase g) else rows) ∧ q_fr S S1 (q_cPI g) (q_cOR (rows z)) q_c0 ∧ S1.I 2 g = 0) 0 0 := c0_Shelves_pullOut l E S h ar t ns rows hs hne g z hL_g hK_g hcz hz hin _ (fun _ h => h)

