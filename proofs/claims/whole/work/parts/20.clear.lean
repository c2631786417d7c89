abbrev q_cCR : Nat → Nat → Prop := fun j _ => j = 2 ∨ j = 7
theorem q_cleared {S S1 : qS} {h ar t : Nat} {ns : List Nat} {rows : Nat → List Nat} (hs : q_sh S h ar t ns rows) (hf : q_fr S S1 q_c0 q_cCR q_c0) (h0 : ∀ k r, k < 61 → S.B ar k = some r → S1.R 2 r = none) (ht : S1.R 7 t = none) : q_sh S1 h ar t [] (fun _ => []) := by
  obtain ⟨⟨a1, a2, a3, a4⟩, ⟨b1, b2, b3⟩, c1, d1, e1, f1, g1⟩ := hs
  refine ⟨⟨(hf.1 h a1).1, (hf.1 h a1).2.1.trans a2, (hf.2.2.1 h a1 5 (fun z => by rcases z with z | z <;> exact absurd z (by decide))).trans a3, (hf.2.2.1 h a1 6 (fun z => by rcases z with z | z <;> exact absurd z (by decide))).trans a4⟩, ⟨(hf.1 ar b1).1, (hf.1 ar b1).2.1.trans b2, (hf.1 ar b1).2.2.1.trans b3⟩, fun i hi => ?_, ⟨(hf.1 t d1.1).1, (hf.1 t d1.1).2.1.trans d1.2.1, ⟨0, ht, rfl⟩, fun a ha => (nomatch ha), List.Pairwise.nil⟩, fun r hr => (nomatch hr), fun z _ hz => absurd rfl hz, fun z p hp => (nomatch hp)⟩
  obtain ⟨r, h1, h2⟩ := c1 i hi
  exact ⟨r, by rw [(hf.1 ar b1).2.2.2.2]; exact h1, (hf.1 r h2.1).1, (hf.1 r h2.1).2.1.trans h2.2.1, (hf.2.1 r h2.1 4 (fun z => z)).trans h2.2.2.1, h2.2.2.2.1, h0 i r hi h1⟩
set_option maxHeartbeats 4000000 in
set_option maxRecDepth 100000 in
theorem c0_Shelves_clear (l : Launch) (E : qE) (S : qS) (h ar t : Nat) (ns : List Nat) (rows : Nat → List Nat) (hs : q_sh S h ar t ns rows) (post : qS → Prop) (hpost : ∀ S1, (q_sh S1 h ar t [] (fun _ => []) ∧ q_fr S S1 q_c0 q_cCR q_c0) → post S1) : q_Mv l yX2_clear cX2_clear 2 { frames := 0, cells := 0, slots := 0, locals := 0 } E [.ref h] S (post) 0 0 := by
  refine q_ofW1 (by decide) (q_1c rfl q_1n) (Nat.le_of_ble_eq_true rfl) (fun p e s m below meth c C hV hr hlk hnm ls hl => ?_)
  have hl : lv_has ls 2 [(0, va_rf (some h))] := hl
  have hs0 := hs
  obtain ⟨⟨hL_h0, hK_h0, hsm, hgr⟩, ⟨hL_ar0, hK_ar0, hNar⟩, hsmall, htree, hgreat, hgreat2, hpcs⟩ := hs
  have loop : ∀ (k : Nat) (i : Int32) (j : Nat) (S' : qS) (H : Heap) (locs : List Loc) (ls : Array Slot), 61 + 1 - j < k → q_V E s S' H locs → lv_has ls 2 [(1, .int (i)), (0, va_rf (some h))] → i = nI j → j ≤ 61 → q_fr S S' q_c0 (fun j _ => j = 2) q_c0 → (∀ k r, k < j → S.B ar k = some r → S'.R 2 r = none) → W p l e ({ frames := 0, cells := 0, slots := 0, locals := 0 } : Room) s m [.ref h].toArray below meth c H locs (0) (0) (MQ below (va_Qv (post) (q_B E) E.A) [.ref h].toArray s (0) (0) E.A) (F0 m 2 ls []) := by
    intro k
    induction k with
    | zero => intro i j S' H locs ls hk; exact absurd hk (Nat.not_lt_zero _)
    | succ k ih =>
      intro i j S' H locs ls hk hV hl hi hj hf h0
      have hL_h := (hf.1 h hL_h0).1
      have hK_h := (hf.1 h hL_h0).2.1.trans hK_h0
      have hL_ar := (hf.1 ar hL_ar0).1
      have hK_ar := (hf.1 ar hL_ar0).2.1.trans hK_ar0
      have hN_ar : S'.N ar < 2 ^ 31 := by rw [(hf.1 ar hL_ar0).2.2.1, hNar]; decide
      refine lv_iload_n C.1 C.2.1 dX2_clear_2 rfl (lv_at hl 0 rfl) ?_
      refine q_aload_n (r := some h) C dX2_clear_3 rfl (lv_at hl 1 rfl) ?_
      refine g_Shelves_small C hV hL_h hK_h (Or.inl wd_112) dX2_clear_4 ?_
      refine q_tr (v' := some ar) ((hf.2.2.1 h hL_h0 5 (fun z => absurd (show (5 : Nat) = 2 from z) (by decide))).trans hsm) ?_
      refine q_len7 C hV hL_ar hK_ar dX2_clear_7 ?_
      refine q_ti (v' := nI 61) (by rw [(hf.1 ar hL_ar0).2.2.1, hNar]) ?_
      refine lv_icmp_ge (tgt := 27) C.1 C.2.1 dX2_clear_8 (by decide) (fun c8 => ?_) (fun c8 => ?_)
      · have hj61 : j = 61 := by
          rcases Nat.lt_or_ge j 61 with h9 | h9
          · exact absurd (by rw [hi] at c8; exact c8) (nI_ge h9 (by omega))
          · omega
        have hL_t := (hf.1 t htree.1).1
        have hK_t := (hf.1 t htree.1).2.1.trans htree.2.1
        refine q_aload_n (r := some h) C dX2_clear_27 rfl (lv_at hl 1 rfl) ?_
        refine g_Shelves_great C hV hL_h hK_h (Or.inl wd_113) dX2_clear_28 ?_
        refine q_tr (v' := some t) ((hf.2.2.1 h hL_h0 6 (fun z => absurd (show (6 : Nat) = 2 from z) (by decide))).trans hgr) ?_
        refine lv_null C.1 C.2.1 dX2_clear_31 ?_
        refine p_Tree_root (v := none) C hV hL_t hK_t (Or.inr ⟨_, wd_108⟩) dX2_clear_32 (fun H locs hV => ?_)
        refine q_vret C hV hr hlk (Nat.le_of_ble_eq_true rfl) (Nat.le_of_ble_eq_true rfl) dX2_clear_35 ?_
        refine hpost _ ⟨q_cleared hs0 (q_fr_tr (q_fr_mo hf (fun _ _ z => z) (fun j x z => Or.inl z) (fun _ _ z => z)) (q_fr_sR (Or.inr rfl))) (fun k9 r h1 h2 => h0 k9 r (by omega) h2) (qR_self _ _ _ _), q_fr_tr (q_fr_mo hf (fun _ _ z => z) (fun j x z => Or.inl z) (fun _ _ z => z)) (q_fr_sR (Or.inr rfl))⟩
      · have hj61 : j < 61 := by
          rcases Nat.lt_or_ge j 61 with h9 | h9
          · exact h9
          · exact absurd (by rw [hi]; exact nI_le h9 (by omega)) c8
        obtain ⟨rw_, hrw0, hrow⟩ := hsmall j hj61
        have hL_rw_ := (hf.1 rw_ hrow.1).1
        have hK_rw_ := (hf.1 rw_ hrow.1).2.1.trans hrow.2.1
        refine q_aload_n (r := some h) C dX2_clear_11 rfl (lv_at hl 1 rfl) ?_
        refine g_Shelves_small C hV hL_h hK_h (Or.inl wd_112) dX2_clear_12 ?_
        refine q_tr (v' := some ar) ((hf.2.2.1 h hL_h0 5 (fun z => absurd (show (5 : Nat) = 2 from z) (by decide))).trans hsm) ?_
        refine lv_iload_n C.1 C.2.1 dX2_clear_15 rfl (lv_at hl 0 rfl) ?_
        refine q_aald (j := j) C hV hL_ar hK_ar (hi) (by rw [(hf.1 ar hL_ar0).2.2.1, hNar]; exact hj61) (hN_ar) dX2_clear_16 ?_
        refine q_tr (v' := some rw_) (by rw [(hf.1 ar hL_ar0).2.2.2.2]; exact hrw0) ?_
        refine lv_null C.1 C.2.1 dX2_clear_17 ?_
        refine p_Row_latest (v := none) C hV hL_rw_ hK_rw_ (Or.inr ⟨_, wd_78⟩) dX2_clear_18 (fun H locs hV => ?_)
        obtain ⟨i21, e21⟩ : ∃ y : Int32, y = i + 1 := ⟨_, rfl⟩
        refine q_iinc (v := i21) (k := 0) (lv' := [(1, .int (i21)), (0, va_rf (some h))]) C dX2_clear_21 hl rfl (by rw [e21]; rfl) (by decide) (q_k0 (q_kC 1 rfl (by decide) (q_cat _) q_kz)) (fun ls hl => ?_)
        refine lv_goto (tgt := 2) C.1 C.2.1 dX2_clear_24 (by decide) ?_
        exact ih i21 (j + 1) (S'.sR 2 rw_ none) H locs ls (by omega) hV hl (by rw [e21, hi]; exact nI_1 j) (by omega) (q_fr_tr hf (q_fr_sR rfl)) (fun k9 r h1 h2 => by
          by_cases e : r = rw_
          · rw [e]; exact qR_self _ _ _ _
          · rw [qR_ne _ _ _ _ e]
            rcases Nat.lt_or_ge k9 j with h3 | h3
            · exact h0 k9 r h3 h2
            · have e9 : k9 = j := by omega
              subst e9
              exact absurd (Option.some.inj (h2.symm.trans hrw0)) e)
  refine lv_iconst (v := 0) C.1 C.2.1 dX2_clear_0 (by decide) ?_
  refine q_istore_n (x := 0) (lv' := [(1, .int (0)), (0, va_rf (some h))]) C dX2_clear_1 rfl hl (by decide) (q_k0 (q_kC 0 rfl (by decide) (q_cat _) q_kz)) (fun ls hl => ?_)
  exact loop (61 + 2) 0 0 S s.heap [] ls (by omega) hV hl nI_0.symm (by omega) q_fr_rf (fun k9 r h1 => absurd h1 (Nat.not_lt_zero _))
theorem c_Shelves_clear (l : Launch) (E : qE) (S : qS) (h ar t : Nat) (ns : List Nat) (rows : Nat → List Nat) (hs : q_sh S h ar t ns rows) : q_Mv l yX2_clear cX2_clear 2 { frames := 0, cells := 0, slots := 0, locals := 0 } E [.ref h] S (fun S1 => q_sh S1 h ar t [] (fun _ => []) ∧ q_fr S S1 q_c0 q_cCR q_c0) 0 0 := c0_Shelves_clear l E S h ar t ns rows hs _ (fun _ h => h)

