theorem q_fr_nB {S : qS} {q k : Nat} {cI cR cJ : Nat → Nat → Prop} (h : q ∉ S.L) : q_fr S (S.nB q k) cI cR cJ :=
  ⟨fun a ha => ⟨List.mem_append_left _ ha, va_up_ne _ _ (fun e : a = q => h (e ▸ ha)), va_up_ne _ _ (fun e : a = q => h (e ▸ ha)), rfl, va_up_ne _ _ (fun e : a = q => h (e ▸ ha))⟩, fun _ _ _ _ => rfl, fun _ _ _ _ => rfl, fun _ _ _ _ => rfl⟩
theorem q_fr_mk {S S' : qS} {q ar j : Nat} {v : Int32} {w : Option Nat} {cI cR cJ : Nat → Nat → Prop} (hf : q_fr S S' cI cR cJ) (hq : q ∉ S'.L) (har : ar ∉ S.L) : q_fr S (((S'.nO q 1).sI 4 q v).sB ar j w) cI cR cJ := by
  have ne : ∀ a ∈ S.L, a ≠ q := fun a ha e => hq (e ▸ (hf.1 a ha).1)
  have ne2 : ∀ a ∈ S.L, a ≠ ar := fun a ha e => har (e ▸ ha)
  refine ⟨fun a ha => ?_, fun a ha i hi => ?_, fun a ha i hi => ?_, fun a ha i hi => ?_⟩
  · obtain ⟨h1, h2, h3, h4, h5⟩ := hf.1 a ha
    exact ⟨List.mem_append_left _ h1, (va_up_ne _ _ (ne a ha)).trans h2, h3, h4, (qB_ne _ _ _ _ (ne2 a ha)).trans h5⟩
  · have e1 : ((S'.nO q 1).sI 4 q v).I i a = S'.I i a := (qI_ne (S'.nO q 1) 4 q v (ne a ha) i).trans (va_up_ne _ _ (ne a ha))
    exact e1.trans (hf.2.1 a ha i hi)
  · have e1 : (S'.nO q 1).R i a = S'.R i a := va_up_ne _ _ (ne a ha)
    exact e1.trans (hf.2.2.1 a ha i hi)
  · have e1 : (S'.nO q 1).J i a = S'.J i a := va_up_ne _ _ (ne a ha)
    exact e1.trans (hf.2.2.2 a ha i hi)
/-- the small rows that have been made, i of them -/
def q_mk (S : qS) (h ar i : Nat) : Prop := (h ∈ S.L ∧ S.K h = 2 ∧ S.R 5 h = some ar) ∧ (ar ∈ S.L ∧ S.K ar = 7 ∧ S.N ar = 61) ∧ ∀ k, k < i → ∃ r, S.B ar k = some r ∧ r ∈ S.L ∧ S.K r = 1 ∧ S.I 4 r = nI (k + 3) ∧ S.R 2 r = none
theorem q_mk_step {S : qS} {h ar i q : Nat} (hm : q_mk S h ar i) (hq : q ∉ S.L) : q_mk (((S.nO q 1).sI 4 q (nI (i + 3))).sB ar i (some q)) h ar (i + 1) := by
  obtain ⟨⟨a1, a2, a3⟩, ⟨b1, b2, b3⟩, c1⟩ := hm
  have ne : ∀ a ∈ S.L, a ≠ q := fun a ha e => hq (e ▸ ha)
  have eR : ∀ j, ∀ a ∈ S.L, (((S.nO q 1).sI 4 q (nI (i + 3))).sB ar i (some q)).R j a = S.R j a := fun j a ha => va_up_ne _ _ (ne a ha)
  have eI : ∀ a ∈ S.L, (((S.nO q 1).sI 4 q (nI (i + 3))).sB ar i (some q)).I 4 a = S.I 4 a := fun a ha => (qI_ne (S.nO q 1) 4 q (nI (i + 3)) (ne a ha) 4).trans (va_up_ne _ _ (ne a ha))
  have eK : ∀ a ∈ S.L, (((S.nO q 1).sI 4 q (nI (i + 3))).sB ar i (some q)).K a = S.K a := fun a ha => va_up_ne _ _ (ne a ha)
  have eL : ∀ a ∈ S.L, a ∈ (((S.nO q 1).sI 4 q (nI (i + 3))).sB ar i (some q)).L := fun a ha => List.mem_append_left _ ha
  refine ⟨⟨eL h a1, (eK h a1).trans a2, (eR 5 h a1).trans a3⟩, ⟨eL ar b1, (eK ar b1).trans b2, b3⟩, fun k hk => ?_⟩
  rcases Nat.lt_or_ge k i with h1 | h1
  · obtain ⟨r, d1, d2, d3, d4, d5⟩ := c1 k h1
    refine ⟨r, ?_, eL r d2, (eK r d2).trans d3, (eI r d2).trans d4, (eR 2 r d2).trans d5⟩
    rw [qB_is, va_up_ne _ _ (by omega)]
    exact d1
  · have e : k = i := by omega
    subst e
    have e4 : ((S.nO q 1).sI 4 q (nI (k + 3))).I 4 q = nI (k + 3) := qI_self _ _ _ _
    have e5 : (S.nO q 1).R 2 q = none := va_up_self _ _ _
    refine ⟨q, ?_, q_nO_in S q 1, q_nO_K S q 1, e4, e5⟩
    rw [qB_is, va_up_self]
theorem q_shelved {S S' : qS} {h ar q j : Nat} (hf : q_fr S S' q_c0 (fun _ x => x = h) q_c0) (hm : q_mk S' h ar j) (hq : q ∉ S'.L) (hj : j = 61) (har : ar ∉ S.L) :
    ∃ ar t, q_sh ((S'.nO q 3).sR 6 h (some q)) h ar t [] (fun _ => []) ∧ q_fr S ((S'.nO q 3).sR 6 h (some q)) q_c0 (fun _ x => x = h) q_c0 ∧ ar ∉ S.L ∧ t ∉ S.L := by
  obtain ⟨⟨a1, a2, a3⟩, ⟨b1, b2, b3⟩, c1⟩ := hm
  subst hj
  have ne : ∀ a ∈ S'.L, a ≠ q := fun a ha e => hq (e ▸ ha)
  have eR : ∀ i, i ≠ 6 → ∀ a, a ≠ q → ((S'.nO q 3).sR 6 h (some q)).R i a = S'.R i a := fun i hi a ha => (congrFun (qR_of (S'.nO q 3) 6 h (some q) hi) a).trans (va_up_ne _ _ ha)
  have eq7 : ((S'.nO q 3).sR 6 h (some q)).R 7 q = none := (congrFun (qR_of (S'.nO q 3) 6 h (some q) (by decide)) q).trans (va_up_self _ _ _)
  have eI : ∀ a, a ≠ q → ((S'.nO q 3).sR 6 h (some q)).I 4 a = S'.I 4 a := fun a ha => va_up_ne _ _ ha
  have eK : ∀ a, a ≠ q → ((S'.nO q 3).sR 6 h (some q)).K a = S'.K a := fun a ha => va_up_ne _ _ ha
  have eL : ∀ a ∈ S'.L, a ∈ ((S'.nO q 3).sR 6 h (some q)).L := fun a ha => List.mem_append_left _ ha
  refine ⟨ar, q, ⟨⟨eL h a1, (eK h (ne h a1)).trans a2, (eR 5 (by decide) h (ne h a1)).trans a3, qR_self _ _ _ _⟩, ⟨eL ar b1, (eK ar (ne ar b1)).trans b2, b3⟩, fun i hi => ?_, ⟨q_nO_in S' q 3, q_nO_K S' q 3, ⟨0, eq7, rfl⟩, fun a ha => (nomatch ha), List.Pairwise.nil⟩, fun r hr => (nomatch hr), fun z _ hz => absurd rfl hz, fun z p hp => (nomatch hp)⟩, q_fr_tr hf (q_fr_tr (q_fr_nO hq) (q_fr_sR rfl)), har, fun h9 => hq (hf.1 q h9).1⟩
  obtain ⟨r, d1, d2, d3, d4, d5⟩ := c1 i hi
  exact ⟨r, d1, eL r d2, (eK r (ne r d2)).trans d3, (eI r (ne r d2)).trans d4, by omega, (eR 2 (by decide) r (ne r d2)).trans d5⟩
set_option maxHeartbeats 4000000 in
set_option maxRecDepth 100000 in
theorem c0_Shelves_init (l : Launch) (E : qE) (S : qS) (h : Nat) (hL_h : h ∈ S.L) (hK_h : S.K h = 2) (post : qS → Prop) (hpost : ∀ S1, (∃ ar t, q_sh S1 h ar t [] (fun _ => []) ∧ q_fr S S1 q_c0 (fun _ x => x = h) q_c0 ∧ ar ∉ S.L ∧ t ∉ S.L) → post S1) : q_Mv l yX2_init cX2_init 2 { frames := 2, cells := 63, slots := 489, locals := 33 } E [.ref h] S (post) 63 489 := by
  refine q_ofW1 (by decide) (q_1c rfl q_1n) (Nat.le_of_ble_eq_true rfl) (fun p e s m below meth c C hV hr hlk hnm ls hl => ?_)
  have hl : lv_has ls 2 [(0, va_rf (some h))] := hl
  refine q_aload_n (r := some h) C dX2_init_0 rfl (lv_at hl 0 rfl) ?_
  refine q_objInit C wd_65 wd_58 wd_59 hl.1 dX2_init_1 (Nat.le_of_ble_eq_true rfl) (Nat.le_of_ble_eq_true rfl) ?_
  refine q_aload_n (r := some h) C dX2_init_4 rfl (lv_at hl 0 rfl) ?_
  refine lv_bipush (v := 61) C.1 C.2.1 dX2_init_5 (by decide) ?_
  refine q_newB (k := 61) C hV wd_66 (by decide) (by decide) (by show _ ≤ (63 : Nat); omega) (by show _ ≤ (489 : Nat); omega) dX2_init_7 (fun q7 H hq7 hV => ?_)
  have hL_h7 : h ∈ (S.nB q7 61).L := List.mem_append_left _ hL_h
  have hK_h7 : (S.nB q7 61).K h = 2 := (va_up_ne _ _ (fun e : h = q7 => hq7 (e ▸ hL_h))).trans hK_h
  have loop : ∀ (k : Nat) (i : Int32) (j : Nat) (S' : qS) (H : Heap) (locs : List Loc) (ls : Array Slot), 61 + 1 - j < k → q_V E s S' H locs → lv_has ls 2 [(1, .int (i)), (0, va_rf (some h))] → i = nI j → j ≤ 61 → q_fr S S' q_c0 (fun _ x => x = h) q_c0 → q_mk S' h q7 j → W p l e ({ frames := 2, cells := 63, slots := 489, locals := 33 } : Room) s m [.ref h].toArray below meth c H locs (1 + j) (61 + 7 * j) (MQ below (va_Qv (post) (q_B E) E.A) [.ref h].toArray s (63) (489) E.A) (F0 m 15 ls []) := by
    intro k
    induction k with
    | zero => intro i j S' H locs ls hk; exact absurd hk (Nat.not_lt_zero _)
    | succ k ih =>
      intro i j S' H locs ls hk hV hl hi hj hf hm
      have hL_h := hm.1.1
      have hK_h := hm.1.2.1
      have hL_q7 := hm.2.1.1
      have hK_q7 := hm.2.1.2.1
      refine lv_iload_n C.1 C.2.1 dX2_init_15 rfl (lv_at hl 0 rfl) ?_
      refine q_aload_n (r := some h) C dX2_init_16 rfl (lv_at hl 1 rfl) ?_
      refine g_Shelves_small C hV hL_h hK_h (Or.inl wd_112) dX2_init_17 ?_
      refine q_tr (v' := some q7) (hm.1.2.2) ?_
      refine q_len7 C hV hL_q7 hK_q7 dX2_init_20 ?_
      refine q_ti (v' := nI 61) (by rw [hm.2.1.2.2]) ?_
      refine lv_icmp_ge (tgt := 46) C.1 C.2.1 dX2_init_21 (by decide) (fun c21 => ?_) (fun c21 => ?_)
      · have hj61 : j = 61 := by
          rcases Nat.lt_or_ge j 61 with h9 | h9
          · exact absurd (by rw [hi] at c21; exact c21) (nI_ge h9 (by omega))
          · omega
        refine q_aload_n (r := some h) C dX2_init_46 rfl (lv_at hl 1 rfl) ?_
        refine n_Tree C hV wd_101 (by show _ ≤ (63 : Nat); omega) (by show _ ≤ (489 : Nat); omega) dX2_init_47 (fun q47 H hq47 hV => ?_)
        refine lv_dup C.1 C.2.1 dX2_init_50 rfl ?_
        refine q_cv hV (q_rI (b := q47) (As := []) (rest := [va_rf (some q47), va_rf (some h)]) C hV (c_Tree_init l E (S'.nO q47 3) q47 (q_nO_in _ _ _) (q_nO_K _ _ _)) wd_105 (Or.inr ⟨_, wd_103⟩) wd_104 wd_42 rfl ok_X3_init ⟨rfl, rfl, Nat.le_of_ble_eq_true rfl, Nat.le_of_ble_eq_true rfl⟩ rfl hl.1 rfl (q_sm (q_1c (q_cat _) (q_1c (q_cat _) q_1n)) (Nat.le_of_ble_eq_true rfl)) dX2_init_51 ⟨by show _ ≤ (63 : Nat); omega, by show _ ≤ (489 : Nat); omega⟩) (fun S51 H locs hp51 hV => ?_)
        subst hp51
        have hL_h9 : h ∈ (S'.nO q47 3).L := List.mem_append_left _ hL_h
        have hK_h9 : (S'.nO q47 3).K h = 2 := (va_up_ne _ _ (fun e : h = q47 => hq47 (e ▸ hL_h))).trans hK_h
        refine p_Shelves_great (v := some q47) C hV hnm hL_h9 hK_h9 (wd_113) rfl dX2_init_54 (fun H locs hV => ?_)
        refine q_vret C hV hr hlk (by omega) (by omega) dX2_init_57 ?_
        exact hpost _ (q_shelved hf hm hq47 hj61 hq7)
      · have hj61 : j < 61 := by
          rcases Nat.lt_or_ge j 61 with h9 | h9
          · exact h9
          · exact absurd (by rw [hi]; exact nI_le h9 (by omega)) c21
        refine q_aload_n (r := some h) C dX2_init_24 rfl (lv_at hl 1 rfl) ?_
        refine g_Shelves_small C hV hL_h hK_h (Or.inl wd_112) dX2_init_25 ?_
        refine q_tr (v' := some q7) (hm.1.2.2) ?_
        refine lv_iload_n C.1 C.2.1 dX2_init_28 rfl (lv_at hl 0 rfl) ?_
        refine n_Row C hV wd_66 (by show _ ≤ (63 : Nat); omega) (by show _ ≤ (489 : Nat); omega) dX2_init_29 (fun q29 H hq29 hV => ?_)
        have ne9 : ∀ a ∈ S'.L, a ≠ q29 := fun a ha e => hq29 (e ▸ ha)
        have hL_ar9 : q7 ∈ ((S'.nO q29 1).sI 4 q29 (nI (j + 3))).L := List.mem_append_left _ hm.2.1.1
        have hK_ar9 : ((S'.nO q29 1).sI 4 q29 (nI (j + 3))).K q7 = 7 := (va_up_ne _ _ (ne9 q7 hm.2.1.1)).trans hm.2.1.2.1
        have hL_q29 : q29 ∈ ((S'.nO q29 1).sI 4 q29 (nI (j + 3))).L := q_nO_in S' q29 1
        have hK_q29 : ((S'.nO q29 1).sI 4 q29 (nI (j + 3))).K q29 = 1 := q_nO_K S' q29 1
        have hNar9 : ((S'.nO q29 1).sI 4 q29 (nI (j + 3))).N q7 = 61 := hm.2.1.2.2
        have hN_q79 : ((S'.nO q29 1).sI 4 q29 (nI (j + 3))).N q7 < 2 ^ 31 := by rw [hNar9]; decide
        refine lv_dup C.1 C.2.1 dX2_init_32 rfl ?_
        refine lv_iconst (v := 3) C.1 C.2.1 dX2_init_33 (by decide) ?_
        refine lv_iload_n C.1 C.2.1 dX2_init_34 rfl (lv_at hl 0 rfl) ?_
        refine lv_iadd C.1 C.2.1 dX2_init_35 ?_
        refine q_ti (v' := nI (j + 3)) (by rw [hi, show (3 : Int32) = nI 3 by decide, nI_add, Nat.add_comm]) ?_
        refine q_cv hV (q_rI (b := q29) (As := [.int (nI (j + 3))]) (rest := [va_rf (some q29), .int (i), va_rf (some q7)]) C hV (c_Row_init l E (S'.nO q29 1) q29 (nI (j + 3)) (q_nO_in _ _ _) (q_nO_K _ _ _)) wd_71 (Or.inr ⟨_, wd_69⟩) wd_70 wd_41 rfl ok_X1_init ⟨rfl, rfl, Nat.le_of_ble_eq_true rfl, Nat.le_of_ble_eq_true rfl⟩ rfl hl.1 rfl (q_sm (q_1c (q_cat _) (q_1c rfl (q_1c (q_cat _) q_1n))) (Nat.le_of_ble_eq_true rfl)) dX2_init_36 ⟨by show _ ≤ (63 : Nat); omega, by show _ ≤ (489 : Nat); omega⟩) (fun S36 H locs hp36 hV => ?_)
        subst hp36
        refine q_aast (j := j) C hV hL_ar9 hK_ar9 hL_q29 hK_q29 (hi) (by rw [hNar9]; exact hj61) (hN_q79) dX2_init_39 (fun H locs hV => ?_)
        obtain ⟨i40, e40⟩ : ∃ y : Int32, y = i + 1 := ⟨_, rfl⟩
        refine q_iinc (v := i40) (k := 0) (lv' := [(1, .int (i40)), (0, va_rf (some h))]) C dX2_init_40 hl rfl (by rw [e40]; rfl) (by decide) (q_k0 (q_kC 1 rfl (by decide) (q_cat _) q_kz)) (fun ls hl => ?_)
        refine lv_goto (tgt := 15) C.1 C.2.1 dX2_init_43 (by decide) ?_
        refine W.cs (cells' := 1 + (j + 1)) (slots' := 61 + 7 * (j + 1)) (by omega) (by omega) ?_
        exact ih i40 (j + 1) _ H locs ls (by omega) hV hl (by rw [e40, hi]; exact nI_1 j) (by omega) (q_fr_mk hf hq29 hq7) (q_mk_step hm hq29)
  refine p_Shelves_small (v := some q7) C hV hnm hL_h7 hK_h7 (wd_112) rfl dX2_init_10 (fun H locs hV => ?_)
  refine lv_iconst (v := 0) C.1 C.2.1 dX2_init_13 (by decide) ?_
  refine q_istore_n (x := 0) (lv' := [(1, .int (0)), (0, va_rf (some h))]) C dX2_init_14 rfl hl (by decide) (q_k0 (q_kC 0 rfl (by decide) (q_cat _) q_kz)) (fun ls hl => ?_)
  refine W.cs (cells' := 1 + 0) (slots' := 61 + 7 * 0) (by omega) (by omega) ?_
  exact loop (61 + 2) 0 0 _ H locs ls (by omega) hV hl nI_0.symm (by omega) (q_fr_tr (q_fr_nB hq7) (q_fr_sR rfl)) ⟨⟨hL_h7, hK_h7, qR_self _ _ _ _⟩, ⟨List.mem_append_right _ (List.mem_singleton.mpr rfl), va_up_self _ _ _, va_up_self _ _ _⟩, fun k9 h9 => absurd h9 (Nat.not_lt_zero _)⟩
theorem c_Shelves_init (l : Launch) (E : qE) (S : qS) (h : Nat) (hL_h : h ∈ S.L) (hK_h : S.K h = 2) : q_Mv l yX2_init cX2_init 2 { frames := 2, cells := 63, slots := 489, locals := 33 } E [.ref h] S (fun S1 => ∃ ar t, q_sh S1 h ar t [] (fun _ => []) ∧ q_fr S S1 q_c0 (fun _ x => x = h) q_c0 ∧ ar ∉ S.L ∧ t ∉ S.L) 63 489 := c0_Shelves_init l E S h hL_h hK_h _ (fun _ h => h)

