/-- no row in the tree is empty -/
def q_ne (S : qS) (ns : List Nat) (rows : Nat → List Nat) : Prop := ∀ r ∈ ns, rows (q_z S r).toNat ≠ []
/-- what putIn and pullOut of p may change -/
abbrev q_cPI (p : Nat) : Nat → Nat → Prop := fun j x => j = 2 ∧ x = p
abbrev q_cPR (p : Nat) : Nat → Nat → Prop := fun j x => (j = 1 ∧ x = p) ∨ j = 2 ∨ j = 3 ∨ j = 4 ∨ j = 7
abbrev q_cPJ (h p : Nat) : Nat → Nat → Prop := fun j x => (j = 1 ∧ x = h) ∨ (j = 0 ∧ x = p)
theorem q_put_row {S : qS} {h ar t p z r : Nat} {ns : List Nat} {rows : Nat → List Nat} (hs : q_sh S h ar t ns rows) (hr : q_row S rows z r) (hlo : z < 64 → S.B ar (z - 3) = some r) (hhi : 64 ≤ z → r ∈ ns) (hp : p ∈ S.L ∧ S.K p = 0 ∧ S.I 1 p = nI z) (hnot : ∀ y, p ∉ rows y) :
    q_sh ((S.sR 1 p (S.R 2 r)).sR 2 r (some p)) h ar t ns (va_up rows z (p :: rows z)) ∧ q_fr S ((S.sR 1 p (S.R 2 r)).sR 2 r (some p)) q_c0 (fun j x => (j = 1 ∧ x = p) ∨ (j = 2 ∧ x = r)) q_c0 := by
  have hf : q_fr S ((S.sR 1 p (S.R 2 r)).sR 2 r (some p)) q_c0 (fun j x => (j = 1 ∧ x = p) ∨ (j = 2 ∧ x = r)) q_c0 := q_fr_tr (q_fr_sR (Or.inl ⟨rfl, rfl⟩)) (q_fr_sR (Or.inr ⟨rfl, rfl⟩))
  have e1 : ((S.sR 1 p (S.R 2 r)).sR 2 r (some p)).R 1 = va_up (S.R 1) p (S.R 2 r) := (qR_of _ _ _ _ (by decide)).trans (qR_is _ _ _ _)
  refine ⟨q_sh_up hs hf hr (fun _ z => z) (fun _ _ _ _ z => z) (fun a => ⟨?_, ?_, ?_, ?_, ?_⟩) (fun a hc => ?_) (fun y hy x hx hc => ?_) ⟨qR_self _ _ _ _, ?_⟩ (fun x hx => ?_) hlo hhi, hf⟩
  · rintro (⟨h1, -⟩ | ⟨h1, -⟩) <;> exact absurd h1 (by decide)
  · rintro (⟨h1, -⟩ | ⟨h1, -⟩) <;> exact absurd h1 (by decide)
  · rintro (⟨h1, -⟩ | ⟨h1, -⟩) <;> exact absurd h1 (by decide)
  · rintro (⟨h1, -⟩ | ⟨h1, -⟩) <;> exact absurd h1 (by decide)
  · rintro (⟨h1, -⟩ | ⟨h1, -⟩) <;> exact absurd h1 (by decide)
  · rcases hc with ⟨h1, -⟩ | ⟨-, h1⟩
    · exact absurd h1 (by decide)
    · exact h1
  · rcases hc with ⟨-, h1⟩ | ⟨h1, -⟩
    · exact hnot y (h1 ▸ hx)
    · exact absurd h1 (by decide)
  · rw [e1, va_up_self]
    exact q_ch_congr (fun x hx => va_up_ne _ _ (fun e : x = p => hnot z (e ▸ hx))) hr.2.2.2.2
  · rcases List.mem_cons.mp hx with rfl | hx
    · exact hp
    · obtain ⟨h1, h2, h3, -⟩ := hs.2.2.2.2.2.2 z x hx
      exact ⟨h1, h2, h3⟩
theorem q_sh_made {S S1 : qS} {h ar t z a : Nat} {ns : List Nat} {rows : Nat → List Nat} (hs : q_sh S h ar t ns rows) (hz : 64 ≤ z) (hz2 : z < 2 ^ 31)
    (hm : (S1 = S ∧ a ∈ ns ∧ q_z S a = (nI z).toInt) ∨ (a ∉ S.L ∧ q_fr S S1 q_c0 q_cT q_c0 ∧ a ∈ S1.L ∧ S1.K a = 1 ∧ S1.I 4 a = nI z ∧ S1.R 2 a = none ∧ ∃ pre post_, ns = pre ++ post_ ∧ q_tree S1 t (pre ++ a :: post_))) :
    ∃ ns', q_sh S1 h ar t ns' rows ∧ q_row S1 rows z a ∧ a ∈ ns' ∧ q_fr S S1 q_c0 q_cT q_c0 ∧ ∀ r ∈ ns', r = a ∨ r ∈ ns := by
  rcases hm with ⟨rfl, h1, h2⟩ | ⟨h1, hf, h3, h4, h5, h6, pre, post_, h7, h8⟩
  · obtain ⟨y, h3, h4⟩ := hs.2.2.2.2.1 a h1
    have h5 := q_row_z h4
    rw [nI_toInt hz2] at h2
    have e : y = z := by omega
    subst e
    exact ⟨ns, hs, h4, h1, q_fr_rf, fun r hr => Or.inr hr⟩
  · have nT : ∀ j x, j ≠ 3 → j ≠ 4 → j ≠ 7 → ¬ q_cT j x := fun j x h3 h4 h7 hc => by rcases hc with h | h | h; exact h3 h; exact h4 h; exact h7 h
    have rw1 : ∀ y r, q_row S rows y r → q_row S1 rows y r := fun y r hr => q_row_fr hr hf (fun z => z) (nT 2 r (by decide) (by decide) (by decide)) (fun p hp => ⟨(hs.2.2.2.2.2.2 y p hp).1, nT 1 p (by decide) (by decide) (by decide)⟩) rfl
    have hso := h8.2.2.2.2
    have hzq : q_z S1 a = z := by show (S1.I 4 a).toInt = _; rw [h5]; exact nI_toInt hz2
    have hnz : ∀ r ∈ ns, ∀ y, q_row S rows y r → y ≠ z := by
      intro r hr y hy e
      subst e
      have h9 := q_row_z (rw1 y r hy)
      have hr9 : r ∈ pre ++ a :: post_ := by rw [h7] at hr; simp only [List.mem_append, List.mem_cons] at hr ⊢; rcases hr with h | h <;> simp [h]
      have e9 := q_so_inj hso hr9 (by simp) (h9.trans hzq.symm)
      exact h1 (e9 ▸ hy.1)
    have hrz : rows z = [] := by
      rcases Classical.em (rows z = []) with h | h
      · exact h
      · obtain ⟨r, h10, h11⟩ := hs.2.2.2.2.2.1 z hz h
        exact absurd rfl (hnz r h10 z h11)
    have hra : q_row S1 rows z a := ⟨h3, h4, h5, hz2, by rw [hrz, h6]; rfl⟩
    refine ⟨pre ++ a :: post_, q_sh_tree hs hf h8 (fun r hr => ?_) (fun y hy hne => ?_), hra, by simp, hf, fun r hr => ?_⟩
    · simp only [List.mem_append, List.mem_cons] at hr
      rcases hr with hr | rfl | hr
      · obtain ⟨y, h10, h11⟩ := hs.2.2.2.2.1 r (by rw [h7]; simp [hr])
        exact ⟨y, h10, rw1 y r h11⟩
      · exact ⟨z, hz, hra⟩
      · obtain ⟨y, h10, h11⟩ := hs.2.2.2.2.1 r (by rw [h7]; simp [hr])
        exact ⟨y, h10, rw1 y r h11⟩
    · obtain ⟨r, h10, h11⟩ := hs.2.2.2.2.2.1 y hy hne
      exact ⟨r, by rw [h7] at h10; simp only [List.mem_append, List.mem_cons] at h10 ⊢; rcases h10 with h | h <;> simp [h], rw1 y r h11⟩
    · rw [h7]
      simp only [List.mem_append, List.mem_cons] at hr ⊢
      rcases hr with hr | hr | hr
      · exact Or.inr (Or.inl hr)
      · exact Or.inl hr
      · exact Or.inr (Or.inr hr)
theorem q_ne_put {S S' : qS} {ns ns' : List Nat} {rows : Nat → List Nat} {z a p : Nat} (hne : q_ne S ns rows) (hns : ∀ r ∈ ns', r = a ∨ (r ∈ ns ∧ q_z S' r = q_z S r)) (ha : q_z S' a = z) : q_ne S' ns' (va_up rows z (p :: rows z)) := by
  intro r hr
  by_cases e : (q_z S' r).toNat = z
  · rw [e, va_up_self]; exact fun h => nomatch h
  · rw [va_up_ne _ _ e]
    rcases hns r hr with rfl | ⟨h1, h2⟩
    · rw [ha] at e; exact absurd (by omega) e
    · rw [h2]; exact hne r h1
set_option maxHeartbeats 4000000 in
set_option maxRecDepth 100000 in
theorem c0_Shelves_putIn (l : Launch) (E : qE) (S : qS) (h ar t : Nat) (ns : List Nat) (rows : Nat → List Nat) (hs : q_sh S h ar t ns rows) (hne : q_ne S ns rows) (g9 z tm : Nat) (hL_p : g9 ∈ S.L) (hK_p : S.K g9 = 0) (hcz : S.I 1 g9 = nI z) (hz : z < 2 ^ 31) (hnot : ∀ y, g9 ∉ rows y) (hnow : S.J 1 h = lN tm) (post : qS → Prop) (hpost : ∀ S1, (∃ ns', q_sh S1 h ar t ns' (if 3 ≤ z then va_up rows z (g9 :: rows z) else rows) ∧ q_ne S1 ns' (if 3 ≤ z then va_up rows z (g9 :: rows z) else rows) ∧ q_fr S S1 (q_cPI g9) (q_cPR g9) (q_cPJ h g9) ∧ S1.I 2 g9 = 1 ∧ S1.J 0 g9 = lN (tm + 1) ∧ S1.J 1 h = lN (tm + 1)) → post S1) : q_Mv l yX2_putIn cX2_putIn 2 { frames := 3, cells := 1, slots := 7, locals := 55 } E [.ref h, .ref g9] S (post) 1 7 := by
  refine q_ofW1 (by decide) (q_1c rfl (q_1c rfl q_1n)) (Nat.le_of_ble_eq_true rfl) (fun p e s m below meth c C hV hr hlk hnm ls hl => ?_)
  have hl : lv_has ls 2 [(0, va_rf (some h)), (1, va_rf (some g9))] := hl
  have hs0 := hs
  obtain ⟨⟨hL_h, hK_h, -, -⟩, -⟩ := hs
  refine q_aload_n (r := some g9) C dX2_putIn_0 rfl (lv_at hl 1 rfl) ?_
  refine lv_iconst (v := 1) C.1 C.2.1 dX2_putIn_1 (by decide) ?_
  refine p_Piece_isFree (v := 1) C hV hL_p hK_p (by decide) (Or.inr ⟨_, wd_143⟩) dX2_putIn_2 (fun H locs hV => ?_)
  refine q_aload_n (r := some h) C dX2_putIn_5 rfl (lv_at hl 0 rfl) ?_
  refine lv_dup C.1 C.2.1 dX2_putIn_6 rfl ?_
  refine g_Shelves_now C hV hL_h hK_h (Or.inl wd_114) dX2_putIn_7 ?_
  refine q_tl (v' := lN tm) (hnow) ?_
  refine lv_lconst (v := 1) C.1 C.2.1 dX2_putIn_10 (by decide) ?_
  refine lv_ladd C.1 C.2.1 dX2_putIn_11 ?_
  refine p_Shelves_now (v := (lN tm) + 1) C hV hL_h hK_h (Or.inl wd_114) dX2_putIn_12 (fun H locs hV => ?_)
  refine q_aload_n (r := some g9) C dX2_putIn_15 rfl (lv_at hl 1 rfl) ?_
  refine q_aload_n (r := some h) C dX2_putIn_16 rfl (lv_at hl 0 rfl) ?_
  refine g_Shelves_now C hV hL_h hK_h (Or.inl wd_114) dX2_putIn_17 ?_
  refine q_tl (v' := lN (tm + 1)) ((qJ_self _ _ _ _).trans (lN_1 tm)) ?_
  refine p_Piece_since (v := lN (tm + 1)) C hV hL_p hK_p (Or.inr ⟨_, wd_144⟩) dX2_putIn_20 (fun H locs hV => ?_)
  obtain ⟨S3, hS3⟩ : ∃ X : qS, X = ((S.sI 2 g9 (1)).sJ 1 h (lN tm + 1)).sJ 0 g9 (lN (tm + 1)) := ⟨_, rfl⟩
  rw [← hS3] at hV
  have hf3 : q_fr S S3 (q_cPI g9) q_c0 (q_cPJ h g9) := by rw [hS3]; exact q_fr_tr (q_fr_tr (q_fr_sI ⟨rfl, rfl⟩) (q_fr_sJ (Or.inl ⟨rfl, rfl⟩))) (q_fr_sJ (Or.inr ⟨rfl, rfl⟩))
  have hs3 : q_sh S3 h ar t ns rows := q_sh_fr hs0 hf3 (fun a z => absurd z.1 (by decide)) (fun y x hx z => absurd z.1 (by decide)) (fun a => ⟨id, id, id, id, id, id⟩) (fun y x hx => id)
  have hi2 : S3.I 2 g9 = 1 := by rw [hS3]; exact qI_self S 2 g9 1
  have hj0 : S3.J 0 g9 = lN (tm + 1) := by rw [hS3]; exact qJ_self _ _ _ _
  have hj1 : S3.J 1 h = lN (tm + 1) := by rw [hS3]; exact (congrFun (qJ_of _ _ _ _ (by decide)) h).trans ((qJ_self _ _ _ _).trans (lN_1 tm))
  have hcz3 : S3.I 1 g9 = nI z := (hf3.2.1 g9 hL_p 1 (fun z => absurd z.1 (by decide))).trans hcz
  have hL_p3 := (hf3.1 g9 hL_p).1
  have hK_p3 := (hf3.1 g9 hL_p).2.1.trans hK_p
  obtain ⟨⟨hL_h3, hK_h3, hsm, hgr⟩, ⟨hL_ar, hK_ar, hNar⟩, hsmall, htree, hgreat, hgreat2, hpcs⟩ := id hs3
  have hL_t := htree.1
  have hK_t := htree.2.1
  have hN_ar : S3.N ar < 2 ^ 31 := by rw [hNar]; decide
  have hz3 : ∀ r ∈ ns, q_z S3 r = q_z S r := fun r hr => by show (S3.I 4 r).toInt = _; rw [hf3.2.1 r (hs0.2.2.2.1.2.2.2.1 r hr).1 4 (fun z => absurd z.1 (by decide))]; rfl
  refine q_aload_n (r := some g9) C dX2_putIn_23 rfl (lv_at hl 1 rfl) ?_
  refine g_Piece_cells C hV hL_p3 hK_p3 (Or.inr ⟨_, wd_140⟩) dX2_putIn_24 ?_
  refine q_ti (v' := nI z) (hcz3) ?_
  refine lv_bipush (v := 64) C.1 C.2.1 dX2_putIn_27 (by decide) ?_
  refine lv_icmp_lt (tgt := 50) C.1 C.2.1 dX2_putIn_29 (by decide) (fun c29 => ?_) (fun c29 => ?_)
  · have hz6 : z < 64 := by have h9 := q_i_lt.mp c29; rw [nI_toInt hz, q_i64] at h9; omega
    refine q_aload_n (r := some g9) C dX2_putIn_50 rfl (lv_at hl 1 rfl) ?_
    refine g_Piece_cells C hV hL_p3 hK_p3 (Or.inr ⟨_, wd_140⟩) dX2_putIn_51 ?_
    refine q_ti (v' := nI z) (hcz3) ?_
    refine lv_iconst (v := 3) C.1 C.2.1 dX2_putIn_54 (by decide) ?_
    refine lv_icmp_lt (tgt := 73) C.1 C.2.1 dX2_putIn_55 (by decide) (fun c55 => ?_) (fun c55 => ?_)
    · refine q_vret C hV hr hlk (Nat.le_of_ble_eq_true rfl) (Nat.le_of_ble_eq_true rfl) dX2_putIn_73 ?_
      have hz9 : ¬ 3 ≤ z := by have h9 := q_i_lt.mp c55; rw [nI_toInt hz, q_i3] at h9; omega
      refine hpost _ ⟨ns, by rw [if_neg hz9]; exact hs3, by rw [if_neg hz9]; exact fun r hr9 => by rw [hz3 r hr9]; exact hne r hr9, ?_, hi2, hj0, hj1⟩
      exact q_fr_mo hf3 (fun _ _ z => z) (fun _ _ z => z.elim) (fun _ _ z => z)
    · have hz9 : 3 ≤ z := by have h9 := mt q_i_lt.mpr c55; rw [nI_toInt hz, q_i3] at h9; omega
      obtain ⟨rw_, hrw0, hrow⟩ := hsmall (z - 3) (by omega)
      rw [show z - 3 + 3 = z by omega] at hrow
      refine q_aload_n (r := some h) C dX2_putIn_58 rfl (lv_at hl 0 rfl) ?_
      refine g_Shelves_small C hV hL_h3 hK_h3 (Or.inl wd_112) dX2_putIn_59 ?_
      refine q_tr (v' := some ar) (hsm) ?_
      refine q_aload_n (r := some g9) C dX2_putIn_62 rfl (lv_at hl 1 rfl) ?_
      refine g_Piece_cells C hV hL_p3 hK_p3 (Or.inr ⟨_, wd_140⟩) dX2_putIn_63 ?_
      refine q_ti (v' := nI z) (hcz3) ?_
      refine lv_iconst (v := 3) C.1 C.2.1 dX2_putIn_66 (by decide) ?_
      refine lv_isub C.1 C.2.1 dX2_putIn_67 ?_
      refine q_aald (j := z - 3) C hV hL_ar hK_ar (pk_sub (a := z) (b := 3) (by omega)) (by rw [hNar]; omega) (hN_ar) dX2_putIn_68 ?_
      refine q_tr (v' := some rw_) (hrw0) ?_
      refine q_aload_n (r := some g9) C dX2_putIn_69 rfl (lv_at hl 1 rfl) ?_
      refine q_cv hV (q_rN (b := rw_) (As := [va_rf (some g9)]) (rest := []) C hV (c_Row_push l E S3 rw_ g9 hrow.1 hrow.2.1 hL_p3 hK_p3) wd_191 wd_188 wd_190 wd_7 wd_41 ok_X1_push ⟨rfl, rfl, Nat.le_of_ble_eq_true rfl, Nat.le_of_ble_eq_true rfl⟩ (q_rc1 hV hrow.1 hrow.2.1) rfl hl.1 rfl (q_sm q_1n (Nat.le_of_ble_eq_true rfl)) dX2_putIn_70 ⟨Nat.le_of_ble_eq_true rfl, Nat.le_of_ble_eq_true rfl⟩) (fun S70 H locs hp70 hV => ?_)
      refine q_vret C hV hr hlk (Nat.le_of_ble_eq_true rfl) (Nat.le_of_ble_eq_true rfl) dX2_putIn_73 ?_
      subst hp70
      obtain ⟨hsF, hfF⟩ := q_put_row hs3 hrow (fun _ => hrw0) (fun h9 => absurd h9 (by omega)) ⟨hL_p3, hK_p3, hcz3⟩ hnot
      refine hpost _ ⟨ns, by rw [if_pos hz9]; exact hsF, by rw [if_pos hz9]; exact q_ne_put (a := rw_) hne (fun r hr9 => Or.inr ⟨hr9, hz3 r hr9⟩) (show q_z S3 rw_ = (z : Int) from q_row_z hrow), ?_, hi2, hj0, hj1⟩
      exact q_fr_tr (q_fr_mo hf3 (fun _ _ z => z) (fun _ _ z => z.elim) (fun _ _ z => z)) (q_fr_mo hfF (fun _ _ z => z.elim) (fun j x z => z.elim Or.inl (fun z => Or.inr (Or.inl z.1))) (fun _ _ z => z.elim))
  · have hz6 : 64 ≤ z := by have h9 := mt q_i_lt.mpr c29; rw [nI_toInt hz, q_i64] at h9; omega
    refine q_aload_n (r := some h) C dX2_putIn_32 rfl (lv_at hl 0 rfl) ?_
    refine g_Shelves_great C hV hL_h3 hK_h3 (Or.inl wd_113) dX2_putIn_33 ?_
    refine q_tr (v' := some t) (hgr) ?_
    refine q_aload_n (r := some g9) C dX2_putIn_36 rfl (lv_at hl 1 rfl) ?_
    refine g_Piece_cells C hV hL_p3 hK_p3 (Or.inr ⟨_, wd_140⟩) dX2_putIn_37 ?_
    refine q_ti (v' := nI z) (hcz3) ?_
    refine q_cq hV (q_rN (b := t) (As := [.int (nI z)]) (rest := []) C hV (c_Tree_rowMadeFor l E S3 t (nI z) ns htree) wd_173 wd_170 wd_172 wd_3 wd_42 ok_X3_rowMadeFor ⟨rfl, rfl, Nat.le_of_ble_eq_true rfl, Nat.le_of_ble_eq_true rfl⟩ (q_rc3 hV hL_t hK_t) rfl hl.1 rfl (q_sm q_1n (Nat.le_of_ble_eq_true rfl)) dX2_putIn_40 ⟨Nat.le_of_ble_eq_true rfl, Nat.le_of_ble_eq_true rfl⟩) (fun r40 S40 H locs hp40 hV => ?_)
    obtain ⟨a40, rfl, hm40⟩ := hp40
    obtain ⟨ns40, hs40, hr40, ha40, hf40, hn40⟩ := q_sh_made hs3 hz6 hz hm40
    have hL_p4 := (hf40.1 g9 hL_p3).1
    have hK_p4 := (hf40.1 g9 hL_p3).2.1.trans hK_p3
    have hcz4 : S40.I 1 g9 = nI z := (hf40.2.1 g9 hL_p3 1 (fun z => z)).trans hcz3
    refine q_aload_n (r := some g9) C dX2_putIn_43 rfl (lv_at hl 1 rfl) ?_
    refine q_cv hV (q_rN (b := a40) (As := [va_rf (some g9)]) (rest := []) C hV (c_Row_push l E S40 a40 g9 hr40.1 hr40.2.1 hL_p4 hK_p4) wd_191 wd_188 wd_190 wd_7 wd_41 ok_X1_push ⟨rfl, rfl, Nat.le_of_ble_eq_true rfl, Nat.le_of_ble_eq_true rfl⟩ (q_rc1 hV hr40.1 hr40.2.1) rfl hl.1 rfl (q_sm q_1n (Nat.le_of_ble_eq_true rfl)) dX2_putIn_44 ⟨Nat.le_of_ble_eq_true rfl, Nat.le_of_ble_eq_true rfl⟩) (fun S44 H locs hp44 hV => ?_)
    refine lv_goto (tgt := 73) C.1 C.2.1 dX2_putIn_47 (by decide) ?_
    refine q_vret C hV hr hlk (Nat.le_of_ble_eq_true rfl) (Nat.le_of_ble_eq_true rfl) dX2_putIn_73 ?_
    subst hp44
    obtain ⟨hsF, hfF⟩ := q_put_row hs40 hr40 (fun h9 => absurd h9 (by omega)) (fun _ => ha40) ⟨hL_p4, hK_p4, hcz4⟩ hnot
    have hneF : q_ne ((S40.sR 1 g9 (S40.R 2 a40)).sR 2 a40 (some g9)) ns40 (va_up rows z (g9 :: rows z)) := q_ne_put (a := a40) hne (fun r hr9 => by
      rcases hn40 r hr9 with h9 | h9
      · exact Or.inl h9
      · refine Or.inr ⟨h9, ?_⟩
        rw [← hz3 r h9]
        show (S40.I 4 r).toInt = (S3.I 4 r).toInt
        rw [hf40.2.1 r (hs3.2.2.2.1.2.2.2.1 r h9).1 4 (fun z => z)]) (show q_z S40 a40 = (z : Int) from q_row_z hr40)
    refine hpost _ ⟨ns40, by rw [if_pos (by omega)]; exact hsF, by rw [if_pos (by omega)]; exact hneF, ?_, ?_, ?_, ?_⟩
    · exact q_fr_tr (q_fr_mo hf3 (fun _ _ z => z) (fun _ _ z => z.elim) (fun _ _ z => z)) (q_fr_tr (q_fr_mo hf40 (fun _ _ z => z.elim) (fun j x z => Or.inr (Or.inr z)) (fun _ _ z => z.elim)) (q_fr_mo hfF (fun _ _ z => z.elim) (fun j x z => z.elim Or.inl (fun z => Or.inr (Or.inl z.1))) (fun _ _ z => z.elim)))
    · exact (hf40.2.1 g9 hL_p3 2 (fun z => z)).trans hi2
    · exact (hf40.2.2.2 g9 hL_p3 0 (fun z => z)).trans hj0
    · exact (hf40.2.2.2 h hL_h3 1 (fun z => z)).trans hj1
theorem c_Shelves_putIn (l : Launch) (E : qE) (S : qS) (h ar t : Nat) (ns : List Nat) (rows : Nat → List Nat) (hs : q_sh S h ar t ns rows) (hne : q_ne S ns rows) (g9 z tm : Nat) (hL_p : g9 ∈ S.L) (hK_p : S.K g9 = 0) (hcz : S.I 1 g9 = nI z) (hz : z < 2 ^ 31) (hnot : ∀ y, g9 ∉ rows y) (hnow : S.J 1 h = lN tm) : q_Mv l yX2_putIn cX2_putIn 2 { frames := 3, cells := 1, slots := 7, locals := 55 } E [.ref h, .ref g9] S (fun S1 => ∃ ns', q_sh S1 h ar t ns' (if 3 ≤ z then va_up rows z (g9 :: rows z) else rows) ∧ q_ne S1 ns' (if 3 ≤ z then va_up rows z (g9 :: rows z) else rows) ∧ q_fr S S1 (q_cPI g9) (q_cPR g9) (q_cPJ h g9) ∧ S1.I 2 g9 = 1 ∧ S1.J 0 g9 = lN (tm + 1) ∧ S1.J 1 h = lN (tm + 1)) 1 7 := c0_Shelves_putIn l E S h ar t ns rows hs hne g9 z tm hL_p hK_p hcz hz hnot hnow _ (fun _ h => h)

