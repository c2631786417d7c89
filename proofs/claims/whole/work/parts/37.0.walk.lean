/-! THE WAY OVER THE TREE: what enter and next do -/
def q_ent (S : qS) (w : Nat) (o : Option Nat) (a b : Int32) : qS := match o with
  | none => S
  | some r => (((S.sI 11 r a).sI 12 r b).sR 12 r (S.R 13 w)).sR 13 w (some r)
theorem q_ent_I {S : qS} {w : Nat} {o : Option Nat} {a b : Int32} {j : Nat} (h1 : j ≠ 11) (h2 : j ≠ 12) : (q_ent S w o a b).I j = S.I j := by
  cases o with
  | none => rfl
  | some r => show ((S.sI 11 r a).sI 12 r b).I j = S.I j; rw [qI_of _ _ _ _ h2, qI_of _ _ _ _ h1]
theorem q_ent_R {S : qS} {w : Nat} {o : Option Nat} {a b : Int32} {j : Nat} (h1 : j ≠ 12) (h2 : j ≠ 13) : (q_ent S w o a b).R j = S.R j := by
  cases o with
  | none => rfl
  | some r => show ((((S.sI 11 r a).sI 12 r b).sR 12 r (S.R 13 w)).sR 13 w (some r)).R j = S.R j; rw [qR_of _ _ _ _ h2, qR_of _ _ _ _ h1]; rfl
theorem q_ent_L {S : qS} {w : Nat} {o : Option Nat} {a b : Int32} : (q_ent S w o a b).L = S.L := by cases o <;> rfl
theorem q_ent_K {S : qS} {w : Nat} {o : Option Nat} {a b : Int32} : (q_ent S w o a b).K = S.K := by cases o <;> rfl
theorem q_ent_ne {S : qS} {w x : Nat} {o : Option Nat} {a b : Int32} (h : ∀ r, o = some r → x ≠ r) : (q_ent S w o a b).I 11 x = S.I 11 x ∧ (q_ent S w o a b).I 12 x = S.I 12 x ∧ (q_ent S w o a b).R 12 x = S.R 12 x := by
  cases o with
  | none => exact ⟨rfl, rfl, rfl⟩
  | some r =>
    have hx := h r rfl
    refine ⟨?_, ?_, ?_⟩
    · show ((S.sI 11 r a).sI 12 r b).I 11 x = _
      rw [qI_ne _ _ _ _ hx, qI_ne _ _ _ _ hx]
    · show ((S.sI 11 r a).sI 12 r b).I 12 x = _
      rw [qI_ne _ _ _ _ hx, qI_ne _ _ _ _ hx]
    · show ((((S.sI 11 r a).sI 12 r b).sR 12 r (S.R 13 w)).sR 13 w (some r)).R 12 x = _
      rw [qR_of _ _ _ _ (by decide), qR_ne _ _ _ _ hx]; rfl
abbrev q_cWI : Nat → Nat → Prop := fun j _ => 11 ≤ j
abbrev q_cWR : Nat → Nat → Prop := fun j _ => 12 ≤ j
theorem q_ent_fr {S : qS} {w : Nat} {o : Option Nat} {a b : Int32} : q_fr S (q_ent S w o a b) q_cWI q_cWR q_c0 := by
  cases o with
  | none => exact q_fr_rf
  | some r => exact q_fr_tr (q_fr_sI (show 11 ≤ 11 from by decide)) (q_fr_tr (q_fr_sI (show 11 ≤ 12 from by decide)) (q_fr_tr (q_fr_sR (show 12 ≤ 12 from by decide)) (q_fr_sR (show 12 ≤ 13 from by decide))))
def q_nxt (S : qS) (w : Nat) (o : Option Nat) : qS := match o with
  | none => S
  | some r => q_ent (q_ent (S.sR 13 w (S.R 12 r)) w (S.R 3 r) (S.I 11 r) (S.I 4 r - 1)) w (S.R 4 r) (S.I 4 r + 1) (S.I 12 r)
theorem q_nxt_fr {S : qS} {w : Nat} {o : Option Nat} : q_fr S (q_nxt S w o) q_cWI q_cWR q_c0 := by
  cases o with
  | none => exact q_fr_rf
  | some r => exact q_fr_tr (q_fr_sR (show 12 ≤ 13 from by decide)) (q_fr_tr q_ent_fr q_ent_fr)
theorem q_nxt_I {S : qS} {w : Nat} {o : Option Nat} {j : Nat} (h1 : j ≠ 11) (h2 : j ≠ 12) : (q_nxt S w o).I j = S.I j := by
  cases o with
  | none => rfl
  | some r => show (q_ent (q_ent _ _ _ _ _) _ _ _ _).I j = _; rw [q_ent_I h1 h2, q_ent_I h1 h2]; rfl
set_option maxHeartbeats 4000000 in
set_option maxRecDepth 100000 in
theorem c_Walk_init (l : Launch) (E : qE) (S : qS) (q : Nat) (hL_q : q ∈ S.L) (hK_q : S.K q = 8) : q_Mv l yX4_init cX4_init 1 { frames := 1, cells := 0, slots := 0, locals := 12 } E [.ref q] S (fun S1 => S1 = S) 0 0 := by
  refine q_ofW1 (by decide) (q_1c rfl q_1n) (Nat.le_of_ble_eq_true rfl) (fun p e s m below meth c C hV hr hlk hnm ls hl => ?_)
  have hl : lv_has ls 1 [(0, va_rf (some q))] := hl
  refine q_aload_n (r := some q) C dX4_init_0 rfl (lv_at hl 0 rfl) ?_
  refine q_objInit C wd_272 wd_58 wd_59 hl.1 dX4_init_1 (Nat.le_of_ble_eq_true rfl) (Nat.le_of_ble_eq_true rfl) ?_
  refine q_vret C hV hr hlk (Nat.le_of_ble_eq_true rfl) (Nat.le_of_ble_eq_true rfl) dX4_init_4 ?_
  rfl
set_option maxHeartbeats 4000000 in
set_option maxRecDepth 100000 in
theorem c_Walk_enter (l : Launch) (E : qE) (S : qS) (w9 : Nat) (o : Option Nat) (a b : Int32) (hL_w9 : w9 ∈ S.L) (hK_w9 : S.K w9 = 8) (ho : ∀ r, o = some r → r ∈ S.L ∧ S.K r = 1 ∧ a ≤ S.I 4 r ∧ S.I 4 r ≤ b) : q_Mv l yX4_enter cX4_enter 4 { frames := 0, cells := 0, slots := 0, locals := 0 } E [.ref w9, va_rf o, .int a, .int b] S (fun S1 => S1 = q_ent S w9 o a b) 0 0 := by
  refine q_ofW1 (by decide) (q_1c rfl (q_1c (q_cat _) (q_1c rfl (q_1c rfl q_1n)))) (Nat.le_of_ble_eq_true rfl) (fun p e s m below meth c C hV hr hlk hnm ls hl => ?_)
  have hl : lv_has ls 4 [(0, va_rf (some w9)), (1, va_rf (o)), (2, .int (a)), (3, .int (b))] := hl
  refine q_aload_n (r := o) C dX4_enter_0 rfl (lv_at hl 1 rfl) ?_
  refine q_ifnonnull (r := o) (tgt := 5) C dX4_enter_1 (by decide) (fun x1 c1 => ?_) (fun c1 => ?_)
  · subst c1
    obtain ⟨hL_x1, hK_x1, hlo, hhi⟩ := ho x1 rfl
    refine q_aload_n (r := some x1) C dX4_enter_5 rfl (lv_at hl 1 rfl) ?_
    refine g_Row_cells C hV hL_x1 hK_x1 (Or.inr ⟨_, wd_74⟩) dX4_enter_6 ?_
    refine lv_iload_n C.1 C.2.1 dX4_enter_9 rfl (lv_at hl 2 rfl) ?_
    refine lv_icmp_lt (tgt := 21) C.1 C.2.1 dX4_enter_10 (by decide) (fun c10 => ?_) (fun c10 => ?_)
    · exact absurd hlo (Int32.not_le.mpr c10)
    · refine q_aload_n (r := some x1) C dX4_enter_13 rfl (lv_at hl 1 rfl) ?_
      refine g_Row_cells C hV hL_x1 hK_x1 (Or.inr ⟨_, wd_74⟩) dX4_enter_14 ?_
      refine lv_iload_n C.1 C.2.1 dX4_enter_17 rfl (lv_at hl 3 rfl) ?_
      refine lv_icmp_le (tgt := 32) C.1 C.2.1 dX4_enter_18 (by decide) (fun c18 => ?_) (fun c18 => ?_)
      · refine q_aload_n (r := some x1) C dX4_enter_32 rfl (lv_at hl 1 rfl) ?_
        refine lv_iload_n C.1 C.2.1 dX4_enter_33 rfl (lv_at hl 2 rfl) ?_
        refine p_Row_from (v := a) C hV hL_x1 hK_x1 (Or.inr ⟨_, wd_83⟩) dX4_enter_34 (fun H locs hV => ?_)
        refine q_aload_n (r := some x1) C dX4_enter_37 rfl (lv_at hl 1 rfl) ?_
        refine lv_iload_n C.1 C.2.1 dX4_enter_38 rfl (lv_at hl 3 rfl) ?_
        refine p_Row_to (v := b) C hV hL_x1 hK_x1 (Or.inr ⟨_, wd_84⟩) dX4_enter_39 (fun H locs hV => ?_)
        refine q_aload_n (r := some x1) C dX4_enter_42 rfl (lv_at hl 1 rfl) ?_
        refine q_aload_n (r := some w9) C dX4_enter_43 rfl (lv_at hl 0 rfl) ?_
        refine g_Walk_open C hV hL_w9 hK_w9 (Or.inl wd_273) dX4_enter_44 ?_
        refine q_tr (v' := S.R 13 w9) (rfl) ?_
        refine p_Row_next (v := S.R 13 w9) C hV hL_x1 hK_x1 (Or.inr ⟨_, wd_85⟩) dX4_enter_47 (fun H locs hV => ?_)
        refine q_aload_n (r := some w9) C dX4_enter_50 rfl (lv_at hl 0 rfl) ?_
        refine q_aload_n (r := some x1) C dX4_enter_51 rfl (lv_at hl 1 rfl) ?_
        refine p_Walk_open (v := some x1) C hV hL_w9 hK_w9 (Or.inl wd_273) dX4_enter_52 (fun H locs hV => ?_)
        refine q_vret C hV hr hlk (Nat.le_of_ble_eq_true rfl) (Nat.le_of_ble_eq_true rfl) dX4_enter_55 ?_
        rfl
      · exact absurd hhi c18
  · subst c1
    refine q_vret C hV hr hlk (Nat.le_of_ble_eq_true rfl) (Nat.le_of_ble_eq_true rfl) dX4_enter_4 ?_
    rfl
set_option maxHeartbeats 4000000 in
set_option maxRecDepth 100000 in
theorem c0_Walk_next (l : Launch) (E : qE) (S : qS) (w9 : Nat) (hL_w9 : w9 ∈ S.L) (hK_w9 : S.K w9 = 8) (hr9 : ∀ r, S.R 13 w9 = some r → r ∈ S.L ∧ S.K r = 1 ∧ (∀ x, S.R 3 r = some x → x ∈ S.L ∧ S.K x = 1 ∧ r ≠ x ∧ S.I 11 r ≤ S.I 4 x ∧ S.I 4 x ≤ S.I 4 r - 1) ∧ (∀ x, S.R 4 r = some x → x ∈ S.L ∧ S.K x = 1 ∧ S.I 4 r + 1 ≤ S.I 4 x ∧ S.I 4 x ≤ S.I 12 r)) (post : Option Nat → qS → Prop) (hpost : ∀ r S1, (r = S.R 13 w9 ∧ S1 = q_nxt S w9 (S.R 13 w9)) → post r S1) : q_Mq l yX4_next cX4_next 2 (.object "ChunkShelf$Row") { frames := 1, cells := 0, slots := 0, locals := 23 } E [.ref w9] S (post) 0 0 := by
  refine q_ofW1 (by decide) (q_1c rfl q_1n) (Nat.le_of_ble_eq_true rfl) (fun p e s m below meth c C hV hr hlk hnm ls hl => ?_)
  have hl : lv_has ls 2 [(0, va_rf (some w9))] := hl
  refine q_aload_n (r := some w9) C dX4_next_0 rfl (lv_at hl 0 rfl) ?_
  refine g_Walk_open C hV hL_w9 hK_w9 (Or.inl wd_273) dX4_next_1 ?_
  refine q_nr (fun r1 h1 => ?_)
  refine q_astore_n (r := r1) (lv' := [(1, va_rf (r1)), (0, va_rf (some w9))]) C dX4_next_4 rfl hl (by decide) (q_k0 (q_kC 0 rfl (by decide) (q_cat _) q_kz)) (fun ls hl => ?_)
  refine q_aload_n (r := r1) C dX4_next_5 rfl (lv_at hl 0 rfl) ?_
  refine q_ifnull (r := r1) (tgt := 53) C dX4_next_6 (by decide) (fun c6 => ?_) (fun x6 c6 => ?_)
  · subst c6
    refine q_aload_n (r := none) C dX4_next_53 rfl (lv_at hl 0 rfl) ?_
    refine q_aret (r := none) C hV hr hlk (Nat.le_of_ble_eq_true rfl) (Nat.le_of_ble_eq_true rfl) dX4_next_54 ?_
    exact hpost _ _ ⟨h1, by rw [← h1]; rfl⟩
  · subst c6
    obtain ⟨hL_x6, hK_x6, hle, hmo⟩ := hr9 x6 h1.symm
    refine q_aload_n (r := some w9) C dX4_next_9 rfl (lv_at hl 1 rfl) ?_
    refine q_aload_n (r := some x6) C dX4_next_10 rfl (lv_at hl 0 rfl) ?_
    refine g_Row_next C hV hL_x6 hK_x6 (Or.inr ⟨_, wd_85⟩) dX4_next_11 ?_
    refine q_tr (v' := S.R 12 x6) (rfl) ?_
    refine p_Walk_open (v := S.R 12 x6) C hV hL_w9 hK_w9 (Or.inl wd_273) dX4_next_14 (fun H locs hV => ?_)
    refine q_aload_n (r := some w9) C dX4_next_17 rfl (lv_at hl 1 rfl) ?_
    refine q_aload_n (r := some x6) C dX4_next_18 rfl (lv_at hl 0 rfl) ?_
    refine g_Row_less C hV hL_x6 hK_x6 (Or.inr ⟨_, wd_80⟩) dX4_next_19 ?_
    refine q_tr (v' := S.R 3 x6) (congrFun (qR_of _ _ _ _ (by decide)) x6) ?_
    refine q_aload_n (r := some x6) C dX4_next_22 rfl (lv_at hl 0 rfl) ?_
    refine g_Row_from C hV hL_x6 hK_x6 (Or.inr ⟨_, wd_83⟩) dX4_next_23 ?_
    refine q_ti (v' := S.I 11 x6) (rfl) ?_
    refine q_aload_n (r := some x6) C dX4_next_26 rfl (lv_at hl 0 rfl) ?_
    refine g_Row_cells C hV hL_x6 hK_x6 (Or.inr ⟨_, wd_74⟩) dX4_next_27 ?_
    refine q_ti (v' := S.I 4 x6) (rfl) ?_
    refine lv_iconst (v := 1) C.1 C.2.1 dX4_next_30 (by decide) ?_
    refine lv_isub C.1 C.2.1 dX4_next_31 ?_
    refine q_cv hV (q_rV (b := w9) (As := [va_rf (S.R 3 x6), .int (S.I 11 x6), .int ((S.I 4 x6) - 1)]) (rest := []) C hV (c_Walk_enter l E (S.sR 13 w9 (S.R 12 x6)) w9 (S.R 3 x6) (S.I 11 x6) (S.I 4 x6 - 1) hL_w9 hK_w9 (fun r hr => ⟨(hle r hr).1, (hle r hr).2.1, (hle r hr).2.2.2.1, (hle r hr).2.2.2.2⟩)) wd_284 wd_289 wd_283 wd_17 wd_51 ok_X4_enter ⟨rfl, rfl, Nat.le_of_ble_eq_true rfl, Nat.le_of_ble_eq_true rfl⟩ (q_rc8 hV hL_w9 hK_w9) rfl hl.1 rfl (q_sm q_1n (Nat.le_of_ble_eq_true rfl)) dX4_next_32 ⟨Nat.le_of_ble_eq_true rfl, Nat.le_of_ble_eq_true rfl⟩) (fun S32 H locs hp32 hV => ?_)
    have hL_x6 : x6 ∈ S32.L := by rw [hp32, q_ent_L]; exact hL_x6
    have hK_x6 : S32.K x6 = 1 := by rw [hp32, q_ent_K]; exact hK_x6
    have hL_w9 : w9 ∈ S32.L := by rw [hp32, q_ent_L]; exact hL_w9
    have hK_w9 : S32.K w9 = 8 := by rw [hp32, q_ent_K]; exact hK_w9
    have hR4x : S32.R 4 x6 = S.R 4 x6 := by rw [hp32, q_ent_R (by decide) (by decide), qR_of _ _ _ _ (by decide)]
    have hI4 : S32.I 4 = S.I 4 := by rw [hp32, q_ent_I (by decide) (by decide)]; rfl
    have hI4x : S32.I 4 x6 = S.I 4 x6 := congrFun hI4 x6
    have hI12x : S32.I 12 x6 = S.I 12 x6 := by rw [hp32, (q_ent_ne (fun r hr => (hle r hr).2.2.1)).2.1]; rfl
    refine q_aload_n (r := some w9) C dX4_next_35 rfl (lv_at hl 1 rfl) ?_
    refine q_aload_n (r := some x6) C dX4_next_36 rfl (lv_at hl 0 rfl) ?_
    refine g_Row_more C hV hL_x6 hK_x6 (Or.inr ⟨_, wd_82⟩) dX4_next_37 ?_
    refine q_tr (v' := S.R 4 x6) (hR4x) ?_
    refine q_aload_n (r := some x6) C dX4_next_40 rfl (lv_at hl 0 rfl) ?_
    refine g_Row_cells C hV hL_x6 hK_x6 (Or.inr ⟨_, wd_74⟩) dX4_next_41 ?_
    refine q_ti (v' := S.I 4 x6) (hI4x) ?_
    refine lv_iconst (v := 1) C.1 C.2.1 dX4_next_44 (by decide) ?_
    refine lv_iadd C.1 C.2.1 dX4_next_45 ?_
    refine q_aload_n (r := some x6) C dX4_next_46 rfl (lv_at hl 0 rfl) ?_
    refine g_Row_to C hV hL_x6 hK_x6 (Or.inr ⟨_, wd_84⟩) dX4_next_47 ?_
    refine q_ti (v' := S.I 12 x6) (hI12x) ?_
    refine q_cv hV (q_rV (b := w9) (As := [va_rf (S.R 4 x6), .int ((S.I 4 x6) + 1), .int (S.I 12 x6)]) (rest := []) C hV (c_Walk_enter l E S32 w9 (S.R 4 x6) (S.I 4 x6 + 1) (S.I 12 x6) hL_w9 hK_w9 (fun r hr => ⟨by rw [hp32, q_ent_L]; exact (hmo r hr).1, by rw [hp32, q_ent_K]; exact (hmo r hr).2.1, by rw [hI4]; exact (hmo r hr).2.2.1, by rw [hI4]; exact (hmo r hr).2.2.2⟩)) wd_284 wd_289 wd_283 wd_17 wd_51 ok_X4_enter ⟨rfl, rfl, Nat.le_of_ble_eq_true rfl, Nat.le_of_ble_eq_true rfl⟩ (q_rc8 hV hL_w9 hK_w9) rfl hl.1 rfl (q_sm q_1n (Nat.le_of_ble_eq_true rfl)) dX4_next_50 ⟨Nat.le_of_ble_eq_true rfl, Nat.le_of_ble_eq_true rfl⟩) (fun S50 H locs hp50 hV => ?_)
    refine q_aload_n (r := some x6) C dX4_next_53 rfl (lv_at hl 0 rfl) ?_
    refine q_aret (r := some x6) C hV hr hlk (Nat.le_of_ble_eq_true rfl) (Nat.le_of_ble_eq_true rfl) dX4_next_54 ?_
    exact hpost _ _ ⟨h1, by rw [← h1, hp50, hp32]; rfl⟩
theorem c_Walk_next (l : Launch) (E : qE) (S : qS) (w9 : Nat) (hL_w9 : w9 ∈ S.L) (hK_w9 : S.K w9 = 8) (hr9 : ∀ r, S.R 13 w9 = some r → r ∈ S.L ∧ S.K r = 1 ∧ (∀ x, S.R 3 r = some x → x ∈ S.L ∧ S.K x = 1 ∧ r ≠ x ∧ S.I 11 r ≤ S.I 4 x ∧ S.I 4 x ≤ S.I 4 r - 1) ∧ (∀ x, S.R 4 r = some x → x ∈ S.L ∧ S.K x = 1 ∧ S.I 4 r + 1 ≤ S.I 4 x ∧ S.I 4 x ≤ S.I 12 r)) : q_Mq l yX4_next cX4_next 2 (.object "ChunkShelf$Row") { frames := 1, cells := 0, slots := 0, locals := 23 } E [.ref w9] S (fun r S1 => r = S.R 13 w9 ∧ S1 = q_nxt S w9 (S.R 13 w9)) 0 0 := c0_Walk_next l E S w9 hL_w9 hK_w9 hr9 _ (fun _ _ h => h)

/-! THE STACK: (row, least, most, the rows of its subtree in their order), the last entered first -/
abbrev q_Y : Type := Nat × Nat × Nat × List Nat
def q_wk (S : qS) (zf : Nat → Nat) : Option Nat → List q_Y → Prop
  | o, [] => o = none
  | o, x :: st => o = some x.1 ∧ S.I 11 x.1 = nI x.2.1 ∧ S.I 12 x.1 = nI x.2.2.1 ∧ x.2.2.1 < 2 ^ 31 ∧ (∃ k, q_bt (S.R 3) (S.R 4) k (some x.1) x.2.2.2) ∧ (∀ b ∈ x.2.2.2, x.2.1 ≤ zf b ∧ zf b ≤ x.2.2.1) ∧ q_so (fun a => (zf a : Int)) x.2.2.2 ∧ q_wk S zf (S.R 12 x.1) st
def q_fla : List q_Y → List Nat
  | [] => []
  | x :: st => x.2.2.2 ++ q_fla st
theorem q_bt_root {le mo : Nat → Option Nat} {k a : Nat} {ns : List Nat} (h : q_bt le mo k (some a) ns) : a ∈ ns := by
  obtain ⟨l1, l2, e, -⟩ := q_bt_some h
  rw [e]; simp
theorem q_wk_cg {S S' : qS} {zf : Nat → Nat} : ∀ {st : List q_Y} {o : Option Nat}, q_wk S zf o st → (∀ a ∈ q_fla st, S'.I 11 a = S.I 11 a ∧ S'.I 12 a = S.I 12 a ∧ S'.R 12 a = S.R 12 a ∧ S'.R 3 a = S.R 3 a ∧ S'.R 4 a = S.R 4 a) → q_wk S' zf o st := by
  intro st
  induction st with
  | nil => intro o h _; exact h
  | cons x st ih =>
    intro o h hc
    obtain ⟨h1, h2, h3, h4, ⟨k, h5⟩, h6, h7, h8⟩ := h
    have hx := hc x.1 (List.mem_append_left _ (q_bt_root h5))
    refine ⟨h1, hx.1.trans h2, hx.2.1.trans h3, h4, ⟨k, q_bt_congr (fun a ha => ?_) h5⟩, h6, h7, ?_⟩
    · have := hc a (List.mem_append_left _ ha)
      exact ⟨this.2.2.2.1, this.2.2.2.2⟩
    · rw [hx.2.2.1]
      exact ih h8 (fun a ha => hc a (List.mem_append_right _ ha))
def q_pu (o : Option Nat) (lo hi : Nat) (l : List Nat) (st : List q_Y) : List q_Y := match o with
  | none => st
  | some x => (x, lo, hi, l) :: st
theorem q_wk_pu {S : qS} {zf : Nat → Nat} {w : Nat} {o : Option Nat} {lo hi : Nat} {l : List Nat} {st : List q_Y} (h : q_wk S zf (S.R 13 w) st) (hb : ∃ k, q_bt (S.R 3) (S.R 4) k o l) (hlo : ∀ b ∈ l, lo ≤ zf b ∧ zf b ≤ hi) (hso : q_so (fun a => (zf a : Int)) l) (hhi : hi < 2 ^ 31) (hd : ∀ x ∈ l, x ∉ q_fla st) :
    q_wk (q_ent S w o (nI lo) (nI hi)) zf ((q_ent S w o (nI lo) (nI hi)).R 13 w) (q_pu o lo hi l st) ∧ q_fla (q_pu o lo hi l st) = l ++ q_fla st := by
  obtain ⟨k, hb⟩ := hb
  cases o with
  | none =>
    have hl := q_bt_nil hb
    subst hl
    exact ⟨h, rfl⟩
  | some r =>
    have hr := q_bt_root hb
    refine ⟨?_, rfl⟩
    have e13 : (q_ent S w (some r) (nI lo) (nI hi)).R 13 w = some r := qR_self _ _ _ _
    have e12 : (q_ent S w (some r) (nI lo) (nI hi)).R 12 r = S.R 13 w := by
      show ((((S.sI 11 r (nI lo)).sI 12 r (nI hi)).sR 12 r (S.R 13 w)).sR 13 w (some r)).R 12 r = _
      rw [qR_of _ _ _ _ (by decide), qR_self]
    have i11 : (q_ent S w (some r) (nI lo) (nI hi)).I 11 r = nI lo := by
      show ((S.sI 11 r (nI lo)).sI 12 r (nI hi)).I 11 r = _
      rw [qI_of _ _ _ _ (by decide), qI_self]
    have i12 : (q_ent S w (some r) (nI lo) (nI hi)).I 12 r = nI hi := by
      show ((S.sI 11 r (nI lo)).sI 12 r (nI hi)).I 12 r = _
      exact qI_self _ _ _ _
    have e3 : (q_ent S w (some r) (nI lo) (nI hi)).R 3 = S.R 3 := q_ent_R (by decide) (by decide)
    have e4 : (q_ent S w (some r) (nI lo) (nI hi)).R 4 = S.R 4 := q_ent_R (by decide) (by decide)
    refine ⟨e13, i11, i12, hhi, ⟨k, by rw [e3, e4]; exact hb⟩, hlo, hso, ?_⟩
    show q_wk _ zf ((q_ent S w (some r) (nI lo) (nI hi)).R 12 r) st
    rw [e12]
    refine q_wk_cg h (fun a ha => ?_)
    have hn := q_ent_ne (S := S) (w := w) (x := a) (o := some r) (a := nI lo) (b := nI hi) (fun r' hr' e => hd r hr (by rw [Option.some.inj hr', ← e]; exact ha))
    exact ⟨hn.1, hn.2.1, hn.2.2, congrFun e3 a, congrFun e4 a⟩
def q_wst (S : qS) (w : Nat) (zf : Nat → Nat) (st : List q_Y) : Prop := w ∈ S.L ∧ S.K w = 8 ∧ S.I 13 w = 0 ∧ q_wk S zf (S.R 13 w) st ∧ (q_fla st).Nodup ∧ ∀ b ∈ q_fla st, b ∈ S.L ∧ S.K b = 1 ∧ S.I 4 b = nI (zf b) ∧ 64 ≤ zf b ∧ zf b < 2 ^ 31
theorem q_wst_fr {S S1 : qS} {w : Nat} {zf : Nat → Nat} {st : List q_Y} {cI cR cJ : Nat → Nat → Prop} (h : q_wst S w zf st) (hf : q_fr S S1 cI cR cJ) (hI : ∀ a, ¬ cI 4 a ∧ ¬ cI 11 a ∧ ¬ cI 12 a ∧ ¬ cI 13 a) (hR : ∀ a, ¬ cR 3 a ∧ ¬ cR 4 a ∧ ¬ cR 12 a ∧ ¬ cR 13 a) : q_wst S1 w zf st := by
  obtain ⟨h1, h2, h3, h4, h5, h6⟩ := h
  refine ⟨(hf.1 w h1).1, (hf.1 w h1).2.1.trans h2, (hf.2.1 w h1 13 (hI w).2.2.2).trans h3, ?_, h5, fun b hb => ?_⟩
  · rw [hf.2.2.1 w h1 13 (hR w).2.2.2]
    refine q_wk_cg h4 (fun a ha => ?_)
    have hL := (h6 a ha).1
    exact ⟨hf.2.1 a hL 11 (hI a).2.1, hf.2.1 a hL 12 (hI a).2.2.1, hf.2.2.1 a hL 12 (hR a).2.2.1, hf.2.2.1 a hL 3 (hR a).1, hf.2.2.1 a hL 4 (hR a).2.1⟩
  · obtain ⟨g1, g2, g3, g4, g5⟩ := h6 b hb
    exact ⟨(hf.1 b g1).1, (hf.1 b g1).2.1.trans g2, (hf.2.1 b g1 4 (hI b).1).trans g3, g4, g5⟩
theorem nI_m1 {z : Nat} (h : 1 ≤ z) : nI z - 1 = nI (z - 1) := by
  rw [show (1 : Int32) = nI 1 from by decide, pk_sub h]
/-- what next needs, and what it leaves -/
theorem q_wst_nx {S : qS} {w : Nat} {zf : Nat → Nat} {st : List q_Y} (h : q_wst S w zf st) : (∀ r, S.R 13 w = some r → r ∈ S.L ∧ S.K r = 1 ∧ (∀ x, S.R 3 r = some x → x ∈ S.L ∧ S.K x = 1 ∧ r ≠ x ∧ S.I 11 r ≤ S.I 4 x ∧ S.I 4 x ≤ S.I 4 r - 1) ∧ (∀ x, S.R 4 r = some x → x ∈ S.L ∧ S.K x = 1 ∧ S.I 4 r + 1 ≤ S.I 4 x ∧ S.I 4 x ≤ S.I 12 r)) ∧
    ∃ st1, q_wst (q_nxt S w (S.R 13 w)) w zf st1 ∧ ((S.R 13 w = none ∧ q_fla st = []) ∨ ∃ x, S.R 13 w = some x ∧ (x :: q_fla st1).Perm (q_fla st)) := by
  obtain ⟨h1, h2, h3, h4, h5, h6⟩ := h
  cases st with
  | nil =>
    have h4 : S.R 13 w = none := h4
    rw [h4]
    exact ⟨fun r hr => (nomatch hr), [], ⟨h1, h2, h3, h4, List.nodup_nil, fun b hb => (nomatch hb)⟩, Or.inl ⟨rfl, rfl⟩⟩
  | cons x st =>
    obtain ⟨r, lo, hi, ms⟩ := x
    obtain ⟨g1, g2, g3, g4, ⟨k, g5⟩, g6, g7, g8⟩ := h4
    obtain ⟨l1, l2, e, b1, b2⟩ := q_bt_some g5
    have e : ms = l1 ++ r :: l2 := e
    subst e
    have g1 : S.R 13 w = some r := g1
    have g2 : S.I 11 r = nI lo := g2
    have g3 : S.I 12 r = nI hi := g3
    have g4 : hi < 2 ^ 31 := g4
    have g6 : ∀ b ∈ l1 ++ r :: l2, lo ≤ zf b ∧ zf b ≤ hi := g6
    have g8 : q_wk S zf (S.R 12 r) st := g8
    have b1 : q_bt (S.R 3) (S.R 4) k (S.R 3 r) l1 := b1
    have b2 : q_bt (S.R 3) (S.R 4) k (S.R 4 r) l2 := b2
    have hfl : q_fla ((r, lo, hi, l1 ++ r :: l2) :: st) = (l1 ++ r :: l2) ++ q_fla st := rfl
    rw [hfl] at h5 h6 ⊢
    obtain ⟨n1, n2, n3⟩ := List.nodup_append.mp h5
    obtain ⟨m1, m2, m3⟩ := List.nodup_append.mp n1
    have m4 := List.nodup_cons.mp m2
    have hso := q_so_mid g7
    have hp := List.pairwise_append.mp g7
    have hin : ∀ b, b ∈ l1 ∨ b = r ∨ b ∈ l2 ∨ b ∈ q_fla st → b ∈ (l1 ++ r :: l2) ++ q_fla st := by
      intro b hb
      simp only [List.mem_append, List.mem_cons]
      rcases hb with hb | hb | hb | hb <;> simp [hb]
    obtain ⟨hrL, hrK, hrI, hr64, hr31⟩ := h6 r (hin r (Or.inr (Or.inl rfl)))
    have s1 : ∀ b ∈ l1, lo ≤ zf b ∧ zf b ≤ zf r - 1 := fun b hb => by
      have h9 : (zf b : Int) < (zf r : Int) := hso.1 b hb
      have h8 := g6 b (by simp [hb])
      omega
    have s2 : ∀ b ∈ l2, zf r + 1 ≤ zf b ∧ zf b ≤ hi := fun b hb => by
      have h9 : (zf r : Int) < (zf b : Int) := hso.2 b hb
      have h8 := g6 b (by simp [hb])
      omega
    have er : S.I 4 r - 1 = nI (zf r - 1) := by rw [hrI]; exact nI_m1 (by omega)
    have er2 : S.I 4 r + 1 = nI (zf r + 1) := by rw [hrI]; exact nI_1 _
    have hrhi : zf r ≤ hi := (g6 r (by simp)).2
    refine ⟨fun r' hr' => ?_, ?_⟩
    · rw [g1] at hr'
      have hrr := Option.some.inj hr'
      subst hrr
      refine ⟨hrL, hrK, fun x hx => ?_, fun x hx => ?_⟩
      · have hx1 : x ∈ l1 := by rw [hx] at b1; exact q_bt_root b1
        obtain ⟨xL, xK, xI, x64, x31⟩ := h6 x (hin x (Or.inl hx1))
        have := s1 x hx1
        refine ⟨xL, xK, fun e => ?_, ?_, ?_⟩
        · exact m3 x hx1 r List.mem_cons_self e.symm
        · rw [g2, xI]; exact (nI_leI (by omega) (by omega)).mpr (by omega)
        · rw [er, xI]; exact (nI_leI (by omega) (by omega)).mpr (by omega)
      · have hx1 : x ∈ l2 := by rw [hx] at b2; exact q_bt_root b2
        obtain ⟨xL, xK, xI, x64, x31⟩ := h6 x (hin x (Or.inr (Or.inr (Or.inl hx1))))
        have := s2 x hx1
        refine ⟨xL, xK, ?_, ?_⟩
        · rw [er2, xI]; exact (nI_leI (by omega) (by omega)).mpr (by omega)
        · rw [g3, xI]; exact (nI_leI (by omega) (by omega)).mpr (by omega)
    · rw [g1]
      have hd2 : ∀ x ∈ l2, x ∉ l1 ++ q_fla st := fun x hx h => by
        rcases List.mem_append.mp h with h | h
        · exact m3 x h x (List.mem_cons_of_mem _ hx) rfl
        · exact n3 x (by simp [hx]) x h rfl
      have hd1 : ∀ x ∈ l1, x ∉ q_fla st := fun x hx h => n3 x (by simp [hx]) x h rfl
      have k0 : q_wk (S.sR 13 w (S.R 12 r)) zf ((S.sR 13 w (S.R 12 r)).R 13 w) st := by
        rw [qR_self]
        refine q_wk_cg g8 (fun a _ => ⟨rfl, rfl, ?_, ?_, ?_⟩) <;> exact congrFun (qR_of _ _ _ _ (by decide)) a
      have k1 := q_wk_pu (lo := lo) (hi := zf r - 1) (o := S.R 3 r) (l := l1) k0 ⟨k, by rw [qR_of _ _ _ _ (by decide), qR_of _ _ _ _ (by decide)]; exact b1⟩ s1 hp.1 (by omega) hd1
      have k2 := q_wk_pu (lo := zf r + 1) (hi := hi) (o := S.R 4 r) (l := l2) k1.1 ⟨k, by rw [q_ent_R (by decide) (by decide), q_ent_R (by decide) (by decide), qR_of _ _ _ _ (by decide), qR_of _ _ _ _ (by decide)]; exact b2⟩ s2 (List.pairwise_cons.mp hp.2.1).2 g4 (by rw [k1.2]; exact hd2)
      have hN : q_nxt S w (some r) = q_ent (q_ent (S.sR 13 w (S.R 12 r)) w (S.R 3 r) (nI lo) (nI (zf r - 1))) w (S.R 4 r) (nI (zf r + 1)) (nI hi) := by
        show q_ent (q_ent (S.sR 13 w (S.R 12 r)) w (S.R 3 r) (S.I 11 r) (S.I 4 r - 1)) w (S.R 4 r) (S.I 4 r + 1) (S.I 12 r) = _
        rw [g2, er, er2, g3]
      have hF : q_fla (q_pu (S.R 4 r) (zf r + 1) hi l2 (q_pu (S.R 3 r) lo (zf r - 1) l1 st)) = l2 ++ (l1 ++ q_fla st) := by rw [k2.2, k1.2]
      have hPm : (r :: (l2 ++ (l1 ++ q_fla st))).Perm ((l1 ++ r :: l2) ++ q_fla st) := by
        have p1 : (l2 ++ (l1 ++ q_fla st)).Perm (l1 ++ (l2 ++ q_fla st)) := by
          rw [← List.append_assoc, ← List.append_assoc]
          exact List.Perm.append_right _ List.perm_append_comm
        have p2 : (r :: (l1 ++ (l2 ++ q_fla st))).Perm (l1 ++ r :: (l2 ++ q_fla st)) := List.perm_middle.symm
        have p3 : l1 ++ r :: (l2 ++ q_fla st) = (l1 ++ r :: l2) ++ q_fla st := by simp
        rw [← p3]
        exact (List.Perm.cons r p1).trans p2
      have hfr := q_nxt_fr (S := S) (w := w) (o := some r)
      refine ⟨_, ⟨(hfr.1 w h1).1, (hfr.1 w h1).2.1.trans h2, by rw [q_nxt_I (by decide) (by decide)]; exact h3, by rw [hN]; exact k2.1, ?_, fun b hb => ?_⟩, Or.inr ⟨r, rfl, ?_⟩⟩
      · rw [hF]
        exact (List.nodup_cons.mp (hPm.symm.nodup h5)).2
      · rw [hF] at hb
        obtain ⟨c1, c2, c3, c4, c5⟩ := h6 b (hPm.mem_iff.mp (List.mem_cons_of_mem _ hb))
        exact ⟨(hfr.1 b c1).1, (hfr.1 b c1).2.1.trans c2, by rw [q_nxt_I (by decide) (by decide)]; exact c3, c4, c5⟩
      · rw [hF]; exact hPm
theorem c_Walk_nextS (l : Launch) (E : qE) (S : qS) (w9 : Nat) (zf : Nat → Nat) (st : List q_Y) (h : q_wst S w9 zf st) : q_Mq l yX4_next cX4_next 2 (.object "ChunkShelf$Row") { frames := 1, cells := 0, slots := 0, locals := 23 } E [.ref w9] S (fun r S1 => ∃ st1, q_wst S1 w9 zf st1 ∧ q_fr S S1 q_cWI q_cWR q_c0 ∧ ((r = none ∧ q_fla st = []) ∨ ∃ x, r = some x ∧ (x :: q_fla st1).Perm (q_fla st))) 0 0 := by
  obtain ⟨h1, st1, h2, h3⟩ := q_wst_nx h
  refine c0_Walk_next l E S w9 h.1 h.2.1 h1 _ ?_
  rintro r S1 ⟨rfl, rfl⟩
  exact ⟨st1, h2, q_nxt_fr, h3⟩
/-- the first step: the whole tree -/
theorem q_wst_0 {S : qS} {w t m9 : Nat} {ns : List Nat} {zf : Nat → Nat} (ht : q_tree S t ns) (hw : w ∈ S.L) (hk : S.K w = 8) (hi : S.I 13 w = 0) (hr : S.R 13 w = none) (hz : ∀ r ∈ ns, S.I 4 r = nI (zf r) ∧ 64 ≤ zf r ∧ zf r ≤ m9) (hm : m9 < 2 ^ 31) :
    (∀ r, S.R 7 t = some r → r ∈ S.L ∧ S.K r = 1 ∧ 64 ≤ S.I 4 r ∧ S.I 4 r ≤ nI m9) ∧ q_wst (q_ent S w (S.R 7 t) 64 (nI m9)) w zf (q_pu (S.R 7 t) 64 m9 ns []) ∧ q_fla (q_pu (S.R 7 t) 64 m9 ns []) = ns := by
  obtain ⟨-, -, ⟨k, hb⟩, hns, hso⟩ := ht
  have e64 : (64 : Int32) = nI 64 := by decide
  have hzi : ∀ r ∈ ns, q_z S r = (zf r : Int) := fun r hr => by
    show (S.I 4 r).toInt = _
    have := hz r hr
    rw [this.1, nI_toInt (by omega)]
  have hso2 : q_so (fun a => (zf a : Int)) ns := by
    refine List.Pairwise.imp_of_mem ?_ hso
    intro a b ha hb hab
    rw [hzi a ha, hzi b hb] at hab
    exact hab
  have k1 := q_wk_pu (S := S) (zf := zf) (w := w) (lo := 64) (hi := m9) (o := S.R 7 t) (l := ns) (st := []) hr ⟨k, hb⟩ (fun b hb => (hz b hb).2) hso2 hm (fun x _ h => nomatch h)
  have hF : q_fla (q_pu (S.R 7 t) 64 m9 ns []) = ns := by rw [k1.2]; exact List.append_nil _
  refine ⟨fun r hr' => ?_, ⟨by rw [q_ent_L]; exact hw, by rw [q_ent_K]; exact hk, by rw [q_ent_I (by decide) (by decide)]; exact hi, by rw [e64]; exact k1.1, by rw [hF]; exact q_so_nodup hso, fun b hb' => ?_⟩, hF⟩
  · have hrn : r ∈ ns := by rw [hr'] at hb; exact q_bt_root hb
    have := hz r hrn
    exact ⟨(hns r hrn).1, (hns r hrn).2, by rw [this.1, e64]; exact (nI_leI (by omega) (by omega)).mpr (by omega), by rw [this.1]; exact (nI_leI (by omega) (by omega)).mpr (by omega)⟩
  · rw [hF] at hb'
    have := hz b hb'
    rw [q_ent_L, q_ent_K, q_ent_I (by decide) (by decide)]
    exact ⟨(hns b hb').1, (hns b hb').2, this.1, this.2.1, by omega⟩
def q_rem (o : Option Nat) (st : List q_Y) : List Nat := match o with
  | none => []
  | some x => x :: q_fla st
theorem q_rem_pm {o : Option Nat} {st st1 : List q_Y} (h : (o = none ∧ q_fla st = []) ∨ ∃ x, o = some x ∧ (x :: q_fla st1).Perm (q_fla st)) : (q_rem o st1).Perm (q_fla st) := by
  rcases h with ⟨rfl, e⟩ | ⟨x, rfl, e⟩
  · rw [e]; exact List.Perm.refl _
  · exact e
