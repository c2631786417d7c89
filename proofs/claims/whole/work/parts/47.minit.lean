set_option maxHeartbeats 4000000 in
set_option maxRecDepth 100000 in
theorem c0_Model_init (l : Launch) (E : qE) (S : qS) (m9 : Nat) (hL_m9 : m9 ∈ S.L) (hK_m9 : S.K m9 = 5) (h7 : S.I 7 m9 = 0) (h9 : S.I 9 m9 = 0) (h10 : S.I 10 m9 = 0) (post : qS → Prop) (hpost : ∀ S1, (∃ sz9 ti9, q_M S1 m9 sz9 ti9 1024 0 1 [(1024, true, 0)] ∧ q_fr S S1 (fun j _ => 7 ≤ j) (fun j _ => 10 ≤ j) q_c0) → post S1) : q_Mv l yX6_init cX6_init 1 { frames := 1, cells := 2, slots := 32770, locals := 20 } E [.ref m9] S (post) 2 32770 := by
  refine q_ofW1 (by decide) (q_1c rfl q_1n) (Nat.le_of_ble_eq_true rfl) (fun p e s m below meth c C hV hr hlk hnm ls hl => ?_)
  have hl : lv_has ls 1 [(0, va_rf (some m9))] := hl
  refine q_aload_n (r := some m9) C dX6_init_0 rfl (lv_at hl 0 rfl) ?_
  refine q_objInit C wd_484 wd_58 wd_59 hl.1 dX6_init_1 (Nat.le_of_ble_eq_true rfl) (Nat.le_of_ble_eq_true rfl) ?_
  refine q_aload_n (r := some m9) C dX6_init_4 rfl (lv_at hl 0 rfl) ?_
  refine lv_sipush (v := 1024) C.1 C.2.1 dX6_init_5 (by decide) ?_
  refine p_Model_cells (v := 1024) C hV hL_m9 hK_m9 (Or.inl wd_486) dX6_init_8 (fun H locs hV => ?_)
  refine q_aload_n (r := some m9) C dX6_init_11 rfl (lv_at hl 0 rfl) ?_
  refine lv_sipush (v := 16385) C.1 C.2.1 dX6_init_12 (by decide) ?_
  refine q_newI (k := 16385) C hV (by decide) (by decide) (by decide) (by decide) dX6_init_15 (fun q15 H hq15 hV => ?_)
  refine p_Model_sizes (v := some q15) C hV hnm (List.mem_append_left _ hL_m9) ((va_up_ne _ _ (fun e : m9 = q15 => hq15 (e ▸ hL_m9))).trans hK_m9) (wd_487) rfl dX6_init_17 (fun H locs hV => ?_)
  refine q_aload_n (r := some m9) C dX6_init_20 rfl (lv_at hl 0 rfl) ?_
  refine lv_sipush (v := 16385) C.1 C.2.1 dX6_init_21 (by decide) ?_
  refine q_newI (k := 16385) C hV (by decide) (by decide) (by decide) (by decide) dX6_init_24 (fun q24 H hq24 hV => ?_)
  refine p_Model_times (v := some q24) C hV hnm (List.mem_append_left _ (List.mem_append_left _ hL_m9)) ((va_up_ne _ _ (fun e : m9 = q24 => hq24 (by rw [← e]; exact List.mem_append_left _ hL_m9))).trans ((va_up_ne _ _ (fun e : m9 = q15 => hq15 (e ▸ hL_m9))).trans hK_m9)) (wd_488) rfl dX6_init_26 (fun H locs hV => ?_)
  obtain ⟨S3, hS3⟩ : ∃ X : qS, X = (((((S.sI 8 m9 (1024)).nA q15 16385).sR 10 m9 (some q15)).nA q24 16385).sR 11 m9 (some q24)) := ⟨_, rfl⟩
  have hV : q_V E s S3 H locs := by rw [hS3]; exact hV
  have hm15 : m9 ≠ q15 := fun e => hq15 (e ▸ hL_m9)
  have hm24 : m9 ≠ q24 := fun e => hq24 (by rw [← e]; exact List.mem_append_left _ hL_m9)
  have h1524 : q15 ≠ q24 := fun e => hq24 (by rw [← e]; exact List.mem_append_right _ List.mem_cons_self)
  have gL_m : m9 ∈ S3.L := by rw [hS3]; exact List.mem_append_left _ (List.mem_append_left _ hL_m9)
  have gL_a : q15 ∈ S3.L := by rw [hS3]; exact List.mem_append_left _ (List.mem_append_right _ List.mem_cons_self)
  have gL_b : q24 ∈ S3.L := by rw [hS3]; exact List.mem_append_right _ List.mem_cons_self
  have gK_m : S3.K m9 = 5 := by rw [hS3]; exact (va_up_ne _ _ hm24).trans ((va_up_ne _ _ hm15).trans hK_m9)
  have gK_a : S3.K q15 = 6 := by rw [hS3]; exact (va_up_ne _ _ h1524).trans (va_up_self _ _ _)
  have gK_b : S3.K q24 = 6 := by rw [hS3]; exact va_up_self _ _ _
  have gN_a : S3.N q15 = 16385 := by rw [hS3]; exact (va_up_ne _ _ h1524).trans (va_up_self _ _ _)
  have gN_b : S3.N q24 = 16385 := by rw [hS3]; exact va_up_self _ _ _
  have gR10 : S3.R 10 m9 = some q15 := by rw [hS3]; exact (congrFun (qR_of _ 11 m9 (some q24) (j := 10) (by decide)) m9).trans (qR_self ((S.sI 8 m9 (1024)).nA q15 16385) 10 m9 (some q15))
  have gR11 : S3.R 11 m9 = some q24 := by rw [hS3]; exact qR_self _ _ _ _
  have gI8 : S3.I 8 m9 = nI 1024 := by rw [hS3]; exact (qI_self S 8 m9 1024).trans (by decide)
  have gI7 : S3.I 7 m9 = 0 := by rw [hS3]; exact (congrFun (qI_of S 8 m9 1024 (j := 7) (by decide)) m9).trans h7
  have gI9 : S3.I 9 m9 = nI (1 - 1) := by rw [hS3]; exact ((congrFun (qI_of S 8 m9 1024 (j := 9) (by decide)) m9).trans h9).trans nI_0.symm
  have gI10 : S3.I 10 m9 = nI 0 := by rw [hS3]; exact ((congrFun (qI_of S 8 m9 1024 (j := 10) (by decide)) m9).trans h10).trans nI_0.symm
  have gA_a : S3.A q15 = fun _ => 0 := by rw [hS3]; exact (va_up_ne _ _ h1524).trans (va_up_self _ _ _)
  have gA_b : S3.A q24 = fun _ => 0 := by rw [hS3]; exact va_up_self _ _ _
  have gN1 : S3.N q15 < 2 ^ 31 := by rw [gN_a]; decide
  have gN2 : S3.N q24 < 2 ^ 31 := by rw [gN_b]; decide
  have hf3 : q_fr S S3 (fun j _ => 7 ≤ j) (fun j _ => 10 ≤ j) q_c0 := by
    rw [hS3]
    refine ⟨fun a ha => ⟨List.mem_append_left _ (List.mem_append_left _ ha), ?_, ?_, ?_, rfl⟩, fun a ha j hj => congrFun (qI_of S 8 m9 1024 (j := j) (fun e => hj (by omega))) a, fun a ha j hj => ?_, fun _ _ _ _ => rfl⟩
    · exact (va_up_ne _ _ (fun e : a = q24 => hq24 (by rw [← e]; exact List.mem_append_left _ ha))).trans (va_up_ne _ _ (fun e : a = q15 => hq15 (e ▸ ha)))
    · exact (va_up_ne _ _ (fun e : a = q24 => hq24 (by rw [← e]; exact List.mem_append_left _ ha))).trans (va_up_ne _ _ (fun e : a = q15 => hq15 (e ▸ ha)))
    · exact (va_up_ne _ _ (fun e : a = q24 => hq24 (by rw [← e]; exact List.mem_append_left _ ha))).trans (va_up_ne _ _ (fun e : a = q15 => hq15 (e ▸ ha)))
    · exact (congrFun (qR_of _ 11 m9 (some q24) (j := j) (fun e => hj (by omega))) a).trans (congrFun (qR_of ((S.sI 8 m9 (1024)).nA q15 16385) 10 m9 (some q15) (j := j) (fun e => hj (by omega))) a)
  refine q_aload_n (r := some m9) C dX6_init_29 rfl (lv_at hl 0 rfl) ?_
  refine g_Model_sizes C hV gL_m gK_m (Or.inl wd_487) dX6_init_30 ?_
  refine q_tr (v' := some q15) (gR10) ?_
  refine lv_iconst (v := 1) C.1 C.2.1 dX6_init_33 (by decide) ?_
  refine lv_sipush (v := (-1024)) C.1 C.2.1 dX6_init_34 (by decide) ?_
  refine q_iast (j := 1) C hV gL_a gK_a (by decide) (by rw [gN_a]; decide) (gN1) dX6_init_37 (fun H locs hV => ?_)
  refine q_aload_n (r := some m9) C dX6_init_38 rfl (lv_at hl 0 rfl) ?_
  refine g_Model_times C hV gL_m gK_m (Or.inl wd_488) dX6_init_39 ?_
  refine q_tr (v' := some q24) (gR11) ?_
  refine lv_iconst (v := 1) C.1 C.2.1 dX6_init_42 (by decide) ?_
  refine lv_iconst (v := 0) C.1 C.2.1 dX6_init_43 (by decide) ?_
  refine q_iast (j := 1) C hV gL_b gK_b (by decide) (show 1 < S3.N q24 by rw [gN_b]; decide) (gN2) dX6_init_44 (fun H locs hV => ?_)
  refine q_vret C hV hr hlk (by decide) (by decide) dX6_init_45 ?_
  obtain ⟨S5, hS5⟩ : ∃ X : qS, X = (S3.sA q15 1 (-1024)).sA q24 1 0 := ⟨_, rfl⟩
  have e5a : S5.A q15 = upd (S3.A q15) 1 (-1024) := by rw [hS5, qA_ne _ _ _ _ h1524, qA_is]
  have e5b : S5.A q24 = upd (S3.A q24) 1 0 := by rw [hS5, qA_is, qA_ne _ _ _ _ h1524.symm]
  have hg5 : q_gr S3 S5 := by rw [hS5]; exact q_gr_sA (q_gr_sA q_gr_rf)
  have hI5 : S5.I = S3.I := by rw [hS5]; rfl
  rw [← hS5]
  refine hpost _ ⟨q15, q24, ⟨q_Mb_gr ⟨⟨gL_m, gK_m, gR10, gR11⟩, ⟨gL_a, gK_a, gN_a⟩, ⟨gL_b, gK_b, gN_b⟩, h1524, gI8⟩ hg5 (by rw [hI5]), by rw [hI5]; exact gI9, by rw [hI5]; exact gI10, ⟨rfl, by decide, by decide, fun v hv => by rw [List.mem_singleton.mp hv]; decide, fun v hv _ => by rw [List.mem_singleton.mp hv]; decide, by decide, by decide⟩, ?_⟩, ?_⟩
  · rw [e5a, e5b, gA_a, gA_b]
    exact ⟨(q_upd_eq _ _ _).trans (by decide), fun i h1 _ => q_upd_ne _ _ _ (by omega), fun _ => (q_upd_eq _ _ _).trans (by decide), trivial⟩
  · refine ⟨fun a ha => ?_, fun a ha j hj => (by rw [hI5]; exact hf3.2.1 a ha j hj), fun a ha j hj => (by rw [hg5.2.2.1]; exact hf3.2.2.1 a ha j hj), fun a ha j hj => (by rw [hg5.2.2.2.1]; exact hf3.2.2.2 a ha j hj)⟩
    obtain ⟨k1, k2, k3, k4, k5⟩ := hf3.1 a ha
    have n1 : a ≠ q15 := fun e => hq15 (e ▸ ha)
    have n2 : a ≠ q24 := fun e => hq24 (by rw [← e]; exact List.mem_append_left _ ha)
    refine ⟨by rw [hg5.1]; exact k1, by rw [hg5.2.1]; exact k2, by rw [hg5.2.2.2.2.1]; exact k3, ?_, by rw [hg5.2.2.2.2.2.1]; exact k5⟩
    rw [hS5, qA_ne _ _ _ _ n2, qA_ne _ _ _ _ n1]; exact k4
theorem c_Model_init (l : Launch) (E : qE) (S : qS) (m9 : Nat) (hL_m9 : m9 ∈ S.L) (hK_m9 : S.K m9 = 5) (h7 : S.I 7 m9 = 0) (h9 : S.I 9 m9 = 0) (h10 : S.I 10 m9 = 0) : q_Mv l yX6_init cX6_init 1 { frames := 1, cells := 2, slots := 32770, locals := 20 } E [.ref m9] S (fun S1 => ∃ sz9 ti9, q_M S1 m9 sz9 ti9 1024 0 1 [(1024, true, 0)] ∧ q_fr S S1 (fun j _ => 7 ≤ j) (fun j _ => 10 ≤ j) q_c0) 2 32770 := c0_Model_init l E S m9 hL_m9 hK_m9 h7 h9 h10 _ (fun _ h => h)

