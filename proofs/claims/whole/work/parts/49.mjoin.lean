theorem v_all_unk {n tm : Nat} {V : v_V} (hok : v_ok n tm V) {a : Int} {b : Bool} (h : ¬ (1 ≤ a ∧ a ≤ n)) : v_all V a b := by
  intro A x B hV e
  exfalso
  have h1 := hok.1
  have h2 := hok.2.2.2.1 x (by rw [hV]; simp)
  rw [hV, v_sz_app] at h1
  simp only [v_sz] at h1
  exact h ⟨by omega, by omega⟩
theorem v_all_of {n tm : Nat} {V : v_V} (hok : v_ok n tm V) {A B : v_V} {x : Nat × Bool × Nat} {a : Int} {b : Bool} (hV : V = A ++ x :: B) (ha : a = 1 + v_sz A) (hb : x.2.1 = b) : v_all V a b := by
  intro A1 x1 B1 hV1 e
  obtain ⟨-, ex, -⟩ := v_at_one hok hV hV1 (by omega)
  rw [← ex]; exact hb
set_option maxHeartbeats 4000000 in
set_option maxRecDepth 100000 in
theorem c0_Model_give (l : Launch) (E : qE) (S : qS) (m9 sz9 ti9 n9 f9 tm : Nat) (V : v_V) (hM : q_M S m9 sz9 ti9 n9 f9 tm V) (htm : tm + 1 < 2 ^ 30) (a : Int32) (post : Int32 → qS → Prop) (hpost : ∀ r S1, ((∃ V' tm', v_give V tm a.toInt V' tm' r ∧ S1.I 7 m9 = 0 ∧ q_M S1 m9 sz9 ti9 n9 f9 tm' V' ∧ q_gr S S1) ∨ (v_all V a.toInt true ∧ S1 = S.sI 7 m9 1 ∧ r = 0)) → post r S1) : q_Mi l yX6_give cX6_give 3 .int { frames := 1, cells := 0, slots := 0, locals := 24 } E [.ref m9, .int a] S (post) 0 0 := by
  refine q_ofW1 (by decide) (q_1c rfl (q_1c rfl q_1n)) (Nat.le_of_ble_eq_true rfl) (fun p e s m below meth c C hV hr hlk hnm ls hl => ?_)
  have hl : lv_has ls 3 [(0, va_rf (some m9)), (1, .int (a))] := hl
  obtain ⟨⟨hL_m9, hK_m9, hR10, hR11⟩, ⟨hL_sz9, hK_sz9, hNs⟩, ⟨hL_ti9, hK_ti9, hNt⟩, hst9, hI8⟩ := hM.1
  have hN_sz9 : S.N sz9 < 2 ^ 31 := by rw [hNs]; decide
  have hN_ti9 : S.N ti9 < 2 ^ 31 := by rw [hNt]; decide
  have hok := hM.2.2.2.1
  have hM7 := q_M_thr hM 0
  refine q_aload_n (r := some m9) C dX6_give_0 rfl (lv_at hl 0 rfl) ?_
  refine q_aload_n (r := some m9) C dX6_give_1 rfl (lv_at hl 0 rfl) ?_
  refine lv_iload_n C.1 C.2.1 dX6_give_2 rfl (lv_at hl 1 rfl) ?_
  refine q_ci hV (q_rV (b := m9) (As := [.int (a)]) (rest := [va_rf (some m9)]) C hV (c_Model_known l E S m9 sz9 ti9 n9 hM.1 hok.2.2.1 a) wd_543 wd_540 wd_542 wd_35 wd_44 ok_X6_known ⟨rfl, rfl, Nat.le_of_ble_eq_true rfl, Nat.le_of_ble_eq_true rfl⟩ (q_rc5 hV hL_m9 hK_m9) rfl hl.1 rfl (q_sm (q_1c (q_cat _) q_1n) (Nat.le_of_ble_eq_true rfl)) dX6_give_3 ⟨Nat.le_of_ble_eq_true rfl, Nat.le_of_ble_eq_true rfl⟩) (fun i3 S3 H locs hp3 hV => ?_)
  obtain ⟨eS3, hp3⟩ := hp3
  rw [eS3] at hV
  refine lv_if_eq (tgt := 22) C.1 C.2.1 dX6_give_6 (by decide) (fun c6 => ?_) (fun c6 => ?_)
  · have hkn : ¬ (1 ≤ a.toInt ∧ a.toInt ≤ n9) := fun h => by rw [if_pos h] at hp3; rw [hp3] at c6; exact absurd c6 (by decide)
    have hz : v_all V a.toInt true := v_all_unk hok hkn
    refine lv_iconst (v := 0) C.1 C.2.1 dX6_give_22 (by decide) ?_
    refine q_ci hV (q_rV (b := m9) (As := [.int (0)]) (rest := []) C hV (c_Model_goes l E (S) m9 hL_m9 hK_m9 0 (by decide)) wd_516 wd_513 wd_515 wd_31 wd_44 ok_X6_goes ⟨rfl, rfl, Nat.le_of_ble_eq_true rfl, Nat.le_of_ble_eq_true rfl⟩ (q_rc5 hV hL_m9 hK_m9) rfl hl.1 rfl (q_sm q_1n (Nat.le_of_ble_eq_true rfl)) dX6_give_23 ⟨Nat.le_of_ble_eq_true rfl, Nat.le_of_ble_eq_true rfl⟩) (fun i23 S23 H locs hp23 hV => ?_)
    obtain ⟨rfl, eS23⟩ := hp23
    rw [show v_th 0 = 1 from by decide] at eS23
    subst eS23
    refine lv_if_ne (tgt := 31) C.1 C.2.1 dX6_give_26 (by decide) (fun c26 => ?_) (fun c26 => ?_)
    · exact absurd rfl c26
    · refine lv_iconst (v := 0) C.1 C.2.1 dX6_give_29 (by decide) ?_
      refine q_iret (v := 0) C hV hr hlk (Nat.le_of_ble_eq_true rfl) (Nat.le_of_ble_eq_true rfl) dX6_give_30 ?_
      exact hpost _ _ (Or.inr ⟨hz, rfl, rfl⟩)
  · have hkn : 1 ≤ a.toInt ∧ a.toInt ≤ n9 := by
      rcases Classical.em (1 ≤ a.toInt ∧ a.toInt ≤ n9) with h | h
      · exact h
      · rw [if_neg h] at hp3; exact absurd hp3 c6
    obtain ⟨ha, ha2⟩ := q_nat (x := a) (by omega)
    have hn9 := hok.2.2.1
    have hkb : a.toInt.toNat < 16385 := by omega
    have hlook := q_M_look hM (k := a.toInt.toNat) (by omega) (by omega)
    refine q_aload_n (r := some m9) C dX6_give_9 rfl (lv_at hl 0 rfl) ?_
    refine g_Model_sizes C hV hL_m9 hK_m9 (Or.inl wd_487) dX6_give_10 ?_
    refine q_tr (v' := some sz9) (hR10) ?_
    refine lv_iload_n C.1 C.2.1 dX6_give_13 rfl (lv_at hl 1 rfl) ?_
    refine q_iald (j := a.toInt.toNat) C hV hL_sz9 hK_sz9 (ha) (show a.toInt.toNat < S.N sz9 by rw [hNs]; exact hkb) (hN_sz9) dX6_give_14 ?_
    refine lv_if_le (tgt := 22) C.1 C.2.1 dX6_give_15 (by decide) (fun c15 => ?_) (fun c15 => ?_)
    · have hz : v_all V a.toInt true := by
        rcases hlook with ⟨A, x, B, hVe, hk, hAx, hx1, hx2⟩ | ⟨-, h0⟩
        · exact v_all_of hok hVe (by omega) ((v_sg_pos hx1 hx2).mp (by rw [← hAx]; exact c15))
        · exact fun A1 x1 B1 hV1 e1 => absurd (show a.toInt.toNat = 1 + v_sz A1 by omega) (h0 A1 x1 B1 hV1)
      refine lv_iconst (v := 0) C.1 C.2.1 dX6_give_22 (by decide) ?_
      refine q_ci hV (q_rV (b := m9) (As := [.int (0)]) (rest := []) C hV (c_Model_goes l E (S) m9 hL_m9 hK_m9 0 (by decide)) wd_516 wd_513 wd_515 wd_31 wd_44 ok_X6_goes ⟨rfl, rfl, Nat.le_of_ble_eq_true rfl, Nat.le_of_ble_eq_true rfl⟩ (q_rc5 hV hL_m9 hK_m9) rfl hl.1 rfl (q_sm q_1n (Nat.le_of_ble_eq_true rfl)) dX6_give_23 ⟨Nat.le_of_ble_eq_true rfl, Nat.le_of_ble_eq_true rfl⟩) (fun i23 S23 H locs hp23 hV => ?_)
      obtain ⟨rfl, eS23⟩ := hp23
      rw [show v_th 0 = 1 from by decide] at eS23
      subst eS23
      refine lv_if_ne (tgt := 31) C.1 C.2.1 dX6_give_26 (by decide) (fun c26 => ?_) (fun c26 => ?_)
      · exact absurd rfl c26
      · refine lv_iconst (v := 0) C.1 C.2.1 dX6_give_29 (by decide) ?_
        refine q_iret (v := 0) C hV hr hlk (Nat.le_of_ble_eq_true rfl) (Nat.le_of_ble_eq_true rfl) dX6_give_30 ?_
        exact hpost _ _ (Or.inr ⟨hz, rfl, rfl⟩)
    · have hgd : ∃ A x B, V = A ++ x :: B ∧ a.toInt.toNat = 1 + v_sz A ∧ x.2.1 = false ∧ S.A sz9 a.toInt.toNat = nI x.1 := by
        rcases hlook with ⟨A, x, B, hVe, hk, hAx, hx1, hx2⟩ | ⟨h0, -⟩
        · have hxf : x.2.1 = false := by
            cases hf : x.2.1 with
            | false => rfl
            | true => exact absurd ((v_sg_pos hx1 hx2).mpr hf) (by rw [← hAx]; exact c15)
          exact ⟨A, x, B, hVe, hk, hxf, by rw [hAx]; unfold v_sg; rw [if_neg (by rw [hxf]; exact fun z => nomatch z)]⟩
        · exact absurd (show S.A sz9 a.toInt.toNat ≤ 0 by rw [h0]; decide) c15
      clear hlook
      obtain ⟨A, x, B, hVe, hk, hxf, hAx⟩ := hgd
      have hat : a.toInt = 1 + v_sz A := by omega
      subst hVe
      have hka : a = nI (1 + v_sz A) := by rw [← hk]; exact ha
      have hAx9 : (S.sI 7 m9 0).A sz9 (1 + v_sz A) = nI x.1 := by rw [← hk]; exact hAx
      have hszA := (q_M_at hM).2.2.2.2.1
      have hn9 := hok.2.2.1
      refine lv_iconst (v := 1) C.1 C.2.1 dX6_give_18 (by decide) ?_
      refine lv_goto (tgt := 23) C.1 C.2.1 dX6_give_19 (by decide) ?_
      refine q_ci hV (q_rV (b := m9) (As := [.int (1)]) (rest := []) C hV (c_Model_goes l E (S) m9 hL_m9 hK_m9 1 (by decide)) wd_516 wd_513 wd_515 wd_31 wd_44 ok_X6_goes ⟨rfl, rfl, Nat.le_of_ble_eq_true rfl, Nat.le_of_ble_eq_true rfl⟩ (q_rc5 hV hL_m9 hK_m9) rfl hl.1 rfl (q_sm q_1n (Nat.le_of_ble_eq_true rfl)) dX6_give_23 ⟨Nat.le_of_ble_eq_true rfl, Nat.le_of_ble_eq_true rfl⟩) (fun i23 S23 H locs hp23 hV => ?_)
      obtain ⟨rfl, eS23⟩ := hp23
      rw [show v_th 1 = 0 from by decide] at eS23
      subst eS23
      refine lv_if_ne (tgt := 31) C.1 C.2.1 dX6_give_26 (by decide) (fun c26 => ?_) (fun c26 => ?_)
      · refine q_aload_n (r := some m9) C dX6_give_31 rfl (lv_at hl 0 rfl) ?_
        refine g_Model_sizes C hV hL_m9 hK_m9 (Or.inl wd_487) dX6_give_32 ?_
        refine q_tr (v' := some sz9) (hR10) ?_
        refine lv_iload_n C.1 C.2.1 dX6_give_35 rfl (lv_at hl 1 rfl) ?_
        refine q_iald (j := 1 + v_sz A) C hV hL_sz9 hK_sz9 (hka) (show 1 + v_sz A < S.N sz9 by rw [hNs]; omega) (hN_sz9) dX6_give_36 ?_
        refine q_ti (v' := nI x.1) (hAx9) ?_
        refine q_istore_n (x := nI x.1) (lv' := [(2, .int (nI x.1)), (0, va_rf (some m9)), (1, .int (a))]) C dX6_give_37 rfl hl (by decide) (q_k0 (q_kN 0 rfl (by decide) (by decide) (q_kC 1 rfl (by decide) rfl q_kz))) (fun ls hl => ?_)
        refine q_aload_n (r := some m9) C dX6_give_38 rfl (lv_at hl 1 rfl) ?_
        refine lv_iload_n C.1 C.2.1 dX6_give_39 rfl (lv_at hl 2 rfl) ?_
        refine q_ti (v' := nI (1 + v_sz A)) (hka) ?_
        refine lv_iload_n C.1 C.2.1 dX6_give_40 rfl (lv_at hl 0 rfl) ?_
        refine q_cv hV (q_rV (b := m9) (As := [.int (nI (1 + v_sz A)), .int (nI x.1)]) (rest := []) C hV (c_Model_release l E (S.sI 7 m9 0) m9 sz9 ti9 n9 hM7.1 (1 + v_sz A) (nI x.1) (by omega)) wd_520 wd_517 wd_519 wd_32 wd_44 ok_X6_release ⟨rfl, rfl, Nat.le_of_ble_eq_true rfl, Nat.le_of_ble_eq_true rfl⟩ (q_rc5 hV hL_m9 hK_m9) rfl hl.1 rfl (q_sm q_1n (Nat.le_of_ble_eq_true rfl)) dX6_give_41 ⟨Nat.le_of_ble_eq_true rfl, Nat.le_of_ble_eq_true rfl⟩) (fun S41 H locs hp41 hV => ?_)
        subst hp41
        refine lv_iload_n C.1 C.2.1 dX6_give_44 rfl (lv_at hl 0 rfl) ?_
        refine q_iret (v := nI x.1) C hV hr hlk (Nat.le_of_ble_eq_true rfl) (Nat.le_of_ble_eq_true rfl) dX6_give_45 ?_
        refine hpost _ _ (Or.inl ⟨_, tm + 1, ⟨A, x, B, rfl, hxf, hat, rfl, rfl, rfl⟩, ?_, q_M_give hM7 htm, q_gr_tr (q_gr_sI q_gr_rf (by decide)) (q_rel_gr _ _ _ _ _ _)⟩)
        exact (q_rel_7 (S.sI 7 m9 0) m9 sz9 ti9 (1 + v_sz A) (nI x.1)).trans (qI_self S 7 m9 0)
      · exact absurd c26 (by decide)
theorem c_Model_give (l : Launch) (E : qE) (S : qS) (m9 sz9 ti9 n9 f9 tm : Nat) (V : v_V) (hM : q_M S m9 sz9 ti9 n9 f9 tm V) (htm : tm + 1 < 2 ^ 30) (a : Int32) : q_Mi l yX6_give cX6_give 3 .int { frames := 1, cells := 0, slots := 0, locals := 24 } E [.ref m9, .int a] S (fun r S1 => (∃ V' tm', v_give V tm a.toInt V' tm' r ∧ S1.I 7 m9 = 0 ∧ q_M S1 m9 sz9 ti9 n9 f9 tm' V' ∧ q_gr S S1) ∨ (v_all V a.toInt true ∧ S1 = S.sI 7 m9 1 ∧ r = 0)) 0 0 := c0_Model_give l E S m9 sz9 ti9 n9 f9 tm V hM htm a _ (fun _ _ h => h)

set_option maxHeartbeats 4000000 in
set_option maxRecDepth 100000 in
theorem c0_Model_joined (l : Launch) (E : qE) (S : qS) (m9 sz9 ti9 n9 f9 tm : Nat) (A F B : v_V) (x : Nat × Bool × Nat) (hM : q_M S m9 sz9 ti9 n9 f9 tm (A ++ x :: (F ++ B))) (hF : ∀ y ∈ F, y.2.1 = true) (hB : ∀ y, B.head? = some y → y.2.1 = false) (htm : tm + 1 < 2 ^ 30) (post : Int32 → qS → Prop) (hpost : ∀ r S1, (r = nI F.length ∧ q_M S1 m9 sz9 ti9 n9 f9 (v_st tm F) (A ++ v_sw tm x F :: B) ∧ q_gr S S1 ∧ S1.I 7 m9 = S.I 7 m9) → post r S1) : q_Mi l yX6_joined cX6_joined 5 .int { frames := 1, cells := 0, slots := 0, locals := 24 } E [.ref m9, .int (nI (1 + v_sz A))] S (post) 0 0 := by
  refine q_ofW1 (by decide) (q_1c rfl (q_1c rfl q_1n)) (Nat.le_of_ble_eq_true rfl) (fun p e s m below meth c C hV hr hlk hnm ls hl => ?_)
  have hl : lv_has ls 5 [(0, va_rf (some m9)), (1, .int (nI (1 + v_sz A)))] := hl
  obtain ⟨⟨hL_m9, hK_m9, hR10, hR11⟩, ⟨hL_sz9, hK_sz9, hNs⟩, ⟨hL_ti9, hK_ti9, hNt⟩, hst9, hI8⟩ := hM.1
  have hN_sz9 : S.N sz9 < 2 ^ 31 := by rw [hNs]; decide
  have hN_ti9 : S.N ti9 < 2 ^ 31 := by rw [hNt]; decide
  have hok := hM.2.2.2.1
  obtain ⟨hAx, -, -, hx1, hszx, hn9⟩ := q_M_at hM
  have hjb : 1 + v_sz A < 16385 := by omega
  have hlnx : v_ln (S.A sz9 (1 + v_sz A)) = nI x.1 := by rw [hAx]; exact v_ln_sg hx1 (by omega)
  have loop : ∀ (k : Nat) (go : Int32) (k9 z : Nat) (F9 : v_V) (S' : qS) (H : Heap) (locs : List Loc) (ls : Array Slot), F9.length < k → q_V E s S' H locs → lv_has ls 5 [(3, .int (go)), (2, .int (nI z)), (0, va_rf (some m9)), (1, .int (nI (1 + v_sz A)))] → q_Mj S' m9 sz9 ti9 n9 f9 tm A x z (F9 ++ B) → z + v_sz F9 = x.1 + v_sz F → k9 + F9.length = F.length → go = nI k9 → (∀ y ∈ F9, y.2.1 = true) → q_gr S S' → S'.I = S.I → (F9 = F → S' = S) → W p l e ({ frames := 1, cells := 0, slots := 0, locals := 24 } : Room) s m [.ref m9, .int (nI (1 + v_sz A))].toArray below meth c H locs (0) (0) (MQ below (va_Qi (post) (q_B E) E.A) [.ref m9, .int (nI (1 + v_sz A))].toArray s (0) (0) E.A) (F0 m 8 ls []) := by
    intro k
    induction k with
    | zero => intro go k9 z F9 S' H locs ls hk; exact absurd hk (Nat.not_lt_zero _)
    | succ k ih =>
      intro go k9 z F9 S' H locs ls hk hV hl hJ hzz hkk hgo hFF hg hI9 hSS
      have hzn := hJ.2.2.2.2.2.2.2.1
      have hN_sz9 : S'.N sz9 < 2 ^ 31 := by rw [hJ.1.2.1.2.2]; decide
      have hL_m9 := hJ.1.1.1
      have hK_m9 := hJ.1.1.2.1
      have hL_sz9 := hJ.1.2.1.1
      have hK_sz9 := hJ.1.2.1.2.1
      have hlF : F.length ≤ n9 := by
        have h8 : ∀ (G : v_V), (∀ y ∈ G, 1 ≤ y.1) → G.length ≤ v_sz G := fun G => by
          induction G with
          | nil => intro _; exact Nat.le_refl _
          | cons y G ih9 => intro h; have h7 := h y List.mem_cons_self; have h6 := ih9 (fun a ha => h a (List.mem_cons_of_mem _ ha)); simp only [v_sz, List.length_cons]; omega
        have h5 := h8 F (fun y hy => hok.2.2.2.1 y (by simp [hy]))
        rw [v_sz_app] at hszx; omega
      refine lv_iload_n C.1 C.2.1 dX6_joined_8 rfl (lv_at hl 3 rfl) ?_
      refine lv_iload_n C.1 C.2.1 dX6_joined_9 rfl (lv_at hl 1 rfl) ?_
      refine lv_iadd C.1 C.2.1 dX6_joined_10 ?_
      refine q_ti (v' := nI (1 + v_sz A + z)) (nI_add _ _) ?_
      refine q_aload_n (r := some m9) C dX6_joined_11 rfl (lv_at hl 2 rfl) ?_
      refine g_Model_cells C hV hL_m9 hK_m9 (Or.inl wd_486) dX6_joined_12 ?_
      refine q_ti (v' := nI n9) (hJ.1.2.2.2.2) ?_
      refine lv_icmp_gt (tgt := 58) C.1 C.2.1 dX6_joined_15 (by decide) (fun c15 => ?_) (fun c15 => ?_)
      · have hRe : F9 ++ B = [] := by
          have h9 := (nI_ltI (by omega) (by omega)).mp c15
          cases hR : F9 ++ B with
          | nil => rfl
          | cons y R =>
            rw [hR] at hJ
            have h8 := hJ.2.2.2.2.2.2.2.1
            have h7 := hJ.2.2.2.2.2.2.2.2.1 y (by simp)
            simp only [v_sz] at h8
            omega
        obtain ⟨rfl, hBe⟩ := List.append_eq_nil_iff.mp hRe
        refine lv_iload_n C.1 C.2.1 dX6_joined_58 rfl (lv_at hl 0 rfl) ?_
        refine lv_if_le (tgt := 68) C.1 C.2.1 dX6_joined_59 (by decide) (fun c59 => ?_) (fun c59 => ?_)
        · refine lv_iload_n C.1 C.2.1 dX6_joined_68 rfl (lv_at hl 0 rfl) ?_
          refine q_iret (v := go) C hV hr hlk (Nat.le_of_ble_eq_true rfl) (Nat.le_of_ble_eq_true rfl) dX6_joined_69 ?_
          have hFe : F = [] := by
            cases F with
            | nil => rfl
            | cons y F3 => exact absurd (hgo ▸ c59) (nI_nle (by simp only [List.length_cons, List.length_nil] at hkk; omega) (by omega))
          subst hFe
          have hk0 : k9 = 0 := by simpa using hkk
          subst hk0
          have eS := hSS rfl
          subst eS
          refine hpost _ _ ⟨by rw [hgo]; rfl, ?_, q_gr_rf, rfl⟩
          rw [v_st, if_pos rfl, v_sw, if_pos rfl]
          exact hM
        · refine q_aload_n (r := some m9) C dX6_joined_62 rfl (lv_at hl 2 rfl) ?_
          refine lv_iload_n C.1 C.2.1 dX6_joined_63 rfl (lv_at hl 3 rfl) ?_
          refine lv_iload_n C.1 C.2.1 dX6_joined_64 rfl (lv_at hl 1 rfl) ?_
          refine q_cv hV (q_rV (b := m9) (As := [.int (nI (1 + v_sz A)), .int (nI z)]) (rest := []) C hV (c_Model_release l E S' m9 sz9 ti9 n9 hJ.1 (1 + v_sz A) (nI z) hjb) wd_520 wd_517 wd_519 wd_32 wd_44 ok_X6_release ⟨rfl, rfl, Nat.le_of_ble_eq_true rfl, Nat.le_of_ble_eq_true rfl⟩ (q_rc5 hV hL_m9 hK_m9) rfl hl.1 rfl (q_sm q_1n (Nat.le_of_ble_eq_true rfl)) dX6_joined_65 ⟨Nat.le_of_ble_eq_true rfl, Nat.le_of_ble_eq_true rfl⟩) (fun S65 H locs hp65 hV => ?_)
          subst hp65
          refine lv_iload_n C.1 C.2.1 dX6_joined_68 rfl (lv_at hl 0 rfl) ?_
          refine q_iret (v := go) C hV hr hlk (Nat.le_of_ble_eq_true rfl) (Nat.le_of_ble_eq_true rfl) dX6_joined_69 ?_
          have hFne : F ≠ [] := fun e => by
            subst e
            have hk0 : k9 = 0 := by simpa using hkk
            rw [hgo, hk0] at c59; exact c59 (by decide)
          have hzF : z = x.1 + v_sz F := by simpa [v_sz] using hzz
          refine hpost _ _ ⟨by rw [hgo]; exact congrArg nI (by simpa using hkk), ?_, q_gr_tr hg (q_rel_gr _ _ _ _ _ _), ?_⟩
          · rw [v_st, if_neg hFne, v_sw, if_neg hFne, ← hzF]
            exact q_M_rel hJ.1 hJ.2.1 hJ.2.2.1 hJ.2.2.2.1 hJ.2.2.2.2.2.1 hJ.2.2.2.2.2.2.1 hok.2.2.2.2.2.1 (by rw [hzF]; exact v_ok_join hok htm)
          · exact (q_rel_7 S' m9 sz9 ti9 (1 + v_sz A) (nI z)).trans (by rw [hI9])
      · have hle : 1 + v_sz A + z ≤ n9 := by
          rcases Nat.lt_or_ge n9 (1 + v_sz A + z) with h | h
          · exact absurd (nI_lt h (by omega)) c15
          · exact h
        have hjz : 1 + v_sz A + z < 16385 := by omega
        obtain ⟨v, R, hFB⟩ : ∃ v R, F9 ++ B = v :: R := by
          cases hR : F9 ++ B with
          | nil => rw [hR] at hJ; have h8 := hJ.2.2.2.2.2.2.2.1; simp only [v_sz] at h8; omega
          | cons v R => exact ⟨v, R, rfl⟩
        have hAv : S'.A sz9 (1 + v_sz A + z) = v_sg v := by have h8 := hJ.2.2.2.2.2.2.1; rw [hFB] at h8; exact h8.1
        have hv1 : 1 ≤ v.1 := hJ.2.2.2.2.2.2.2.2.1 v (by rw [hFB]; simp)
        have hv2 : v.1 ≤ 16384 := by have h8 := hJ.2.2.2.2.2.2.2.1; rw [hFB] at h8; simp only [v_sz] at h8; omega
        refine q_aload_n (r := some m9) C dX6_joined_18 rfl (lv_at hl 2 rfl) ?_
        refine g_Model_sizes C hV hL_m9 hK_m9 (Or.inl wd_487) dX6_joined_19 ?_
        refine q_tr (v' := some sz9) (hJ.1.1.2.2.1) ?_
        refine lv_iload_n C.1 C.2.1 dX6_joined_22 rfl (lv_at hl 3 rfl) ?_
        refine lv_iload_n C.1 C.2.1 dX6_joined_23 rfl (lv_at hl 1 rfl) ?_
        refine lv_iadd C.1 C.2.1 dX6_joined_24 ?_
        refine q_ti (v' := nI (1 + v_sz A + z)) (nI_add _ _) ?_
        refine q_iald (j := 1 + v_sz A + z) C hV hL_sz9 hK_sz9 (rfl) (by rw [hJ.1.2.1.2.2]; exact hjz) (hN_sz9) dX6_joined_25 ?_
        refine lv_if_ge (tgt := 58) C.1 C.2.1 dX6_joined_26 (by decide) (fun c26 => ?_) (fun c26 => ?_)
        · have hvf : v.2.1 = false := (v_sg_neg hv1 (by omega)).mp (by rw [← hAv]; exact c26)
          obtain ⟨rfl⟩ : F9 = [] := by
            cases F9 with
            | nil => rfl
            | cons b F2 => rw [List.cons_append] at hFB; obtain ⟨e1, -⟩ := List.cons.inj hFB; rw [← e1, hFF b List.mem_cons_self] at hvf; exact nomatch hvf
          refine lv_iload_n C.1 C.2.1 dX6_joined_58 rfl (lv_at hl 0 rfl) ?_
          refine lv_if_le (tgt := 68) C.1 C.2.1 dX6_joined_59 (by decide) (fun c59 => ?_) (fun c59 => ?_)
          · refine lv_iload_n C.1 C.2.1 dX6_joined_68 rfl (lv_at hl 0 rfl) ?_
            refine q_iret (v := go) C hV hr hlk (Nat.le_of_ble_eq_true rfl) (Nat.le_of_ble_eq_true rfl) dX6_joined_69 ?_
            have hFe : F = [] := by
              cases F with
              | nil => rfl
              | cons y F3 => exact absurd (hgo ▸ c59) (nI_nle (by simp only [List.length_cons, List.length_nil] at hkk; omega) (by omega))
            subst hFe
            have hk0 : k9 = 0 := by simpa using hkk
            subst hk0
            have eS := hSS rfl
            subst eS
            refine hpost _ _ ⟨by rw [hgo]; rfl, ?_, q_gr_rf, rfl⟩
            rw [v_st, if_pos rfl, v_sw, if_pos rfl]
            exact hM
          · refine q_aload_n (r := some m9) C dX6_joined_62 rfl (lv_at hl 2 rfl) ?_
            refine lv_iload_n C.1 C.2.1 dX6_joined_63 rfl (lv_at hl 3 rfl) ?_
            refine lv_iload_n C.1 C.2.1 dX6_joined_64 rfl (lv_at hl 1 rfl) ?_
            refine q_cv hV (q_rV (b := m9) (As := [.int (nI (1 + v_sz A)), .int (nI z)]) (rest := []) C hV (c_Model_release l E S' m9 sz9 ti9 n9 hJ.1 (1 + v_sz A) (nI z) hjb) wd_520 wd_517 wd_519 wd_32 wd_44 ok_X6_release ⟨rfl, rfl, Nat.le_of_ble_eq_true rfl, Nat.le_of_ble_eq_true rfl⟩ (q_rc5 hV hL_m9 hK_m9) rfl hl.1 rfl (q_sm q_1n (Nat.le_of_ble_eq_true rfl)) dX6_joined_65 ⟨Nat.le_of_ble_eq_true rfl, Nat.le_of_ble_eq_true rfl⟩) (fun S65 H locs hp65 hV => ?_)
            subst hp65
            refine lv_iload_n C.1 C.2.1 dX6_joined_68 rfl (lv_at hl 0 rfl) ?_
            refine q_iret (v := go) C hV hr hlk (Nat.le_of_ble_eq_true rfl) (Nat.le_of_ble_eq_true rfl) dX6_joined_69 ?_
            have hFne : F ≠ [] := fun e => by
              subst e
              have hk0 : k9 = 0 := by simpa using hkk
              rw [hgo, hk0] at c59; exact c59 (by decide)
            have hzF : z = x.1 + v_sz F := by simpa [v_sz] using hzz
            refine hpost _ _ ⟨by rw [hgo]; exact congrArg nI (by simpa using hkk), ?_, q_gr_tr hg (q_rel_gr _ _ _ _ _ _), ?_⟩
            · rw [v_st, if_neg hFne, v_sw, if_neg hFne, ← hzF]
              exact q_M_rel hJ.1 hJ.2.1 hJ.2.2.1 hJ.2.2.2.1 hJ.2.2.2.2.2.1 hJ.2.2.2.2.2.2.1 hok.2.2.2.2.2.1 (by rw [hzF]; exact v_ok_join hok htm)
            · exact (q_rel_7 S' m9 sz9 ti9 (1 + v_sz A) (nI z)).trans (by rw [hI9])
        · have hvf : v.2.1 = true := by
            cases hf : v.2.1 with
            | true => rfl
            | false => exact absurd ((v_sg_neg hv1 (by omega)).mpr hf) (by rw [← hAv]; exact c26)
          obtain ⟨F2, rfl⟩ : ∃ F2, F9 = v :: F2 := by
            cases F9 with
            | nil => exact absurd (hB v (by rw [show B = v :: R from hFB]; rfl)) (by rw [hvf]; exact fun z => nomatch z)
            | cons b F2 => rw [List.cons_append] at hFB; obtain ⟨e1, -⟩ := List.cons.inj hFB; exact ⟨F2, by rw [e1]⟩
          have hlnv : v_ln (S'.A sz9 (1 + v_sz A + z)) = nI v.1 := by rw [hAv]; exact v_ln_sg hv1 (by omega)
          refine q_aload_n (r := some m9) C dX6_joined_29 rfl (lv_at hl 2 rfl) ?_
          refine lv_iload_n C.1 C.2.1 dX6_joined_30 rfl (lv_at hl 3 rfl) ?_
          refine lv_iload_n C.1 C.2.1 dX6_joined_31 rfl (lv_at hl 1 rfl) ?_
          refine lv_iadd C.1 C.2.1 dX6_joined_32 ?_
          refine q_ti (v' := nI (1 + v_sz A + z)) (nI_add _ _) ?_
          refine q_ci hV (q_rV (b := m9) (As := [.int (nI (1 + v_sz A + z))]) (rest := []) C hV (c_Model_length l E S' m9 sz9 ti9 n9 hJ.1 (1 + v_sz A + z) hjz) wd_535 wd_532 wd_534 wd_34 wd_44 ok_X6_length ⟨rfl, rfl, Nat.le_of_ble_eq_true rfl, Nat.le_of_ble_eq_true rfl⟩ (q_rc5 hV hL_m9 hK_m9) rfl hl.1 rfl (q_sm q_1n (Nat.le_of_ble_eq_true rfl)) dX6_joined_33 ⟨Nat.le_of_ble_eq_true rfl, Nat.le_of_ble_eq_true rfl⟩) (fun i33 S33 H locs hp33 hV => ?_)
          obtain ⟨eS33, hp33⟩ := hp33
          rw [eS33] at hV
          replace hp33 := hp33.trans hlnv
          subst hp33
          refine q_istore (x := nI v.1) (lv' := [(4, .int (nI v.1)), (3, .int (go)), (2, .int (nI z)), (0, va_rf (some m9)), (1, .int (nI (1 + v_sz A)))]) C dX6_joined_36 hl (by decide) (q_k0 (q_kC 0 rfl (by decide) rfl (q_kN 1 rfl (by decide) (by decide) (q_kN 2 rfl (by decide) (by decide) (q_kN 3 rfl (by decide) (by decide) q_kz))))) (fun ls hl => ?_)
          refine q_aload_n (r := some m9) C dX6_joined_38 rfl (lv_at hl 3 rfl) ?_
          refine g_Model_sizes C hV hL_m9 hK_m9 (Or.inl wd_487) dX6_joined_39 ?_
          refine q_tr (v' := some sz9) (hJ.1.1.2.2.1) ?_
          refine lv_iload_n C.1 C.2.1 dX6_joined_42 rfl (lv_at hl 4 rfl) ?_
          refine lv_iload_n C.1 C.2.1 dX6_joined_43 rfl (lv_at hl 2 rfl) ?_
          refine lv_iadd C.1 C.2.1 dX6_joined_44 ?_
          refine lv_iconst (v := 0) C.1 C.2.1 dX6_joined_45 (by decide) ?_
          refine q_iast (j := 1 + v_sz A + z) C hV hL_sz9 hK_sz9 (nI_add _ _) (by rw [hJ.1.2.1.2.2]; exact hjz) (hN_sz9) dX6_joined_46 (fun H locs hV => ?_)
          refine lv_iload_n C.1 C.2.1 dX6_joined_47 rfl (lv_at hl 2 rfl) ?_
          refine lv_iload C.1 C.2.1 dX6_joined_48 (lv_at hl 0 rfl) ?_
          refine lv_iadd C.1 C.2.1 dX6_joined_50 ?_
          refine q_ti (v' := nI (z + v.1)) (nI_add _ _) ?_
          refine q_istore_n (x := nI (z + v.1)) (lv' := [(2, .int (nI (z + v.1))), (4, .int (nI v.1)), (3, .int (go)), (0, va_rf (some m9)), (1, .int (nI (1 + v_sz A)))]) C dX6_joined_51 rfl hl (by decide) (q_k0 (q_kN 0 rfl (by decide) (by decide) (q_kN 1 rfl (by decide) (by decide) (q_kN 3 rfl (by decide) (by decide) (q_kC 4 rfl (by decide) rfl q_kz))))) (fun ls hl => ?_)
          obtain ⟨i52, e52⟩ : ∃ y : Int32, y = go + 1 := ⟨_, rfl⟩
          refine q_iinc (v := i52) (k := 2) (lv' := [(3, .int (i52)), (2, .int (nI (z + v.1))), (4, .int (nI v.1)), (0, va_rf (some m9)), (1, .int (nI (1 + v_sz A)))]) C dX6_joined_52 hl rfl (by rw [e52]; rfl) (by decide) (q_k0 (q_kC 0 rfl (by decide) rfl (q_kN 1 rfl (by decide) (by decide) (q_kN 3 rfl (by decide) (by decide) (q_kN 4 rfl (by decide) (by decide) q_kz))))) (fun ls hl => ?_)
          refine lv_goto (tgt := 8) C.1 C.2.1 dX6_joined_55 (by decide) ?_
          exact ih i52 (k9 + 1) (z + v.1) F2 (S'.sA sz9 (1 + v_sz A + z) 0) H locs ls (by simp at hk; omega) hV (lv_sub hl [0, 1, 3, 4] rfl) (q_Mj_step hJ) (by simp only [v_sz] at hzz; omega) (by simp only [List.length_cons] at hkk; omega) (by rw [e52, hgo]; exact nI_1 k9) (fun a ha => hFF a (List.mem_cons_of_mem _ ha)) (q_gr_sA hg) hI9 (fun e => absurd (congrArg List.length e) (by simp only [List.length_cons] at hkk; omega))
  refine q_aload_n (r := some m9) C dX6_joined_0 rfl (lv_at hl 0 rfl) ?_
  refine lv_iload_n C.1 C.2.1 dX6_joined_1 rfl (lv_at hl 1 rfl) ?_
  refine q_ci hV (q_rV (b := m9) (As := [.int (nI (1 + v_sz A))]) (rest := []) C hV (c_Model_length l E S m9 sz9 ti9 n9 hM.1 (1 + v_sz A) hjb) wd_535 wd_532 wd_534 wd_34 wd_44 ok_X6_length ⟨rfl, rfl, Nat.le_of_ble_eq_true rfl, Nat.le_of_ble_eq_true rfl⟩ (q_rc5 hV hL_m9 hK_m9) rfl hl.1 rfl (q_sm q_1n (Nat.le_of_ble_eq_true rfl)) dX6_joined_2 ⟨Nat.le_of_ble_eq_true rfl, Nat.le_of_ble_eq_true rfl⟩) (fun i2 S2 H locs hp2 hV => ?_)
  obtain ⟨eS2, hp2⟩ := hp2
  rw [eS2] at hV
  replace hp2 := hp2.trans hlnx
  subst hp2
  refine q_istore_n (x := nI x.1) (lv' := [(2, .int (nI x.1)), (0, va_rf (some m9)), (1, .int (nI (1 + v_sz A)))]) C dX6_joined_5 rfl hl (by decide) (q_k0 (q_kN 0 rfl (by decide) (by decide) (q_kC 1 rfl (by decide) rfl q_kz))) (fun ls hl => ?_)
  refine lv_iconst (v := 0) C.1 C.2.1 dX6_joined_6 (by decide) ?_
  refine q_istore_n (x := 0) (lv' := [(3, .int (0)), (2, .int (nI x.1)), (0, va_rf (some m9)), (1, .int (nI (1 + v_sz A)))]) C dX6_joined_7 rfl hl (by decide) (q_k0 (q_kC 0 rfl (by decide) rfl (q_kN 1 rfl (by decide) (by decide) (q_kN 2 rfl (by decide) (by decide) q_kz)))) (fun ls hl => ?_)
  exact loop (F.length + 1) 0 0 x.1 F S H locs ls (Nat.lt_succ_self _) hV hl (q_Mj_of hM) rfl (Nat.zero_add _) nI_0.symm hF q_gr_rf rfl (fun _ => rfl)
theorem c_Model_joined (l : Launch) (E : qE) (S : qS) (m9 sz9 ti9 n9 f9 tm : Nat) (A F B : v_V) (x : Nat × Bool × Nat) (hM : q_M S m9 sz9 ti9 n9 f9 tm (A ++ x :: (F ++ B))) (hF : ∀ y ∈ F, y.2.1 = true) (hB : ∀ y, B.head? = some y → y.2.1 = false) (htm : tm + 1 < 2 ^ 30) : q_Mi l yX6_joined cX6_joined 5 .int { frames := 1, cells := 0, slots := 0, locals := 24 } E [.ref m9, .int (nI (1 + v_sz A))] S (fun r S1 => r = nI F.length ∧ q_M S1 m9 sz9 ti9 n9 f9 (v_st tm F) (A ++ v_sw tm x F :: B) ∧ q_gr S S1 ∧ S1.I 7 m9 = S.I 7 m9) 0 0 := c0_Model_joined l E S m9 sz9 ti9 n9 f9 tm A F B x hM hF hB htm _ (fun _ _ h => h)

set_option maxHeartbeats 4000000 in
set_option maxRecDepth 100000 in
theorem c0_Model_join (l : Launch) (E : qE) (S : qS) (m9 sz9 ti9 n9 f9 tm : Nat) (V : v_V) (hM : q_M S m9 sz9 ti9 n9 f9 tm V) (htm : tm + 1 < 2 ^ 30) (a : Int32) (post : Int32 → qS → Prop) (hpost : ∀ r S1, ((∃ V' tm', v_join V tm a.toInt V' tm' r ∧ S1.I 7 m9 = 0 ∧ q_M S1 m9 sz9 ti9 n9 f9 tm' V' ∧ q_gr S S1) ∨ (v_all V a.toInt false ∧ S1 = S.sI 7 m9 1 ∧ r = 0)) → post r S1) : q_Mi l yX6_join cX6_join 3 .int { frames := 2, cells := 0, slots := 0, locals := 48 } E [.ref m9, .int a] S (post) 0 0 := by
  refine q_ofW1 (by decide) (q_1c rfl (q_1c rfl q_1n)) (Nat.le_of_ble_eq_true rfl) (fun p e s m below meth c C hV hr hlk hnm ls hl => ?_)
  have hl : lv_has ls 3 [(0, va_rf (some m9)), (1, .int (a))] := hl
  obtain ⟨⟨hL_m9, hK_m9, hR10, hR11⟩, ⟨hL_sz9, hK_sz9, hNs⟩, ⟨hL_ti9, hK_ti9, hNt⟩, hst9, hI8⟩ := hM.1
  have hN_sz9 : S.N sz9 < 2 ^ 31 := by rw [hNs]; decide
  have hN_ti9 : S.N ti9 < 2 ^ 31 := by rw [hNt]; decide
  have hok := hM.2.2.2.1
  have hM7 := q_M_thr hM 0
  refine q_aload_n (r := some m9) C dX6_join_0 rfl (lv_at hl 0 rfl) ?_
  refine q_aload_n (r := some m9) C dX6_join_1 rfl (lv_at hl 0 rfl) ?_
  refine lv_iload_n C.1 C.2.1 dX6_join_2 rfl (lv_at hl 1 rfl) ?_
  refine q_ci hV (q_rV (b := m9) (As := [.int (a)]) (rest := [va_rf (some m9)]) C hV (c_Model_known l E S m9 sz9 ti9 n9 hM.1 hok.2.2.1 a) wd_543 wd_540 wd_542 wd_35 wd_44 ok_X6_known ⟨rfl, rfl, Nat.le_of_ble_eq_true rfl, Nat.le_of_ble_eq_true rfl⟩ (q_rc5 hV hL_m9 hK_m9) rfl hl.1 rfl (q_sm (q_1c (q_cat _) q_1n) (Nat.le_of_ble_eq_true rfl)) dX6_join_3 ⟨Nat.le_of_ble_eq_true rfl, Nat.le_of_ble_eq_true rfl⟩) (fun i3 S3 H locs hp3 hV => ?_)
  obtain ⟨eS3, hp3⟩ := hp3
  rw [eS3] at hV
  refine lv_if_eq (tgt := 22) C.1 C.2.1 dX6_join_6 (by decide) (fun c6 => ?_) (fun c6 => ?_)
  · have hkn : ¬ (1 ≤ a.toInt ∧ a.toInt ≤ n9) := fun h => by rw [if_pos h] at hp3; rw [hp3] at c6; exact absurd c6 (by decide)
    have hz : v_all V a.toInt false := v_all_unk hok hkn
    refine lv_iconst (v := 0) C.1 C.2.1 dX6_join_22 (by decide) ?_
    refine q_ci hV (q_rV (b := m9) (As := [.int (0)]) (rest := []) C hV (c_Model_goes l E (S) m9 hL_m9 hK_m9 0 (by decide)) wd_516 wd_513 wd_515 wd_31 wd_44 ok_X6_goes ⟨rfl, rfl, Nat.le_of_ble_eq_true rfl, Nat.le_of_ble_eq_true rfl⟩ (q_rc5 hV hL_m9 hK_m9) rfl hl.1 rfl (q_sm q_1n (Nat.le_of_ble_eq_true rfl)) dX6_join_23 ⟨Nat.le_of_ble_eq_true rfl, Nat.le_of_ble_eq_true rfl⟩) (fun i23 S23 H locs hp23 hV => ?_)
    obtain ⟨rfl, eS23⟩ := hp23
    rw [show v_th 0 = 1 from by decide] at eS23
    subst eS23
    refine lv_if_ne (tgt := 31) C.1 C.2.1 dX6_join_26 (by decide) (fun c26 => ?_) (fun c26 => ?_)
    · exact absurd rfl c26
    · refine lv_iconst (v := 0) C.1 C.2.1 dX6_join_29 (by decide) ?_
      refine q_iret (v := 0) C hV hr hlk (Nat.le_of_ble_eq_true rfl) (Nat.le_of_ble_eq_true rfl) dX6_join_30 ?_
      exact hpost _ _ (Or.inr ⟨hz, rfl, rfl⟩)
  · have hkn : 1 ≤ a.toInt ∧ a.toInt ≤ n9 := by
      rcases Classical.em (1 ≤ a.toInt ∧ a.toInt ≤ n9) with h | h
      · exact h
      · rw [if_neg h] at hp3; exact absurd hp3 c6
    obtain ⟨ha, ha2⟩ := q_nat (x := a) (by omega)
    have hn9 := hok.2.2.1
    have hkb : a.toInt.toNat < 16385 := by omega
    have hlook := q_M_look hM (k := a.toInt.toNat) (by omega) (by omega)
    refine q_aload_n (r := some m9) C dX6_join_9 rfl (lv_at hl 0 rfl) ?_
    refine g_Model_sizes C hV hL_m9 hK_m9 (Or.inl wd_487) dX6_join_10 ?_
    refine q_tr (v' := some sz9) (hR10) ?_
    refine lv_iload_n C.1 C.2.1 dX6_join_13 rfl (lv_at hl 1 rfl) ?_
    refine q_iald (j := a.toInt.toNat) C hV hL_sz9 hK_sz9 (ha) (show a.toInt.toNat < S.N sz9 by rw [hNs]; exact hkb) (hN_sz9) dX6_join_14 ?_
    refine lv_if_ge (tgt := 22) C.1 C.2.1 dX6_join_15 (by decide) (fun c15 => ?_) (fun c15 => ?_)
    · have hz : v_all V a.toInt false := by
        rcases hlook with ⟨A, x, B, hVe, hk, hAx, hx1, hx2⟩ | ⟨-, h0⟩
        · exact v_all_of hok hVe (by omega) ((v_sg_neg hx1 hx2).mp (by rw [← hAx]; exact c15))
        · exact fun A1 x1 B1 hV1 e1 => absurd (show a.toInt.toNat = 1 + v_sz A1 by omega) (h0 A1 x1 B1 hV1)
      refine lv_iconst (v := 0) C.1 C.2.1 dX6_join_22 (by decide) ?_
      refine q_ci hV (q_rV (b := m9) (As := [.int (0)]) (rest := []) C hV (c_Model_goes l E (S) m9 hL_m9 hK_m9 0 (by decide)) wd_516 wd_513 wd_515 wd_31 wd_44 ok_X6_goes ⟨rfl, rfl, Nat.le_of_ble_eq_true rfl, Nat.le_of_ble_eq_true rfl⟩ (q_rc5 hV hL_m9 hK_m9) rfl hl.1 rfl (q_sm q_1n (Nat.le_of_ble_eq_true rfl)) dX6_join_23 ⟨Nat.le_of_ble_eq_true rfl, Nat.le_of_ble_eq_true rfl⟩) (fun i23 S23 H locs hp23 hV => ?_)
      obtain ⟨rfl, eS23⟩ := hp23
      rw [show v_th 0 = 1 from by decide] at eS23
      subst eS23
      refine lv_if_ne (tgt := 31) C.1 C.2.1 dX6_join_26 (by decide) (fun c26 => ?_) (fun c26 => ?_)
      · exact absurd rfl c26
      · refine lv_iconst (v := 0) C.1 C.2.1 dX6_join_29 (by decide) ?_
        refine q_iret (v := 0) C hV hr hlk (Nat.le_of_ble_eq_true rfl) (Nat.le_of_ble_eq_true rfl) dX6_join_30 ?_
        exact hpost _ _ (Or.inr ⟨hz, rfl, rfl⟩)
    · have hgd : ∃ A x B, V = A ++ x :: B ∧ a.toInt.toNat = 1 + v_sz A ∧ x.2.1 = true := by
        rcases hlook with ⟨A, x, B, hVe, hk, hAx, hx1, hx2⟩ | ⟨h0, -⟩
        · have hxf : x.2.1 = true := by
            cases hf : x.2.1 with
            | true => rfl
            | false => exact absurd ((v_sg_neg hx1 hx2).mpr hf) (by rw [← hAx]; exact c15)
          exact ⟨A, x, B, hVe, hk, hxf⟩
        · exact absurd (show 0 ≤ S.A sz9 a.toInt.toNat by rw [h0]; decide) c15
      clear hlook
      obtain ⟨A, x, B, hVe, hk, hxf⟩ := hgd
      have hat : a.toInt = 1 + v_sz A := by omega
      subst hVe
      have hka : a = nI (1 + v_sz A) := by rw [← hk]; exact ha
      have hszA := (q_M_at hM).2.2.2.2.1
      have hn9 := hok.2.2.1
      refine lv_iconst (v := 1) C.1 C.2.1 dX6_join_18 (by decide) ?_
      refine lv_goto (tgt := 23) C.1 C.2.1 dX6_join_19 (by decide) ?_
      refine q_ci hV (q_rV (b := m9) (As := [.int (1)]) (rest := []) C hV (c_Model_goes l E (S) m9 hL_m9 hK_m9 1 (by decide)) wd_516 wd_513 wd_515 wd_31 wd_44 ok_X6_goes ⟨rfl, rfl, Nat.le_of_ble_eq_true rfl, Nat.le_of_ble_eq_true rfl⟩ (q_rc5 hV hL_m9 hK_m9) rfl hl.1 rfl (q_sm q_1n (Nat.le_of_ble_eq_true rfl)) dX6_join_23 ⟨Nat.le_of_ble_eq_true rfl, Nat.le_of_ble_eq_true rfl⟩) (fun i23 S23 H locs hp23 hV => ?_)
      obtain ⟨rfl, eS23⟩ := hp23
      rw [show v_th 1 = 0 from by decide] at eS23
      subst eS23
      refine lv_if_ne (tgt := 31) C.1 C.2.1 dX6_join_26 (by decide) (fun c26 => ?_) (fun c26 => ?_)
      · refine q_aload_n (r := some m9) C dX6_join_31 rfl (lv_at hl 0 rfl) ?_
        refine lv_iload_n C.1 C.2.1 dX6_join_32 rfl (lv_at hl 1 rfl) ?_
        refine q_ti (v' := nI (1 + v_sz A)) (hka) ?_
        refine q_ci hV (q_rV (b := m9) (As := [.int (nI (1 + v_sz A))]) (rest := []) C hV (c_Model_joined l E (S.sI 7 m9 0) m9 sz9 ti9 n9 f9 tm A (v_tk B) (v_dr B) x (by rw [v_tk_dr]; exact hM7) (v_tk_free B) (v_dr_head B) htm) wd_551 wd_548 wd_550 wd_36 wd_44 ok_X6_joined ⟨rfl, rfl, Nat.le_of_ble_eq_true rfl, Nat.le_of_ble_eq_true rfl⟩ (q_rc5 hV hL_m9 hK_m9) rfl hl.1 rfl (q_sm q_1n (Nat.le_of_ble_eq_true rfl)) dX6_join_33 ⟨Nat.le_of_ble_eq_true rfl, Nat.le_of_ble_eq_true rfl⟩) (fun i33 S33 H locs hp33 hV => ?_)
        obtain ⟨h33a, h33b, h33c, h33d⟩ := hp33
        obtain ⟨hAs, -, -, hs1, hszs, -⟩ := q_M_at h33b
        have hL_m3 := h33b.1.1.1
        have hK_m3 := h33b.1.1.2.1
        refine q_istore_n (x := i33) (lv' := [(2, .int (i33)), (0, va_rf (some m9)), (1, .int (a))]) C dX6_join_36 rfl hl (by decide) (q_k0 (q_kN 0 rfl (by decide) (by decide) (q_kC 1 rfl (by decide) rfl q_kz))) (fun ls hl => ?_)
        refine q_aload_n (r := some m9) C dX6_join_37 rfl (lv_at hl 1 rfl) ?_
        refine lv_iload_n C.1 C.2.1 dX6_join_38 rfl (lv_at hl 2 rfl) ?_
        refine q_ti (v' := nI (1 + v_sz A)) (hka) ?_
        refine q_ci hV (q_rV (b := m9) (As := [.int (nI (1 + v_sz A))]) (rest := []) C hV (c_Model_length l E S33 m9 sz9 ti9 n9 h33b.1 (1 + v_sz A) (by omega)) wd_535 wd_532 wd_534 wd_34 wd_44 ok_X6_length ⟨rfl, rfl, Nat.le_of_ble_eq_true rfl, Nat.le_of_ble_eq_true rfl⟩ (q_rc5 hV hL_m3 hK_m3) rfl hl.1 rfl (q_sm q_1n (Nat.le_of_ble_eq_true rfl)) dX6_join_39 ⟨Nat.le_of_ble_eq_true rfl, Nat.le_of_ble_eq_true rfl⟩) (fun i39 S39 H locs hp39 hV => ?_)
        obtain ⟨eS39, hp39⟩ := hp39
        rw [eS39] at hV
        have hlns : v_ln (S33.A sz9 (1 + v_sz A)) = nI (v_sw tm x (v_tk B)).1 := by rw [hAs]; exact v_ln_sg hs1 (by omega)
        replace hp39 := hp39.trans hlns
        subst hp39
        refine q_iret (v := nI (v_sw tm x (v_tk B)).1) C hV hr hlk (Nat.le_of_ble_eq_true rfl) (Nat.le_of_ble_eq_true rfl) dX6_join_42 ?_
        exact hpost _ _ (Or.inl ⟨_, _, ⟨A, x, B, rfl, hxf, hat, rfl, rfl, rfl⟩, h33d.trans (qI_self S 7 m9 0), h33b, q_gr_tr (q_gr_sI q_gr_rf (by decide)) h33c⟩)
      · exact absurd c26 (by decide)
theorem c_Model_join (l : Launch) (E : qE) (S : qS) (m9 sz9 ti9 n9 f9 tm : Nat) (V : v_V) (hM : q_M S m9 sz9 ti9 n9 f9 tm V) (htm : tm + 1 < 2 ^ 30) (a : Int32) : q_Mi l yX6_join cX6_join 3 .int { frames := 2, cells := 0, slots := 0, locals := 48 } E [.ref m9, .int a] S (fun r S1 => (∃ V' tm', v_join V tm a.toInt V' tm' r ∧ S1.I 7 m9 = 0 ∧ q_M S1 m9 sz9 ti9 n9 f9 tm' V' ∧ q_gr S S1) ∨ (v_all V a.toInt false ∧ S1 = S.sI 7 m9 1 ∧ r = 0)) 0 0 := c0_Model_join l E S m9 sz9 ti9 n9 f9 tm V hM htm a _ (fun _ _ h => h)

set_option maxHeartbeats 4000000 in
set_option maxRecDepth 100000 in
theorem c0_Model_joinAll (l : Launch) (E : qE) (S : qS) (m9 sz9 ti9 n9 f9 tm : Nat) (V : v_V) (hM : q_M S m9 sz9 ti9 n9 f9 tm V) (htm : tm + V.length < 2 ^ 30) (post : Int32 → qS → Prop) (hpost : ∀ r S1, (r = nI (v_ja V.length V tm).2.2 ∧ S1.I 7 m9 = 0 ∧ q_M S1 m9 sz9 ti9 n9 f9 (v_ja V.length V tm).2.1 (v_ja V.length V tm).1 ∧ q_gr S S1) → post r S1) : q_Mi l yX6_joinAll cX6_joinAll 3 .int { frames := 2, cells := 0, slots := 0, locals := 48 } E [.ref m9] S (post) 0 0 := by
  refine q_ofW1 (by decide) (q_1c rfl q_1n) (Nat.le_of_ble_eq_true rfl) (fun p e s m below meth c C hV hr hlk hnm ls hl => ?_)
  have hl : lv_has ls 3 [(0, va_rf (some m9))] := hl
  obtain ⟨⟨hL_m9, hK_m9, hR10, hR11⟩, ⟨hL_sz9, hK_sz9, hNs⟩, ⟨hL_ti9, hK_ti9, hNt⟩, hst9, hI8⟩ := hM.1
  have hN_sz9 : S.N sz9 < 2 ^ 31 := by rw [hNs]; decide
  have hN_ti9 : S.N ti9 < 2 ^ 31 := by rw [hNt]; decide
  have hok := hM.2.2.2.1
  have loop : ∀ (k : Nat) (go : Int32) (k9 fu tm9 : Nat) (D R : v_V) (S' : qS) (H : Heap) (locs : List Loc) (ls : Array Slot), fu < k → q_V E s S' H locs → lv_has ls 3 [(2, .int (nI (1 + v_sz D))), (1, .int (go)), (0, va_rf (some m9))] → q_M S' m9 sz9 ti9 n9 f9 tm9 (D ++ R) → R.length ≤ fu → go = nI k9 → q_gr S S' → S'.I 7 m9 = 0 → tm9 + R.length < 2 ^ 30 → D ++ (v_ja fu R tm9).1 = (v_ja V.length V tm).1 → (v_ja fu R tm9).2.1 = (v_ja V.length V tm).2.1 → k9 + (v_ja fu R tm9).2.2 = (v_ja V.length V tm).2.2 → W p l e ({ frames := 2, cells := 0, slots := 0, locals := 48 } : Room) s m [.ref m9].toArray below meth c H locs (0) (0) (MQ below (va_Qi (post) (q_B E) E.A) [.ref m9].toArray s (0) (0) E.A) (F0 m 9 ls []) := by
    intro k
    induction k with
    | zero => intro go k9 fu tm9 D R S' H locs ls hk; exact absurd hk (Nat.not_lt_zero _)
    | succ k ih =>
      intro go k9 fu tm9 D R S' H locs ls hk hV hl hM9 hfu hgo hg hth htm9 hVF hTF hGF
      have hok9 := hM9.2.2.2.1
      have hN_sz9 : S'.N sz9 < 2 ^ 31 := by rw [hM9.1.2.1.2.2]; decide
      have hL_m9 := hM9.1.1.1
      have hK_m9 := hM9.1.1.2.1
      have hL_sz9 := hM9.1.2.1.1
      have hK_sz9 := hM9.1.2.1.2.1
      refine lv_iload_n C.1 C.2.1 dX6_joinAll_9 rfl (lv_at hl 0 rfl) ?_
      refine q_aload_n (r := some m9) C dX6_joinAll_10 rfl (lv_at hl 2 rfl) ?_
      refine g_Model_cells C hV hL_m9 hK_m9 (Or.inl wd_486) dX6_joinAll_11 ?_
      refine q_ti (v' := nI n9) (hM9.1.2.2.2.2) ?_
      refine lv_icmp_gt (tgt := 49) C.1 C.2.1 dX6_joinAll_14 (by decide) (fun c14 => ?_) (fun c14 => ?_)
      · refine lv_iload_n C.1 C.2.1 dX6_joinAll_49 rfl (lv_at hl 1 rfl) ?_
        refine q_iret (v := go) C hV hr hlk (Nat.le_of_ble_eq_true rfl) (Nat.le_of_ble_eq_true rfl) dX6_joinAll_50 ?_
        obtain rfl := v_done hok9 rfl c14
        have hj0 : v_ja fu [] tm9 = ([], tm9, 0) := by cases fu <;> rfl
        rw [hj0] at hVF hTF hGF
        rw [List.append_nil] at hM9
        refine hpost _ _ ⟨by rw [hgo]; exact congrArg nI hGF, hth, ?_, hg⟩
        rw [← hVF, ← hTF]
        rw [List.append_nil]
        exact hM9
      · obtain ⟨v, R2, rfl⟩ := v_more hok9 rfl c14
        obtain ⟨hAv, -, -, hv1, hsz, hn9⟩ := q_M_at hM9
        have hjb : 1 + v_sz D < 16385 := by omega
        have hlnv : v_ln (S'.A sz9 (1 + v_sz D)) = nI v.1 := by rw [hAv]; exact v_ln_sg hv1 (by omega)
        obtain ⟨fu2, rfl⟩ : ∃ f, fu = f + 1 := ⟨fu - 1, by simp only [List.length_cons] at hfu; omega⟩
        have hfu2 : R2.length ≤ fu2 := by simp only [List.length_cons] at hfu; omega
        refine q_aload_n (r := some m9) C dX6_joinAll_17 rfl (lv_at hl 2 rfl) ?_
        refine g_Model_sizes C hV hL_m9 hK_m9 (Or.inl wd_487) dX6_joinAll_18 ?_
        refine q_tr (v' := some sz9) (hM9.1.1.2.2.1) ?_
        refine lv_iload_n C.1 C.2.1 dX6_joinAll_21 rfl (lv_at hl 0 rfl) ?_
        refine q_iald (j := 1 + v_sz D) C hV hL_sz9 hK_sz9 (rfl) (by rw [hM9.1.2.1.2.2]; exact hjb) (hN_sz9) dX6_joinAll_22 ?_
        refine q_ti (v' := v_sg v) (hAv) ?_
        refine lv_if_ge (tgt := 36) C.1 C.2.1 dX6_joinAll_23 (by decide) (fun c23 => ?_) (fun c23 => ?_)
        · have hvf : v.2.1 = false := (v_sg_neg hv1 (by omega)).mp c23
          have hja : v_ja (fu2 + 1) (v :: R2) tm9 = (v :: (v_ja fu2 R2 tm9).1, (v_ja fu2 R2 tm9).2.1, (v_ja fu2 R2 tm9).2.2) := by rw [v_ja, if_neg (by rw [hvf]; exact fun z => nomatch z)]
          refine lv_iload_n C.1 C.2.1 dX6_joinAll_36 rfl (lv_at hl 1 rfl) ?_
          refine q_istore_n (x := go) (lv' := [(1, .int (go)), (2, .int (nI (1 + v_sz D))), (0, va_rf (some m9))]) C dX6_joinAll_37 rfl hl (by decide) (q_k0 (q_kN 0 rfl (by decide) (by decide) (q_kC 2 rfl (by decide) (q_cat _) q_kz))) (fun ls hl => ?_)
          refine lv_iload_n C.1 C.2.1 dX6_joinAll_38 rfl (lv_at hl 1 rfl) ?_
          refine q_aload_n (r := some m9) C dX6_joinAll_39 rfl (lv_at hl 2 rfl) ?_
          refine lv_iload_n C.1 C.2.1 dX6_joinAll_40 rfl (lv_at hl 1 rfl) ?_
          refine q_ci hV (q_rV (b := m9) (As := [.int (nI (1 + v_sz D))]) (rest := [.int (nI (1 + v_sz D))]) C hV (c_Model_length l E S' m9 sz9 ti9 n9 hM9.1 (1 + v_sz D) hjb) wd_535 wd_532 wd_534 wd_34 wd_44 ok_X6_length ⟨rfl, rfl, Nat.le_of_ble_eq_true rfl, Nat.le_of_ble_eq_true rfl⟩ (q_rc5 hV hL_m9 hK_m9) rfl hl.1 rfl (q_sm (q_1c rfl q_1n) (Nat.le_of_ble_eq_true rfl)) dX6_joinAll_41 ⟨Nat.le_of_ble_eq_true rfl, Nat.le_of_ble_eq_true rfl⟩) (fun i41 S41 H locs hp41 hV => ?_)
          obtain ⟨eS41, hp41⟩ := hp41
          rw [eS41] at hV
          replace hp41 := hp41.trans hlnv
          subst hp41
          refine lv_iadd C.1 C.2.1 dX6_joinAll_44 ?_
          refine q_istore_n (x := (nI (1 + v_sz D)) + (nI v.1)) (lv' := [(2, .int ((nI (1 + v_sz D)) + (nI v.1))), (1, .int (go)), (0, va_rf (some m9))]) C dX6_joinAll_45 rfl hl (by decide) (q_k0 (q_kC 0 rfl (by decide) rfl (q_kN 2 rfl (by decide) (by decide) q_kz))) (fun ls hl => ?_)
          refine lv_goto (tgt := 9) C.1 C.2.1 dX6_joinAll_46 (by decide) ?_
          rw [show nI (1 + v_sz D) + nI v.1 = nI (1 + v_sz (D ++ [v])) from by rw [nI_add, v_sz_app]; exact congrArg nI (by simp only [v_sz]; omega)] at hl
          exact ih _ k9 fu2 tm9 (D ++ [v]) R2 S' H locs ls (by omega) hV hl (by rw [show (D ++ [v]) ++ R2 = D ++ v :: R2 from by simp]; exact hM9) (by omega) hgo hg hth (by simp only [List.length_cons] at htm9; omega) (by rw [← hVF, hja]; simp) (by rw [← hTF, hja]) (by rw [← hGF, hja])
        · have hvf : v.2.1 = true := by
            cases hf : v.2.1 with
            | true => rfl
            | false => exact absurd ((v_sg_neg hv1 (by omega)).mpr hf) c23
          have hja : v_ja (fu2 + 1) (v :: R2) tm9 = (v_sw tm9 v (v_tk R2) :: (v_ja fu2 (v_dr R2) (v_st tm9 (v_tk R2))).1, (v_ja fu2 (v_dr R2) (v_st tm9 (v_tk R2))).2.1, (v_tk R2).length + (v_ja fu2 (v_dr R2) (v_st tm9 (v_tk R2))).2.2) := by rw [v_ja, if_pos hvf]
          have hlen := v_dr_len R2
          refine lv_iload_n C.1 C.2.1 dX6_joinAll_26 rfl (lv_at hl 1 rfl) ?_
          refine q_aload_n (r := some m9) C dX6_joinAll_27 rfl (lv_at hl 2 rfl) ?_
          refine lv_iload_n C.1 C.2.1 dX6_joinAll_28 rfl (lv_at hl 0 rfl) ?_
          refine q_ci hV (q_rV (b := m9) (As := [.int (nI (1 + v_sz D))]) (rest := [.int (go)]) C hV (c_Model_joined l E S' m9 sz9 ti9 n9 f9 tm9 D (v_tk R2) (v_dr R2) v (by rw [v_tk_dr]; exact hM9) (v_tk_free R2) (v_dr_head R2) (by simp only [List.length_cons] at htm9; omega)) wd_551 wd_548 wd_550 wd_36 wd_44 ok_X6_joined ⟨rfl, rfl, Nat.le_of_ble_eq_true rfl, Nat.le_of_ble_eq_true rfl⟩ (q_rc5 hV hL_m9 hK_m9) rfl hl.1 rfl (q_sm (q_1c rfl q_1n) (Nat.le_of_ble_eq_true rfl)) dX6_joinAll_29 ⟨Nat.le_of_ble_eq_true rfl, Nat.le_of_ble_eq_true rfl⟩) (fun i29 S29 H locs hp29 hV => ?_)
          obtain ⟨h29a, h29b, h29c, h29d⟩ := hp29
          obtain ⟨hAs, -, -, hs1, hszs, -⟩ := q_M_at h29b
          have hL_m9 := h29b.1.1.1
          have hK_m9 := h29b.1.1.2.1
          have hlns : v_ln (S29.A sz9 (1 + v_sz D)) = nI (v_sw tm9 v (v_tk R2)).1 := by rw [hAs]; exact v_ln_sg hs1 (by omega)
          refine lv_iadd C.1 C.2.1 dX6_joinAll_32 ?_
          refine lv_goto (tgt := 37) C.1 C.2.1 dX6_joinAll_33 (by decide) ?_
          refine q_istore_n (x := go + i29) (lv' := [(1, .int (go + i29)), (2, .int (nI (1 + v_sz D))), (0, va_rf (some m9))]) C dX6_joinAll_37 rfl hl (by decide) (q_k0 (q_kN 0 rfl (by decide) (by decide) (q_kC 2 rfl (by decide) (q_cat _) q_kz))) (fun ls hl => ?_)
          refine lv_iload_n C.1 C.2.1 dX6_joinAll_38 rfl (lv_at hl 1 rfl) ?_
          refine q_aload_n (r := some m9) C dX6_joinAll_39 rfl (lv_at hl 2 rfl) ?_
          refine lv_iload_n C.1 C.2.1 dX6_joinAll_40 rfl (lv_at hl 1 rfl) ?_
          refine q_ci hV (q_rV (b := m9) (As := [.int (nI (1 + v_sz D))]) (rest := [.int (nI (1 + v_sz D))]) C hV (c_Model_length l E S29 m9 sz9 ti9 n9 h29b.1 (1 + v_sz D) hjb) wd_535 wd_532 wd_534 wd_34 wd_44 ok_X6_length ⟨rfl, rfl, Nat.le_of_ble_eq_true rfl, Nat.le_of_ble_eq_true rfl⟩ (q_rc5 hV hL_m9 hK_m9) rfl hl.1 rfl (q_sm (q_1c rfl q_1n) (Nat.le_of_ble_eq_true rfl)) dX6_joinAll_41 ⟨Nat.le_of_ble_eq_true rfl, Nat.le_of_ble_eq_true rfl⟩) (fun i41 S41 H locs hp41 hV => ?_)
          obtain ⟨eS41, hp41⟩ := hp41
          rw [eS41] at hV
          replace hp41 := hp41.trans hlns
          subst hp41
          refine lv_iadd C.1 C.2.1 dX6_joinAll_44 ?_
          refine q_istore_n (x := (nI (1 + v_sz D)) + (nI (v_sw tm9 v (v_tk R2)).1)) (lv' := [(2, .int ((nI (1 + v_sz D)) + (nI (v_sw tm9 v (v_tk R2)).1))), (1, .int (go + i29)), (0, va_rf (some m9))]) C dX6_joinAll_45 rfl hl (by decide) (q_k0 (q_kC 0 rfl (by decide) rfl (q_kN 2 rfl (by decide) (by decide) q_kz))) (fun ls hl => ?_)
          refine lv_goto (tgt := 9) C.1 C.2.1 dX6_joinAll_46 (by decide) ?_
          rw [show nI (1 + v_sz D) + nI (v_sw tm9 v (v_tk R2)).1 = nI (1 + v_sz (D ++ [v_sw tm9 v (v_tk R2)])) from by rw [nI_add, v_sz_app]; exact congrArg nI (by simp only [v_sz]; omega)] at hl
          exact ih _ (k9 + (v_tk R2).length) fu2 (v_st tm9 (v_tk R2)) (D ++ [v_sw tm9 v (v_tk R2)]) (v_dr R2) S29 H locs ls (by omega) hV hl (by rw [show (D ++ [v_sw tm9 v (v_tk R2)]) ++ v_dr R2 = D ++ v_sw tm9 v (v_tk R2) :: v_dr R2 from by simp]; exact h29b) (by omega) (by rw [hgo, h29a]; exact nI_add _ _) (q_gr_tr hg h29c) (h29d.trans hth) (by rw [v_st]; simp only [List.length_cons] at htm9; split <;> omega) (by rw [← hVF, hja]; simp) (by rw [← hTF, hja]) (by rw [← hGF, hja]; simp only []; omega)
  refine q_aload_n (r := some m9) C dX6_joinAll_0 rfl (lv_at hl 0 rfl) ?_
  refine lv_iconst (v := 0) C.1 C.2.1 dX6_joinAll_1 (by decide) ?_
  refine p_Model_thrown (v := 0) C hV hL_m9 hK_m9 (Or.inl wd_485) dX6_joinAll_2 (fun H locs hV => ?_)
  refine lv_iconst (v := 0) C.1 C.2.1 dX6_joinAll_5 (by decide) ?_
  refine q_istore_n (x := 0) (lv' := [(1, .int (0)), (0, va_rf (some m9))]) C dX6_joinAll_6 rfl hl (by decide) (q_k0 (q_kC 0 rfl (by decide) (q_cat _) q_kz)) (fun ls hl => ?_)
  refine lv_iconst (v := 1) C.1 C.2.1 dX6_joinAll_7 (by decide) ?_
  refine q_istore_n (x := 1) (lv' := [(2, .int (1)), (1, .int (0)), (0, va_rf (some m9))]) C dX6_joinAll_8 rfl hl (by decide) (q_k0 (q_kC 0 rfl (by decide) rfl (q_kN 1 rfl (by decide) (by decide) q_kz))) (fun ls hl => ?_)
  exact loop (V.length + 1) 0 0 V.length tm [] V (S.sI 7 m9 0) H locs ls (Nat.lt_succ_self _) hV hl (q_M_thr hM 0) (Nat.le_refl _) nI_0.symm (q_gr_sI q_gr_rf (by decide)) (qI_self S 7 m9 0) htm (List.nil_append _) rfl (Nat.zero_add _)
theorem c_Model_joinAll (l : Launch) (E : qE) (S : qS) (m9 sz9 ti9 n9 f9 tm : Nat) (V : v_V) (hM : q_M S m9 sz9 ti9 n9 f9 tm V) (htm : tm + V.length < 2 ^ 30) : q_Mi l yX6_joinAll cX6_joinAll 3 .int { frames := 2, cells := 0, slots := 0, locals := 48 } E [.ref m9] S (fun r S1 => r = nI (v_ja V.length V tm).2.2 ∧ S1.I 7 m9 = 0 ∧ q_M S1 m9 sz9 ti9 n9 f9 (v_ja V.length V tm).2.1 (v_ja V.length V tm).1 ∧ q_gr S S1) 0 0 := c0_Model_joinAll l E S m9 sz9 ti9 n9 f9 tm V hM htm _ (fun _ _ h => h)

