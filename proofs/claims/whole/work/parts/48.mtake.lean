def v_take (V : v_V) (f tm z : Nat) (V' : v_V) (f' tm' : Nat) (r : Int32) : Prop := (r = 0 ∧ v_non z V ∧ V' = V ∧ f' = f + 1 ∧ tm' = tm) ∨ ∃ A x B, V = A ++ x :: B ∧ v_isb z A x B ∧ r = nI (1 + v_sz A) ∧ f' = f ∧ ((x.1 = z ∧ V' = A ++ (z, false, x.2.2) :: B ∧ tm' = tm) ∨ (z < x.1 ∧ V' = A ++ (z, false, x.2.2) :: (x.1 - z, true, tm) :: B ∧ tm' = tm + 1))
def v_give (V : v_V) (tm : Nat) (a : Int) (V' : v_V) (tm' : Nat) (r : Int32) : Prop := ∃ A x B, V = A ++ x :: B ∧ x.2.1 = false ∧ a = 1 + v_sz A ∧ r = nI x.1 ∧ V' = A ++ (x.1, true, tm) :: B ∧ tm' = tm + 1
def v_all (V : v_V) (a : Int) (b : Bool) : Prop := ∀ A x B, V = A ++ x :: B → a = 1 + v_sz A → x.2.1 = b
abbrev v_tk (R : v_V) : v_V := R.takeWhile (fun y => y.2.1)
abbrev v_dr (R : v_V) : v_V := R.dropWhile (fun y => y.2.1)
def v_join (V : v_V) (tm : Nat) (a : Int) (V' : v_V) (tm' : Nat) (r : Int32) : Prop := ∃ A x R, V = A ++ x :: R ∧ x.2.1 = true ∧ a = 1 + v_sz A ∧ r = nI (v_sw tm x (v_tk R)).1 ∧ V' = A ++ v_sw tm x (v_tk R) :: v_dr R ∧ tm' = v_st tm (v_tk R)
theorem v_tk_dr (R : v_V) : v_tk R ++ v_dr R = R := List.takeWhile_append_dropWhile
theorem v_tk_free : ∀ (R : v_V), ∀ y ∈ v_tk R, y.2.1 = true := by
  intro R
  induction R with
  | nil => intro y hy; cases hy
  | cons x R ih =>
    intro y hy
    simp only [v_tk, List.takeWhile_cons] at hy
    split at hy
    · rename_i h
      rcases List.mem_cons.mp hy with e | hy
      · rw [e]; exact h
      · exact ih y hy
    · cases hy
theorem v_dr_head : ∀ (R : v_V), ∀ y, (v_dr R).head? = some y → y.2.1 = false := by
  intro R
  induction R with
  | nil => intro y hy; cases hy
  | cons x R ih =>
    intro y hy
    simp only [v_dr, List.dropWhile_cons] at hy
    split at hy
    · exact ih y hy
    · rename_i h
      cases hy
      cases e : x.2.1 with
      | true => exact absurd e h
      | false => rfl
theorem v_dr_len (R : v_V) : (v_tk R).length + (v_dr R).length = R.length := by
  have h := congrArg List.length (v_tk_dr R)
  rw [List.length_append] at h
  exact h
theorem q_M_fail {S : qS} {m sz ti n fails tm : Nat} {V : v_V} (hM : q_M S m sz ti n fails tm V) : q_M (S.sI 10 m (nI fails + 1)) m sz ti n (fails + 1) tm V := by
  obtain ⟨hb, h1, h2, h3, h4⟩ := hM
  exact ⟨q_Mb_gr hb (q_gr_sI q_gr_rf (by decide)) (congrFun (qI_of S 10 m (nI fails + 1) (j := 8) (by decide)) m), (congrFun (qI_of S 10 m (nI fails + 1) (j := 9) (by decide)) m).trans h1, (qI_self S 10 m (nI fails + 1)).trans (nI_1 fails), h3, h4⟩
theorem q_rel_7 (S : qS) (m sz ti j : Nat) (x : Int32) : (q_rel S m sz ti j x).I 7 m = S.I 7 m := congrFun (qI_of S 9 m (S.I 9 m + 1) (j := 7) (by decide)) m
/-- what lies at a known place -/
theorem q_M_look {S : qS} {m sz ti n fails tm : Nat} {V : v_V} (hM : q_M S m sz ti n fails tm V) {k : Nat} (h1 : 1 ≤ k) (h2 : k ≤ n) : (∃ A x B, V = A ++ x :: B ∧ k = 1 + v_sz A ∧ S.A sz k = v_sg x ∧ 1 ≤ x.1 ∧ x.1 < 2 ^ 31) ∨ (S.A sz k = 0 ∧ ∀ A x B, V = A ++ x :: B → k ≠ 1 + v_sz A) := by
  have hok := hM.2.2.2.1
  obtain ⟨A, x, B, hV, h3, h4⟩ := v_hold (V := V) (k := k - 1) (by rw [hok.1]; omega)
  have hMx : q_M S m sz ti n fails tm (A ++ x :: B) := by rw [← hV]; exact hM
  obtain ⟨hA, hZ, -, hx1, hsz, hn⟩ := q_M_at hMx
  by_cases hat : k = 1 + v_sz A
  · exact Or.inl ⟨A, x, B, hV, hat, by rw [hat]; exact hA, hx1, by omega⟩
  · refine Or.inr ⟨hZ k (by omega) (by omega), fun A1 x1 B1 hV1 e1 => ?_⟩
    have hx1 := hok.2.2.2.1 x1 (by rw [hV1]; simp)
    obtain ⟨eA, -, -⟩ := v_in_uniq (v := k - 1) (hV.symm.trans hV1) h3 h4 (by omega) (by omega)
    rw [← eA] at e1; exact hat e1
theorem v_at_one {n tm : Nat} {V : v_V} (hok : v_ok n tm V) {A A1 B B1 : v_V} {x x1 : Nat × Bool × Nat} (h : V = A ++ x :: B) (h1 : V = A1 ++ x1 :: B1) (e : v_sz A = v_sz A1) : A = A1 ∧ x = x1 ∧ B = B1 := by
  have g := hok.2.2.2.1 x (by rw [h]; simp)
  have g1 := hok.2.2.2.1 x1 (by rw [h1]; simp)
  exact v_in_uniq (v := v_sz A) (h.symm.trans h1) (Nat.le_refl _) (by omega) (by omega) (by omega)
theorem v_sw_len {tm : Nat} {x : Nat × Bool × Nat} {F : v_V} : (v_sw tm x F).1 = x.1 + v_sz F := by
  unfold v_sw
  by_cases h : F = []
  · rw [if_pos h, h]; simp [v_sz]
  · rw [if_neg h]
set_option maxHeartbeats 4000000 in
set_option maxRecDepth 100000 in
theorem c0_Model_space (l : Launch) (E : qE) (S : qS) (m9 sz9 ti9 n9 f9 tm : Nat) (V : v_V) (hM : q_M S m9 sz9 ti9 n9 f9 tm V) (htm : tm + 1 < 2 ^ 30) (a : Int32) (post : Int32 → qS → Prop) (hpost : ∀ r S1, (((16 ≤ a.toInt ∧ a.toInt ≤ 16384) ∧ r = nI n9 ∧ S1.I 7 m9 = 0 ∧ q_M S1 m9 sz9 ti9 a.toInt.toNat 0 (tm + 1) [(a.toInt.toNat, true, tm)] ∧ q_gr S S1) ∨ (¬ (16 ≤ a.toInt ∧ a.toInt ≤ 16384) ∧ S1 = S.sI 7 m9 1 ∧ r = 0)) → post r S1) : q_Mi l yX6_space cX6_space 4 .int { frames := 1, cells := 0, slots := 0, locals := 24 } E [.ref m9, .int a] S (post) 0 0 := by
  refine q_ofW1 (by decide) (q_1c rfl (q_1c rfl q_1n)) (Nat.le_of_ble_eq_true rfl) (fun p e s m below meth c C hV hr hlk hnm ls hl => ?_)
  have hl : lv_has ls 4 [(0, va_rf (some m9)), (1, .int (a))] := hl
  obtain ⟨⟨hL_m9, hK_m9, hR10, hR11⟩, ⟨hL_sz9, hK_sz9, hNs⟩, ⟨hL_ti9, hK_ti9, hNt⟩, hst9, hI8⟩ := hM.1
  have hN_sz9 : S.N sz9 < 2 ^ 31 := by rw [hNs]; decide
  have hN_ti9 : S.N ti9 < 2 ^ 31 := by rw [hNt]; decide
  have hok := hM.2.2.2.1
  have hM7 := q_M_thr hM 0
  have loop : (16 ≤ a.toInt ∧ a.toInt ≤ 16384) → ∀ (k : Nat) (a3 : Int32) (j : Nat) (S' : qS) (H : Heap) (locs : List Loc) (ls : Array Slot), 16385 - j < k → q_V E s S' H locs → lv_has ls 4 [(3, .int (a3)), (2, .int (nI n9)), (0, va_rf (some m9)), (1, .int (a))] → a3 = nI j → 1 ≤ j → j ≤ 16385 → q_gr (S.sI 7 m9 0) S' → S'.I = (S.sI 7 m9 0).I → (∀ i, 1 ≤ i → i < j → S'.A sz9 i = 0) → W p l e ({ frames := 1, cells := 0, slots := 0, locals := 24 } : Room) s m [.ref m9, .int a].toArray below meth c H locs (0) (0) (MQ below (va_Qi (post) (q_B E) E.A) [.ref m9, .int a].toArray s (0) (0) E.A) (F0 m 34 ls []) := by
    intro hz k
    obtain ⟨ha, ha2⟩ := q_nat (x := a) (by omega)
    induction k with
    | zero => intro a3 j S' H locs ls hk; exact absurd hk (Nat.not_lt_zero _)
    | succ k ih =>
      intro a3 j S' H locs ls hk hV hl ha3 hj1 hj2 hg hI9 hz9
      have hMS : q_Mb S' m9 sz9 ti9 n9 := q_Mb_gr hM7.1 hg (by rw [hI9])
      have hN_sz9 : S'.N sz9 < 2 ^ 31 := by rw [hMS.2.1.2.2]; decide
      have hL_m9 := hMS.1.1
      have hK_m9 := hMS.1.2.1
      have hL_sz9 := hMS.2.1.1
      have hK_sz9 := hMS.2.1.2.1
      refine lv_iload_n C.1 C.2.1 dX6_space_34 rfl (lv_at hl 0 rfl) ?_
      refine lv_sipush (v := 16384) C.1 C.2.1 dX6_space_35 (by decide) ?_
      refine lv_icmp_gt (tgt := 54) C.1 C.2.1 dX6_space_38 (by decide) (fun c38 => ?_) (fun c38 => ?_)
      · have hj9 : j = 16385 := by
          rcases Nat.lt_or_ge j 16385 with h | h
          · exact absurd (ha3 ▸ c38) (nI_nlt (show j ≤ 16384 by omega) (by decide))
          · omega
        subst hj9
        refine q_aload_n (r := some m9) C dX6_space_54 rfl (lv_at hl 2 rfl) ?_
        refine lv_iload_n C.1 C.2.1 dX6_space_55 rfl (lv_at hl 3 rfl) ?_
        refine q_ti (v' := nI a.toInt.toNat) (ha) ?_
        refine p_Model_cells (v := nI a.toInt.toNat) C hV hL_m9 hK_m9 (Or.inl wd_486) dX6_space_56 (fun H locs hV => ?_)
        refine q_aload_n (r := some m9) C dX6_space_59 rfl (lv_at hl 2 rfl) ?_
        refine lv_iconst (v := 0) C.1 C.2.1 dX6_space_60 (by decide) ?_
        refine p_Model_failures (v := 0) C hV hL_m9 hK_m9 (Or.inl wd_490) dX6_space_61 (fun H locs hV => ?_)
        have hbX : q_Mb ((S'.sI 8 m9 (nI a.toInt.toNat)).sI 10 m9 (0)) m9 sz9 ti9 a.toInt.toNat := by
          obtain ⟨x1, x2, x3, x4, -⟩ := hMS
          exact ⟨x1, x2, x3, x4, (congrFun (qI_of (S'.sI 8 m9 (nI a.toInt.toNat)) 10 m9 0 (j := 8) (by decide)) m9).trans (qI_self S' 8 m9 (nI a.toInt.toNat))⟩
        refine q_aload_n (r := some m9) C dX6_space_64 rfl (lv_at hl 2 rfl) ?_
        refine lv_iconst (v := 1) C.1 C.2.1 dX6_space_65 (by decide) ?_
        refine q_ti (v' := nI (1 + v_sz [])) (by decide) ?_
        refine lv_iload_n C.1 C.2.1 dX6_space_66 rfl (lv_at hl 3 rfl) ?_
        refine q_ti (v' := nI a.toInt.toNat) (ha) ?_
        refine q_cv hV (q_rV (b := m9) (As := [.int (nI (1 + v_sz [])), .int (nI a.toInt.toNat)]) (rest := []) C hV (c_Model_release l E ((S'.sI 8 m9 (nI a.toInt.toNat)).sI 10 m9 (0)) m9 sz9 ti9 a.toInt.toNat hbX (1 + v_sz []) (nI a.toInt.toNat) (by decide)) wd_520 wd_517 wd_519 wd_32 wd_44 ok_X6_release ⟨rfl, rfl, Nat.le_of_ble_eq_true rfl, Nat.le_of_ble_eq_true rfl⟩ (q_rc5 hV hL_m9 hK_m9) rfl hl.1 rfl (q_sm q_1n (Nat.le_of_ble_eq_true rfl)) dX6_space_67 ⟨Nat.le_of_ble_eq_true rfl, Nat.le_of_ble_eq_true rfl⟩) (fun S67 H locs hp67 hV => ?_)
        subst hp67
        refine lv_iload_n C.1 C.2.1 dX6_space_70 rfl (lv_at hl 1 rfl) ?_
        refine q_iret (v := nI n9) C hV hr hlk (Nat.le_of_ble_eq_true rfl) (Nat.le_of_ble_eq_true rfl) dX6_space_71 ?_
        refine hpost _ _ (Or.inl ⟨hz, rfl, ?_, ?_, ?_⟩)
        · refine (q_rel_7 ((S'.sI 8 m9 (nI a.toInt.toNat)).sI 10 m9 (0)) m9 sz9 ti9 (1 + v_sz []) (nI a.toInt.toNat)).trans ?_
          exact (congrFun (qI_of (S'.sI 8 m9 (nI a.toInt.toNat)) 10 m9 0 (j := 7) (by decide)) m9).trans ((congrFun (qI_of S' 8 m9 (nI a.toInt.toNat) (j := 7) (by decide)) m9).trans (by rw [hI9]; exact qI_self S 7 m9 0))
        · exact q_M_rel (S := (S'.sI 8 m9 (nI a.toInt.toNat)).sI 10 m9 (0)) (A := []) (B := []) (fails := 0) hbX ((congrFun (qI_of (S'.sI 8 m9 (nI a.toInt.toNat)) 10 m9 0 (j := 9) (by decide)) m9).trans ((congrFun (qI_of S' 8 m9 (nI a.toInt.toNat) (j := 9) (by decide)) m9).trans (by rw [hI9]; exact hM7.2.1))) ((qI_self (S'.sI 8 m9 (nI a.toInt.toNat)) 10 m9 0).trans nI_0.symm) trivial (fun i h1 h2 => hz9 i (by omega) (by rw [show v_sz ([] : v_V) = 0 from rfl] at h2; omega)) trivial hok.2.2.2.2.2.1 ⟨by simp [v_sz], by omega, by omega, fun v hv => by rw [List.mem_singleton.mp hv]; show 1 ≤ a.toInt.toNat; omega, fun v hv _ => by rw [List.mem_singleton.mp hv]; show tm < tm + 1; omega, by omega, htm⟩
        · exact q_gr_tr (q_gr_sI q_gr_rf (by decide)) (q_gr_tr (q_gr_sI (q_gr_sI hg (by decide)) (by decide)) (q_rel_gr _ _ _ _ _ _))
      · have hj9 : j < 16385 := by
          rcases Nat.lt_or_ge j 16385 with h | h
          · exact h
          · exact absurd (by rw [ha3]; exact nI_lt (show 16384 < j by omega) (by omega)) c38
        refine q_aload_n (r := some m9) C dX6_space_41 rfl (lv_at hl 2 rfl) ?_
        refine g_Model_sizes C hV hL_m9 hK_m9 (Or.inl wd_487) dX6_space_42 ?_
        refine q_tr (v' := some sz9) (hMS.1.2.2.1) ?_
        refine lv_iload_n C.1 C.2.1 dX6_space_45 rfl (lv_at hl 0 rfl) ?_
        refine lv_iconst (v := 0) C.1 C.2.1 dX6_space_46 (by decide) ?_
        refine q_iast (j := j) C hV hL_sz9 hK_sz9 (ha3) (by rw [hMS.2.1.2.2]; omega) (hN_sz9) dX6_space_47 (fun H locs hV => ?_)
        obtain ⟨i48, e48⟩ : ∃ y : Int32, y = a3 + 1 := ⟨_, rfl⟩
        refine q_iinc (v := i48) (k := 0) (lv' := [(3, .int (i48)), (2, .int (nI n9)), (0, va_rf (some m9)), (1, .int (a))]) C dX6_space_48 hl rfl (by rw [e48]; rfl) (by decide) (q_k0 (q_kC 1 rfl (by decide) rfl (q_kN 2 rfl (by decide) (by decide) (q_kN 3 rfl (by decide) (by decide) q_kz)))) (fun ls hl => ?_)
        refine lv_goto (tgt := 34) C.1 C.2.1 dX6_space_51 (by decide) ?_
        exact ih i48 (j + 1) (S'.sA sz9 j 0) H locs ls (by omega) hV hl (by rw [e48, ha3]; exact nI_1 j) (by omega) (by omega) (q_gr_sA hg) hI9 (fun i h1 h2 => by rw [qA_is]; by_cases e9 : i = j; rw [e9, q_upd_eq]; rw [q_upd_ne _ _ _ e9]; exact hz9 i h1 (by omega))
  refine q_aload_n (r := some m9) C dX6_space_0 rfl (lv_at hl 0 rfl) ?_
  refine lv_iload_n C.1 C.2.1 dX6_space_1 rfl (lv_at hl 1 rfl) ?_
  refine lv_bipush (v := 16) C.1 C.2.1 dX6_space_2 (by decide) ?_
  refine lv_icmp_lt (tgt := 18) C.1 C.2.1 dX6_space_4 (by decide) (fun c4 => ?_) (fun c4 => ?_)
  · have hz : ¬ (16 ≤ a.toInt ∧ a.toInt ≤ 16384) := fun h => by have := q_i_lt.mp c4; rw [q_i16] at this; omega
    refine lv_iconst (v := 0) C.1 C.2.1 dX6_space_18 (by decide) ?_
    refine q_ci hV (q_rV (b := m9) (As := [.int (0)]) (rest := []) C hV (c_Model_goes l E (S) m9 hL_m9 hK_m9 0 (by decide)) wd_516 wd_513 wd_515 wd_31 wd_44 ok_X6_goes ⟨rfl, rfl, Nat.le_of_ble_eq_true rfl, Nat.le_of_ble_eq_true rfl⟩ (q_rc5 hV hL_m9 hK_m9) rfl hl.1 rfl (q_sm q_1n (Nat.le_of_ble_eq_true rfl)) dX6_space_19 ⟨Nat.le_of_ble_eq_true rfl, Nat.le_of_ble_eq_true rfl⟩) (fun i19 S19 H locs hp19 hV => ?_)
    obtain ⟨rfl, eS19⟩ := hp19
    rw [show v_th 0 = 1 from by decide] at eS19
    subst eS19
    refine lv_if_ne (tgt := 27) C.1 C.2.1 dX6_space_22 (by decide) (fun c22 => ?_) (fun c22 => ?_)
    · exact absurd rfl c22
    · refine lv_iconst (v := 0) C.1 C.2.1 dX6_space_25 (by decide) ?_
      refine q_iret (v := 0) C hV hr hlk (Nat.le_of_ble_eq_true rfl) (Nat.le_of_ble_eq_true rfl) dX6_space_26 ?_
      exact hpost _ _ (Or.inr ⟨hz, rfl, rfl⟩)
  · refine lv_iload_n C.1 C.2.1 dX6_space_7 rfl (lv_at hl 1 rfl) ?_
    refine lv_sipush (v := 16384) C.1 C.2.1 dX6_space_8 (by decide) ?_
    refine lv_icmp_gt (tgt := 18) C.1 C.2.1 dX6_space_11 (by decide) (fun c11 => ?_) (fun c11 => ?_)
    · have hz : ¬ (16 ≤ a.toInt ∧ a.toInt ≤ 16384) := fun h => by have := q_i_lt.mp c11; rw [q_i16384] at this; omega
      refine lv_iconst (v := 0) C.1 C.2.1 dX6_space_18 (by decide) ?_
      refine q_ci hV (q_rV (b := m9) (As := [.int (0)]) (rest := []) C hV (c_Model_goes l E (S) m9 hL_m9 hK_m9 0 (by decide)) wd_516 wd_513 wd_515 wd_31 wd_44 ok_X6_goes ⟨rfl, rfl, Nat.le_of_ble_eq_true rfl, Nat.le_of_ble_eq_true rfl⟩ (q_rc5 hV hL_m9 hK_m9) rfl hl.1 rfl (q_sm q_1n (Nat.le_of_ble_eq_true rfl)) dX6_space_19 ⟨Nat.le_of_ble_eq_true rfl, Nat.le_of_ble_eq_true rfl⟩) (fun i19 S19 H locs hp19 hV => ?_)
      obtain ⟨rfl, eS19⟩ := hp19
      rw [show v_th 0 = 1 from by decide] at eS19
      subst eS19
      refine lv_if_ne (tgt := 27) C.1 C.2.1 dX6_space_22 (by decide) (fun c22 => ?_) (fun c22 => ?_)
      · exact absurd rfl c22
      · refine lv_iconst (v := 0) C.1 C.2.1 dX6_space_25 (by decide) ?_
        refine q_iret (v := 0) C hV hr hlk (Nat.le_of_ble_eq_true rfl) (Nat.le_of_ble_eq_true rfl) dX6_space_26 ?_
        exact hpost _ _ (Or.inr ⟨hz, rfl, rfl⟩)
    · have hz : 16 ≤ a.toInt ∧ a.toInt ≤ 16384 := ⟨by
        rcases Int.lt_or_le a.toInt 16 with h | h
        · exact absurd (q_i_lt.mpr (by rw [q_i16]; exact h)) c4
        · exact h, by
        rcases Int.lt_or_le 16384 a.toInt with h | h
        · exact absurd (q_i_lt.mpr (by rw [q_i16384]; exact h)) c11
        · exact h⟩
      refine lv_iconst (v := 1) C.1 C.2.1 dX6_space_14 (by decide) ?_
      refine lv_goto (tgt := 19) C.1 C.2.1 dX6_space_15 (by decide) ?_
      refine q_ci hV (q_rV (b := m9) (As := [.int (1)]) (rest := []) C hV (c_Model_goes l E (S) m9 hL_m9 hK_m9 1 (by decide)) wd_516 wd_513 wd_515 wd_31 wd_44 ok_X6_goes ⟨rfl, rfl, Nat.le_of_ble_eq_true rfl, Nat.le_of_ble_eq_true rfl⟩ (q_rc5 hV hL_m9 hK_m9) rfl hl.1 rfl (q_sm q_1n (Nat.le_of_ble_eq_true rfl)) dX6_space_19 ⟨Nat.le_of_ble_eq_true rfl, Nat.le_of_ble_eq_true rfl⟩) (fun i19 S19 H locs hp19 hV => ?_)
      obtain ⟨rfl, eS19⟩ := hp19
      rw [show v_th 1 = 0 from by decide] at eS19
      subst eS19
      refine lv_if_ne (tgt := 27) C.1 C.2.1 dX6_space_22 (by decide) (fun c22 => ?_) (fun c22 => ?_)
      · refine q_aload_n (r := some m9) C dX6_space_27 rfl (lv_at hl 0 rfl) ?_
        refine g_Model_cells C hV hL_m9 hK_m9 (Or.inl wd_486) dX6_space_28 ?_
        refine q_ti (v' := nI n9) (hI8) ?_
        refine q_istore_n (x := nI n9) (lv' := [(2, .int (nI n9)), (0, va_rf (some m9)), (1, .int (a))]) C dX6_space_31 rfl hl (by decide) (q_k0 (q_kN 0 rfl (by decide) (by decide) (q_kC 1 rfl (by decide) rfl q_kz))) (fun ls hl => ?_)
        refine lv_iconst (v := 1) C.1 C.2.1 dX6_space_32 (by decide) ?_
        refine q_istore_n (x := 1) (lv' := [(3, .int (1)), (2, .int (nI n9)), (0, va_rf (some m9)), (1, .int (a))]) C dX6_space_33 rfl hl (by decide) (q_k0 (q_kC 0 rfl (by decide) rfl (q_kN 1 rfl (by decide) (by decide) (q_kN 2 rfl (by decide) (by decide) q_kz)))) (fun ls hl => ?_)
        exact loop hz 16386 1 1 (S.sI 7 m9 0) H locs ls (by omega) hV hl (by decide) (by omega) (by omega) q_gr_rf rfl (fun i h1 h2 => absurd h1 (by omega))
      · exact absurd c22 (by decide)
theorem c_Model_space (l : Launch) (E : qE) (S : qS) (m9 sz9 ti9 n9 f9 tm : Nat) (V : v_V) (hM : q_M S m9 sz9 ti9 n9 f9 tm V) (htm : tm + 1 < 2 ^ 30) (a : Int32) : q_Mi l yX6_space cX6_space 4 .int { frames := 1, cells := 0, slots := 0, locals := 24 } E [.ref m9, .int a] S (fun r S1 => ((16 ≤ a.toInt ∧ a.toInt ≤ 16384) ∧ r = nI n9 ∧ S1.I 7 m9 = 0 ∧ q_M S1 m9 sz9 ti9 a.toInt.toNat 0 (tm + 1) [(a.toInt.toNat, true, tm)] ∧ q_gr S S1) ∨ (¬ (16 ≤ a.toInt ∧ a.toInt ≤ 16384) ∧ S1 = S.sI 7 m9 1 ∧ r = 0)) 0 0 := c0_Model_space l E S m9 sz9 ti9 n9 f9 tm V hM htm a _ (fun _ _ h => h)

set_option maxHeartbeats 4000000 in
set_option maxRecDepth 100000 in
theorem c0_Model_take (l : Launch) (E : qE) (S : qS) (m9 sz9 ti9 n9 f9 tm : Nat) (V : v_V) (hM : q_M S m9 sz9 ti9 n9 f9 tm V) (hdt : v_dt V) (htm : tm + 1 < 2 ^ 30) (a : Int32) (post : Int32 → qS → Prop) (hpost : ∀ r S1, ((v_szok a.toInt ∧ ∃ V' f' tm', v_take V f9 tm a.toInt.toNat V' f' tm' r ∧ S1.I 7 m9 = 0 ∧ q_M S1 m9 sz9 ti9 n9 f' tm' V' ∧ q_gr S S1) ∨ (¬ v_szok a.toInt ∧ S1 = S.sI 7 m9 1 ∧ r = 0)) → post r S1) : q_Mi l yX6_take cX6_take 4 .int { frames := 2, cells := 0, slots := 0, locals := 49 } E [.ref m9, .int a] S (post) 0 0 := by
  refine q_ofW1 (by decide) (q_1c rfl (q_1c rfl q_1n)) (Nat.le_of_ble_eq_true rfl) (fun p e s m below meth c C hV hr hlk hnm ls hl => ?_)
  have hl : lv_has ls 4 [(0, va_rf (some m9)), (1, .int (a))] := hl
  obtain ⟨⟨hL_m9, hK_m9, hR10, hR11⟩, ⟨hL_sz9, hK_sz9, hNs⟩, ⟨hL_ti9, hK_ti9, hNt⟩, hst9, hI8⟩ := hM.1
  have hN_sz9 : S.N sz9 < 2 ^ 31 := by rw [hNs]; decide
  have hN_ti9 : S.N ti9 < 2 ^ 31 := by rw [hNt]; decide
  have hok := hM.2.2.2.1
  have hM7 := q_M_thr hM 0
  refine q_aload_n (r := some m9) C dX6_take_0 rfl (lv_at hl 0 rfl) ?_
  refine lv_iload_n C.1 C.2.1 dX6_take_1 rfl (lv_at hl 1 rfl) ?_
  refine q_ci hV (q_rS (As := [.int (a)]) (rest := [va_rf (some m9)]) C hV (c_Model_sized l E S a) wd_527 wd_525 wd_526 wd_44 ok_X6_sized ⟨rfl, rfl, Nat.le_of_ble_eq_true rfl, Nat.le_of_ble_eq_true rfl⟩ rfl hl.1 rfl (q_sm (q_1c (q_cat _) q_1n) (Nat.le_of_ble_eq_true rfl)) dX6_take_2 ⟨Nat.le_of_ble_eq_true rfl, Nat.le_of_ble_eq_true rfl⟩) (fun i2 S2 H locs hp2 hV => ?_)
  obtain ⟨eS2, hp2⟩ := hp2
  rw [eS2] at hV
  refine q_ci hV (q_rV (b := m9) (As := [.int (i2)]) (rest := []) C hV (c_Model_goes l E S m9 hL_m9 hK_m9 i2 (by rw [hp2]; split <;> simp)) wd_516 wd_513 wd_515 wd_31 wd_44 ok_X6_goes ⟨rfl, rfl, Nat.le_of_ble_eq_true rfl, Nat.le_of_ble_eq_true rfl⟩ (q_rc5 hV hL_m9 hK_m9) rfl hl.1 rfl (q_sm q_1n (Nat.le_of_ble_eq_true rfl)) dX6_take_5 ⟨Nat.le_of_ble_eq_true rfl, Nat.le_of_ble_eq_true rfl⟩) (fun i5 S5 H locs hp5 hV => ?_)
  obtain ⟨h5, eS5⟩ := hp5
  refine lv_if_ne (tgt := 13) C.1 C.2.1 dX6_take_8 (by decide) (fun c8 => ?_) (fun c8 => ?_)
  · have hz : v_szok a.toInt := by
      rcases Classical.em (v_szok a.toInt) with h | h
      · exact h
      · rw [h5, hp2, if_neg h] at c8; exact absurd rfl c8
    have eS : S5 = S.sI 7 m9 0 := by rw [eS5, hp2, if_pos hz]; rfl
    rw [eS] at hV
    obtain ⟨ha, ha2⟩ := q_nat (x := a) (by omega)
    refine q_aload_n (r := some m9) C dX6_take_13 rfl (lv_at hl 0 rfl) ?_
    refine lv_iload_n C.1 C.2.1 dX6_take_14 rfl (lv_at hl 1 rfl) ?_
    refine q_ti (v' := nI a.toInt.toNat) (ha) ?_
    refine q_ci hV (q_rV (b := m9) (As := [.int (nI a.toInt.toNat)]) (rest := []) C hV (c_Model_best l E (S.sI 7 m9 0) m9 sz9 ti9 n9 f9 tm V hM7 a.toInt.toNat (by omega) ha2 hdt) wd_531 wd_528 wd_530 wd_33 wd_44 ok_X6_best ⟨rfl, rfl, Nat.le_of_ble_eq_true rfl, Nat.le_of_ble_eq_true rfl⟩ (q_rc5 hV hL_m9 hK_m9) rfl hl.1 rfl (q_sm q_1n (Nat.le_of_ble_eq_true rfl)) dX6_take_15 ⟨Nat.le_of_ble_eq_true rfl, Nat.le_of_ble_eq_true rfl⟩) (fun i15 S15 H locs hp15 hV => ?_)
    obtain ⟨eS15, hp15⟩ := hp15
    rw [eS15] at hV
    refine q_istore_n (x := i15) (lv' := [(2, .int (i15)), (0, va_rf (some m9)), (1, .int (a))]) C dX6_take_18 rfl hl (by decide) (q_k0 (q_kN 0 rfl (by decide) (by decide) (q_kC 1 rfl (by decide) rfl q_kz))) (fun ls hl => ?_)
    refine lv_iload_n C.1 C.2.1 dX6_take_19 rfl (lv_at hl 0 rfl) ?_
    refine lv_if_ne (tgt := 35) C.1 C.2.1 dX6_take_20 (by decide) (fun c20 => ?_) (fun c20 => ?_)
    · rcases hp15 with ⟨h0, -⟩ | ⟨A, x, B, hVe, hb, hr⟩
      · exact absurd h0 c20
      subst hr
      subst hVe
      obtain ⟨hAx, hZx, -, hx1, hszx, hn9⟩ := q_M_at hM7
      have hbz := hb.2.1
      have hjb : 1 + v_sz A < 16385 := by omega
      have hlnx : v_ln ((S.sI 7 m9 0).A sz9 (1 + v_sz A)) = nI x.1 := by rw [hAx]; exact v_ln_sg hx1 (by omega)
      refine q_aload_n (r := some m9) C dX6_take_35 rfl (lv_at hl 1 rfl) ?_
      refine lv_iload_n C.1 C.2.1 dX6_take_36 rfl (lv_at hl 0 rfl) ?_
      refine q_ci hV (q_rV (b := m9) (As := [.int (nI (1 + v_sz A))]) (rest := []) C hV (c_Model_length l E (S.sI 7 m9 0) m9 sz9 ti9 n9 hM7.1 (1 + v_sz A) hjb) wd_535 wd_532 wd_534 wd_34 wd_44 ok_X6_length ⟨rfl, rfl, Nat.le_of_ble_eq_true rfl, Nat.le_of_ble_eq_true rfl⟩ (q_rc5 hV hL_m9 hK_m9) rfl hl.1 rfl (q_sm q_1n (Nat.le_of_ble_eq_true rfl)) dX6_take_37 ⟨Nat.le_of_ble_eq_true rfl, Nat.le_of_ble_eq_true rfl⟩) (fun i37 S37 H locs hp37 hV => ?_)
      obtain ⟨eS37, hp37⟩ := hp37
      rw [eS37] at hV
      replace hp37 := hp37.trans hlnx
      subst hp37
      refine lv_iload_n C.1 C.2.1 dX6_take_40 rfl (lv_at hl 2 rfl) ?_
      refine q_ti (v' := nI a.toInt.toNat) (ha) ?_
      refine lv_isub C.1 C.2.1 dX6_take_41 ?_
      refine q_ti (v' := nI (x.1 - a.toInt.toNat)) (pk_sub (by omega)) ?_
      refine q_istore_n (x := nI (x.1 - a.toInt.toNat)) (lv' := [(3, .int (nI (x.1 - a.toInt.toNat))), (2, .int (nI (1 + v_sz A))), (0, va_rf (some m9)), (1, .int (a))]) C dX6_take_42 rfl hl (by decide) (q_k0 (q_kC 0 rfl (by decide) rfl (q_kN 1 rfl (by decide) (by decide) (q_kN 2 rfl (by decide) (by decide) q_kz)))) (fun ls hl => ?_)
      refine q_aload_n (r := some m9) C dX6_take_43 rfl (lv_at hl 2 rfl) ?_
      refine g_Model_sizes C hV hL_m9 hK_m9 (Or.inl wd_487) dX6_take_44 ?_
      refine q_tr (v' := some sz9) (hR10) ?_
      refine lv_iload_n C.1 C.2.1 dX6_take_47 rfl (lv_at hl 1 rfl) ?_
      refine lv_iload_n C.1 C.2.1 dX6_take_48 rfl (lv_at hl 3 rfl) ?_
      refine q_ti (v' := nI a.toInt.toNat) (ha) ?_
      refine q_iast (j := 1 + v_sz A) C hV hL_sz9 hK_sz9 (rfl) (show 1 + v_sz A < S.N sz9 by rw [hNs]; exact hjb) (hN_sz9) dX6_take_49 (fun H locs hV => ?_)
      refine lv_iload_n C.1 C.2.1 dX6_take_50 rfl (lv_at hl 0 rfl) ?_
      refine lv_if_le (tgt := 62) C.1 C.2.1 dX6_take_51 (by decide) (fun c51 => ?_) (fun c51 => ?_)
      · have heq : x.1 = a.toInt.toNat := by
          have h9 := q_i_le.mp c51
          rw [nI_toInt (by omega), q_i0] at h9
          omega
        refine lv_iload_n C.1 C.2.1 dX6_take_62 rfl (lv_at hl 1 rfl) ?_
        refine q_iret (v := nI (1 + v_sz A)) C hV hr hlk (Nat.le_of_ble_eq_true rfl) (Nat.le_of_ble_eq_true rfl) dX6_take_63 ?_
        refine hpost _ _ (Or.inl ⟨hz, _, f9, tm, Or.inr ⟨A, x, B, rfl, hb, rfl, rfl, Or.inl ⟨heq, rfl, rfl⟩⟩, qI_self S 7 m9 0, q_M_use hM7 heq, q_gr_sA (q_gr_sI q_gr_rf (by decide))⟩)
      · have hlt : a.toInt.toNat < x.1 := by
          rcases Nat.lt_or_ge a.toInt.toNat x.1 with h | h
          · exact h
          · exact absurd (q_i_le.mpr (by rw [nI_toInt (by omega), q_i0]; omega)) c51
        refine q_aload_n (r := some m9) C dX6_take_54 rfl (lv_at hl 2 rfl) ?_
        refine lv_iload_n C.1 C.2.1 dX6_take_55 rfl (lv_at hl 1 rfl) ?_
        refine lv_iload_n C.1 C.2.1 dX6_take_56 rfl (lv_at hl 3 rfl) ?_
        refine q_ti (v' := nI a.toInt.toNat) (ha) ?_
        refine lv_iadd C.1 C.2.1 dX6_take_57 ?_
        refine q_ti (v' := nI (1 + v_sz A + a.toInt.toNat)) (nI_add _ _) ?_
        refine lv_iload_n C.1 C.2.1 dX6_take_58 rfl (lv_at hl 0 rfl) ?_
        refine q_cv hV (q_rV (b := m9) (As := [.int (nI (1 + v_sz A + a.toInt.toNat)), .int (nI (x.1 - a.toInt.toNat))]) (rest := []) C hV (c_Model_release l E ((S.sI 7 m9 0).sA sz9 (1 + v_sz A) (nI a.toInt.toNat)) m9 sz9 ti9 n9 (q_Mb_gr hM7.1 (q_gr_sA q_gr_rf) rfl) (1 + v_sz A + a.toInt.toNat) (nI (x.1 - a.toInt.toNat)) (by omega)) wd_520 wd_517 wd_519 wd_32 wd_44 ok_X6_release ⟨rfl, rfl, Nat.le_of_ble_eq_true rfl, Nat.le_of_ble_eq_true rfl⟩ (q_rc5 hV hL_m9 hK_m9) rfl hl.1 rfl (q_sm q_1n (Nat.le_of_ble_eq_true rfl)) dX6_take_59 ⟨Nat.le_of_ble_eq_true rfl, Nat.le_of_ble_eq_true rfl⟩) (fun S59 H locs hp59 hV => ?_)
        subst hp59
        refine lv_iload_n C.1 C.2.1 dX6_take_62 rfl (lv_at hl 1 rfl) ?_
        refine q_iret (v := nI (1 + v_sz A)) C hV hr hlk (Nat.le_of_ble_eq_true rfl) (Nat.le_of_ble_eq_true rfl) dX6_take_63 ?_
        refine hpost _ _ (Or.inl ⟨hz, _, f9, tm + 1, Or.inr ⟨A, x, B, rfl, hb, rfl, rfl, Or.inr ⟨hlt, rfl, rfl⟩⟩, ?_, q_M_cut hM7 (by omega) hlt htm, ?_⟩)
        · exact (q_rel_7 ((S.sI 7 m9 0).sA sz9 (1 + v_sz A) (nI a.toInt.toNat)) m9 sz9 ti9 (1 + v_sz A + a.toInt.toNat) (nI (x.1 - a.toInt.toNat))).trans (qI_self S 7 m9 0)
        · exact q_gr_tr (q_gr_sA (q_gr_sI q_gr_rf (by decide))) (q_rel_gr _ _ _ _ _ _)
    · refine q_aload_n (r := some m9) C dX6_take_23 rfl (lv_at hl 1 rfl) ?_
      refine lv_dup C.1 C.2.1 dX6_take_24 rfl ?_
      refine g_Model_failures C hV hL_m9 hK_m9 (Or.inl wd_490) dX6_take_25 ?_
      refine q_ti (v' := nI f9) (hM7.2.2.1) ?_
      refine lv_iconst (v := 1) C.1 C.2.1 dX6_take_28 (by decide) ?_
      refine lv_iadd C.1 C.2.1 dX6_take_29 ?_
      refine p_Model_failures (v := (nI f9) + 1) C hV hL_m9 hK_m9 (Or.inl wd_490) dX6_take_30 (fun H locs hV => ?_)
      refine lv_iconst (v := 0) C.1 C.2.1 dX6_take_33 (by decide) ?_
      refine q_iret (v := 0) C hV hr hlk (Nat.le_of_ble_eq_true rfl) (Nat.le_of_ble_eq_true rfl) dX6_take_34 ?_
      have hnon : v_non a.toInt.toNat V := by
        rcases hp15 with ⟨-, h⟩ | ⟨A, x, B, rfl, hb, hr⟩
        · exact h
        · exfalso
          have hsz := hok.1
          rw [v_sz_app] at hsz
          have hn := hok.2.2.1
          rw [hr] at c20; exact absurd c20 (nI_ne0 (by omega) (by omega))
      refine hpost _ _ (Or.inl ⟨hz, V, f9 + 1, tm, Or.inl ⟨rfl, hnon, rfl, rfl, rfl⟩, ?_, q_M_fail hM7, q_gr_sI (q_gr_sI q_gr_rf (by decide)) (by decide)⟩)
      exact (congrFun (qI_of (S.sI 7 m9 0) 10 m9 (nI f9 + 1) (j := 7) (by decide)) m9).trans (qI_self S 7 m9 0)
  · have hz : ¬ v_szok a.toInt := fun h => by rw [h5, hp2, if_pos h] at c8; exact absurd c8 (by decide)
    have eS : S5 = S.sI 7 m9 1 := by rw [eS5, hp2, if_neg hz]; rfl
    rw [eS] at hV
    refine lv_iconst (v := 0) C.1 C.2.1 dX6_take_11 (by decide) ?_
    refine q_iret (v := 0) C hV hr hlk (Nat.le_of_ble_eq_true rfl) (Nat.le_of_ble_eq_true rfl) dX6_take_12 ?_
    exact hpost _ _ (Or.inr ⟨hz, rfl, rfl⟩)
theorem c_Model_take (l : Launch) (E : qE) (S : qS) (m9 sz9 ti9 n9 f9 tm : Nat) (V : v_V) (hM : q_M S m9 sz9 ti9 n9 f9 tm V) (hdt : v_dt V) (htm : tm + 1 < 2 ^ 30) (a : Int32) : q_Mi l yX6_take cX6_take 4 .int { frames := 2, cells := 0, slots := 0, locals := 49 } E [.ref m9, .int a] S (fun r S1 => (v_szok a.toInt ∧ ∃ V' f' tm', v_take V f9 tm a.toInt.toNat V' f' tm' r ∧ S1.I 7 m9 = 0 ∧ q_M S1 m9 sz9 ti9 n9 f' tm' V' ∧ q_gr S S1) ∨ (¬ v_szok a.toInt ∧ S1 = S.sI 7 m9 1 ∧ r = 0)) 0 0 := c0_Model_take l E S m9 sz9 ti9 n9 f9 tm V hM hdt htm a _ (fun _ _ h => h)

