theorem v_in_uniq : ∀ {A A' B B' : v_V} {x x' : Nat × Bool × Nat} {v : Nat}, A ++ x :: B = A' ++ x' :: B' → v_sz A ≤ v → v < v_sz A + x.1 → v_sz A' ≤ v → v < v_sz A' + x'.1 → A = A' ∧ x = x' ∧ B = B' := by
  intro A
  induction A with
  | nil =>
    intro A' B B' x x' v h h1 h2 h3 h4
    cases A' with
    | nil => simp at h; exact ⟨rfl, h.1, h.2⟩
    | cons y t =>
      simp at h
      obtain ⟨rfl, h5⟩ := h
      simp only [v_sz] at h2 h3
      omega
  | cons y t ih =>
    intro A' B B' x x' v h h1 h2 h3 h4
    cases A' with
    | nil =>
      simp at h
      obtain ⟨rfl, h5⟩ := h
      simp only [v_sz] at h1 h4
      omega
    | cons y' t' =>
      simp at h
      obtain ⟨rfl, h5⟩ := h
      simp only [v_sz] at h1 h2 h3 h4
      obtain ⟨e1, e2, e3⟩ := ih (v := v - y.1) h5 (by omega) (by omega) (by omega) (by omega)
      exact ⟨by rw [e1], e2, e3⟩
theorem v_hold : ∀ {V : v_V} {k : Nat}, k < v_sz V → ∃ A x B, V = A ++ x :: B ∧ v_sz A ≤ k ∧ k < v_sz A + x.1 := by
  intro V
  induction V with
  | nil => intro k h; simp [v_sz] at h
  | cons v V ih =>
    intro k h
    simp only [v_sz] at h
    rcases Nat.lt_or_ge k v.1 with h1 | h1
    · exact ⟨[], v, V, rfl, Nat.zero_le _, by simpa [v_sz] using h1⟩
    · obtain ⟨A, x, B, rfl, h2, h3⟩ := ih (k := k - v.1) (by omega)
      exact ⟨v :: A, x, B, rfl, by simp only [v_sz]; omega, by simp only [v_sz]; omega⟩
theorem q_mx_app : ∀ (A B : v_V), q_mx (A ++ B) = max (q_mx A) (q_mx B) := by
  intro A B
  induction A with
  | nil => simp [q_mx]
  | cons x A ih => simp only [List.cons_append, q_mx, ih]; omega
theorem q_mx_le {k : Nat} : ∀ {V : v_V}, (∀ v ∈ V, v.1 ≤ k) → q_mx V ≤ k := by
  intro V
  induction V with
  | nil => intro _; exact Nat.zero_le _
  | cons v V ih =>
    intro h
    have h1 := h v List.mem_cons_self
    have h2 := ih (fun x hx => h x (List.mem_cons_of_mem _ hx))
    simp only [q_mx]
    split <;> omega
theorem v_sg_neg {v : Nat × Bool × Nat} (h1 : 1 ≤ v.1) (hz : v.1 < 2 ^ 31) : 0 ≤ v_sg v ↔ v.2.1 = false := by
  rw [q_i_le, q_i0]
  cases hf : v.2.1 with
  | true => rw [v_sg_t hf hz]; constructor <;> intro h <;> first | omega | cases h
  | false => rw [v_sg_f hf hz]; exact ⟨fun _ => rfl, fun _ => by omega⟩
set_option maxHeartbeats 4000000 in
set_option maxRecDepth 100000 in
theorem c0_Model_greatest (l : Launch) (E : qE) (S : qS) (m9 sz9 ti9 n9 f9 tm : Nat) (V : v_V) (hM : q_M S m9 sz9 ti9 n9 f9 tm V) (post : Int32 → qS → Prop) (hpost : ∀ r S1, (S1 = S ∧ r = nI (q_mx V)) → post r S1) : q_Mi l yX6_greatest cX6_greatest 3 .int { frames := 1, cells := 0, slots := 0, locals := 24 } E [.ref m9] S (post) 0 0 := by
  refine q_ofW1 (by decide) (q_1c rfl q_1n) (Nat.le_of_ble_eq_true rfl) (fun p e s m below meth c C hV hr hlk hnm ls hl => ?_)
  have hl : lv_has ls 3 [(0, va_rf (some m9))] := hl
  obtain ⟨⟨hL_m9, hK_m9, hR10, hR11⟩, ⟨hL_sz9, hK_sz9, hNs⟩, ⟨hL_ti9, hK_ti9, hNt⟩, hst9, hI8⟩ := hM.1
  have hN_sz9 : S.N sz9 < 2 ^ 31 := by rw [hNs]; decide
  have hN_ti9 : S.N ti9 < 2 ^ 31 := by rw [hNt]; decide
  have hok := hM.2.2.2.1
  have loop : ∀ (k : Nat) (mo : Int32) (D R : v_V) (H : Heap) (locs : List Loc) (ls : Array Slot), R.length < k → q_V E s S H locs → lv_has ls 3 [(2, .int (nI (1 + v_sz D))), (1, .int (mo)), (0, va_rf (some m9))] → D ++ R = V → mo = nI (q_mx D) → W p l e ({ frames := 1, cells := 0, slots := 0, locals := 24 } : Room) s m [.ref m9].toArray below meth c H locs (0) (0) (MQ below (va_Qi (post) (q_B E) E.A) [.ref m9].toArray s (0) (0) E.A) (F0 m 4 ls []) := by
    intro k
    induction k with
    | zero => intro mo D R H locs ls hk; exact absurd hk (Nat.not_lt_zero _)
    | succ k ih =>
      intro mo D R H locs ls hk hV hl hDR hmo
      refine lv_iload_n C.1 C.2.1 dX6_greatest_4 rfl (lv_at hl 0 rfl) ?_
      refine q_aload_n (r := some m9) C dX6_greatest_5 rfl (lv_at hl 2 rfl) ?_
      refine g_Model_cells C hV hL_m9 hK_m9 (Or.inl wd_486) dX6_greatest_6 ?_
      refine q_ti (v' := nI n9) (hI8) ?_
      refine lv_icmp_gt (tgt := 51) C.1 C.2.1 dX6_greatest_9 (by decide) (fun c9 => ?_) (fun c9 => ?_)
      · refine lv_iload_n C.1 C.2.1 dX6_greatest_51 rfl (lv_at hl 1 rfl) ?_
        refine q_iret (v := mo) C hV hr hlk (Nat.le_of_ble_eq_true rfl) (Nat.le_of_ble_eq_true rfl) dX6_greatest_52 ?_
        obtain rfl := v_done hok hDR c9
        rw [List.append_nil] at hDR
        subst hDR
        exact hpost _ _ ⟨rfl, hmo⟩
      · obtain ⟨v, R2, rfl⟩ := v_more hok hDR c9
        have hMv : q_M S m9 sz9 ti9 n9 f9 tm (D ++ v :: R2) := by rw [hDR]; exact hM
        obtain ⟨hAv, -, hTv, hv1, hsz, hn9⟩ := q_M_at hMv
        have hjb : 1 + v_sz D < 16385 := by omega
        have hlnv : v_ln (S.A sz9 (1 + v_sz D)) = nI v.1 := by rw [hAv]; exact v_ln_sg hv1 (by omega)
        have hnx : nI (1 + v_sz D) + nI v.1 = nI (1 + v_sz (D ++ [v])) := by rw [nI_add, v_sz_app]; exact congrArg nI (by simp only [v_sz]; omega)
        refine q_aload_n (r := some m9) C dX6_greatest_12 rfl (lv_at hl 2 rfl) ?_
        refine g_Model_sizes C hV hL_m9 hK_m9 (Or.inl wd_487) dX6_greatest_13 ?_
        refine q_tr (v' := some sz9) (hR10) ?_
        refine lv_iload_n C.1 C.2.1 dX6_greatest_16 rfl (lv_at hl 0 rfl) ?_
        refine q_iald (j := 1 + v_sz D) C hV hL_sz9 hK_sz9 (rfl) (show 1 + v_sz D < S.N sz9 by rw [hNs]; exact hjb) (hN_sz9) dX6_greatest_17 ?_
        refine q_ti (v' := v_sg v) (hAv) ?_
        refine lv_if_ge (tgt := 38) C.1 C.2.1 dX6_greatest_18 (by decide) (fun c18 => ?_) (fun c18 => ?_)
        · refine lv_iload_n C.1 C.2.1 dX6_greatest_38 rfl (lv_at hl 1 rfl) ?_
          have hs9 : (mo : Int32) = nI (q_mx (D ++ [v])) := by
            have hle : q_mx D ≤ 16384 := q_mx_le (fun y hy => Nat.le_trans (v_szm (V := V) (by rw [← hDR]; simp [hy])) (by rw [hok.1]; exact hn9))
            rw [q_mx_app]
            simp only [q_mx]
            rw [hmo]; refine congrArg nI ?_
            rw [if_neg (by rw [(v_sg_neg hv1 (by omega)).mp c18]; exact fun z => nomatch z)]; omega
          refine q_istore_n (x := mo) (lv' := [(1, .int (mo)), (2, .int (nI (1 + v_sz D))), (0, va_rf (some m9))]) C dX6_greatest_39 rfl hl (by decide) (q_k0 (q_kN 0 rfl (by decide) (by decide) (q_kC 2 rfl (by decide) (q_cat _) q_kz))) (fun ls hl => ?_)
          refine lv_iload_n C.1 C.2.1 dX6_greatest_40 rfl (lv_at hl 1 rfl) ?_
          refine q_aload_n (r := some m9) C dX6_greatest_41 rfl (lv_at hl 2 rfl) ?_
          refine lv_iload_n C.1 C.2.1 dX6_greatest_42 rfl (lv_at hl 1 rfl) ?_
          refine q_ci hV (q_rV (b := m9) (As := [.int (nI (1 + v_sz D))]) (rest := [.int (nI (1 + v_sz D))]) C hV (c_Model_length l E S m9 sz9 ti9 n9 hM.1 (1 + v_sz D) hjb) wd_535 wd_532 wd_534 wd_34 wd_44 ok_X6_length ⟨rfl, rfl, Nat.le_of_ble_eq_true rfl, Nat.le_of_ble_eq_true rfl⟩ (q_rc5 hV hL_m9 hK_m9) rfl hl.1 rfl (q_sm (q_1c rfl q_1n) (Nat.le_of_ble_eq_true rfl)) dX6_greatest_43 ⟨Nat.le_of_ble_eq_true rfl, Nat.le_of_ble_eq_true rfl⟩) (fun i43 S43 H locs hp43 hV => ?_)
          obtain ⟨eS43, hp43⟩ := hp43
          rw [eS43] at hV
          rw [hlnv] at hp43
          subst hp43
          refine lv_iadd C.1 C.2.1 dX6_greatest_46 ?_
          refine q_istore_n (x := (nI (1 + v_sz D)) + (nI v.1)) (lv' := [(2, .int ((nI (1 + v_sz D)) + (nI v.1))), (1, .int (mo)), (0, va_rf (some m9))]) C dX6_greatest_47 rfl hl (by decide) (q_k0 (q_kC 0 rfl (by decide) rfl (q_kN 2 rfl (by decide) (by decide) q_kz))) (fun ls hl => ?_)
          refine lv_goto (tgt := 4) C.1 C.2.1 dX6_greatest_48 (by decide) ?_
          rw [hnx] at hl
          exact ih _ (D ++ [v]) R2 H locs ls (by simp at hk; omega) hV hl (by rw [← hDR]; simp) hs9
        · refine q_aload_n (r := some m9) C dX6_greatest_21 rfl (lv_at hl 2 rfl) ?_
          refine lv_iload_n C.1 C.2.1 dX6_greatest_22 rfl (lv_at hl 0 rfl) ?_
          refine q_ci hV (q_rV (b := m9) (As := [.int (nI (1 + v_sz D))]) (rest := []) C hV (c_Model_length l E S m9 sz9 ti9 n9 hM.1 (1 + v_sz D) hjb) wd_535 wd_532 wd_534 wd_34 wd_44 ok_X6_length ⟨rfl, rfl, Nat.le_of_ble_eq_true rfl, Nat.le_of_ble_eq_true rfl⟩ (q_rc5 hV hL_m9 hK_m9) rfl hl.1 rfl (q_sm q_1n (Nat.le_of_ble_eq_true rfl)) dX6_greatest_23 ⟨Nat.le_of_ble_eq_true rfl, Nat.le_of_ble_eq_true rfl⟩) (fun i23 S23 H locs hp23 hV => ?_)
          obtain ⟨eS23, hp23⟩ := hp23
          rw [eS23] at hV
          rw [hlnv] at hp23
          subst hp23
          refine lv_iload_n C.1 C.2.1 dX6_greatest_26 rfl (lv_at hl 1 rfl) ?_
          refine lv_icmp_le (tgt := 38) C.1 C.2.1 dX6_greatest_27 (by decide) (fun c27 => ?_) (fun c27 => ?_)
          · refine lv_iload_n C.1 C.2.1 dX6_greatest_38 rfl (lv_at hl 1 rfl) ?_
            have hs9 : (mo : Int32) = nI (q_mx (D ++ [v])) := by
              have hle : q_mx D ≤ 16384 := q_mx_le (fun y hy => Nat.le_trans (v_szm (V := V) (by rw [← hDR]; simp [hy])) (by rw [hok.1]; exact hn9))
              rw [q_mx_app]
              simp only [q_mx]
              rw [hmo]; refine congrArg nI ?_
              have h9 := (nI_leI (by omega) (by omega)).mp (hmo ▸ c27)
              split <;> omega
            refine q_istore_n (x := mo) (lv' := [(1, .int (mo)), (2, .int (nI (1 + v_sz D))), (0, va_rf (some m9))]) C dX6_greatest_39 rfl hl (by decide) (q_k0 (q_kN 0 rfl (by decide) (by decide) (q_kC 2 rfl (by decide) (q_cat _) q_kz))) (fun ls hl => ?_)
            refine lv_iload_n C.1 C.2.1 dX6_greatest_40 rfl (lv_at hl 1 rfl) ?_
            refine q_aload_n (r := some m9) C dX6_greatest_41 rfl (lv_at hl 2 rfl) ?_
            refine lv_iload_n C.1 C.2.1 dX6_greatest_42 rfl (lv_at hl 1 rfl) ?_
            refine q_ci hV (q_rV (b := m9) (As := [.int (nI (1 + v_sz D))]) (rest := [.int (nI (1 + v_sz D))]) C hV (c_Model_length l E S m9 sz9 ti9 n9 hM.1 (1 + v_sz D) hjb) wd_535 wd_532 wd_534 wd_34 wd_44 ok_X6_length ⟨rfl, rfl, Nat.le_of_ble_eq_true rfl, Nat.le_of_ble_eq_true rfl⟩ (q_rc5 hV hL_m9 hK_m9) rfl hl.1 rfl (q_sm (q_1c rfl q_1n) (Nat.le_of_ble_eq_true rfl)) dX6_greatest_43 ⟨Nat.le_of_ble_eq_true rfl, Nat.le_of_ble_eq_true rfl⟩) (fun i43 S43 H locs hp43 hV => ?_)
            obtain ⟨eS43, hp43⟩ := hp43
            rw [eS43] at hV
            rw [hlnv] at hp43
            subst hp43
            refine lv_iadd C.1 C.2.1 dX6_greatest_46 ?_
            refine q_istore_n (x := (nI (1 + v_sz D)) + (nI v.1)) (lv' := [(2, .int ((nI (1 + v_sz D)) + (nI v.1))), (1, .int (mo)), (0, va_rf (some m9))]) C dX6_greatest_47 rfl hl (by decide) (q_k0 (q_kC 0 rfl (by decide) rfl (q_kN 2 rfl (by decide) (by decide) q_kz))) (fun ls hl => ?_)
            refine lv_goto (tgt := 4) C.1 C.2.1 dX6_greatest_48 (by decide) ?_
            rw [hnx] at hl
            exact ih _ (D ++ [v]) R2 H locs ls (by simp at hk; omega) hV hl (by rw [← hDR]; simp) hs9
          · refine q_aload_n (r := some m9) C dX6_greatest_30 rfl (lv_at hl 2 rfl) ?_
            refine lv_iload_n C.1 C.2.1 dX6_greatest_31 rfl (lv_at hl 0 rfl) ?_
            refine q_ci hV (q_rV (b := m9) (As := [.int (nI (1 + v_sz D))]) (rest := []) C hV (c_Model_length l E S m9 sz9 ti9 n9 hM.1 (1 + v_sz D) hjb) wd_535 wd_532 wd_534 wd_34 wd_44 ok_X6_length ⟨rfl, rfl, Nat.le_of_ble_eq_true rfl, Nat.le_of_ble_eq_true rfl⟩ (q_rc5 hV hL_m9 hK_m9) rfl hl.1 rfl (q_sm q_1n (Nat.le_of_ble_eq_true rfl)) dX6_greatest_32 ⟨Nat.le_of_ble_eq_true rfl, Nat.le_of_ble_eq_true rfl⟩) (fun i32 S32 H locs hp32 hV => ?_)
            obtain ⟨eS32, hp32⟩ := hp32
            rw [eS32] at hV
            rw [hlnv] at hp32
            subst hp32
            refine lv_goto (tgt := 39) C.1 C.2.1 dX6_greatest_35 (by decide) ?_
            have hs9 : (nI v.1 : Int32) = nI (q_mx (D ++ [v])) := by
              have hle : q_mx D ≤ 16384 := q_mx_le (fun y hy => Nat.le_trans (v_szm (V := V) (by rw [← hDR]; simp [hy])) (by rw [hok.1]; exact hn9))
              rw [q_mx_app]
              simp only [q_mx]
              have hfr : v.2.1 = true := by cases hf : v.2.1 with | true => rfl | false => exact absurd ((v_sg_neg hv1 (by omega)).mpr hf) c18
              rw [if_pos hfr]; refine congrArg nI ?_
              rcases Nat.lt_or_ge (q_mx D) v.1 with h9 | h9
              · omega
              · exact absurd (by rw [hmo]; exact nI_le h9 (by omega)) c27
            refine q_istore_n (x := nI v.1) (lv' := [(1, .int (nI v.1)), (2, .int (nI (1 + v_sz D))), (0, va_rf (some m9))]) C dX6_greatest_39 rfl hl (by decide) (q_k0 (q_kN 0 rfl (by decide) (by decide) (q_kC 2 rfl (by decide) (q_cat _) q_kz))) (fun ls hl => ?_)
            refine lv_iload_n C.1 C.2.1 dX6_greatest_40 rfl (lv_at hl 1 rfl) ?_
            refine q_aload_n (r := some m9) C dX6_greatest_41 rfl (lv_at hl 2 rfl) ?_
            refine lv_iload_n C.1 C.2.1 dX6_greatest_42 rfl (lv_at hl 1 rfl) ?_
            refine q_ci hV (q_rV (b := m9) (As := [.int (nI (1 + v_sz D))]) (rest := [.int (nI (1 + v_sz D))]) C hV (c_Model_length l E S m9 sz9 ti9 n9 hM.1 (1 + v_sz D) hjb) wd_535 wd_532 wd_534 wd_34 wd_44 ok_X6_length ⟨rfl, rfl, Nat.le_of_ble_eq_true rfl, Nat.le_of_ble_eq_true rfl⟩ (q_rc5 hV hL_m9 hK_m9) rfl hl.1 rfl (q_sm (q_1c rfl q_1n) (Nat.le_of_ble_eq_true rfl)) dX6_greatest_43 ⟨Nat.le_of_ble_eq_true rfl, Nat.le_of_ble_eq_true rfl⟩) (fun i43 S43 H locs hp43 hV => ?_)
            obtain ⟨eS43, hp43⟩ := hp43
            rw [eS43] at hV
            rw [hlnv] at hp43
            subst hp43
            refine lv_iadd C.1 C.2.1 dX6_greatest_46 ?_
            refine q_istore_n (x := (nI (1 + v_sz D)) + (nI v.1)) (lv' := [(2, .int ((nI (1 + v_sz D)) + (nI v.1))), (1, .int (nI v.1)), (0, va_rf (some m9))]) C dX6_greatest_47 rfl hl (by decide) (q_k0 (q_kC 0 rfl (by decide) rfl (q_kN 2 rfl (by decide) (by decide) q_kz))) (fun ls hl => ?_)
            refine lv_goto (tgt := 4) C.1 C.2.1 dX6_greatest_48 (by decide) ?_
            rw [hnx] at hl
            exact ih _ (D ++ [v]) R2 H locs ls (by simp at hk; omega) hV hl (by rw [← hDR]; simp) hs9
  refine lv_iconst (v := 0) C.1 C.2.1 dX6_greatest_0 (by decide) ?_
  refine q_istore_n (x := 0) (lv' := [(1, .int (0)), (0, va_rf (some m9))]) C dX6_greatest_1 rfl hl (by decide) (q_k0 (q_kC 0 rfl (by decide) (q_cat _) q_kz)) (fun ls hl => ?_)
  refine lv_iconst (v := 1) C.1 C.2.1 dX6_greatest_2 (by decide) ?_
  refine q_istore_n (x := 1) (lv' := [(2, .int (1)), (1, .int (0)), (0, va_rf (some m9))]) C dX6_greatest_3 rfl hl (by decide) (q_k0 (q_kC 0 rfl (by decide) rfl (q_kN 1 rfl (by decide) (by decide) q_kz))) (fun ls hl => ?_)
  exact loop (V.length + 1) 0 [] V s.heap [] ls (Nat.lt_succ_self _) hV hl (List.nil_append _) nI_0.symm
theorem c_Model_greatest (l : Launch) (E : qE) (S : qS) (m9 sz9 ti9 n9 f9 tm : Nat) (V : v_V) (hM : q_M S m9 sz9 ti9 n9 f9 tm V) : q_Mi l yX6_greatest cX6_greatest 3 .int { frames := 1, cells := 0, slots := 0, locals := 24 } E [.ref m9] S (fun r S1 => S1 = S ∧ r = nI (q_mx V)) 0 0 := c0_Model_greatest l E S m9 sz9 ti9 n9 f9 tm V hM _ (fun _ _ h => h)

set_option maxHeartbeats 4000000 in
set_option maxRecDepth 100000 in
theorem c0_Model_piece (l : Launch) (E : qE) (S : qS) (m9 sz9 ti9 n9 f9 tm : Nat) (V : v_V) (hM : q_M S m9 sz9 ti9 n9 f9 tm V) (a : Int32) (post : Int32 → qS → Prop) (hpost : ∀ r S1, (S1 = S.sI 7 m9 0 ∧ v_piece V a.toInt r) → post r S1) : q_Mi l yX6_piece cX6_piece 2 .int { frames := 1, cells := 0, slots := 0, locals := 24 } E [.ref m9, .int a] S (post) 0 0 := by
  refine q_ofW1 (by decide) (q_1c rfl (q_1c rfl q_1n)) (Nat.le_of_ble_eq_true rfl) (fun p e s m below meth c C hV hr hlk hnm ls hl => ?_)
  have hl : lv_has ls 2 [(0, va_rf (some m9)), (1, .int (a))] := hl
  obtain ⟨⟨hL_m9, hK_m9, hR10, hR11⟩, ⟨hL_sz9, hK_sz9, hNs⟩, ⟨hL_ti9, hK_ti9, hNt⟩, hst9, hI8⟩ := hM.1
  have hN_sz9 : S.N sz9 < 2 ^ 31 := by rw [hNs]; decide
  have hN_ti9 : S.N ti9 < 2 ^ 31 := by rw [hNt]; decide
  have hok := hM.2.2.2.1
  have hM7 := q_M_thr hM 0
  have hn9 := hok.2.2.1
  refine q_aload_n (r := some m9) C dX6_piece_0 rfl (lv_at hl 0 rfl) ?_
  refine lv_iconst (v := 0) C.1 C.2.1 dX6_piece_1 (by decide) ?_
  refine p_Model_thrown (v := 0) C hV hL_m9 hK_m9 (Or.inl wd_485) dX6_piece_2 (fun H locs hV => ?_)
  refine q_aload_n (r := some m9) C dX6_piece_5 rfl (lv_at hl 0 rfl) ?_
  refine lv_iload_n C.1 C.2.1 dX6_piece_6 rfl (lv_at hl 1 rfl) ?_
  refine q_ci hV (q_rV (b := m9) (As := [.int (a)]) (rest := []) C hV (c_Model_known l E (S.sI 7 m9 0) m9 sz9 ti9 n9 hM7.1 hn9 a) wd_543 wd_540 wd_542 wd_35 wd_44 ok_X6_known ⟨rfl, rfl, Nat.le_of_ble_eq_true rfl, Nat.le_of_ble_eq_true rfl⟩ (q_rc5 hV hL_m9 hK_m9) rfl hl.1 rfl (q_sm q_1n (Nat.le_of_ble_eq_true rfl)) dX6_piece_7 ⟨Nat.le_of_ble_eq_true rfl, Nat.le_of_ble_eq_true rfl⟩) (fun i7 S7 H locs hp7 hV => ?_)
  obtain ⟨eS7, hp7⟩ := hp7
  rw [eS7] at hV
  refine lv_if_eq (tgt := 22) C.1 C.2.1 dX6_piece_10 (by decide) (fun c10 => ?_) (fun c10 => ?_)
  · have hkn : ¬ (1 ≤ a.toInt ∧ a.toInt ≤ n9) := fun h => by rw [if_pos h] at hp7; rw [hp7] at c10; exact absurd c10 (by decide)
    refine lv_iconst (v := 0) C.1 C.2.1 dX6_piece_22 (by decide) ?_
    refine q_iret (v := 0) C hV hr hlk (Nat.le_of_ble_eq_true rfl) (Nat.le_of_ble_eq_true rfl) dX6_piece_23 ?_
    refine hpost _ _ ⟨rfl, Or.inl ⟨rfl, fun A x B hV9 e9 => ?_⟩⟩
    have hsz := hok.1
    have hx1 := hok.2.2.2.1 x (by rw [hV9]; simp)
    rw [hV9, v_sz_app] at hsz
    simp only [v_sz] at hsz
    exact hkn ⟨by omega, by omega⟩
  · have hkn : 1 ≤ a.toInt ∧ a.toInt ≤ n9 := by
      rcases Classical.em (1 ≤ a.toInt ∧ a.toInt ≤ n9) with h | h
      · exact h
      · rw [if_neg h] at hp7; exact absurd hp7 c10
    obtain ⟨ha, ha2⟩ := q_nat (x := a) (by omega)
    refine q_aload_n (r := some m9) C dX6_piece_13 rfl (lv_at hl 0 rfl) ?_
    refine g_Model_sizes C hV hL_m9 hK_m9 (Or.inl wd_487) dX6_piece_14 ?_
    refine q_tr (v' := some sz9) (hR10) ?_
    refine lv_iload_n C.1 C.2.1 dX6_piece_17 rfl (lv_at hl 1 rfl) ?_
    refine q_iald (j := a.toInt.toNat) C hV hL_sz9 hK_sz9 (ha) (show a.toInt.toNat < S.N sz9 by rw [hNs]; omega) (hN_sz9) dX6_piece_18 ?_
    refine lv_goto (tgt := 23) C.1 C.2.1 dX6_piece_19 (by decide) ?_
    refine q_iret (v := (S.sI 7 m9 (0)).A sz9 a.toInt.toNat) C hV hr hlk (Nat.le_of_ble_eq_true rfl) (Nat.le_of_ble_eq_true rfl) dX6_piece_23 ?_
    obtain ⟨A, x, B, hV9, h1, h2⟩ := v_hold (V := V) (k := a.toInt.toNat - 1) (by rw [hok.1]; omega)
    have hMx : q_M S m9 sz9 ti9 n9 f9 tm (A ++ x :: B) := by rw [← hV9]; exact hM
    obtain ⟨hA, hZ, -, -, -, -⟩ := q_M_at hMx
    refine hpost _ _ ⟨rfl, ?_⟩
    by_cases hat : a.toInt.toNat = 1 + v_sz A
    · exact Or.inr ⟨A, x, B, hV9, by omega, by show S.A sz9 a.toInt.toNat = _; rw [hat, hA]; rfl⟩
    · refine Or.inl ⟨hZ _ (by omega) (by omega), fun A1 x1 B1 hV1 e1 => ?_⟩
      have hx1 := hok.2.2.2.1 x1 (by rw [hV1]; simp)
      obtain ⟨eA, -, -⟩ := v_in_uniq (v := a.toInt.toNat - 1) (hV9.symm.trans hV1) h1 h2 (by omega) (by omega)
      rw [← eA] at e1; omega
theorem c_Model_piece (l : Launch) (E : qE) (S : qS) (m9 sz9 ti9 n9 f9 tm : Nat) (V : v_V) (hM : q_M S m9 sz9 ti9 n9 f9 tm V) (a : Int32) : q_Mi l yX6_piece cX6_piece 2 .int { frames := 1, cells := 0, slots := 0, locals := 24 } E [.ref m9, .int a] S (fun r S1 => S1 = S.sI 7 m9 0 ∧ v_piece V a.toInt r) 0 0 := c0_Model_piece l E S m9 sz9 ti9 n9 f9 tm V hM a _ (fun _ _ h => h)

set_option maxHeartbeats 4000000 in
set_option maxRecDepth 100000 in
theorem c0_Model_cover (l : Launch) (E : qE) (S : qS) (m9 sz9 ti9 n9 f9 tm : Nat) (V : v_V) (hM : q_M S m9 sz9 ti9 n9 f9 tm V) (a : Int32) (post : Int32 → qS → Prop) (hpost : ∀ r S1, (S1 = S.sI 7 m9 0 ∧ v_cover V a.toInt r) → post r S1) : q_Mi l yX6_cover cX6_cover 3 .int { frames := 1, cells := 0, slots := 0, locals := 24 } E [.ref m9, .int a] S (post) 0 0 := by
  refine q_ofW1 (by decide) (q_1c rfl (q_1c rfl q_1n)) (Nat.le_of_ble_eq_true rfl) (fun p e s m below meth c C hV hr hlk hnm ls hl => ?_)
  have hl : lv_has ls 3 [(0, va_rf (some m9)), (1, .int (a))] := hl
  obtain ⟨⟨hL_m9, hK_m9, hR10, hR11⟩, ⟨hL_sz9, hK_sz9, hNs⟩, ⟨hL_ti9, hK_ti9, hNt⟩, hst9, hI8⟩ := hM.1
  have hN_sz9 : S.N sz9 < 2 ^ 31 := by rw [hNs]; decide
  have hN_ti9 : S.N ti9 < 2 ^ 31 := by rw [hNt]; decide
  have hok := hM.2.2.2.1
  have hM7 := q_M_thr hM 0
  have hn9 := hok.2.2.1
  have loop : ∀ (A B : v_V) (x : Nat × Bool × Nat), V = A ++ x :: B → a.toInt.toNat - 1 < v_sz A + x.1 → ∀ (k : Nat) (at9 : Int32) (k9 : Nat) (H : Heap) (locs : List Loc) (ls : Array Slot), k9 < k → q_V E s (S.sI 7 m9 0) H locs → lv_has ls 3 [(2, .int (at9)), (0, va_rf (some m9)), (1, .int (a))] → at9 = nI k9 → 1 + v_sz A ≤ k9 → k9 ≤ a.toInt.toNat → W p l e ({ frames := 1, cells := 0, slots := 0, locals := 24 } : Room) s m [.ref m9, .int a].toArray below meth c H locs (0) (0) (MQ below (va_Qi (post) (q_B E) E.A) [.ref m9, .int a].toArray s (0) (0) E.A) (F0 m 19 ls []) := by
    intro A B x hV9 hh2 k
    have hMx : q_M S m9 sz9 ti9 n9 f9 tm (A ++ x :: B) := by rw [← hV9]; exact hM
    obtain ⟨hA, hZ, -, hx1, hszx, -⟩ := q_M_at hMx
    induction k with
    | zero => intro at9 k9 H locs ls hk; exact absurd hk (Nat.not_lt_zero _)
    | succ k ih =>
      intro at9 k9 H locs ls hk hV hl hat9 hlo hhi
      refine lv_iload_n C.1 C.2.1 dX6_cover_19 rfl (lv_at hl 0 rfl) ?_
      refine lv_if_le (tgt := 38) C.1 C.2.1 dX6_cover_20 (by decide) (fun c20 => ?_) (fun c20 => ?_)
      · exact absurd (hat9 ▸ c20) (nI_nle (by omega) (by omega))
      · refine q_aload_n (r := some m9) C dX6_cover_23 rfl (lv_at hl 1 rfl) ?_
        refine g_Model_sizes C hV hL_m9 hK_m9 (Or.inl wd_487) dX6_cover_24 ?_
        refine q_tr (v' := some sz9) (hR10) ?_
        refine lv_iload_n C.1 C.2.1 dX6_cover_27 rfl (lv_at hl 0 rfl) ?_
        refine q_iald (j := k9) C hV hL_sz9 hK_sz9 (hat9) (show k9 < S.N sz9 by rw [hNs]; omega) (hN_sz9) dX6_cover_28 ?_
        refine lv_if_ne (tgt := 38) C.1 C.2.1 dX6_cover_29 (by decide) (fun c29 => ?_) (fun c29 => ?_)
        · refine lv_iload_n C.1 C.2.1 dX6_cover_38 rfl (lv_at hl 0 rfl) ?_
          refine q_iret (v := at9) C hV hr hlk (Nat.le_of_ble_eq_true rfl) (Nat.le_of_ble_eq_true rfl) dX6_cover_39 ?_
          have hk : k9 = 1 + v_sz A := by
            rcases Nat.lt_or_ge (1 + v_sz A) k9 with h | h
            · exact absurd (hZ k9 h (by omega)) c29
            · omega
          subst hk
          subst hat9
          exact hpost _ _ ⟨rfl, Or.inr ⟨A, x, B, hV9, by omega, by omega, rfl⟩⟩
        · have hgt : 1 + v_sz A < k9 := by
            rcases Nat.lt_or_ge (1 + v_sz A) k9 with h | h
            · exact h
            · have e9 : k9 = 1 + v_sz A := by omega
              rw [e9] at c29
              have h0 : v_sg x = 0 := hA.symm.trans c29
              exfalso
              cases hf : x.2.1 with
              | true => have h8 := v_sg_t hf (by omega); rw [h0, q_i0] at h8; omega
              | false => have h8 := v_sg_f hf (by omega); rw [h0, q_i0] at h8; omega
          obtain ⟨i32, e32⟩ : ∃ y : Int32, y = at9 + (-1) := ⟨_, rfl⟩
          refine q_iinc (v := i32) (k := 0) (lv' := [(2, .int (i32)), (0, va_rf (some m9)), (1, .int (a))]) C dX6_cover_32 hl rfl (by rw [e32]; rfl) (by decide) (q_k0 (q_kN 1 rfl (by decide) (by decide) (q_kC 2 rfl (by decide) rfl q_kz))) (fun ls hl => ?_)
          refine lv_goto (tgt := 19) C.1 C.2.1 dX6_cover_35 (by decide) ?_
          obtain ⟨k8, rfl⟩ : ∃ k8, k9 = k8 + 1 := ⟨k9 - 1, by omega⟩
          exact ih i32 k8 H locs ls (by omega) hV hl (by rw [e32, hat9]; exact (Int32.sub_eq_add_neg _ _).symm.trans (nI_pred k8)) (by omega) (by omega)
  refine q_aload_n (r := some m9) C dX6_cover_0 rfl (lv_at hl 0 rfl) ?_
  refine lv_iconst (v := 0) C.1 C.2.1 dX6_cover_1 (by decide) ?_
  refine p_Model_thrown (v := 0) C hV hL_m9 hK_m9 (Or.inl wd_485) dX6_cover_2 (fun H locs hV => ?_)
  refine q_aload_n (r := some m9) C dX6_cover_5 rfl (lv_at hl 0 rfl) ?_
  refine lv_iload_n C.1 C.2.1 dX6_cover_6 rfl (lv_at hl 1 rfl) ?_
  refine q_ci hV (q_rV (b := m9) (As := [.int (a)]) (rest := []) C hV (c_Model_known l E (S.sI 7 m9 0) m9 sz9 ti9 n9 hM7.1 hn9 a) wd_543 wd_540 wd_542 wd_35 wd_44 ok_X6_known ⟨rfl, rfl, Nat.le_of_ble_eq_true rfl, Nat.le_of_ble_eq_true rfl⟩ (q_rc5 hV hL_m9 hK_m9) rfl hl.1 rfl (q_sm q_1n (Nat.le_of_ble_eq_true rfl)) dX6_cover_7 ⟨Nat.le_of_ble_eq_true rfl, Nat.le_of_ble_eq_true rfl⟩) (fun i7 S7 H locs hp7 hV => ?_)
  obtain ⟨eS7, hp7⟩ := hp7
  rw [eS7] at hV
  refine lv_if_eq (tgt := 17) C.1 C.2.1 dX6_cover_10 (by decide) (fun c10 => ?_) (fun c10 => ?_)
  · have hkn : ¬ (1 ≤ a.toInt ∧ a.toInt ≤ n9) := fun h => by rw [if_pos h] at hp7; rw [hp7] at c10; exact absurd c10 (by decide)
    refine lv_iconst (v := 0) C.1 C.2.1 dX6_cover_17 (by decide) ?_
    refine q_istore_n (x := 0) (lv' := [(2, .int (0)), (0, va_rf (some m9)), (1, .int (a))]) C dX6_cover_18 rfl hl (by decide) (q_k0 (q_kN 0 rfl (by decide) (by decide) (q_kC 1 rfl (by decide) rfl q_kz))) (fun ls hl => ?_)
    refine lv_iload_n C.1 C.2.1 dX6_cover_19 rfl (lv_at hl 0 rfl) ?_
    refine lv_if_le (tgt := 38) C.1 C.2.1 dX6_cover_20 (by decide) (fun c20 => ?_) (fun c20 => ?_)
    · refine lv_iload_n C.1 C.2.1 dX6_cover_38 rfl (lv_at hl 0 rfl) ?_
      refine q_iret (v := 0) C hV hr hlk (Nat.le_of_ble_eq_true rfl) (Nat.le_of_ble_eq_true rfl) dX6_cover_39 ?_
      refine hpost _ _ ⟨rfl, Or.inl ⟨rfl, ?_⟩⟩
      rw [hok.1]
      omega
    · exact absurd (by decide) c20
  · have hkn : 1 ≤ a.toInt ∧ a.toInt ≤ n9 := by
      rcases Classical.em (1 ≤ a.toInt ∧ a.toInt ≤ n9) with h | h
      · exact h
      · rw [if_neg h] at hp7; exact absurd hp7 c10
    obtain ⟨ha, ha2⟩ := q_nat (x := a) (by omega)
    refine lv_iload_n C.1 C.2.1 dX6_cover_13 rfl (lv_at hl 1 rfl) ?_
    refine lv_goto (tgt := 18) C.1 C.2.1 dX6_cover_14 (by decide) ?_
    refine q_istore_n (x := a) (lv' := [(2, .int (a)), (0, va_rf (some m9)), (1, .int (a))]) C dX6_cover_18 rfl hl (by decide) (q_k0 (q_kN 0 rfl (by decide) (by decide) (q_kC 1 rfl (by decide) rfl q_kz))) (fun ls hl => ?_)
    obtain ⟨A, x, B, hV9, h1, h2⟩ := v_hold (V := V) (k := a.toInt.toNat - 1) (by rw [hok.1]; omega)
    exact loop A B x hV9 h2 (a.toInt.toNat + 1) a a.toInt.toNat H locs ls (Nat.lt_succ_self _) hV hl ha (by omega) (Nat.le_refl _)
theorem c_Model_cover (l : Launch) (E : qE) (S : qS) (m9 sz9 ti9 n9 f9 tm : Nat) (V : v_V) (hM : q_M S m9 sz9 ti9 n9 f9 tm V) (a : Int32) : q_Mi l yX6_cover cX6_cover 3 .int { frames := 1, cells := 0, slots := 0, locals := 24 } E [.ref m9, .int a] S (fun r S1 => S1 = S.sI 7 m9 0 ∧ v_cover V a.toInt r) 0 0 := c0_Model_cover l E S m9 sz9 ti9 n9 f9 tm V hM a _ (fun _ _ h => h)

