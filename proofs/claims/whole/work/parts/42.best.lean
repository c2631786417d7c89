/-! what the reference answers, over the values -/
def v_suf (z : Nat) (V : v_V) (r : Int32) : Prop := (r = 0 ∧ v_non z V) ∨ ∃ A x B, V = A ++ x :: B ∧ v_isb z A x B ∧ r = nI (1 + v_sz A)
/-- free pieces of one size have different times -/
def v_dt (V : v_V) : Prop := V.Pairwise (fun x y => x.2.1 = true → y.2.1 = true → x.1 = y.1 → 3 ≤ x.1 → x.2.2 ≠ y.2.2)
theorem v_szm {V : v_V} {v : Nat × Bool × Nat} : v ∈ V → v.1 ≤ v_sz V := by
  induction V with
  | nil => intro h; cases h
  | cons x V ih =>
    intro h
    rcases List.mem_cons.mp h with e | h
    · subst e; simp only [v_sz]; omega
    · have := ih h; simp only [v_sz]; omega
/-- the head of a loop over the pieces: not at the end there is one more -/
theorem v_more {n tm : Nat} {D R V : v_V} (hok : v_ok n tm V) (hDR : D ++ R = V) (h : ¬ nI n < nI (1 + v_sz D)) : ∃ v R2, R = v :: R2 := by
  cases R with
  | cons v R2 => exact ⟨v, R2, rfl⟩
  | nil =>
    rw [List.append_nil] at hDR
    subst hDR
    rw [hok.1] at h
    exact absurd (nI_lt (by omega) (by have := hok.2.2.1; omega)) h
theorem v_done {n tm : Nat} {D R V : v_V} (hok : v_ok n tm V) (hDR : D ++ R = V) (h : nI n < nI (1 + v_sz D)) : R = [] := by
  cases R with
  | nil => rfl
  | cons v R2 =>
    exfalso
    have h1 := hok.1
    have h3 := hok.2.2.1
    rw [← hDR, v_sz_app] at h1
    simp only [v_sz] at h1
    have h2 := hok.2.2.2.1 v (by rw [← hDR]; simp)
    have := (nI_ltI (by omega) (by omega)).mp h
    omega
theorem v_suf_skip {z : Nat} {D : v_V} {v : Nat × Bool × Nat} {fo : Int32} (hs : v_suf z D fo) (hn : ¬ (v.2.1 = true ∧ z ≤ v.1)) : v_suf z (D ++ [v]) fo := by
  rcases hs with ⟨h0, h1⟩ | ⟨A, x, B, rfl, hb, hr⟩
  · refine Or.inl ⟨h0, fun y hy hf => ?_⟩
    rcases List.mem_append.mp hy with hy | hy
    · exact h1 y hy hf
    · rw [List.mem_singleton.mp hy] at hf ⊢
      rcases Nat.lt_or_ge v.1 z with h | h
      · exact h
      · exact absurd ⟨hf, h⟩ hn
  · refine Or.inr ⟨A, x, B ++ [v], by simp, ⟨hb.1, hb.2.1, fun y hy hf hz => ?_⟩, hr⟩
    rw [← List.append_assoc] at hy
    rcases List.mem_append.mp hy with hy | hy
    · exact hb.2.2 y hy hf hz
    · rw [List.mem_singleton.mp hy] at hf hz; exact absurd ⟨hf, hz⟩ hn
theorem v_suf_keep {z : Nat} {A B : v_V} {x v : Nat × Bool × Nat} (hb : v_isb z A x B) (h : x.1 < v.1 ∨ (x.1 = v.1 ∧ v.2.2 < x.2.2)) : v_suf z ((A ++ x :: B) ++ [v]) (nI (1 + v_sz A)) := by
  refine Or.inr ⟨A, x, B ++ [v], by simp, ⟨hb.1, hb.2.1, fun y hy hf hz => ?_⟩, rfl⟩
  rw [← List.append_assoc] at hy
  rcases List.mem_append.mp hy with hy | hy
  · exact hb.2.2 y hy hf hz
  · rw [List.mem_singleton.mp hy]; exact h
theorem v_suf_new {z : Nat} {A B : v_V} {x v : Nat × Bool × Nat} (hb : v_isb z A x B) (hv : v.2.1 = true) (hz : z ≤ v.1) (h : v.1 < x.1 ∨ (v.1 = x.1 ∧ x.2.2 < v.2.2)) : v_isb z (A ++ x :: B) v [] := by
  refine ⟨hv, hz, fun y hy hf hsz => ?_⟩
  rw [List.append_nil] at hy
  rcases List.mem_append.mp hy with h1 | h1
  · have := hb.2.2 y (List.mem_append_left _ h1) hf hsz; omega
  · rcases List.mem_cons.mp h1 with h1 | h1
    · subst h1; omega
    · have := hb.2.2 y (List.mem_append_right _ h1) hf hsz; omega
theorem v_suf_first {z : Nat} {D : v_V} {v : Nat × Bool × Nat} (hn : v_non z D) (hv : v.2.1 = true) (hz : z ≤ v.1) : v_isb z D v [] := by
  refine ⟨hv, hz, fun y hy hf hsz => ?_⟩
  rw [List.append_nil] at hy
  have := hn y hy hf; omega
theorem v_dt_two {V A B C : v_V} {x v : Nat × Bool × Nat} (h : v_dt V) (hV : (A ++ x :: B) ++ v :: C = V) (h1 : x.2.1 = true) (h2 : v.2.1 = true) (h3 : x.1 = v.1) (h4 : 3 ≤ x.1) : x.2.2 ≠ v.2.2 := by
  subst hV
  exact (List.pairwise_append.mp h).2.2 x (by simp) v (by simp) h1 h2 h3 h4
set_option maxHeartbeats 4000000 in
set_option maxRecDepth 100000 in
theorem c0_Model_best (l : Launch) (E : qE) (S : qS) (m9 sz9 ti9 n9 f9 tm : Nat) (V : v_V) (hM : q_M S m9 sz9 ti9 n9 f9 tm V) (z9 : Nat) (hz3 : 3 ≤ z9) (hz2 : z9 < 2 ^ 31) (hdt : v_dt V) (post : Int32 → qS → Prop) (hpost : ∀ r S1, (S1 = S ∧ v_suf z9 V r) → post r S1) : q_Mi l yX6_best cX6_best 6 .int { frames := 1, cells := 0, slots := 0, locals := 24 } E [.ref m9, .int (nI z9)] S (post) 0 0 := by
  refine q_ofW1 (by decide) (q_1c rfl (q_1c rfl q_1n)) (Nat.le_of_ble_eq_true rfl) (fun p e s m below meth c C hV hr hlk hnm ls hl => ?_)
  have hl : lv_has ls 6 [(0, va_rf (some m9)), (1, .int (nI z9))] := hl
  obtain ⟨⟨hL_m9, hK_m9, hR10, hR11⟩, ⟨hL_sz9, hK_sz9, hNs⟩, ⟨hL_ti9, hK_ti9, hNt⟩, hst9, hI8⟩ := hM.1
  have hN_sz9 : S.N sz9 < 2 ^ 31 := by rw [hNs]; decide
  have hN_ti9 : S.N ti9 < 2 ^ 31 := by rw [hNt]; decide
  have hok := hM.2.2.2.1
  have loop : ∀ (k : Nat) (a3 fo : Int32) (D R : v_V) (H : Heap) (locs : List Loc) (ls : Array Slot), R.length < k → q_V E s S H locs → lv_has ls 6 [(3, .int (a3)), (2, .int (fo)), (0, va_rf (some m9)), (1, .int (nI z9))] → D ++ R = V → a3 = nI (1 + v_sz D) → v_suf z9 D fo → W p l e ({ frames := 1, cells := 0, slots := 0, locals := 24 } : Room) s m [.ref m9, .int (nI z9)].toArray below meth c H locs (0) (0) (MQ below (va_Qi (post) (q_B E) E.A) [.ref m9, .int (nI z9)].toArray s (0) (0) E.A) (F0 m 4 ls []) := by
    intro k
    induction k with
    | zero => intro a3 fo D R H locs ls hk; exact absurd hk (Nat.not_lt_zero _)
    | succ k ih =>
      intro a3 fo D R H locs ls hk hV hl hDR ha3 hs
      subst ha3
      refine lv_iload_n C.1 C.2.1 dX6_best_4 rfl (lv_at hl 0 rfl) ?_
      refine q_aload_n (r := some m9) C dX6_best_5 rfl (lv_at hl 2 rfl) ?_
      refine g_Model_cells C hV hL_m9 hK_m9 (Or.inl wd_486) dX6_best_6 ?_
      refine q_ti (v' := nI n9) (hI8) ?_
      refine lv_icmp_gt (tgt := 118) C.1 C.2.1 dX6_best_9 (by decide) (fun c9 => ?_) (fun c9 => ?_)
      · refine lv_iload_n C.1 C.2.1 dX6_best_118 rfl (lv_at hl 1 rfl) ?_
        refine q_iret (v := fo) C hV hr hlk (Nat.le_of_ble_eq_true rfl) (Nat.le_of_ble_eq_true rfl) dX6_best_119 ?_
        obtain rfl := v_done hok hDR c9
        rw [List.append_nil] at hDR
        subst hDR
        exact hpost _ _ ⟨rfl, hs⟩
      · obtain ⟨v, R2, rfl⟩ := v_more hok hDR c9
        have hMv : q_M S m9 sz9 ti9 n9 f9 tm (D ++ v :: R2) := by rw [hDR]; exact hM
        obtain ⟨hAv, -, hTv, hv1, hsz, hn9⟩ := q_M_at hMv
        have hjb : 1 + v_sz D < 16385 := by omega
        have hlnv : v_ln (S.A sz9 (1 + v_sz D)) = nI v.1 := by rw [hAv]; exact v_ln_sg hv1 (by omega)
        have J91 : ∀ (b5 b4 fo : Int32) (H : Heap) (locs : List Loc) (ls : Array Slot), q_V E s S H locs → lv_has ls 6 [(5, .int (b5)), (4, .int (b4)), (3, .int (nI (1 + v_sz D))), (2, .int (fo)), (0, va_rf (some m9)), (1, .int (nI z9))] → v_suf z9 D fo → ((b4 = 1 ∧ v.2.1 = true ∧ z9 ≤ v.1) ∨ (b4 = 0 ∧ ¬ (v.2.1 = true ∧ z9 ≤ v.1))) → ((b5 = 1 ∧ ((v.2.1 = true ∧ z9 ≤ v.1) → v_isb z9 D v [])) ∨ (b5 = 0 ∧ ((v.2.1 = true ∧ z9 ≤ v.1) → v_suf z9 (D ++ [v]) fo))) → W p l e ({ frames := 1, cells := 0, slots := 0, locals := 24 } : Room) s m [.ref m9, .int (nI z9)].toArray below meth c H locs (0) (0) (MQ below (va_Qi (post) (q_B E) E.A) [.ref m9, .int (nI z9)].toArray s (0) (0) E.A) (F0 m 91 ls []) := by
          intro b5 b4 fo H locs ls hV hl hs hb4 hb5
          refine lv_iload C.1 C.2.1 dX6_best_91 (lv_at hl 1 rfl) ?_
          refine lv_if_eq (tgt := 105) C.1 C.2.1 dX6_best_93 (by decide) (fun c93 => ?_) (fun c93 => ?_)
          · have hkeep : v_suf z9 (D ++ [v]) fo := by
              rcases hb4 with ⟨h1, -⟩ | ⟨-, h1⟩
              · rw [h1] at c93; exact absurd c93 (by decide)
              · exact v_suf_skip hs h1
            refine lv_iload_n C.1 C.2.1 dX6_best_105 rfl (lv_at hl 3 rfl) ?_
            refine q_istore_n (x := fo) (lv' := [(2, .int (fo)), (5, .int (b5)), (4, .int (b4)), (3, .int (nI (1 + v_sz D))), (0, va_rf (some m9)), (1, .int (nI z9))]) C dX6_best_106 rfl hl (by decide) (q_k0 (q_kN 0 rfl (by decide) (by decide) (q_kN 1 rfl (by decide) (by decide) (q_kN 2 rfl (by decide) (by decide) (q_kN 4 rfl (by decide) (by decide) (q_kC 5 rfl (by decide) rfl q_kz)))))) (fun ls hl => ?_)
            have hs9 : v_suf z9 (D ++ [v]) (fo) := by
              exact hkeep
            refine lv_iload_n C.1 C.2.1 dX6_best_107 rfl (lv_at hl 3 rfl) ?_
            refine q_aload_n (r := some m9) C dX6_best_108 rfl (lv_at hl 4 rfl) ?_
            refine lv_iload_n C.1 C.2.1 dX6_best_109 rfl (lv_at hl 3 rfl) ?_
            refine q_ci hV (q_rV (b := m9) (As := [.int (nI (1 + v_sz D))]) (rest := [.int (nI (1 + v_sz D))]) C hV (c_Model_length l E S m9 sz9 ti9 n9 hM.1 (1 + v_sz D) hjb) wd_535 wd_532 wd_534 wd_34 wd_44 ok_X6_length ⟨rfl, rfl, Nat.le_of_ble_eq_true rfl, Nat.le_of_ble_eq_true rfl⟩ (q_rc5 hV hL_m9 hK_m9) rfl hl.1 rfl (q_sm (q_1c rfl q_1n) (Nat.le_of_ble_eq_true rfl)) dX6_best_110 ⟨Nat.le_of_ble_eq_true rfl, Nat.le_of_ble_eq_true rfl⟩) (fun i110 S110 H locs hp110 hV => ?_)
            obtain ⟨eS110, hp110⟩ := hp110
            rw [eS110] at hV
            rw [hlnv] at hp110
            subst hp110
            refine lv_iadd C.1 C.2.1 dX6_best_113 ?_
            refine q_istore_n (x := (nI (1 + v_sz D)) + (nI v.1)) (lv' := [(3, .int ((nI (1 + v_sz D)) + (nI v.1))), (2, .int (fo)), (5, .int (b5)), (4, .int (b4)), (0, va_rf (some m9)), (1, .int (nI z9))]) C dX6_best_114 rfl hl (by decide) (q_k0 (q_kC 0 rfl (by decide) rfl (q_kN 1 rfl (by decide) (by decide) (q_kN 2 rfl (by decide) (by decide) (q_kN 4 rfl (by decide) (by decide) (q_kN 5 rfl (by decide) (by decide) q_kz)))))) (fun ls hl => ?_)
            refine lv_goto (tgt := 4) C.1 C.2.1 dX6_best_115 (by decide) ?_
            exact ih _ _ (D ++ [v]) R2 H locs ls (by simp at hk; omega) hV (lv_sub hl [0, 1, 4, 5] rfl) (by rw [← hDR]; simp) (by rw [nI_add, v_sz_app]; exact congrArg nI (by simp only [v_sz]; omega)) hs9
          · have hfit : v.2.1 = true ∧ z9 ≤ v.1 := by
              rcases hb4 with ⟨-, h1⟩ | ⟨h1, -⟩
              · exact h1
              · exact absurd h1 c93
            refine lv_iload C.1 C.2.1 dX6_best_96 (lv_at hl 0 rfl) ?_
            refine lv_if_eq (tgt := 105) C.1 C.2.1 dX6_best_98 (by decide) (fun c98 => ?_) (fun c98 => ?_)
            · have hkeep : v_suf z9 (D ++ [v]) fo := by
                rcases hb5 with ⟨h1, -⟩ | ⟨-, h1⟩
                · rw [h1] at c98; exact absurd c98 (by decide)
                · exact h1 hfit
              refine lv_iload_n C.1 C.2.1 dX6_best_105 rfl (lv_at hl 3 rfl) ?_
              refine q_istore_n (x := fo) (lv' := [(2, .int (fo)), (5, .int (b5)), (4, .int (b4)), (3, .int (nI (1 + v_sz D))), (0, va_rf (some m9)), (1, .int (nI z9))]) C dX6_best_106 rfl hl (by decide) (q_k0 (q_kN 0 rfl (by decide) (by decide) (q_kN 1 rfl (by decide) (by decide) (q_kN 2 rfl (by decide) (by decide) (q_kN 4 rfl (by decide) (by decide) (q_kC 5 rfl (by decide) rfl q_kz)))))) (fun ls hl => ?_)
              have hs9 : v_suf z9 (D ++ [v]) (fo) := by
                exact hkeep
              refine lv_iload_n C.1 C.2.1 dX6_best_107 rfl (lv_at hl 3 rfl) ?_
              refine q_aload_n (r := some m9) C dX6_best_108 rfl (lv_at hl 4 rfl) ?_
              refine lv_iload_n C.1 C.2.1 dX6_best_109 rfl (lv_at hl 3 rfl) ?_
              refine q_ci hV (q_rV (b := m9) (As := [.int (nI (1 + v_sz D))]) (rest := [.int (nI (1 + v_sz D))]) C hV (c_Model_length l E S m9 sz9 ti9 n9 hM.1 (1 + v_sz D) hjb) wd_535 wd_532 wd_534 wd_34 wd_44 ok_X6_length ⟨rfl, rfl, Nat.le_of_ble_eq_true rfl, Nat.le_of_ble_eq_true rfl⟩ (q_rc5 hV hL_m9 hK_m9) rfl hl.1 rfl (q_sm (q_1c rfl q_1n) (Nat.le_of_ble_eq_true rfl)) dX6_best_110 ⟨Nat.le_of_ble_eq_true rfl, Nat.le_of_ble_eq_true rfl⟩) (fun i110 S110 H locs hp110 hV => ?_)
              obtain ⟨eS110, hp110⟩ := hp110
              rw [eS110] at hV
              rw [hlnv] at hp110
              subst hp110
              refine lv_iadd C.1 C.2.1 dX6_best_113 ?_
              refine q_istore_n (x := (nI (1 + v_sz D)) + (nI v.1)) (lv' := [(3, .int ((nI (1 + v_sz D)) + (nI v.1))), (2, .int (fo)), (5, .int (b5)), (4, .int (b4)), (0, va_rf (some m9)), (1, .int (nI z9))]) C dX6_best_114 rfl hl (by decide) (q_k0 (q_kC 0 rfl (by decide) rfl (q_kN 1 rfl (by decide) (by decide) (q_kN 2 rfl (by decide) (by decide) (q_kN 4 rfl (by decide) (by decide) (q_kN 5 rfl (by decide) (by decide) q_kz)))))) (fun ls hl => ?_)
              refine lv_goto (tgt := 4) C.1 C.2.1 dX6_best_115 (by decide) ?_
              exact ih _ _ (D ++ [v]) R2 H locs ls (by simp at hk; omega) hV (lv_sub hl [0, 1, 4, 5] rfl) (by rw [← hDR]; simp) (by rw [nI_add, v_sz_app]; exact congrArg nI (by simp only [v_sz]; omega)) hs9
            · have hnew : v_isb z9 D v [] := by
                rcases hb5 with ⟨-, h1⟩ | ⟨h1, -⟩
                · exact h1 hfit
                · exact absurd h1 c98
              refine lv_iload_n C.1 C.2.1 dX6_best_101 rfl (lv_at hl 2 rfl) ?_
              refine lv_goto (tgt := 106) C.1 C.2.1 dX6_best_102 (by decide) ?_
              refine q_istore_n (x := nI (1 + v_sz D)) (lv' := [(2, .int (nI (1 + v_sz D))), (5, .int (b5)), (4, .int (b4)), (3, .int (nI (1 + v_sz D))), (0, va_rf (some m9)), (1, .int (nI z9))]) C dX6_best_106 rfl hl (by decide) (q_k0 (q_kN 0 rfl (by decide) (by decide) (q_kN 1 rfl (by decide) (by decide) (q_kN 2 rfl (by decide) (by decide) (q_kN 4 rfl (by decide) (by decide) (q_kC 5 rfl (by decide) rfl q_kz)))))) (fun ls hl => ?_)
              have hs9 : v_suf z9 (D ++ [v]) (nI (1 + v_sz D)) := by
                exact Or.inr ⟨D, v, [], rfl, hnew, rfl⟩
              refine lv_iload_n C.1 C.2.1 dX6_best_107 rfl (lv_at hl 3 rfl) ?_
              refine q_aload_n (r := some m9) C dX6_best_108 rfl (lv_at hl 4 rfl) ?_
              refine lv_iload_n C.1 C.2.1 dX6_best_109 rfl (lv_at hl 3 rfl) ?_
              refine q_ci hV (q_rV (b := m9) (As := [.int (nI (1 + v_sz D))]) (rest := [.int (nI (1 + v_sz D))]) C hV (c_Model_length l E S m9 sz9 ti9 n9 hM.1 (1 + v_sz D) hjb) wd_535 wd_532 wd_534 wd_34 wd_44 ok_X6_length ⟨rfl, rfl, Nat.le_of_ble_eq_true rfl, Nat.le_of_ble_eq_true rfl⟩ (q_rc5 hV hL_m9 hK_m9) rfl hl.1 rfl (q_sm (q_1c rfl q_1n) (Nat.le_of_ble_eq_true rfl)) dX6_best_110 ⟨Nat.le_of_ble_eq_true rfl, Nat.le_of_ble_eq_true rfl⟩) (fun i110 S110 H locs hp110 hV => ?_)
              obtain ⟨eS110, hp110⟩ := hp110
              rw [eS110] at hV
              rw [hlnv] at hp110
              subst hp110
              refine lv_iadd C.1 C.2.1 dX6_best_113 ?_
              refine q_istore_n (x := (nI (1 + v_sz D)) + (nI v.1)) (lv' := [(3, .int ((nI (1 + v_sz D)) + (nI v.1))), (2, .int (nI (1 + v_sz D))), (5, .int (b5)), (4, .int (b4)), (0, va_rf (some m9)), (1, .int (nI z9))]) C dX6_best_114 rfl hl (by decide) (q_k0 (q_kC 0 rfl (by decide) rfl (q_kN 1 rfl (by decide) (by decide) (q_kN 2 rfl (by decide) (by decide) (q_kN 4 rfl (by decide) (by decide) (q_kN 5 rfl (by decide) (by decide) q_kz)))))) (fun ls hl => ?_)
              refine lv_goto (tgt := 4) C.1 C.2.1 dX6_best_115 (by decide) ?_
              exact ih _ _ (D ++ [v]) R2 H locs ls (by simp at hk; omega) hV (lv_sub hl [0, 1, 4, 5] rfl) (by rw [← hDR]; simp) (by rw [nI_add, v_sz_app]; exact congrArg nI (by simp only [v_sz]; omega)) hs9
        have J39a : ∀ (b4 : Int32) (H : Heap) (locs : List Loc) (ls : Array Slot), q_V E s S H locs → lv_has ls 6 [(4, .int (b4)), (3, .int (nI (1 + v_sz D))), (2, .int (0)), (0, va_rf (some m9)), (1, .int (nI z9))] → v_non z9 D → ((b4 = 1 ∧ v.2.1 = true ∧ z9 ≤ v.1) ∨ (b4 = 0 ∧ ¬ (v.2.1 = true ∧ z9 ≤ v.1))) → W p l e ({ frames := 1, cells := 0, slots := 0, locals := 24 } : Room) s m [.ref m9, .int (nI z9)].toArray below meth c H locs (0) (0) (MQ below (va_Qi (post) (q_B E) E.A) [.ref m9, .int (nI z9)].toArray s (0) (0) E.A) (F0 m 39 ls []) := by
          intro b4 H locs ls hV hl hn0 hb4
          refine lv_iload_n C.1 C.2.1 dX6_best_39 rfl (lv_at hl 2 rfl) ?_
          refine lv_if_eq (tgt := 84) C.1 C.2.1 dX6_best_40 (by decide) (fun c40 => ?_) (fun c40 => ?_)
          · refine lv_iconst (v := 1) C.1 C.2.1 dX6_best_84 (by decide) ?_
            refine lv_goto (tgt := 89) C.1 C.2.1 dX6_best_85 (by decide) ?_
            refine q_istore (x := 1) (lv' := [(5, .int (1)), (4, .int (b4)), (3, .int (nI (1 + v_sz D))), (2, .int (0)), (0, va_rf (some m9)), (1, .int (nI z9))]) C dX6_best_89 hl (by decide) (q_k0 (q_kC 0 rfl (by decide) rfl (q_kN 1 rfl (by decide) (by decide) (q_kN 2 rfl (by decide) (by decide) (q_kN 3 rfl (by decide) (by decide) (q_kN 4 rfl (by decide) (by decide) q_kz)))))) (fun ls hl => ?_)
            exact J91 1 b4 0 H locs ls hV hl (Or.inl ⟨rfl, hn0⟩) hb4 (Or.inl ⟨rfl, fun hf => v_suf_first hn0 hf.1 hf.2⟩)
          · exact absurd rfl c40
        have J39b : ∀ (b4 : Int32) (A B : v_V) (x : Nat × Bool × Nat) (H : Heap) (locs : List Loc) (ls : Array Slot), q_V E s S H locs → lv_has ls 6 [(4, .int (b4)), (3, .int (nI (1 + v_sz D))), (2, .int (nI (1 + v_sz A))), (0, va_rf (some m9)), (1, .int (nI z9))] → D = A ++ x :: B → v_isb z9 A x B → ((b4 = 1 ∧ v.2.1 = true ∧ z9 ≤ v.1) ∨ (b4 = 0 ∧ ¬ (v.2.1 = true ∧ z9 ≤ v.1))) → W p l e ({ frames := 1, cells := 0, slots := 0, locals := 24 } : Room) s m [.ref m9, .int (nI z9)].toArray below meth c H locs (0) (0) (MQ below (va_Qi (post) (q_B E) E.A) [.ref m9, .int (nI z9)].toArray s (0) (0) E.A) (F0 m 39 ls []) := by
          intro b4 A B x H locs ls hV hl hD hb hb4
          have hMx : q_M S m9 sz9 ti9 n9 f9 tm (A ++ x :: (B ++ v :: R2)) := by rw [show A ++ x :: (B ++ v :: R2) = D ++ v :: R2 from by rw [hD]; simp]; exact hMv
          obtain ⟨hAx, -, hTx, hx1, hszx, -⟩ := q_M_at hMx
          have hja : 1 + v_sz A < 16385 := by omega
          have hlnx : v_ln (S.A sz9 (1 + v_sz A)) = nI x.1 := by rw [hAx]; exact v_ln_sg hx1 (by omega)
          have hvV : v ∈ V := by rw [← hDR]; simp
          have hxV : x ∈ V := by rw [← hDR, hD]; simp
          refine lv_iload_n C.1 C.2.1 dX6_best_39 rfl (lv_at hl 2 rfl) ?_
          refine lv_if_eq (tgt := 84) C.1 C.2.1 dX6_best_40 (by decide) (fun c40 => ?_) (fun c40 => ?_)
          · exact absurd c40 (nI_ne0 (by omega) (by omega))
          · refine q_aload_n (r := some m9) C dX6_best_43 rfl (lv_at hl 3 rfl) ?_
            refine lv_iload_n C.1 C.2.1 dX6_best_44 rfl (lv_at hl 1 rfl) ?_
            refine q_ci hV (q_rV (b := m9) (As := [.int (nI (1 + v_sz D))]) (rest := []) C hV (c_Model_length l E S m9 sz9 ti9 n9 hM.1 (1 + v_sz D) hjb) wd_535 wd_532 wd_534 wd_34 wd_44 ok_X6_length ⟨rfl, rfl, Nat.le_of_ble_eq_true rfl, Nat.le_of_ble_eq_true rfl⟩ (q_rc5 hV hL_m9 hK_m9) rfl hl.1 rfl (q_sm q_1n (Nat.le_of_ble_eq_true rfl)) dX6_best_45 ⟨Nat.le_of_ble_eq_true rfl, Nat.le_of_ble_eq_true rfl⟩) (fun i45 S45 H locs hp45 hV => ?_)
            obtain ⟨eS45, hp45⟩ := hp45
            rw [eS45] at hV
            rw [hlnv] at hp45
            subst hp45
            refine q_aload_n (r := some m9) C dX6_best_48 rfl (lv_at hl 3 rfl) ?_
            refine lv_iload_n C.1 C.2.1 dX6_best_49 rfl (lv_at hl 2 rfl) ?_
            refine q_ci hV (q_rV (b := m9) (As := [.int (nI (1 + v_sz A))]) (rest := [.int (nI v.1)]) C hV (c_Model_length l E S m9 sz9 ti9 n9 hM.1 (1 + v_sz A) hja) wd_535 wd_532 wd_534 wd_34 wd_44 ok_X6_length ⟨rfl, rfl, Nat.le_of_ble_eq_true rfl, Nat.le_of_ble_eq_true rfl⟩ (q_rc5 hV hL_m9 hK_m9) rfl hl.1 rfl (q_sm (q_1c rfl q_1n) (Nat.le_of_ble_eq_true rfl)) dX6_best_50 ⟨Nat.le_of_ble_eq_true rfl, Nat.le_of_ble_eq_true rfl⟩) (fun i50 S50 H locs hp50 hV => ?_)
            obtain ⟨eS50, hp50⟩ := hp50
            rw [eS50] at hV
            rw [hlnx] at hp50
            subst hp50
            refine lv_icmp_lt (tgt := 84) C.1 C.2.1 dX6_best_53 (by decide) (fun c53 => ?_) (fun c53 => ?_)
            · have hlt : v.1 < x.1 := (nI_ltI (by omega) (by omega)).mp c53
              refine lv_iconst (v := 1) C.1 C.2.1 dX6_best_84 (by decide) ?_
              refine lv_goto (tgt := 89) C.1 C.2.1 dX6_best_85 (by decide) ?_
              refine q_istore (x := 1) (lv' := [(5, .int (1)), (4, .int (b4)), (3, .int (nI (1 + v_sz D))), (2, .int (nI (1 + v_sz A))), (0, va_rf (some m9)), (1, .int (nI z9))]) C dX6_best_89 hl (by decide) (q_k0 (q_kC 0 rfl (by decide) rfl (q_kN 1 rfl (by decide) (by decide) (q_kN 2 rfl (by decide) (by decide) (q_kN 3 rfl (by decide) (by decide) (q_kN 4 rfl (by decide) (by decide) q_kz)))))) (fun ls hl => ?_)
              exact J91 1 b4 (nI (1 + v_sz A)) H locs ls hV hl (Or.inr ⟨A, x, B, hD, hb, rfl⟩) hb4 (Or.inl ⟨rfl, fun hf => by rw [hD]; exact v_suf_new hb hf.1 hf.2 (Or.inl hlt)⟩)
            · have hge : x.1 ≤ v.1 := by
                rcases Nat.lt_or_ge v.1 x.1 with h | h
                · exact absurd (nI_lt h (by omega)) c53
                · exact h
              refine q_aload_n (r := some m9) C dX6_best_56 rfl (lv_at hl 3 rfl) ?_
              refine lv_iload_n C.1 C.2.1 dX6_best_57 rfl (lv_at hl 1 rfl) ?_
              refine q_ci hV (q_rV (b := m9) (As := [.int (nI (1 + v_sz D))]) (rest := []) C hV (c_Model_length l E S m9 sz9 ti9 n9 hM.1 (1 + v_sz D) hjb) wd_535 wd_532 wd_534 wd_34 wd_44 ok_X6_length ⟨rfl, rfl, Nat.le_of_ble_eq_true rfl, Nat.le_of_ble_eq_true rfl⟩ (q_rc5 hV hL_m9 hK_m9) rfl hl.1 rfl (q_sm q_1n (Nat.le_of_ble_eq_true rfl)) dX6_best_58 ⟨Nat.le_of_ble_eq_true rfl, Nat.le_of_ble_eq_true rfl⟩) (fun i58 S58 H locs hp58 hV => ?_)
              obtain ⟨eS58, hp58⟩ := hp58
              rw [eS58] at hV
              rw [hlnv] at hp58
              subst hp58
              refine q_aload_n (r := some m9) C dX6_best_61 rfl (lv_at hl 3 rfl) ?_
              refine lv_iload_n C.1 C.2.1 dX6_best_62 rfl (lv_at hl 2 rfl) ?_
              refine q_ci hV (q_rV (b := m9) (As := [.int (nI (1 + v_sz A))]) (rest := [.int (nI v.1)]) C hV (c_Model_length l E S m9 sz9 ti9 n9 hM.1 (1 + v_sz A) hja) wd_535 wd_532 wd_534 wd_34 wd_44 ok_X6_length ⟨rfl, rfl, Nat.le_of_ble_eq_true rfl, Nat.le_of_ble_eq_true rfl⟩ (q_rc5 hV hL_m9 hK_m9) rfl hl.1 rfl (q_sm (q_1c rfl q_1n) (Nat.le_of_ble_eq_true rfl)) dX6_best_63 ⟨Nat.le_of_ble_eq_true rfl, Nat.le_of_ble_eq_true rfl⟩) (fun i63 S63 H locs hp63 hV => ?_)
              obtain ⟨eS63, hp63⟩ := hp63
              rw [eS63] at hV
              rw [hlnx] at hp63
              subst hp63
              refine lv_icmp_ne (tgt := 88) C.1 C.2.1 dX6_best_66 (by decide) (fun c66 => ?_) (fun c66 => ?_)
              · have hgt : x.1 < v.1 := by
                  rcases Nat.lt_or_ge x.1 v.1 with h | h
                  · exact h
                  · exact absurd (congrArg nI (show v.1 = x.1 by omega)) c66
                refine lv_iconst (v := 0) C.1 C.2.1 dX6_best_88 (by decide) ?_
                refine q_istore (x := 0) (lv' := [(5, .int (0)), (4, .int (b4)), (3, .int (nI (1 + v_sz D))), (2, .int (nI (1 + v_sz A))), (0, va_rf (some m9)), (1, .int (nI z9))]) C dX6_best_89 hl (by decide) (q_k0 (q_kC 0 rfl (by decide) rfl (q_kN 1 rfl (by decide) (by decide) (q_kN 2 rfl (by decide) (by decide) (q_kN 3 rfl (by decide) (by decide) (q_kN 4 rfl (by decide) (by decide) q_kz)))))) (fun ls hl => ?_)
                exact J91 0 b4 (nI (1 + v_sz A)) H locs ls hV hl (Or.inr ⟨A, x, B, hD, hb, rfl⟩) hb4 (Or.inr ⟨rfl, fun hf => by rw [hD]; exact v_suf_keep hb (Or.inl hgt)⟩)
              · have heq : v.1 = x.1 := (nI_eq (by omega) (by omega)).mp c66
                refine q_aload_n (r := some m9) C dX6_best_69 rfl (lv_at hl 3 rfl) ?_
                refine g_Model_times C hV hL_m9 hK_m9 (Or.inl wd_488) dX6_best_70 ?_
                refine q_tr (v' := some ti9) (hR11) ?_
                refine lv_iload_n C.1 C.2.1 dX6_best_73 rfl (lv_at hl 1 rfl) ?_
                refine q_iald (j := 1 + v_sz D) C hV hL_ti9 hK_ti9 (rfl) (show 1 + v_sz D < S.N ti9 by rw [hNt]; exact hjb) (hN_ti9) dX6_best_74 ?_
                refine q_aload_n (r := some m9) C dX6_best_75 rfl (lv_at hl 3 rfl) ?_
                refine g_Model_times C hV hL_m9 hK_m9 (Or.inl wd_488) dX6_best_76 ?_
                refine q_tr (v' := some ti9) (hR11) ?_
                refine lv_iload_n C.1 C.2.1 dX6_best_79 rfl (lv_at hl 2 rfl) ?_
                refine q_iald (j := 1 + v_sz A) C hV hL_ti9 hK_ti9 (rfl) (show 1 + v_sz A < S.N ti9 by rw [hNt]; exact hja) (hN_ti9) dX6_best_80 ?_
                refine lv_icmp_le (tgt := 88) C.1 C.2.1 dX6_best_81 (by decide) (fun c81 => ?_) (fun c81 => ?_)
                · refine lv_iconst (v := 0) C.1 C.2.1 dX6_best_88 (by decide) ?_
                  refine q_istore (x := 0) (lv' := [(5, .int (0)), (4, .int (b4)), (3, .int (nI (1 + v_sz D))), (2, .int (nI (1 + v_sz A))), (0, va_rf (some m9)), (1, .int (nI z9))]) C dX6_best_89 hl (by decide) (q_k0 (q_kC 0 rfl (by decide) rfl (q_kN 1 rfl (by decide) (by decide) (q_kN 2 rfl (by decide) (by decide) (q_kN 3 rfl (by decide) (by decide) (q_kN 4 rfl (by decide) (by decide) q_kz)))))) (fun ls hl => ?_)
                  exact J91 0 b4 (nI (1 + v_sz A)) H locs ls hV hl (Or.inr ⟨A, x, B, hD, hb, rfl⟩) hb4 (Or.inr ⟨rfl, fun hf => by rw [hD]; exact v_suf_keep hb (Or.inr ⟨heq.symm, by have h9 := c81; rw [hTv hf.1, hTx hb.1] at h9; have h8 := (nI_leI (by have := hok.2.2.2.2.2.2; have := hok.2.2.2.2.1 v hvV hf.1; omega) (by have := hok.2.2.2.2.2.2; have := hok.2.2.2.2.1 x hxV hb.1; omega)).mp h9; have := v_dt_two hdt (by rw [← hD]; exact hDR) hb.1 hf.1 heq.symm (by have := hb.2.1; omega); omega⟩)⟩)
                · refine lv_iconst (v := 1) C.1 C.2.1 dX6_best_84 (by decide) ?_
                  refine lv_goto (tgt := 89) C.1 C.2.1 dX6_best_85 (by decide) ?_
                  refine q_istore (x := 1) (lv' := [(5, .int (1)), (4, .int (b4)), (3, .int (nI (1 + v_sz D))), (2, .int (nI (1 + v_sz A))), (0, va_rf (some m9)), (1, .int (nI z9))]) C dX6_best_89 hl (by decide) (q_k0 (q_kC 0 rfl (by decide) rfl (q_kN 1 rfl (by decide) (by decide) (q_kN 2 rfl (by decide) (by decide) (q_kN 3 rfl (by decide) (by decide) (q_kN 4 rfl (by decide) (by decide) q_kz)))))) (fun ls hl => ?_)
                  exact J91 1 b4 (nI (1 + v_sz A)) H locs ls hV hl (Or.inr ⟨A, x, B, hD, hb, rfl⟩) hb4 (Or.inl ⟨rfl, fun hf => by rw [hD]; exact v_suf_new hb hf.1 hf.2 (Or.inr ⟨heq, by have h9 := c81; rw [hTv hf.1, hTx hb.1] at h9; rcases Nat.lt_or_ge x.2.2 v.2.2 with h | h; exact h; exact absurd (nI_le h (by have := hok.2.2.2.2.2.2; have := hok.2.2.2.2.1 x hxV hb.1; omega)) h9⟩)⟩)
        refine q_aload_n (r := some m9) C dX6_best_12 rfl (lv_at hl 2 rfl) ?_
        refine g_Model_sizes C hV hL_m9 hK_m9 (Or.inl wd_487) dX6_best_13 ?_
        refine q_tr (v' := some sz9) (hR10) ?_
        refine lv_iload_n C.1 C.2.1 dX6_best_16 rfl (lv_at hl 0 rfl) ?_
        refine q_iald (j := 1 + v_sz D) C hV hL_sz9 hK_sz9 (rfl) (show 1 + v_sz D < S.N sz9 by rw [hNs]; exact hjb) (hN_sz9) dX6_best_17 ?_
        refine q_ti (v' := v_sg v) (hAv) ?_
        refine lv_bipush (v := (-3)) C.1 C.2.1 dX6_best_18 (by decide) ?_
        refine lv_icmp_gt (tgt := 36) C.1 C.2.1 dX6_best_20 (by decide) (fun c20 => ?_) (fun c20 => ?_)
        · have hnf : ¬ (v.2.1 = true ∧ z9 ≤ v.1) := fun hf => by
            have h9 := q_i_lt.mp c20
            rw [v_sg_t hf.1 (by omega), show (-3 : Int32).toInt = -3 from by decide] at h9
            omega
          refine lv_iconst (v := 0) C.1 C.2.1 dX6_best_36 (by decide) ?_
          refine q_istore (x := 0) (lv' := [(4, .int (0)), (3, .int (nI (1 + v_sz D))), (2, .int (fo)), (0, va_rf (some m9)), (1, .int (nI z9))]) C dX6_best_37 hl (by decide) (q_k0 (q_kC 0 rfl (by decide) rfl (q_kN 1 rfl (by decide) (by decide) (q_kN 2 rfl (by decide) (by decide) (q_kN 3 rfl (by decide) (by decide) q_kz))))) (fun ls hl => ?_)
          have hb4 : ((0 : Int32) = 1 ∧ v.2.1 = true ∧ z9 ≤ v.1) ∨ ((0 : Int32) = 0 ∧ ¬ (v.2.1 = true ∧ z9 ≤ v.1)) := Or.inr ⟨rfl, hnf⟩
          rcases hs with ⟨h0, hn0⟩ | ⟨A, x, B, hD, hb, h0⟩
          · subst h0
            exact J39a 0 H locs ls hV hl hn0 hb4
          · subst h0
            exact J39b 0 A B x H locs ls hV hl hD hb hb4
        · have hfr : v.2.1 = true := by
            cases hf : v.2.1 with
            | true => rfl
            | false => exact absurd (q_i_lt.mpr (by rw [v_sg_f hf (by omega), show (-3 : Int32).toInt = -3 from by decide]; omega)) c20
          refine q_aload_n (r := some m9) C dX6_best_23 rfl (lv_at hl 2 rfl) ?_
          refine lv_iload_n C.1 C.2.1 dX6_best_24 rfl (lv_at hl 0 rfl) ?_
          refine q_ci hV (q_rV (b := m9) (As := [.int (nI (1 + v_sz D))]) (rest := []) C hV (c_Model_length l E S m9 sz9 ti9 n9 hM.1 (1 + v_sz D) hjb) wd_535 wd_532 wd_534 wd_34 wd_44 ok_X6_length ⟨rfl, rfl, Nat.le_of_ble_eq_true rfl, Nat.le_of_ble_eq_true rfl⟩ (q_rc5 hV hL_m9 hK_m9) rfl hl.1 rfl (q_sm q_1n (Nat.le_of_ble_eq_true rfl)) dX6_best_25 ⟨Nat.le_of_ble_eq_true rfl, Nat.le_of_ble_eq_true rfl⟩) (fun i25 S25 H locs hp25 hV => ?_)
          obtain ⟨eS25, hp25⟩ := hp25
          rw [eS25] at hV
          rw [hlnv] at hp25
          subst hp25
          refine lv_iload_n C.1 C.2.1 dX6_best_28 rfl (lv_at hl 3 rfl) ?_
          refine lv_icmp_lt (tgt := 36) C.1 C.2.1 dX6_best_29 (by decide) (fun c29 => ?_) (fun c29 => ?_)
          · have hnf : ¬ (v.2.1 = true ∧ z9 ≤ v.1) := fun hf => absurd ((nI_ltI (by omega) (by omega)).mp c29) (by omega)
            refine lv_iconst (v := 0) C.1 C.2.1 dX6_best_36 (by decide) ?_
            refine q_istore (x := 0) (lv' := [(4, .int (0)), (3, .int (nI (1 + v_sz D))), (2, .int (fo)), (0, va_rf (some m9)), (1, .int (nI z9))]) C dX6_best_37 hl (by decide) (q_k0 (q_kC 0 rfl (by decide) rfl (q_kN 1 rfl (by decide) (by decide) (q_kN 2 rfl (by decide) (by decide) (q_kN 3 rfl (by decide) (by decide) q_kz))))) (fun ls hl => ?_)
            have hb4 : ((0 : Int32) = 1 ∧ v.2.1 = true ∧ z9 ≤ v.1) ∨ ((0 : Int32) = 0 ∧ ¬ (v.2.1 = true ∧ z9 ≤ v.1)) := Or.inr ⟨rfl, hnf⟩
            rcases hs with ⟨h0, hn0⟩ | ⟨A, x, B, hD, hb, h0⟩
            · subst h0
              exact J39a 0 H locs ls hV hl hn0 hb4
            · subst h0
              exact J39b 0 A B x H locs ls hV hl hD hb hb4
          · have hge : z9 ≤ v.1 := by
              rcases Nat.lt_or_ge v.1 z9 with h | h
              · exact absurd (nI_lt h (by omega)) c29
              · exact h
            refine lv_iconst (v := 1) C.1 C.2.1 dX6_best_32 (by decide) ?_
            refine lv_goto (tgt := 37) C.1 C.2.1 dX6_best_33 (by decide) ?_
            refine q_istore (x := 1) (lv' := [(4, .int (1)), (3, .int (nI (1 + v_sz D))), (2, .int (fo)), (0, va_rf (some m9)), (1, .int (nI z9))]) C dX6_best_37 hl (by decide) (q_k0 (q_kC 0 rfl (by decide) rfl (q_kN 1 rfl (by decide) (by decide) (q_kN 2 rfl (by decide) (by decide) (q_kN 3 rfl (by decide) (by decide) q_kz))))) (fun ls hl => ?_)
            have hb4 : ((1 : Int32) = 1 ∧ v.2.1 = true ∧ z9 ≤ v.1) ∨ ((1 : Int32) = 0 ∧ ¬ (v.2.1 = true ∧ z9 ≤ v.1)) := Or.inl ⟨rfl, hfr, hge⟩
            rcases hs with ⟨h0, hn0⟩ | ⟨A, x, B, hD, hb, h0⟩
            · subst h0
              exact J39a 1 H locs ls hV hl hn0 hb4
            · subst h0
              exact J39b 1 A B x H locs ls hV hl hD hb hb4
  refine lv_iconst (v := 0) C.1 C.2.1 dX6_best_0 (by decide) ?_
  refine q_istore_n (x := 0) (lv' := [(2, .int (0)), (0, va_rf (some m9)), (1, .int (nI z9))]) C dX6_best_1 rfl hl (by decide) (q_k0 (q_kN 0 rfl (by decide) (by decide) (q_kC 1 rfl (by decide) rfl q_kz))) (fun ls hl => ?_)
  refine lv_iconst (v := 1) C.1 C.2.1 dX6_best_2 (by decide) ?_
  refine q_istore_n (x := 1) (lv' := [(3, .int (1)), (2, .int (0)), (0, va_rf (some m9)), (1, .int (nI z9))]) C dX6_best_3 rfl hl (by decide) (q_k0 (q_kC 0 rfl (by decide) rfl (q_kN 1 rfl (by decide) (by decide) (q_kN 2 rfl (by decide) (by decide) q_kz)))) (fun ls hl => ?_)
  exact loop (V.length + 1) 1 0 [] V s.heap [] ls (Nat.lt_succ_self _) hV hl (List.nil_append _) (by decide) (Or.inl ⟨rfl, fun y hy => (nomatch hy)⟩)
theorem c_Model_best (l : Launch) (E : qE) (S : qS) (m9 sz9 ti9 n9 f9 tm : Nat) (V : v_V) (hM : q_M S m9 sz9 ti9 n9 f9 tm V) (z9 : Nat) (hz3 : 3 ≤ z9) (hz2 : z9 < 2 ^ 31) (hdt : v_dt V) : q_Mi l yX6_best cX6_best 6 .int { frames := 1, cells := 0, slots := 0, locals := 24 } E [.ref m9, .int (nI z9)] S (fun r S1 => S1 = S ∧ v_suf z9 V r) 0 0 := c0_Model_best l E S m9 sz9 ti9 n9 f9 tm V hM z9 hz3 hz2 hdt _ (fun _ _ h => h)

