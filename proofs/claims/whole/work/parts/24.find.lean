/-! VALUES: the same list without the objects -/
def v_sz : List (Nat × Bool × Nat) → Nat
  | [] => 0
  | v :: V => v.1 + v_sz V
theorem v_sz_vl : ∀ (P : List q_X), v_sz (q_vl P) = q_sz P := by
  intro P
  induction P with
  | nil => rfl
  | cons x P ih => show x.2.1 + v_sz (q_vl P) = _; rw [ih]; rfl
theorem v_sz_app (A B : List (Nat × Bool × Nat)) : v_sz (A ++ B) = v_sz A + v_sz B := by
  induction A with
  | nil => simp [v_sz]
  | cons x A ih => simp only [List.cons_append, v_sz, ih]; omega
/-- one cell is in one piece -/
theorem q_in_uniq : ∀ {A A' B B' : List q_X} {x x' : q_X} {v : Nat}, A ++ x :: B = A' ++ x' :: B' → q_sz A ≤ v → v < q_sz A + x.2.1 → q_sz A' ≤ v → v < q_sz A' + x'.2.1 → A = A' ∧ x = x' ∧ B = B' := by
  intro A
  induction A with
  | nil =>
    intro A' B B' x x' v h h1 h2 h3 h4
    cases A' with
    | nil => simp at h; exact ⟨rfl, h.1, h.2⟩
    | cons y t =>
      simp at h
      obtain ⟨rfl, h5⟩ := h
      simp only [q_sz] at h2 h3
      omega
  | cons y t ih =>
    intro A' B B' x x' v h h1 h2 h3 h4
    cases A' with
    | nil =>
      simp at h
      obtain ⟨rfl, h5⟩ := h
      simp only [q_sz] at h1 h4
      omega
    | cons y' t' =>
      simp at h
      obtain ⟨rfl, h5⟩ := h
      simp only [q_sz] at h1 h2 h3 h4
      obtain ⟨e1, e2, e3⟩ := ih (v := v - y.2.1) h5 (by omega) (by omega) (by omega) (by omega)
      exact ⟨by rw [e1], e2, e3⟩
theorem q_pok_at {S : qS} {A B : List q_X} {x : q_X} (h : q_pcs S 1 (A ++ x :: B)) : q_pok S (1 + q_sz A) x := (q_pcs_app.mp h).2.1
set_option maxHeartbeats 4000000 in
set_option maxRecDepth 100000 in
theorem c0_Shelf_greatestFree (l : Launch) (E : qE) (S : qS) (c9 n9 : Nat) (P9 : List q_X) (hln : q_line S c9 n9 P9) (post : Int32 → qS → Prop) (hpost : ∀ r S1, (S1 = S ∧ r = nI (q_mx (q_vl P9))) → post r S1) : q_Mi l yX5_greatestFree cX5_greatestFree 3 .int { frames := 0, cells := 0, slots := 0, locals := 0 } E [.ref c9] S (post) 0 0 := by
  refine q_ofW1 (by decide) (q_1c rfl q_1n) (Nat.le_of_ble_eq_true rfl) (fun p e s m below meth c C hV hr hlk hnm ls hl => ?_)
  have hl : lv_has ls 3 [(0, va_rf (some c9))] := hl
  obtain ⟨hL_c9, hK_c9, hn9, hch9, hpc9, hsz9, hle9, hpos9⟩ := id hln
  have loop : ∀ (k : Nat) (ac : Int32) (pp : Option Nat) (k9 : Nat) (R : List q_X) (a9 : Nat) (ls : Array Slot), R.length < k → lv_has ls 3 [(2, va_rf (pp)), (1, .int (ac)), (0, va_rf (some c9))] → q_ch (S.R 0) pp (q_ad R) → q_pcs S a9 R → ac = nI k9 → max k9 (q_mx (q_vl R)) = q_mx (q_vl P9) → (∀ x ∈ R, x ∈ P9) → k9 < 2 ^ 31 → W p l e ({ frames := 0, cells := 0, slots := 0, locals := 0 } : Room) s m [.ref c9].toArray below meth c s.heap [] (0) (0) (MQ below (va_Qi (post) (q_B E) E.A) [.ref c9].toArray s (0) (0) E.A) (F0 m 7 ls []) := by
    intro k
    induction k with
    | zero => intro ac pp k9 R a9 ls hk; exact absurd hk (Nat.not_lt_zero _)
    | succ k ih =>
      intro ac pp k9 R a9 ls hk hl hch hpc hac hcn hmem hkb
      refine q_aload_n (r := pp) C dX5_greatestFree_7 rfl (lv_at hl 0 rfl) ?_
      refine q_ifnull (r := pp) (tgt := 39) C dX5_greatestFree_8 (by decide) (fun c8 => ?_) (fun x8 c8 => ?_)
      · subst c8
        refine lv_iload_n C.1 C.2.1 dX5_greatestFree_39 rfl (lv_at hl 1 rfl) ?_
        refine q_iret (v := ac) C hV hr hlk (Nat.le_of_ble_eq_true rfl) (Nat.le_of_ble_eq_true rfl) dX5_greatestFree_40 ?_
        have hR : R = [] := by cases R with | nil => rfl | cons y t => exact nomatch hch.1
        subst hR
        refine hpost _ _ ⟨rfl, ?_⟩
        rw [hac, ← hcn]
        exact congrArg nI (Nat.max_zero k9).symm
      · subst c8
        obtain ⟨y, R9, rfl, hy, hch2⟩ : ∃ y R9, R = y :: R9 ∧ y.1 = x8 ∧ q_ch (S.R 0) (S.R 0 x8) (q_ad R9) := by
          cases R with
          | nil => exact nomatch (show some x8 = none from hch)
          | cons y t => have e := Option.some.inj hch.1; exact ⟨y, t, rfl, e.symm, by have h2 := hch.2; rw [← e] at h2; exact h2⟩
        subst hy
        have hpc2 := hpc
        obtain ⟨hL_y, hK_y, hAt, hCe, hFr, -⟩ := hpc.1
        have hy1 := q_sz_mem (hmem y List.mem_cons_self)
        refine q_aload_n (r := some y.1) C dX5_greatestFree_11 rfl (lv_at hl 0 rfl) ?_
        refine g_Piece_isFree C hV hL_y hK_y (Or.inr ⟨_, wd_142⟩) dX5_greatestFree_12 ?_
        refine q_ti (v' := q_fl y.2.2.1) (hFr) ?_
        refine lv_if_eq (tgt := 31) C.1 C.2.1 dX5_greatestFree_15 (by decide) (fun c15 => ?_) (fun c15 => ?_)
        · refine q_aload_n (r := some y.1) C dX5_greatestFree_31 rfl (lv_at hl 0 rfl) ?_
          refine g_Piece_behind C hV hL_y hK_y (Or.inr ⟨_, wd_146⟩) dX5_greatestFree_32 ?_
          refine q_nr (fun r32 h32 => ?_)
          refine q_astore_n (r := r32) (lv' := [(2, va_rf (r32)), (1, .int (ac)), (0, va_rf (some c9))]) C dX5_greatestFree_35 rfl hl (by decide) (q_k0 (q_kC 1 rfl (by decide) rfl (q_kN 2 rfl (by decide) (by decide) q_kz))) (fun ls hl => ?_)
          refine lv_goto (tgt := 7) C.1 C.2.1 dX5_greatestFree_36 (by decide) ?_
          subst h32
          refine ih _ (S.R 0 y.1) k9 R9 (a9 + y.2.1) ls (by simp at hk; omega) (lv_sub hl [0, 1, 2] rfl) hch2 hpc2.2 hac ?_ (fun x hx => hmem x (List.mem_cons_of_mem _ hx)) (by omega)
          have hcn2 : max k9 (max (if y.2.2.1 then y.2.1 else 0) (q_mx (q_vl R9))) = q_mx (q_vl P9) := hcn
          rw [q_fl0.mp c15] at hcn2
          rw [← hcn2]
          simp
        · refine q_aload_n (r := some y.1) C dX5_greatestFree_18 rfl (lv_at hl 0 rfl) ?_
          refine g_Piece_cells C hV hL_y hK_y (Or.inr ⟨_, wd_139⟩) dX5_greatestFree_19 ?_
          refine q_ti (v' := nI y.2.1) (hCe) ?_
          refine lv_iload_n C.1 C.2.1 dX5_greatestFree_22 rfl (lv_at hl 1 rfl) ?_
          refine lv_icmp_le (tgt := 31) C.1 C.2.1 dX5_greatestFree_23 (by decide) (fun c23 => ?_) (fun c23 => ?_)
          · refine q_aload_n (r := some y.1) C dX5_greatestFree_31 rfl (lv_at hl 0 rfl) ?_
            refine g_Piece_behind C hV hL_y hK_y (Or.inr ⟨_, wd_146⟩) dX5_greatestFree_32 ?_
            refine q_nr (fun r32 h32 => ?_)
            refine q_astore_n (r := r32) (lv' := [(2, va_rf (r32)), (1, .int (ac)), (0, va_rf (some c9))]) C dX5_greatestFree_35 rfl hl (by decide) (q_k0 (q_kC 1 rfl (by decide) rfl (q_kN 2 rfl (by decide) (by decide) q_kz))) (fun ls hl => ?_)
            refine lv_goto (tgt := 7) C.1 C.2.1 dX5_greatestFree_36 (by decide) ?_
            subst h32
            refine ih _ (S.R 0 y.1) k9 R9 (a9 + y.2.1) ls (by simp at hk; omega) (lv_sub hl [0, 1, 2] rfl) hch2 hpc2.2 hac ?_ (fun x hx => hmem x (List.mem_cons_of_mem _ hx)) (by omega)
            have hcn2 : max k9 (max (if y.2.2.1 then y.2.1 else 0) (q_mx (q_vl R9))) = q_mx (q_vl P9) := hcn
            have hbt : y.2.2.1 = true := by cases hbb : y.2.2.1 with | true => rfl | false => exact absurd (show q_fl y.2.2.1 = 0 by rw [hbb]; rfl) c15
            rw [hbt, if_pos rfl] at hcn2
            rw [← hcn2]
            have h9 : y.2.1 ≤ k9 := by have h8 := c23; rw [hac] at h8; exact (nI_leI (by omega) (by omega)).mp h8
            omega
          · refine q_aload_n (r := some y.1) C dX5_greatestFree_26 rfl (lv_at hl 0 rfl) ?_
            refine g_Piece_cells C hV hL_y hK_y (Or.inr ⟨_, wd_139⟩) dX5_greatestFree_27 ?_
            refine q_ti (v' := nI y.2.1) (hCe) ?_
            refine q_istore_n (x := nI y.2.1) (lv' := [(1, .int (nI y.2.1)), (2, va_rf (some y.1)), (0, va_rf (some c9))]) C dX5_greatestFree_30 rfl hl (by decide) (q_k0 (q_kN 0 rfl (by decide) (by decide) (q_kC 2 rfl (by decide) (q_cat _) q_kz))) (fun ls hl => ?_)
            refine q_aload_n (r := some y.1) C dX5_greatestFree_31 rfl (lv_at hl 1 rfl) ?_
            refine g_Piece_behind C hV hL_y hK_y (Or.inr ⟨_, wd_146⟩) dX5_greatestFree_32 ?_
            refine q_nr (fun r32 h32 => ?_)
            refine q_astore_n (r := r32) (lv' := [(2, va_rf (r32)), (1, .int (nI y.2.1)), (0, va_rf (some c9))]) C dX5_greatestFree_35 rfl hl (by decide) (q_k0 (q_kC 0 rfl (by decide) rfl (q_kN 2 rfl (by decide) (by decide) q_kz))) (fun ls hl => ?_)
            refine lv_goto (tgt := 7) C.1 C.2.1 dX5_greatestFree_36 (by decide) ?_
            subst h32
            refine ih _ (S.R 0 y.1) y.2.1 R9 (a9 + y.2.1) ls (by simp at hk; omega) (lv_sub hl [0, 1, 2] rfl) hch2 hpc2.2 rfl ?_ (fun x hx => hmem x (List.mem_cons_of_mem _ hx)) (by omega)
            have hcn2 : max k9 (max (if y.2.2.1 then y.2.1 else 0) (q_mx (q_vl R9))) = q_mx (q_vl P9) := hcn
            have hbt : y.2.2.1 = true := by cases hbb : y.2.2.1 with | true => rfl | false => exact absurd (show q_fl y.2.2.1 = 0 by rw [hbb]; rfl) c15
            rw [hbt, if_pos rfl] at hcn2
            rw [← hcn2]
            have h9 : ¬ y.2.1 ≤ k9 := fun h7 => c23 (by rw [hac]; exact (nI_leI (by omega) (by omega)).mpr h7)
            omega
  refine lv_iconst (v := 0) C.1 C.2.1 dX5_greatestFree_0 (by decide) ?_
  refine q_istore_n (x := 0) (lv' := [(1, .int (0)), (0, va_rf (some c9))]) C dX5_greatestFree_1 rfl hl (by decide) (q_k0 (q_kC 0 rfl (by decide) (q_cat _) q_kz)) (fun ls hl => ?_)
  refine q_aload_n (r := some c9) C dX5_greatestFree_2 rfl (lv_at hl 1 rfl) ?_
  refine g_Shelf_lowest C hV hL_c9 hK_c9 (Or.inl wd_193) dX5_greatestFree_3 ?_
  refine q_nr (fun r3 h3 => ?_)
  refine q_astore_n (r := r3) (lv' := [(2, va_rf (r3)), (1, .int (0)), (0, va_rf (some c9))]) C dX5_greatestFree_6 rfl hl (by decide) (q_k0 (q_kC 0 rfl (by decide) rfl (q_kN 1 rfl (by decide) (by decide) q_kz))) (fun ls hl => ?_)
  exact loop (P9.length + 1) 0 r3 0 P9 1 ls (Nat.lt_succ_self _) hl (by rw [h3]; exact hch9) hpc9 nI_0.symm (Nat.zero_max _) (fun x hx => hx) (by omega)
theorem c_Shelf_greatestFree (l : Launch) (E : qE) (S : qS) (c9 n9 : Nat) (P9 : List q_X) (hln : q_line S c9 n9 P9) : q_Mi l yX5_greatestFree cX5_greatestFree 3 .int { frames := 0, cells := 0, slots := 0, locals := 0 } E [.ref c9] S (fun r S1 => S1 = S ∧ r = nI (q_mx (q_vl P9))) 0 0 := c0_Shelf_greatestFree l E S c9 n9 P9 hln _ (fun _ _ h => h)

set_option maxHeartbeats 4000000 in
set_option maxRecDepth 100000 in
theorem c0_Shelf_holding (l : Launch) (E : qE) (S : qS) (c9 n9 : Nat) (P9 : List q_X) (hln : q_line S c9 n9 P9) (hn1 : 1 ≤ n9) (a : Int32) (post : Option Nat → qS → Prop) (hpost : ∀ r S1, (S1 = S ∧ (((a.toInt < 1 ∨ n9 < a.toInt) ∧ r = none) ∨ ∃ A x B, P9 = A ++ x :: B ∧ r = some x.1 ∧ 1 ≤ a.toInt ∧ (1 + q_sz A : Int) ≤ a.toInt ∧ a.toInt < 1 + q_sz A + x.2.1)) → post r S1) : q_Mq l yX5_holding cX5_holding 4 (.object "ChunkShelf$Piece") { frames := 0, cells := 0, slots := 0, locals := 0 } E [.ref c9, .int a] S (post) 0 0 := by
  refine q_ofW1 (by decide) (q_1c rfl (q_1c rfl q_1n)) (Nat.le_of_ble_eq_true rfl) (fun p e s m below meth c C hV hr hlk hnm ls hl => ?_)
  have hl : lv_has ls 4 [(0, va_rf (some c9)), (1, .int (a))] := hl
  obtain ⟨hL_c9, hK_c9, hn9, hch9, hpc9, hsz9, hle9, hpos9⟩ := id hln
  have h1i : (1 : Int32).toInt = 1 := by decide
  have hni : (nI n9).toInt = n9 := nI_toInt (by omega)
  have loop : 1 ≤ a.toInt → a.toInt ≤ n9 → ∀ (k : Nat) (pp fnd : Option Nat) (A R : List q_X) (ls : Array Slot), R.length < k → lv_has ls 4 [(3, va_rf (pp)), (2, va_rf (fnd)), (0, va_rf (some c9)), (1, .int (a))] → q_ch (S.R 0) pp (q_ad R) → P9 = A ++ R → (A = [] ∨ ∃ A1 x, A = A1 ++ [x] ∧ fnd = some x.1 ∧ (1 + q_sz A1 : Int) ≤ a.toInt) → W p l e ({ frames := 0, cells := 0, slots := 0, locals := 0 } : Room) s m [.ref c9, .int a].toArray below meth c s.heap [] (0) (0) (MQ below (va_Qq (post) (q_B E) E.A) [.ref c9, .int a].toArray s (0) (0) E.A) (F0 m 25 ls []) := by
    intro ha1 ha2 k
    induction k with
    | zero => intro pp fnd A R ls hk; exact absurd hk (Nat.not_lt_zero _)
    | succ k ih =>
      intro pp fnd A R ls hk hl hch hsp hfd
      refine q_aload_n (r := pp) C dX5_holding_25 rfl (lv_at hl 0 rfl) ?_
      refine q_ifnull (r := pp) (tgt := 47) C dX5_holding_26 (by decide) (fun c26 => ?_) (fun x26 c26 => ?_)
      · subst c26
        refine q_aload_n (r := fnd) C dX5_holding_47 rfl (lv_at hl 1 rfl) ?_
        refine q_aret (r := fnd) C hV hr hlk (Nat.le_of_ble_eq_true rfl) (Nat.le_of_ble_eq_true rfl) dX5_holding_48 ?_
        have hR : R = [] := by cases R with | nil => rfl | cons y t => exact nomatch hch.1
        subst hR
        rw [List.append_nil] at hsp
        rcases hfd with rfl | ⟨A1, x, rfl, rfl, hle⟩
        · rw [hsp] at hsz9; simp only [q_sz] at hsz9; omega
        · refine hpost _ _ ⟨rfl, Or.inr ⟨A1, x, [], hsp, rfl, ha1, hle, ?_⟩⟩
          rw [hsp, q_sz_app] at hsz9
          simp only [q_sz] at hsz9
          omega
      · subst c26
        obtain ⟨y, R9, rfl, hy, hch2⟩ : ∃ y R9, R = y :: R9 ∧ y.1 = x26 ∧ q_ch (S.R 0) (S.R 0 x26) (q_ad R9) := by
          cases R with
          | nil => exact nomatch (show some x26 = none from hch)
          | cons y t => have e := Option.some.inj hch.1; exact ⟨y, t, rfl, e.symm, by have h2 := hch.2; rw [← e] at h2; exact h2⟩
        subst hy
        have hyok := q_pok_at (S := S) (A := A) (B := R9) (x := y) (by rw [← hsp]; exact hpc9)
        obtain ⟨hL_y, hK_y, hAt, hCe, hFr, -⟩ := hyok
        have hszA : q_sz A + q_sz (y :: R9) = n9 := by rw [← q_sz_app, ← hsp]; exact hsz9
        refine q_aload_n (r := some y.1) C dX5_holding_29 rfl (lv_at hl 0 rfl) ?_
        refine g_Piece_at C hV hL_y hK_y (Or.inr ⟨_, wd_137⟩) dX5_holding_30 ?_
        refine q_ti (v' := nI (1 + q_sz A)) (hAt) ?_
        refine lv_iload_n C.1 C.2.1 dX5_holding_33 rfl (lv_at hl 3 rfl) ?_
        refine lv_icmp_gt (tgt := 47) C.1 C.2.1 dX5_holding_34 (by decide) (fun c34 => ?_) (fun c34 => ?_)
        · refine q_aload_n (r := fnd) C dX5_holding_47 rfl (lv_at hl 1 rfl) ?_
          refine q_aret (r := fnd) C hV hr hlk (Nat.le_of_ble_eq_true rfl) (Nat.le_of_ble_eq_true rfl) dX5_holding_48 ?_
          have hgt : a.toInt < 1 + q_sz A := by have h9 := q_i_lt.mp c34; rw [nI_toInt (by omega)] at h9; omega
          rcases hfd with rfl | ⟨A1, x, rfl, rfl, hle⟩
          · simp only [q_sz] at hgt; omega
          · refine hpost _ _ ⟨rfl, Or.inr ⟨A1, x, y :: R9, by rw [hsp]; simp [List.append_assoc], rfl, ha1, hle, ?_⟩⟩
            rw [q_sz_app] at hgt
            simp only [q_sz] at hgt
            omega
        · refine q_aload_n (r := some y.1) C dX5_holding_37 rfl (lv_at hl 0 rfl) ?_
          refine q_astore_n (r := some y.1) (lv' := [(2, va_rf (some y.1)), (3, va_rf (some y.1)), (0, va_rf (some c9)), (1, .int (a))]) C dX5_holding_38 rfl hl (by decide) (q_k0 (q_kN 0 rfl (by decide) (by decide) (q_kN 2 rfl (by decide) (by decide) (q_kC 3 rfl (by decide) rfl q_kz)))) (fun ls hl => ?_)
          refine q_aload_n (r := some y.1) C dX5_holding_39 rfl (lv_at hl 1 rfl) ?_
          refine g_Piece_behind C hV hL_y hK_y (Or.inr ⟨_, wd_146⟩) dX5_holding_40 ?_
          refine q_nr (fun r40 h40 => ?_)
          refine q_astore_n (r := r40) (lv' := [(3, va_rf (r40)), (2, va_rf (some y.1)), (0, va_rf (some c9)), (1, .int (a))]) C dX5_holding_43 rfl hl (by decide) (q_k0 (q_kC 0 rfl (by decide) (q_cat _) (q_kN 2 rfl (by decide) (by decide) (q_kN 3 rfl (by decide) (by decide) q_kz)))) (fun ls hl => ?_)
          refine lv_goto (tgt := 25) C.1 C.2.1 dX5_holding_44 (by decide) ?_
          subst h40
          exact ih (S.R 0 y.1) (some y.1) (A ++ [y]) R9 ls (by simp at hk; omega) hl hch2 (by rw [hsp]; simp [List.append_assoc]) (Or.inr ⟨A, y, rfl, rfl, by have h9 := q_i_le.mp (Int32.not_lt.mp c34); rw [nI_toInt (by omega)] at h9; omega⟩)
  refine lv_iload_n C.1 C.2.1 dX5_holding_0 rfl (lv_at hl 1 rfl) ?_
  refine lv_iconst (v := 1) C.1 C.2.1 dX5_holding_1 (by decide) ?_
  refine lv_icmp_lt (tgt := 13) C.1 C.2.1 dX5_holding_2 (by decide) (fun c2 => ?_) (fun c2 => ?_)
  · refine lv_null C.1 C.2.1 dX5_holding_13 ?_
    refine q_aret (r := none) C hV hr hlk (Nat.le_of_ble_eq_true rfl) (Nat.le_of_ble_eq_true rfl) dX5_holding_14 ?_
    refine hpost _ _ ⟨rfl, Or.inl ⟨?_, rfl⟩⟩
    first
      | (have h9 := q_i_lt.mp c2; rw [h1i] at h9; omega)
      | (have h9 := mt q_i_le.mpr c10; rw [hni] at h9; omega)
  · refine lv_iload_n C.1 C.2.1 dX5_holding_5 rfl (lv_at hl 1 rfl) ?_
    refine q_aload_n (r := some c9) C dX5_holding_6 rfl (lv_at hl 0 rfl) ?_
    refine g_Shelf_cellCount C hV hL_c9 hK_c9 (Or.inl wd_194) dX5_holding_7 ?_
    refine q_ti (v' := nI n9) (hn9) ?_
    refine lv_icmp_le (tgt := 15) C.1 C.2.1 dX5_holding_10 (by decide) (fun c10 => ?_) (fun c10 => ?_)
    · refine q_aload_n (r := some c9) C dX5_holding_15 rfl (lv_at hl 0 rfl) ?_
      refine g_Shelf_lowest C hV hL_c9 hK_c9 (Or.inl wd_193) dX5_holding_16 ?_
      refine q_nr (fun r16 h16 => ?_)
      refine q_astore_n (r := r16) (lv' := [(2, va_rf (r16)), (0, va_rf (some c9)), (1, .int (a))]) C dX5_holding_19 rfl hl (by decide) (q_k0 (q_kN 0 rfl (by decide) (by decide) (q_kC 1 rfl (by decide) rfl q_kz))) (fun ls hl => ?_)
      refine q_aload_n (r := some c9) C dX5_holding_20 rfl (lv_at hl 1 rfl) ?_
      refine g_Shelf_lowest C hV hL_c9 hK_c9 (Or.inl wd_193) dX5_holding_21 ?_
      refine q_nr (fun r21 h21 => ?_)
      refine q_astore_n (r := r21) (lv' := [(3, va_rf (r21)), (2, va_rf (r16)), (0, va_rf (some c9)), (1, .int (a))]) C dX5_holding_24 rfl hl (by decide) (q_k0 (q_kC 0 rfl (by decide) (q_cat _) (q_kN 1 rfl (by decide) (by decide) (q_kN 2 rfl (by decide) (by decide) q_kz)))) (fun ls hl => ?_)
      have ha1 : 1 ≤ a.toInt := by have h9 := mt q_i_lt.mpr c2; rw [h1i] at h9; omega
      have ha2 : a.toInt ≤ n9 := by have h9 := q_i_le.mp c10; rw [hni] at h9; omega
      exact loop ha1 ha2 (P9.length + 1) r21 r16 [] P9 ls (Nat.lt_succ_self _) hl (by rw [h21]; exact hch9) rfl (Or.inl rfl)
    · refine lv_null C.1 C.2.1 dX5_holding_13 ?_
      refine q_aret (r := none) C hV hr hlk (Nat.le_of_ble_eq_true rfl) (Nat.le_of_ble_eq_true rfl) dX5_holding_14 ?_
      refine hpost _ _ ⟨rfl, Or.inl ⟨?_, rfl⟩⟩
      first
        | (have h9 := q_i_lt.mp c2; rw [h1i] at h9; omega)
        | (have h9 := mt q_i_le.mpr c10; rw [hni] at h9; omega)
theorem c_Shelf_holding (l : Launch) (E : qE) (S : qS) (c9 n9 : Nat) (P9 : List q_X) (hln : q_line S c9 n9 P9) (hn1 : 1 ≤ n9) (a : Int32) : q_Mq l yX5_holding cX5_holding 4 (.object "ChunkShelf$Piece") { frames := 0, cells := 0, slots := 0, locals := 0 } E [.ref c9, .int a] S (fun r S1 => S1 = S ∧ (((a.toInt < 1 ∨ n9 < a.toInt) ∧ r = none) ∨ ∃ A x B, P9 = A ++ x :: B ∧ r = some x.1 ∧ 1 ≤ a.toInt ∧ (1 + q_sz A : Int) ≤ a.toInt ∧ a.toInt < 1 + q_sz A + x.2.1)) 0 0 := c0_Shelf_holding l E S c9 n9 P9 hln hn1 a _ (fun _ _ h => h)

