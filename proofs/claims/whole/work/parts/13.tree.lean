/-! the tree of great rows, in order the list ns -/
def q_z (S : qS) (a : Nat) : Int := (S.I 4 a).toInt
def q_tree (S : qS) (t : Nat) (ns : List Nat) : Prop := t ∈ S.L ∧ S.K t = 3 ∧ (∃ k, q_bt (S.R 3) (S.R 4) k (S.R 7 t) ns) ∧ (∀ a ∈ ns, a ∈ S.L ∧ S.K a = 1) ∧ q_so (q_z S) ns
theorem q_bt_dec {le mo : Nat → Option Nat} {k a : Nat} {ns : List Nat} (h : q_bt le mo k (some a) ns) : ∃ (k' : Nat) (l1 l2 : List Nat), k = k' + 1 ∧ ns = l1 ++ a :: l2 ∧ q_bt le mo k' (le a) l1 ∧ q_bt le mo k' (mo a) l2 := by
  cases k with
  | zero => cases h.1
  | succ k =>
    rcases h with h | ⟨b, l1, l2, h1, h2, h3, h4⟩
    · cases h.1
    · have e : a = b := Option.some.inj h1
      subst e
      exact ⟨k, l1, l2, rfl, h2, h3, h4⟩
theorem q_i_le {a b : Int32} : a ≤ b ↔ a.toInt ≤ b.toInt := Int32.le_iff_toInt_le
theorem q_i_lt {a b : Int32} : a < b ↔ a.toInt < b.toInt := Int32.lt_iff_toInt_lt
theorem q_i_eq {a b : Int32} : a = b ↔ a.toInt = b.toInt := Int32.toInt_inj.symm
theorem q_find_no {z : Nat → Int} {c : Int} {l : List Nat} (h : ∀ b ∈ l, z b ≠ c) : l.find? (fun b => decide (z b = c)) = none := by
  rw [List.find?_eq_none]
  intro b hb
  simpa using h b hb
set_option maxHeartbeats 4000000 in
set_option maxRecDepth 100000 in
theorem c0_Tree_rowOf (l : Launch) (E : qE) (S : qS) (q : Nat) (n : Int32) (ns : List Nat) (ht : q_tree S q ns) (post : Option Nat → qS → Prop) (hpost : ∀ r S1, S1 = S ∧ r = ns.find? (fun a => decide (q_z S a = n.toInt)) → post r S1) : q_Mq l yX3_rowOf cX3_rowOf 3 (.object "ChunkShelf$Row") { frames := 0, cells := 0, slots := 0, locals := 0 } E [.ref q, .int n] S (post) 0 0 := by
  refine q_ofW1 (by decide) (q_1c rfl (q_1c rfl q_1n)) (Nat.le_of_ble_eq_true rfl) (fun p e s m below meth c C hV hr hlk hnm ls hl => ?_)
  have hl : lv_has ls 3 [(0, va_rf (some q)), (1, .int (n))] := hl
  obtain ⟨hL_q, hK_q, ⟨kd0, hb0⟩, hok, hso⟩ := ht
  have loop : ∀ (k : Nat) (kd : Nat) (row : Option Nat) (pre ms post_ : List Nat) (ls : Array Slot), kd < k → lv_has ls 3 [(2, va_rf (row)), (0, va_rf (some q)), (1, .int (n))] → q_bt (S.R 3) (S.R 4) kd row ms → ns = pre ++ ms ++ post_ → (∀ b ∈ pre, q_z S b < n.toInt) → (∀ b ∈ post_, n.toInt < q_z S b) → W p l e ({ frames := 0, cells := 0, slots := 0, locals := 0 } : Room) s m [.ref q, .int n].toArray below meth c s.heap [] (0) (0) (MQ below (va_Qq (post) (q_B E) E.A) [.ref q, .int n].toArray s (0) (0) E.A) (F0 m 5 ls []) := by
    intro k
    induction k with
    | zero => intro kd row pre ms post_ ls hk; exact absurd hk (Nat.not_lt_zero _)
    | succ k ih =>
      intro kd row pre ms post_ ls hk hl hb hns hpre hpo
      refine q_aload_n (r := row) C dX3_rowOf_5 rfl (lv_at hl 0 rfl) ?_
      refine q_ifnull (r := row) (tgt := 40) C dX3_rowOf_6 (by decide) (fun c6 => ?_) (fun x6 c6 => ?_)
      · subst c6
        refine q_aload_n (r := none) C dX3_rowOf_40 rfl (lv_at hl 0 rfl) ?_
        refine q_aret (r := none) C hV hr hlk (Nat.le_of_ble_eq_true rfl) (Nat.le_of_ble_eq_true rfl) dX3_rowOf_41 ?_
        refine hpost _ _ ⟨rfl, ?_⟩
        have e1 : ms = [] := q_bt_nil hb
        subst e1
        rw [hns, q_find_no]
        intro b hb9
        simp only [List.append_nil, List.mem_append] at hb9
        rcases hb9 with h | h
        · have := hpre b h; omega
        · have := hpo b h; omega
      · subst c6
        obtain ⟨kd', l1, l2, hkd, hms, hb1, hb2⟩ := q_bt_dec hb
        subst hms
        obtain ⟨hL_x6, hK_x6⟩ := hok x6 (by rw [hns]; simp)
        have hmid := q_so_mid (z := q_z S) (l1 := l1) (a := x6) (l2 := l2) (by have h := hso; rw [hns] at h; exact (List.pairwise_append.mp (List.pairwise_append.mp h).1).2.1)
        refine q_aload_n (r := some x6) C dX3_rowOf_9 rfl (lv_at hl 0 rfl) ?_
        refine g_Row_cells C hV hL_x6 hK_x6 (Or.inr ⟨_, wd_75⟩) dX3_rowOf_10 ?_
        refine lv_iload_n C.1 C.2.1 dX3_rowOf_13 rfl (lv_at hl 2 rfl) ?_
        refine lv_icmp_eq (tgt := 40) C.1 C.2.1 dX3_rowOf_14 (by decide) (fun c14 => ?_) (fun c14 => ?_)
        · refine q_aload_n (r := some x6) C dX3_rowOf_40 rfl (lv_at hl 0 rfl) ?_
          refine q_aret (r := some x6) C hV hr hlk (Nat.le_of_ble_eq_true rfl) (Nat.le_of_ble_eq_true rfl) dX3_rowOf_41 ?_
          refine hpost _ _ ⟨rfl, ?_⟩
          rw [hns, List.append_assoc, List.append_assoc, ← List.append_assoc pre]
          refine (q_find_eq (fun b hb9 => ?_) (q_i_eq.mp c14)).symm
          rcases List.mem_append.mp hb9 with h | h
          · have := hpre b h; omega
          · have h1 := hmid.1 b h; have h2 := q_i_eq.mp c14; have h3 : q_z S x6 = (S.I 4 x6).toInt := rfl; omega
        · refine lv_iload_n C.1 C.2.1 dX3_rowOf_17 rfl (lv_at hl 2 rfl) ?_
          refine q_aload_n (r := some x6) C dX3_rowOf_18 rfl (lv_at hl 0 rfl) ?_
          refine g_Row_cells C hV hL_x6 hK_x6 (Or.inr ⟨_, wd_75⟩) dX3_rowOf_19 ?_
          refine lv_icmp_ge (tgt := 32) C.1 C.2.1 dX3_rowOf_22 (by decide) (fun c22 => ?_) (fun c22 => ?_)
          · refine q_aload_n (r := some x6) C dX3_rowOf_32 rfl (lv_at hl 0 rfl) ?_
            refine g_Row_more C hV hL_x6 hK_x6 (Or.inr ⟨_, wd_81⟩) dX3_rowOf_33 ?_
            refine q_nr (fun r33 h33 => ?_)
            refine q_astore_n (r := r33) (lv' := [(2, va_rf (r33)), (0, va_rf (some q)), (1, .int (n))]) C dX3_rowOf_36 rfl hl (by decide) (q_k0 (q_kN 1 rfl (by decide) (by decide) (q_kC 2 rfl (by decide) rfl q_kz))) (fun ls hl => ?_)
            refine lv_goto (tgt := 5) C.1 C.2.1 dX3_rowOf_37 (by decide) ?_
            exact ih kd' r33 (pre ++ (l1 ++ [x6])) l2 post_ ls (by omega) hl (by rw [h33]; exact hb2) (by rw [hns]; simp [List.append_assoc]) (fun b hb => by
              have hz : q_z S x6 < n.toInt := by have h1 := q_i_le.mp c22; have h2 := mt q_i_eq.mpr c14; show (S.I 4 x6).toInt < n.toInt; omega
              rcases List.mem_append.mp hb with h | h
              · exact hpre b h
              · rcases List.mem_append.mp h with h | h
                · have := hmid.1 b h; omega
                · rw [List.mem_singleton.mp h]; exact hz) hpo
          · refine q_aload_n (r := some x6) C dX3_rowOf_25 rfl (lv_at hl 0 rfl) ?_
            refine g_Row_less C hV hL_x6 hK_x6 (Or.inr ⟨_, wd_79⟩) dX3_rowOf_26 ?_
            refine q_nr (fun r26 h26 => ?_)
            refine lv_goto (tgt := 36) C.1 C.2.1 dX3_rowOf_29 (by decide) ?_
            refine q_astore_n (r := r26) (lv' := [(2, va_rf (r26)), (0, va_rf (some q)), (1, .int (n))]) C dX3_rowOf_36 rfl hl (by decide) (q_k0 (q_kN 1 rfl (by decide) (by decide) (q_kC 2 rfl (by decide) rfl q_kz))) (fun ls hl => ?_)
            refine lv_goto (tgt := 5) C.1 C.2.1 dX3_rowOf_37 (by decide) ?_
            exact ih kd' r26 pre l1 (x6 :: l2 ++ post_) ls (by omega) hl (by rw [h26]; exact hb1) (by rw [hns]; simp [List.append_assoc]) hpre (fun b hb => by
              have hz : n.toInt < q_z S x6 := by have := mt q_i_le.mpr c22; show n.toInt < (S.I 4 x6).toInt; omega
              rcases List.mem_append.mp hb with h | h
              · rcases List.mem_cons.mp h with rfl | h
                · exact hz
                · have := hmid.2 b h; omega
              · exact hpo b h)
  refine q_aload_n (r := some q) C dX3_rowOf_0 rfl (lv_at hl 0 rfl) ?_
  refine g_Tree_root C hV hL_q hK_q (Or.inl wd_107) dX3_rowOf_1 ?_
  refine q_nr (fun r1 h1 => ?_)
  refine q_astore_n (r := r1) (lv' := [(2, va_rf (r1)), (0, va_rf (some q)), (1, .int (n))]) C dX3_rowOf_4 rfl hl (by decide) (q_k0 (q_kN 0 rfl (by decide) (by decide) (q_kC 1 rfl (by decide) rfl q_kz))) (fun ls hl => ?_)
  exact loop (kd0 + 1) kd0 r1 [] ns [] ls (Nat.lt_succ_self _) hl (by rw [h1]; exact hb0) (by simp) (fun _ h => nomatch h) (fun _ h => nomatch h)
theorem c_Tree_rowOf (l : Launch) (E : qE) (S : qS) (q : Nat) (n : Int32) (ns : List Nat) (ht : q_tree S q ns) : q_Mq l yX3_rowOf cX3_rowOf 3 (.object "ChunkShelf$Row") { frames := 0, cells := 0, slots := 0, locals := 0 } E [.ref q, .int n] S (fun r S1 => S1 = S ∧ r = ns.find? (fun a => decide (q_z S a = n.toInt))) 0 0 := c0_Tree_rowOf l E S q n ns ht _ (fun _ _ h => h)

set_option maxHeartbeats 4000000 in
set_option maxRecDepth 100000 in
theorem c0_Tree_leastFrom (l : Launch) (E : qE) (S : qS) (q : Nat) (n : Int32) (ns : List Nat) (ht : q_tree S q ns) (post : Option Nat → qS → Prop) (hpost : ∀ r S1, S1 = S ∧ r = ns.find? (fun a => decide (n.toInt ≤ q_z S a)) → post r S1) : q_Mq l yX3_leastFrom cX3_leastFrom 4 (.object "ChunkShelf$Row") { frames := 0, cells := 0, slots := 0, locals := 0 } E [.ref q, .int n] S (post) 0 0 := by
  refine q_ofW1 (by decide) (q_1c rfl (q_1c rfl q_1n)) (Nat.le_of_ble_eq_true rfl) (fun p e s m below meth c C hV hr hlk hnm ls hl => ?_)
  have hl : lv_has ls 4 [(0, va_rf (some q)), (1, .int (n))] := hl
  obtain ⟨hL_q, hK_q, ⟨kd0, hb0⟩, hok, hso⟩ := ht
  have loop : ∀ (k : Nat) (kd : Nat) (row best : Option Nat) (pre ms post_ : List Nat) (ls : Array Slot), kd < k → lv_has ls 4 [(3, va_rf (row)), (2, va_rf (best)), (0, va_rf (some q)), (1, .int (n))] → q_bt (S.R 3) (S.R 4) kd row ms → ns = pre ++ ms ++ post_ → (∀ b ∈ pre, q_z S b < n.toInt) → (∀ b ∈ post_, n.toInt ≤ q_z S b) → best = post_.head? → W p l e ({ frames := 0, cells := 0, slots := 0, locals := 0 } : Room) s m [.ref q, .int n].toArray below meth c s.heap [] (0) (0) (MQ below (va_Qq (post) (q_B E) E.A) [.ref q, .int n].toArray s (0) (0) E.A) (F0 m 7 ls []) := by
    intro k
    induction k with
    | zero => intro kd row best pre ms post_ ls hk; exact absurd hk (Nat.not_lt_zero _)
    | succ k ih =>
      intro kd row best pre ms post_ ls hk hl hb hns hpre hpo hbe
      refine q_aload_n (r := row) C dX3_leastFrom_7 rfl (lv_at hl 0 rfl) ?_
      refine q_ifnull (r := row) (tgt := 37) C dX3_leastFrom_8 (by decide) (fun c8 => ?_) (fun x8 c8 => ?_)
      · subst c8
        refine q_aload_n (r := best) C dX3_leastFrom_37 rfl (lv_at hl 1 rfl) ?_
        refine q_aret (r := best) C hV hr hlk (Nat.le_of_ble_eq_true rfl) (Nat.le_of_ble_eq_true rfl) dX3_leastFrom_38 ?_
        refine hpost _ _ ⟨rfl, ?_⟩
        have e1 : ms = [] := q_bt_nil hb
        subst e1
        rw [hns, List.append_nil, q_find_ge hpre hpo, hbe]
      · subst c8
        obtain ⟨kd', l1, l2, hkd, hms, hb1, hb2⟩ := q_bt_dec hb
        subst hms
        obtain ⟨hL_x8, hK_x8⟩ := hok x8 (by rw [hns]; simp)
        have hmid := q_so_mid (z := q_z S) (l1 := l1) (a := x8) (l2 := l2) (by have h := hso; rw [hns] at h; exact (List.pairwise_append.mp (List.pairwise_append.mp h).1).2.1)
        refine q_aload_n (r := some x8) C dX3_leastFrom_11 rfl (lv_at hl 0 rfl) ?_
        refine g_Row_cells C hV hL_x8 hK_x8 (Or.inr ⟨_, wd_75⟩) dX3_leastFrom_12 ?_
        refine lv_iload_n C.1 C.2.1 dX3_leastFrom_15 rfl (lv_at hl 3 rfl) ?_
        refine lv_icmp_lt (tgt := 29) C.1 C.2.1 dX3_leastFrom_16 (by decide) (fun c16 => ?_) (fun c16 => ?_)
        · refine q_aload_n (r := some x8) C dX3_leastFrom_29 rfl (lv_at hl 0 rfl) ?_
          refine g_Row_more C hV hL_x8 hK_x8 (Or.inr ⟨_, wd_81⟩) dX3_leastFrom_30 ?_
          refine q_nr (fun r30 h30 => ?_)
          refine q_astore_n (r := r30) (lv' := [(3, va_rf (r30)), (2, va_rf (best)), (0, va_rf (some q)), (1, .int (n))]) C dX3_leastFrom_33 rfl hl (by decide) (q_k0 (q_kC 1 rfl (by decide) (q_cat _) (q_kN 2 rfl (by decide) (by decide) (q_kN 3 rfl (by decide) (by decide) q_kz)))) (fun ls hl => ?_)
          refine lv_goto (tgt := 7) C.1 C.2.1 dX3_leastFrom_34 (by decide) ?_
          exact ih kd' r30 best (pre ++ (l1 ++ [x8])) l2 post_ ls (by omega) hl (by rw [h30]; exact hb2) (by rw [hns]; simp [List.append_assoc]) (fun b hb => by
            have hz : q_z S x8 < n.toInt := q_i_lt.mp c16
            rcases List.mem_append.mp hb with h | h
            · exact hpre b h
            · rcases List.mem_append.mp h with h | h
              · have := hmid.1 b h; omega
              · rw [List.mem_singleton.mp h]; exact hz) hpo hbe
        · refine q_aload_n (r := some x8) C dX3_leastFrom_19 rfl (lv_at hl 0 rfl) ?_
          refine q_astore_n (r := some x8) (lv' := [(2, va_rf (some x8)), (3, va_rf (some x8)), (0, va_rf (some q)), (1, .int (n))]) C dX3_leastFrom_20 rfl hl (by decide) (q_k0 (q_kN 0 rfl (by decide) (by decide) (q_kN 2 rfl (by decide) (by decide) (q_kC 3 rfl (by decide) rfl q_kz)))) (fun ls hl => ?_)
          refine q_aload_n (r := some x8) C dX3_leastFrom_21 rfl (lv_at hl 1 rfl) ?_
          refine g_Row_less C hV hL_x8 hK_x8 (Or.inr ⟨_, wd_79⟩) dX3_leastFrom_22 ?_
          refine q_nr (fun r22 h22 => ?_)
          refine q_astore_n (r := r22) (lv' := [(3, va_rf (r22)), (2, va_rf (some x8)), (0, va_rf (some q)), (1, .int (n))]) C dX3_leastFrom_25 rfl hl (by decide) (q_k0 (q_kC 0 rfl (by decide) (q_cat _) (q_kN 2 rfl (by decide) (by decide) (q_kN 3 rfl (by decide) (by decide) q_kz)))) (fun ls hl => ?_)
          refine lv_goto (tgt := 7) C.1 C.2.1 dX3_leastFrom_26 (by decide) ?_
          exact ih kd' r22 (some x8) pre l1 (x8 :: l2 ++ post_) ls (by omega) hl (by rw [h22]; exact hb1) (by rw [hns]; simp [List.append_assoc]) hpre (fun b hb => by
            have hz : n.toInt ≤ q_z S x8 := by have := mt q_i_lt.mpr c16; show n.toInt ≤ (S.I 4 x8).toInt; omega
            rcases List.mem_append.mp hb with h | h
            · rcases List.mem_cons.mp h with rfl | h
              · exact hz
              · have := hmid.2 b h; omega
            · exact hpo b h) rfl
  refine lv_null C.1 C.2.1 dX3_leastFrom_0 ?_
  refine q_astore_n (r := none) (lv' := [(2, va_rf (none)), (0, va_rf (some q)), (1, .int (n))]) C dX3_leastFrom_1 rfl hl (by decide) (q_k0 (q_kN 0 rfl (by decide) (by decide) (q_kC 1 rfl (by decide) rfl q_kz))) (fun ls hl => ?_)
  refine q_aload_n (r := some q) C dX3_leastFrom_2 rfl (lv_at hl 1 rfl) ?_
  refine g_Tree_root C hV hL_q hK_q (Or.inl wd_107) dX3_leastFrom_3 ?_
  refine q_nr (fun r3 h3 => ?_)
  refine q_astore_n (r := r3) (lv' := [(3, va_rf (r3)), (2, va_rf (none)), (0, va_rf (some q)), (1, .int (n))]) C dX3_leastFrom_6 rfl hl (by decide) (q_k0 (q_kC 0 rfl (by decide) (q_cat _) (q_kN 1 rfl (by decide) (by decide) (q_kN 2 rfl (by decide) (by decide) q_kz)))) (fun ls hl => ?_)
  exact loop (kd0 + 1) kd0 r3 none [] ns [] ls (Nat.lt_succ_self _) hl (by rw [h3]; exact hb0) (by simp) (fun _ h => nomatch h) (fun _ h => nomatch h) rfl
theorem c_Tree_leastFrom (l : Launch) (E : qE) (S : qS) (q : Nat) (n : Int32) (ns : List Nat) (ht : q_tree S q ns) : q_Mq l yX3_leastFrom cX3_leastFrom 4 (.object "ChunkShelf$Row") { frames := 0, cells := 0, slots := 0, locals := 0 } E [.ref q, .int n] S (fun r S1 => S1 = S ∧ r = ns.find? (fun a => decide (n.toInt ≤ q_z S a))) 0 0 := c0_Tree_leastFrom l E S q n ns ht _ (fun _ _ h => h)

/-- where parentFor ends: par, and what hangs below it on the side of c -/
def q_place (S : qS) (q : Nat) (c : Int) (ns : List Nat) (par : Option Nat) : Prop := ∃ (row : Option Nat) (pre ms post_ : List Nat) (kd : Nat), ns = pre ++ ms ++ post_ ∧ (∀ b ∈ pre, q_z S b < c) ∧ (∀ b ∈ post_, c < q_z S b) ∧ q_cx (S.R 3) (S.R 4) (q_z S) c (S.R 7 q) par pre post_ ∧ q_side (S.R 3) (S.R 4) (q_z S) c (S.R 7 q) par = row ∧ q_bt (S.R 3) (S.R 4) kd row ms ∧ (row = none ∨ ∃ a, row = some a ∧ q_z S a = c)
set_option maxHeartbeats 4000000 in
set_option maxRecDepth 100000 in
theorem c0_Tree_parentFor (l : Launch) (E : qE) (S : qS) (q : Nat) (n : Int32) (ns : List Nat) (ht : q_tree S q ns) (post : Option Nat → qS → Prop) (hpost : ∀ r S1, S1 = S ∧ q_place S q n.toInt ns r → post r S1) : q_Mq l yX3_parentFor cX3_parentFor 4 (.object "ChunkShelf$Row") { frames := 0, cells := 0, slots := 0, locals := 0 } E [.ref q, .int n] S (post) 0 0 := by
  refine q_ofW1 (by decide) (q_1c rfl (q_1c rfl q_1n)) (Nat.le_of_ble_eq_true rfl) (fun p e s m below meth c C hV hr hlk hnm ls hl => ?_)
  have hl : lv_has ls 4 [(0, va_rf (some q)), (1, .int (n))] := hl
  obtain ⟨hL_q, hK_q, ⟨kd0, hb0⟩, hok, hso⟩ := ht
  have loop : ∀ (k : Nat) (kd : Nat) (row par : Option Nat) (pre ms post_ : List Nat) (ls : Array Slot), kd < k → lv_has ls 4 [(3, va_rf (row)), (2, va_rf (par)), (0, va_rf (some q)), (1, .int (n))] → q_bt (S.R 3) (S.R 4) kd row ms → ns = pre ++ ms ++ post_ → (∀ b ∈ pre, q_z S b < n.toInt) → (∀ b ∈ post_, n.toInt < q_z S b) → q_cx (S.R 3) (S.R 4) (q_z S) n.toInt (S.R 7 q) par pre post_ → q_side (S.R 3) (S.R 4) (q_z S) n.toInt (S.R 7 q) par = row → W p l e ({ frames := 0, cells := 0, slots := 0, locals := 0 } : Room) s m [.ref q, .int n].toArray below meth c s.heap [] (0) (0) (MQ below (va_Qq (post) (q_B E) E.A) [.ref q, .int n].toArray s (0) (0) E.A) (F0 m 7 ls []) := by
    intro k
    induction k with
    | zero => intro kd row par pre ms post_ ls hk; exact absurd hk (Nat.not_lt_zero _)
    | succ k ih =>
      intro kd row par pre ms post_ ls hk hl hb hns hpre hpo hcx hsd
      refine q_aload_n (r := row) C dX3_parentFor_7 rfl (lv_at hl 0 rfl) ?_
      refine q_ifnull (r := row) (tgt := 44) C dX3_parentFor_8 (by decide) (fun c8 => ?_) (fun x8 c8 => ?_)
      · subst c8
        refine q_aload_n (r := par) C dX3_parentFor_44 rfl (lv_at hl 1 rfl) ?_
        refine q_aret (r := par) C hV hr hlk (Nat.le_of_ble_eq_true rfl) (Nat.le_of_ble_eq_true rfl) dX3_parentFor_45 ?_
        exact hpost _ _ ⟨rfl, none, pre, ms, post_, kd, hns, hpre, hpo, hcx, hsd, hb, Or.inl rfl⟩
      · subst c8
        have hb_ := hb
        obtain ⟨kd', l1, l2, hkd, hms, hb1, hb2⟩ := q_bt_dec hb
        obtain ⟨hL_x8, hK_x8⟩ := hok x8 (by rw [hns, hms]; simp)
        refine q_aload_n (r := some x8) C dX3_parentFor_11 rfl (lv_at hl 0 rfl) ?_
        refine g_Row_cells C hV hL_x8 hK_x8 (Or.inr ⟨_, wd_75⟩) dX3_parentFor_12 ?_
        refine lv_iload_n C.1 C.2.1 dX3_parentFor_15 rfl (lv_at hl 3 rfl) ?_
        refine lv_icmp_eq (tgt := 44) C.1 C.2.1 dX3_parentFor_16 (by decide) (fun c16 => ?_) (fun c16 => ?_)
        · refine q_aload_n (r := par) C dX3_parentFor_44 rfl (lv_at hl 1 rfl) ?_
          refine q_aret (r := par) C hV hr hlk (Nat.le_of_ble_eq_true rfl) (Nat.le_of_ble_eq_true rfl) dX3_parentFor_45 ?_
          exact hpost _ _ ⟨rfl, some x8, pre, ms, post_, kd, hns, hpre, hpo, hcx, hsd, hb, Or.inr ⟨x8, rfl, q_i_eq.mp c16⟩⟩
        · subst hms
          have hmid := q_so_mid (z := q_z S) (l1 := l1) (a := x8) (l2 := l2) (by have h := hso; rw [hns] at h; exact (List.pairwise_append.mp (List.pairwise_append.mp h).1).2.1)
          refine q_aload_n (r := some x8) C dX3_parentFor_19 rfl (lv_at hl 0 rfl) ?_
          refine q_astore_n (r := some x8) (lv' := [(2, va_rf (some x8)), (3, va_rf (some x8)), (0, va_rf (some q)), (1, .int (n))]) C dX3_parentFor_20 rfl hl (by decide) (q_k0 (q_kN 0 rfl (by decide) (by decide) (q_kN 2 rfl (by decide) (by decide) (q_kC 3 rfl (by decide) rfl q_kz)))) (fun ls hl => ?_)
          refine lv_iload_n C.1 C.2.1 dX3_parentFor_21 rfl (lv_at hl 3 rfl) ?_
          refine q_aload_n (r := some x8) C dX3_parentFor_22 rfl (lv_at hl 1 rfl) ?_
          refine g_Row_cells C hV hL_x8 hK_x8 (Or.inr ⟨_, wd_75⟩) dX3_parentFor_23 ?_
          refine lv_icmp_ge (tgt := 36) C.1 C.2.1 dX3_parentFor_26 (by decide) (fun c26 => ?_) (fun c26 => ?_)
          · refine q_aload_n (r := some x8) C dX3_parentFor_36 rfl (lv_at hl 1 rfl) ?_
            refine g_Row_more C hV hL_x8 hK_x8 (Or.inr ⟨_, wd_81⟩) dX3_parentFor_37 ?_
            refine q_nr (fun r37 h37 => ?_)
            refine q_astore_n (r := r37) (lv' := [(3, va_rf (r37)), (2, va_rf (some x8)), (0, va_rf (some q)), (1, .int (n))]) C dX3_parentFor_40 rfl hl (by decide) (q_k0 (q_kC 0 rfl (by decide) (q_cat _) (q_kN 2 rfl (by decide) (by decide) (q_kN 3 rfl (by decide) (by decide) q_kz)))) (fun ls hl => ?_)
            refine lv_goto (tgt := 7) C.1 C.2.1 dX3_parentFor_41 (by decide) ?_
            have hz : q_z S x8 < n.toInt := by have h1 := q_i_le.mp c26; have h2 := mt q_i_eq.mpr c16; show (S.I 4 x8).toInt < n.toInt; omega
            exact ih kd' r37 (some x8) (pre ++ (l1 ++ [x8])) l2 post_ ls (by omega) hl (by rw [h37]; exact hb2) (by rw [hns]; simp [List.append_assoc]) (fun b hb => by
              rcases List.mem_append.mp hb with h | h
              · exact hpre b h
              · rcases List.mem_append.mp h with h | h
                · have := hmid.1 b h; omega
                · rw [List.mem_singleton.mp h]; exact hz) hpo (q_cx_mo hcx hsd (by omega) hb1 (by have h := q_so_nodup hso; rw [hns] at h; exact h)) (by simp only [q_side]; rw [if_neg (by omega), h37])
          · refine q_aload_n (r := some x8) C dX3_parentFor_29 rfl (lv_at hl 1 rfl) ?_
            refine g_Row_less C hV hL_x8 hK_x8 (Or.inr ⟨_, wd_79⟩) dX3_parentFor_30 ?_
            refine q_nr (fun r30 h30 => ?_)
            refine lv_goto (tgt := 40) C.1 C.2.1 dX3_parentFor_33 (by decide) ?_
            refine q_astore_n (r := r30) (lv' := [(3, va_rf (r30)), (2, va_rf (some x8)), (0, va_rf (some q)), (1, .int (n))]) C dX3_parentFor_40 rfl hl (by decide) (q_k0 (q_kC 0 rfl (by decide) (q_cat _) (q_kN 2 rfl (by decide) (by decide) (q_kN 3 rfl (by decide) (by decide) q_kz)))) (fun ls hl => ?_)
            refine lv_goto (tgt := 7) C.1 C.2.1 dX3_parentFor_41 (by decide) ?_
            have hz : n.toInt < q_z S x8 := by have := mt q_i_le.mpr c26; show n.toInt < (S.I 4 x8).toInt; omega
            exact ih kd' r30 (some x8) pre l1 (x8 :: l2 ++ post_) ls (by omega) hl (by rw [h30]; exact hb1) (by rw [hns]; simp [List.append_assoc]) hpre (fun b hb => by
              rcases List.mem_append.mp hb with h | h
              · rcases List.mem_cons.mp h with rfl | h
                · exact hz
                · have := hmid.2 b h; omega
              · exact hpo b h) (q_cx_le hcx hsd hz hb2 (by have h := q_so_nodup hso; rw [hns] at h; exact h)) (by simp only [q_side]; rw [if_pos hz, h30])
  refine lv_null C.1 C.2.1 dX3_parentFor_0 ?_
  refine q_astore_n (r := none) (lv' := [(2, va_rf (none)), (0, va_rf (some q)), (1, .int (n))]) C dX3_parentFor_1 rfl hl (by decide) (q_k0 (q_kN 0 rfl (by decide) (by decide) (q_kC 1 rfl (by decide) rfl q_kz))) (fun ls hl => ?_)
  refine q_aload_n (r := some q) C dX3_parentFor_2 rfl (lv_at hl 1 rfl) ?_
  refine g_Tree_root C hV hL_q hK_q (Or.inl wd_107) dX3_parentFor_3 ?_
  refine q_nr (fun r3 h3 => ?_)
  refine q_astore_n (r := r3) (lv' := [(3, va_rf (r3)), (2, va_rf (none)), (0, va_rf (some q)), (1, .int (n))]) C dX3_parentFor_6 rfl hl (by decide) (q_k0 (q_kC 0 rfl (by decide) (q_cat _) (q_kN 1 rfl (by decide) (by decide) (q_kN 2 rfl (by decide) (by decide) q_kz)))) (fun ls hl => ?_)
  exact loop (kd0 + 1) kd0 r3 none [] ns [] ls (Nat.lt_succ_self _) hl (by rw [h3]; exact hb0) (by simp) (fun _ h => nomatch h) (fun _ h => nomatch h) q_cx_0 (by simp only [q_side]; rw [h3])
theorem c_Tree_parentFor (l : Launch) (E : qE) (S : qS) (q : Nat) (n : Int32) (ns : List Nat) (ht : q_tree S q ns) : q_Mq l yX3_parentFor cX3_parentFor 4 (.object "ChunkShelf$Row") { frames := 0, cells := 0, slots := 0, locals := 0 } E [.ref q, .int n] S (fun r S1 => S1 = S ∧ q_place S q n.toInt ns r) 0 0 := c0_Tree_parentFor l E S q n ns ht _ (fun _ _ h => h)

