/-! FAULTS: the rows one after another -/
def q_l1 (rows : Nat → List Nat) : Nat → List Nat
  | 0 => []
  | i + 1 => q_l1 rows i ++ rows (i + 3)
def q_l2 (rows : Nat → List Nat) (zf : Nat → Nat) : List Nat → List Nat
  | [] => []
  | r :: ns => rows (zf r) ++ q_l2 rows zf ns
set_option maxHeartbeats 4000000 in
set_option maxRecDepth 100000 in
theorem c0_Shelves_piecesIn (l : Launch) (E : qE) (S : qS) (r9 m9 : Nat) (l9 : List Nat) (hL_r9 : r9 ∈ S.L) (hK_r9 : S.K r9 = 1) (hc : q_ch (S.R 1) (S.R 2 r9) l9) (hok : ∀ a ∈ l9, a ∈ S.L ∧ S.K a = 0) (hm : l9.length ≤ m9) (hm2 : m9 < 2 ^ 31) (post : Int32 → qS → Prop) (hpost : ∀ r S1, (S1 = S ∧ r = nI l9.length) → post r S1) : q_Mi l yX2_piecesIn cX2_piecesIn 4 .int { frames := 0, cells := 0, slots := 0, locals := 0 } E [.ref r9, .int (nI m9)] S (post) 0 0 := by
  refine q_ofW1 (by decide) (q_1c rfl (q_1c rfl q_1n)) (Nat.le_of_ble_eq_true rfl) (fun p e s m below meth c C hV hr hlk hnm ls hl => ?_)
  have hl : lv_has ls 4 [(0, va_rf (some r9)), (1, .int (nI m9))] := hl
  have loop : ∀ (k : Nat) (pp : Option Nat) (i : Int32) (j : Nat) (rest : List Nat) (ls : Array Slot), rest.length < k → lv_has ls 4 [(3, va_rf (pp)), (2, .int (i)), (0, va_rf (some r9)), (1, .int (nI m9))] → q_ch (S.R 1) pp rest → i = nI j → j + rest.length = l9.length → (∀ a ∈ rest, a ∈ S.L ∧ S.K a = 0) → W p l e ({ frames := 0, cells := 0, slots := 0, locals := 0 } : Room) s m [.ref r9, .int (nI m9)].toArray below meth c s.heap [] (0) (0) (MQ below (va_Qi (post) (q_B E) E.A) [.ref r9, .int (nI m9)].toArray s (0) (0) E.A) (F0 m 7 ls []) := by
    intro k
    induction k with
    | zero => intro pp i j rest ls hk; exact absurd hk (Nat.not_lt_zero _)
    | succ k ih =>
      intro pp i j rest ls hk hl hch hi hj hok9
      refine q_aload_n (r := pp) C dX2_piecesIn_7 rfl (lv_at hl 0 rfl) ?_
      refine q_ifnull (r := pp) (tgt := 27) C dX2_piecesIn_8 (by decide) (fun c8 => ?_) (fun x8 c8 => ?_)
      · subst c8
        refine lv_iload_n C.1 C.2.1 dX2_piecesIn_27 rfl (lv_at hl 1 rfl) ?_
        refine q_iret (v := i) C hV hr hlk (Nat.le_of_ble_eq_true rfl) (Nat.le_of_ble_eq_true rfl) dX2_piecesIn_28 ?_
        have hre : rest = [] := by cases rest with
          | nil => rfl
          | cons a tl => exact nomatch hch.1
        refine hpost _ _ ⟨rfl, ?_⟩
        rw [hi, show j = l9.length from by rw [hre] at hj; simpa using hj]
      · subst c8
        obtain ⟨tl, rfl, hch2⟩ : ∃ tl, rest = x8 :: tl ∧ q_ch (S.R 1) (S.R 1 x8) tl := by
          cases rest with
          | nil => exact nomatch (show some x8 = none from hch)
          | cons a tl => cases hch.1; exact ⟨tl, rfl, hch.2⟩
        obtain ⟨hL_x8, hK_x8⟩ := hok9 x8 List.mem_cons_self
        refine lv_iload_n C.1 C.2.1 dX2_piecesIn_11 rfl (lv_at hl 1 rfl) ?_
        refine lv_iload_n C.1 C.2.1 dX2_piecesIn_12 rfl (lv_at hl 3 rfl) ?_
        refine lv_icmp_ge (tgt := 27) C.1 C.2.1 dX2_piecesIn_13 (by decide) (fun c13 => ?_) (fun c13 => ?_)
        · exfalso
          exact absurd (hi ▸ c13) (nI_ge (by simp at hj; omega) (by omega))
        · obtain ⟨i16, e16⟩ : ∃ y : Int32, y = i + 1 := ⟨_, rfl⟩
          refine q_iinc (v := i16) (k := 1) (lv' := [(2, .int (i16)), (3, va_rf (some x8)), (0, va_rf (some r9)), (1, .int (nI m9))]) C dX2_piecesIn_16 hl rfl (by rw [e16]; rfl) (by decide) (q_k0 (q_kN 0 rfl (by decide) (by decide) (q_kN 2 rfl (by decide) (by decide) (q_kC 3 rfl (by decide) rfl q_kz)))) (fun ls hl => ?_)
          refine q_aload_n (r := some x8) C dX2_piecesIn_19 rfl (lv_at hl 1 rfl) ?_
          refine g_Piece_older C hV hL_x8 hK_x8 (Or.inr ⟨_, wd_148⟩) dX2_piecesIn_20 ?_
          refine q_nr (fun r20 h20 => ?_)
          refine q_astore_n (r := r20) (lv' := [(3, va_rf (r20)), (2, .int (i16)), (0, va_rf (some r9)), (1, .int (nI m9))]) C dX2_piecesIn_23 rfl hl (by decide) (q_k0 (q_kC 0 rfl (by decide) rfl (q_kN 2 rfl (by decide) (by decide) (q_kN 3 rfl (by decide) (by decide) q_kz)))) (fun ls hl => ?_)
          refine lv_goto (tgt := 7) C.1 C.2.1 dX2_piecesIn_24 (by decide) ?_
          subst h20
          exact ih (S.R 1 x8) i16 (j + 1) tl ls (by simp at hk; omega) hl hch2 (by rw [e16, hi]; exact nI_1 j) (by simp at hj; omega) (fun a ha => hok9 a (List.mem_cons_of_mem _ ha))
  refine lv_iconst (v := 0) C.1 C.2.1 dX2_piecesIn_0 (by decide) ?_
  refine q_istore_n (x := 0) (lv' := [(2, .int (0)), (0, va_rf (some r9)), (1, .int (nI m9))]) C dX2_piecesIn_1 rfl hl (by decide) (q_k0 (q_kN 0 rfl (by decide) (by decide) (q_kC 1 rfl (by decide) rfl q_kz))) (fun ls hl => ?_)
  refine q_aload_n (r := some r9) C dX2_piecesIn_2 rfl (lv_at hl 1 rfl) ?_
  refine g_Row_latest C hV hL_r9 hK_r9 (Or.inr ⟨_, wd_78⟩) dX2_piecesIn_3 ?_
  refine q_nr (fun r3 h3 => ?_)
  refine q_astore_n (r := r3) (lv' := [(3, va_rf (r3)), (2, .int (0)), (0, va_rf (some r9)), (1, .int (nI m9))]) C dX2_piecesIn_6 rfl hl (by decide) (q_k0 (q_kC 0 rfl (by decide) rfl (q_kN 1 rfl (by decide) (by decide) (q_kN 2 rfl (by decide) (by decide) q_kz)))) (fun ls hl => ?_)
  exact loop (l9.length + 1) r3 0 0 l9 ls (Nat.lt_succ_self _) hl (by rw [h3]; exact hc) nI_0.symm (Nat.zero_add _) hok
theorem c_Shelves_piecesIn (l : Launch) (E : qE) (S : qS) (r9 m9 : Nat) (l9 : List Nat) (hL_r9 : r9 ∈ S.L) (hK_r9 : S.K r9 = 1) (hc : q_ch (S.R 1) (S.R 2 r9) l9) (hok : ∀ a ∈ l9, a ∈ S.L ∧ S.K a = 0) (hm : l9.length ≤ m9) (hm2 : m9 < 2 ^ 31) : q_Mi l yX2_piecesIn cX2_piecesIn 4 .int { frames := 0, cells := 0, slots := 0, locals := 0 } E [.ref r9, .int (nI m9)] S (fun r S1 => S1 = S ∧ r = nI l9.length) 0 0 := c0_Shelves_piecesIn l E S r9 m9 l9 hL_r9 hK_r9 hc hok hm hm2 _ (fun _ _ h => h)

abbrev q_c3 (l : List Nat) : Nat → Nat → Prop := fun j x => j = 3 ∧ x ∈ l
set_option maxHeartbeats 4000000 in
set_option maxRecDepth 100000 in
theorem c0_Shelves_wrongInRow (l : Launch) (E : qE) (S : qS) (r9 m9 z9 : Nat) (l9 : List Nat) (hL_r9 : r9 ∈ S.L) (hK_r9 : S.K r9 = 1) (hz : S.I 4 r9 = nI z9) (hc : q_ch (S.R 1) (S.R 2 r9) l9) (hok : ∀ a ∈ l9, a ∈ S.L ∧ S.K a = 0 ∧ S.I 1 a = nI z9 ∧ S.I 3 a = 1) (hpw : l9.Pairwise (fun a b => (S.J 0 b).toInt < (S.J 0 a).toInt)) (hm : l9.length ≤ m9) (hm2 : m9 < 2 ^ 31) (post : Int32 → qS → Prop) (hpost : ∀ r S1, (r = 0 ∧ q_fr S S1 (q_c3 l9) q_c0 q_c0) → post r S1) : q_Mi l yX2_wrongInRow cX2_wrongInRow 5 .int { frames := 0, cells := 0, slots := 0, locals := 0 } E [.ref r9, .int (nI m9)] S (post) 0 0 := by
  refine q_ofW1 (by decide) (q_1c rfl (q_1c rfl q_1n)) (Nat.le_of_ble_eq_true rfl) (fun p e s m below meth c C hV hr hlk hnm ls hl => ?_)
  have hl : lv_has ls 5 [(0, va_rf (some r9)), (1, .int (nI m9))] := hl
  have loop : ∀ (k : Nat) (pp : Option Nat) (i : Int32) (j : Nat) (rest : List Nat) (S' : qS) (H : Heap) (locs : List Loc) (ls : Array Slot), rest.length < k → q_V E s S' H locs → lv_has ls 5 [(4, .int (i)), (3, va_rf (pp)), (2, .int (0)), (0, va_rf (some r9)), (1, .int (nI m9))] → q_ch (S'.R 1) pp rest → i = nI j → j + rest.length = l9.length → (∀ a ∈ rest, a ∈ S'.L ∧ S'.K a = 0 ∧ S'.I 1 a = nI z9 ∧ S'.I 3 a = 1) → rest.Pairwise (fun a b => (S'.J 0 b).toInt < (S'.J 0 a).toInt) → r9 ∈ S'.L → S'.K r9 = 1 → S'.I 4 r9 = nI z9 → (∀ S1, q_fr S' S1 (q_c3 rest) q_c0 q_c0 → post 0 S1) → W p l e ({ frames := 0, cells := 0, slots := 0, locals := 0 } : Room) s m [.ref r9, .int (nI m9)].toArray below meth c H locs (0) (0) (MQ below (va_Qi (post) (q_B E) E.A) [.ref r9, .int (nI m9)].toArray s (0) (0) E.A) (F0 m 10 ls []) := by
    intro k
    induction k with
    | zero => intro pp i j rest S' H locs ls hk; exact absurd hk (Nat.not_lt_zero _)
    | succ k ih =>
      intro pp i j rest S' H locs ls hk hV hl hch hi hj hok9 hpw9 hL9 hK9 hz9 hpost9
      refine q_aload_n (r := pp) C dX2_wrongInRow_10 rfl (lv_at hl 1 rfl) ?_
      refine q_ifnull (r := pp) (tgt := 82) C dX2_wrongInRow_11 (by decide) (fun c11 => ?_) (fun x11 c11 => ?_)
      · subst c11
        refine lv_iload_n C.1 C.2.1 dX2_wrongInRow_82 rfl (lv_at hl 2 rfl) ?_
        refine q_iret (v := 0) C hV hr hlk (Nat.le_of_ble_eq_true rfl) (Nat.le_of_ble_eq_true rfl) dX2_wrongInRow_83 ?_
        have hre : rest = [] := by cases rest with
          | nil => rfl
          | cons a tl => exact nomatch hch.1
        exact hpost9 _ q_fr_rf
      · subst c11
        obtain ⟨tl, rfl, hch2⟩ : ∃ tl, rest = x11 :: tl ∧ q_ch (S'.R 1) (S'.R 1 x11) tl := by
          cases rest with
          | nil => exact nomatch (show some x11 = none from hch)
          | cons a tl => cases hch.1; exact ⟨tl, rfl, hch.2⟩
        obtain ⟨hL_x11, hK_x11, hI1x, hI3x⟩ := hok9 x11 List.mem_cons_self
        have hxt : x11 ∉ tl := (List.nodup_cons.mp (q_ch_nodup hch)).1
        have hL_r9 := hL9
        have hK_r9 := hK9
        refine lv_iload C.1 C.2.1 dX2_wrongInRow_14 (lv_at hl 0 rfl) ?_
        refine lv_iload_n C.1 C.2.1 dX2_wrongInRow_16 rfl (lv_at hl 4 rfl) ?_
        refine lv_icmp_ge (tgt := 82) C.1 C.2.1 dX2_wrongInRow_17 (by decide) (fun c17 => ?_) (fun c17 => ?_)
        · exfalso
          exact absurd (hi ▸ c17) (nI_ge (by simp at hj; omega) (by omega))
        · refine q_aload_n (r := some x11) C dX2_wrongInRow_20 rfl (lv_at hl 1 rfl) ?_
          refine g_Piece_awaited C hV hL_x11 hK_x11 (Or.inr ⟨_, wd_149⟩) dX2_wrongInRow_21 ?_
          refine q_ti (v' := 1) (hI3x) ?_
          refine lv_if_eq (tgt := 38) C.1 C.2.1 dX2_wrongInRow_24 (by decide) (fun c24 => ?_) (fun c24 => ?_)
          · exact absurd c24 (by decide)
          · refine q_aload_n (r := some x11) C dX2_wrongInRow_27 rfl (lv_at hl 1 rfl) ?_
            refine g_Piece_cells C hV hL_x11 hK_x11 (Or.inr ⟨_, wd_140⟩) dX2_wrongInRow_28 ?_
            refine q_ti (v' := nI z9) (hI1x) ?_
            refine q_aload_n (r := some r9) C dX2_wrongInRow_31 rfl (lv_at hl 3 rfl) ?_
            refine g_Row_cells C hV hL_r9 hK_r9 (Or.inr ⟨_, wd_76⟩) dX2_wrongInRow_32 ?_
            refine q_ti (v' := nI z9) (hz9) ?_
            refine lv_icmp_eq (tgt := 41) C.1 C.2.1 dX2_wrongInRow_35 (by decide) (fun c35 => ?_) (fun c35 => ?_)
            · refine q_aload_n (r := some x11) C dX2_wrongInRow_41 rfl (lv_at hl 1 rfl) ?_
              refine g_Piece_older C hV hL_x11 hK_x11 (Or.inr ⟨_, wd_148⟩) dX2_wrongInRow_42 ?_
              refine q_nr (fun r42 h42 => ?_)
              refine q_ifnull (r := r42) (tgt := 66) C dX2_wrongInRow_45 (by decide) (fun c45 => ?_) (fun x45 c45 => ?_)
              · subst c45
                refine q_aload_n (r := some x11) C dX2_wrongInRow_66 rfl (lv_at hl 1 rfl) ?_
                refine lv_iconst (v := 0) C.1 C.2.1 dX2_wrongInRow_67 (by decide) ?_
                refine p_Piece_awaited (v := 0) C hV hL_x11 hK_x11 (by decide) (Or.inr ⟨_, wd_149⟩) dX2_wrongInRow_68 (fun H locs hV => ?_)
                refine q_aload_n (r := some x11) C dX2_wrongInRow_71 rfl (lv_at hl 1 rfl) ?_
                refine g_Piece_older C hV hL_x11 hK_x11 (Or.inr ⟨_, wd_148⟩) dX2_wrongInRow_72 ?_
                refine q_nr (fun r72 h72 => ?_)
                refine q_astore_n (r := r72) (lv' := [(3, va_rf (r72)), (4, .int (i)), (2, .int (0)), (0, va_rf (some r9)), (1, .int (nI m9))]) C dX2_wrongInRow_75 rfl hl (by decide) (q_k0 (q_kN 0 rfl (by decide) (by decide) (q_kC 2 rfl (by decide) rfl (q_kN 3 rfl (by decide) (by decide) (q_kN 4 rfl (by decide) (by decide) q_kz))))) (fun ls hl => ?_)
                obtain ⟨i76, e76⟩ : ∃ y : Int32, y = i + 1 := ⟨_, rfl⟩
                refine q_iinc (v := i76) (k := 1) (lv' := [(4, .int (i76)), (3, va_rf (r72)), (2, .int (0)), (0, va_rf (some r9)), (1, .int (nI m9))]) C dX2_wrongInRow_76 hl rfl (by rw [e76]; rfl) (by decide) (q_k0 (q_kC 0 rfl (by decide) (q_cat _) (q_kN 2 rfl (by decide) (by decide) (q_kN 3 rfl (by decide) (by decide) (q_kN 4 rfl (by decide) (by decide) q_kz))))) (fun ls hl => ?_)
                refine lv_goto (tgt := 10) C.1 C.2.1 dX2_wrongInRow_79 (by decide) ?_
                subst h72
                exact ih (S'.R 1 x11) i76 (j + 1) tl (S'.sI 3 x11 0) H locs ls (by simp at hk; omega) hV hl hch2 (by rw [e76, hi]; exact nI_1 j) (by simp at hj; omega) (fun a ha => ⟨(hok9 a (List.mem_cons_of_mem _ ha)).1, (hok9 a (List.mem_cons_of_mem _ ha)).2.1, by rw [qI_ne _ _ _ _ (fun e : a = x11 => hxt (e ▸ ha))]; exact (hok9 a (List.mem_cons_of_mem _ ha)).2.2.1, by rw [qI_ne _ _ _ _ (fun e : a = x11 => hxt (e ▸ ha))]; exact (hok9 a (List.mem_cons_of_mem _ ha)).2.2.2⟩) (List.pairwise_cons.mp hpw9).2 hL9 hK9 (by rw [qI_of _ _ _ _ (by decide)]; exact hz9) (fun S1 h1 => hpost9 S1 (q_fr_tr (q_fr_sI ⟨rfl, List.mem_cons_self⟩) (q_fr_mo h1 (fun j x z => ⟨z.1, List.mem_cons_of_mem _ z.2⟩) (fun _ _ z => z) (fun _ _ z => z))))
              · subst c45
                obtain ⟨t2, htl⟩ : ∃ t2, tl = x45 :: t2 := by
                  have hq := q_ch_head hch2
                  rw [← h42] at hq
                  cases tl with
                  | nil => exact nomatch hq
                  | cons b t2 => exact ⟨t2, by rw [Option.some.inj hq]⟩
                have hR1x : S'.R 1 x11 = some x45 := h42.symm
                obtain ⟨hL_x45, hK_x45, -, -⟩ := hok9 x45 (by rw [htl]; simp)
                refine q_aload_n (r := some x11) C dX2_wrongInRow_48 rfl (lv_at hl 1 rfl) ?_
                refine g_Piece_older C hV hL_x11 hK_x11 (Or.inr ⟨_, wd_148⟩) dX2_wrongInRow_49 ?_
                refine q_tr (v' := some x45) (hR1x) ?_
                refine g_Piece_since C hV hL_x45 hK_x45 (Or.inr ⟨_, wd_144⟩) dX2_wrongInRow_52 ?_
                refine q_aload_n (r := some x11) C dX2_wrongInRow_55 rfl (lv_at hl 1 rfl) ?_
                refine g_Piece_since C hV hL_x11 hK_x11 (Or.inr ⟨_, wd_144⟩) dX2_wrongInRow_56 ?_
                refine W.lcmp C.1 C.2.1 dX2_wrongInRow_59 ?_
                refine lv_if_lt (tgt := 66) C.1 C.2.1 dX2_wrongInRow_60 (by decide) (fun c60 => ?_) (fun c60 => ?_)
                · refine q_aload_n (r := some x11) C dX2_wrongInRow_66 rfl (lv_at hl 1 rfl) ?_
                  refine lv_iconst (v := 0) C.1 C.2.1 dX2_wrongInRow_67 (by decide) ?_
                  refine p_Piece_awaited (v := 0) C hV hL_x11 hK_x11 (by decide) (Or.inr ⟨_, wd_149⟩) dX2_wrongInRow_68 (fun H locs hV => ?_)
                  refine q_aload_n (r := some x11) C dX2_wrongInRow_71 rfl (lv_at hl 1 rfl) ?_
                  refine g_Piece_older C hV hL_x11 hK_x11 (Or.inr ⟨_, wd_148⟩) dX2_wrongInRow_72 ?_
                  refine q_nr (fun r72 h72 => ?_)
                  refine q_astore_n (r := r72) (lv' := [(3, va_rf (r72)), (4, .int (i)), (2, .int (0)), (0, va_rf (some r9)), (1, .int (nI m9))]) C dX2_wrongInRow_75 rfl hl (by decide) (q_k0 (q_kN 0 rfl (by decide) (by decide) (q_kC 2 rfl (by decide) rfl (q_kN 3 rfl (by decide) (by decide) (q_kN 4 rfl (by decide) (by decide) q_kz))))) (fun ls hl => ?_)
                  obtain ⟨i76, e76⟩ : ∃ y : Int32, y = i + 1 := ⟨_, rfl⟩
                  refine q_iinc (v := i76) (k := 1) (lv' := [(4, .int (i76)), (3, va_rf (r72)), (2, .int (0)), (0, va_rf (some r9)), (1, .int (nI m9))]) C dX2_wrongInRow_76 hl rfl (by rw [e76]; rfl) (by decide) (q_k0 (q_kC 0 rfl (by decide) (q_cat _) (q_kN 2 rfl (by decide) (by decide) (q_kN 3 rfl (by decide) (by decide) (q_kN 4 rfl (by decide) (by decide) q_kz))))) (fun ls hl => ?_)
                  refine lv_goto (tgt := 10) C.1 C.2.1 dX2_wrongInRow_79 (by decide) ?_
                  subst h72
                  exact ih (S'.R 1 x11) i76 (j + 1) tl (S'.sI 3 x11 0) H locs ls (by simp at hk; omega) hV hl hch2 (by rw [e76, hi]; exact nI_1 j) (by simp at hj; omega) (fun a ha => ⟨(hok9 a (List.mem_cons_of_mem _ ha)).1, (hok9 a (List.mem_cons_of_mem _ ha)).2.1, by rw [qI_ne _ _ _ _ (fun e : a = x11 => hxt (e ▸ ha))]; exact (hok9 a (List.mem_cons_of_mem _ ha)).2.2.1, by rw [qI_ne _ _ _ _ (fun e : a = x11 => hxt (e ▸ ha))]; exact (hok9 a (List.mem_cons_of_mem _ ha)).2.2.2⟩) (List.pairwise_cons.mp hpw9).2 hL9 hK9 (by rw [qI_of _ _ _ _ (by decide)]; exact hz9) (fun S1 h1 => hpost9 S1 (q_fr_tr (q_fr_sI ⟨rfl, List.mem_cons_self⟩) (q_fr_mo h1 (fun j x z => ⟨z.1, List.mem_cons_of_mem _ z.2⟩) (fun _ _ z => z) (fun _ _ z => z))))
                · have hlt := (List.pairwise_cons.mp hpw9).1 x45 (by rw [htl]; simp)
                  exact absurd ((lg_cmp_lt _ _).mpr (Int64.lt_iff_toInt_lt.mpr hlt)) c60
            · exact absurd rfl c35
  refine lv_iconst (v := 0) C.1 C.2.1 dX2_wrongInRow_0 (by decide) ?_
  refine q_istore_n (x := 0) (lv' := [(2, .int (0)), (0, va_rf (some r9)), (1, .int (nI m9))]) C dX2_wrongInRow_1 rfl hl (by decide) (q_k0 (q_kN 0 rfl (by decide) (by decide) (q_kC 1 rfl (by decide) rfl q_kz))) (fun ls hl => ?_)
  refine q_aload_n (r := some r9) C dX2_wrongInRow_2 rfl (lv_at hl 1 rfl) ?_
  refine g_Row_latest C hV hL_r9 hK_r9 (Or.inr ⟨_, wd_78⟩) dX2_wrongInRow_3 ?_
  refine q_nr (fun r3 h3 => ?_)
  refine q_astore_n (r := r3) (lv' := [(3, va_rf (r3)), (2, .int (0)), (0, va_rf (some r9)), (1, .int (nI m9))]) C dX2_wrongInRow_6 rfl hl (by decide) (q_k0 (q_kC 0 rfl (by decide) rfl (q_kN 1 rfl (by decide) (by decide) (q_kN 2 rfl (by decide) (by decide) q_kz)))) (fun ls hl => ?_)
  refine lv_iconst (v := 0) C.1 C.2.1 dX2_wrongInRow_7 (by decide) ?_
  refine q_istore (x := 0) (lv' := [(4, .int (0)), (3, va_rf (r3)), (2, .int (0)), (0, va_rf (some r9)), (1, .int (nI m9))]) C dX2_wrongInRow_8 hl (by decide) (q_k0 (q_kC 0 rfl (by decide) (q_cat _) (q_kN 1 rfl (by decide) (by decide) (q_kN 2 rfl (by decide) (by decide) (q_kN 3 rfl (by decide) (by decide) q_kz))))) (fun ls hl => ?_)
  exact loop (l9.length + 1) r3 0 0 l9 S s.heap [] ls (Nat.lt_succ_self _) hV hl (by rw [h3]; exact hc) nI_0.symm (Nat.zero_add _) hok hpw hL_r9 hK_r9 hz (fun S1 h1 => hpost _ _ ⟨rfl, h1⟩)
theorem c_Shelves_wrongInRow (l : Launch) (E : qE) (S : qS) (r9 m9 z9 : Nat) (l9 : List Nat) (hL_r9 : r9 ∈ S.L) (hK_r9 : S.K r9 = 1) (hz : S.I 4 r9 = nI z9) (hc : q_ch (S.R 1) (S.R 2 r9) l9) (hok : ∀ a ∈ l9, a ∈ S.L ∧ S.K a = 0 ∧ S.I 1 a = nI z9 ∧ S.I 3 a = 1) (hpw : l9.Pairwise (fun a b => (S.J 0 b).toInt < (S.J 0 a).toInt)) (hm : l9.length ≤ m9) (hm2 : m9 < 2 ^ 31) : q_Mi l yX2_wrongInRow cX2_wrongInRow 5 .int { frames := 0, cells := 0, slots := 0, locals := 0 } E [.ref r9, .int (nI m9)] S (fun r S1 => r = 0 ∧ q_fr S S1 (q_c3 l9) q_c0 q_c0) 0 0 := c0_Shelves_wrongInRow l E S r9 m9 z9 l9 hL_r9 hK_r9 hz hc hok hpw hm hm2 _ (fun _ _ h => h)

/-- what faults needs of the rows: S0 the state in which the flags were set, S' a later one -/
def q_flg (S : qS) (rows : Nat → List Nat) (ok : Nat → Prop) : Prop := ∀ z, ok z → ∀ a ∈ rows z, S.I 3 a = 1
theorem q_flg_fr {S S1 : qS} {h ar t : Nat} {ns : List Nat} {rows : Nat → List Nat} (hs : q_sh S h ar t ns rows) {z0 : Nat} {ok ok' : Nat → Prop} (hf : q_fr S S1 (q_c3 (rows z0)) q_c0 q_c0) (h : q_flg S rows ok) (ho : ∀ z, ok' z → ok z ∧ z ≠ z0) : q_flg S1 rows ok' := by
  intro z hz a ha
  obtain ⟨h1, h2⟩ := ho z hz
  obtain ⟨g1, -, g3, g4⟩ := hs.2.2.2.2.2.2 z a ha
  rw [hf.2.1 a g1 3 (fun e => ?_)]
  · exact h z h1 a ha
  · obtain ⟨-, -, k3, k4⟩ := hs.2.2.2.2.2.2 z0 a e.2
    exact h2 ((nI_eq g4 k4).mp (g3.symm.trans k3))
theorem q_sh_c3 {S S1 : qS} {h ar t : Nat} {ns : List Nat} {rows : Nat → List Nat} {l : List Nat} (hs : q_sh S h ar t ns rows) (hf : q_fr S S1 (q_c3 l) q_c0 q_c0) : q_sh S1 h ar t ns rows :=
  q_sh_fr hs hf (fun a e => absurd e.1 (by decide)) (fun _ p _ e => absurd e.1 (by decide)) (fun a => ⟨id, id, id, id, id, id⟩) (fun _ _ _ e => e)
theorem q_pw_fr {S S1 : qS} {h ar t : Nat} {ns : List Nat} {rows : Nat → List Nat} {cI cR : Nat → Nat → Prop} (hs : q_sh S h ar t ns rows) (hf : q_fr S S1 cI cR q_c0) (h : ∀ z, (rows z).Pairwise (fun a b => (S.J 0 b).toInt < (S.J 0 a).toInt)) : ∀ z, (rows z).Pairwise (fun a b => (S1.J 0 b).toInt < (S1.J 0 a).toInt) := fun z => by
  refine List.Pairwise.imp_of_mem ?_ (h z)
  intro a b ha hb hab
  rw [hf.2.2.2 a (hs.2.2.2.2.2.2 z a ha).1 0 id, hf.2.2.2 b (hs.2.2.2.2.2.2 z b hb).1 0 id]
  exact hab
theorem q_c3_any {S S1 : qS} {l : List Nat} (hf : q_fr S S1 (q_c3 l) q_c0 q_c0) : q_fr S S1 (fun j _ => j = 3) q_c0 q_c0 := q_fr_mo hf (fun _ _ z => z.1) (fun _ _ z => z) (fun _ _ z => z)
theorem q_flg_w {S S1 : qS} {h ar t : Nat} {ns : List Nat} {rows : Nat → List Nat} (hs : q_sh S h ar t ns rows) {ok : Nat → Prop} (hf : q_fr S S1 q_cWI q_cWR q_c0) (h : q_flg S rows ok) : q_flg S1 rows ok := by
  intro z hz a ha
  rw [hf.2.1 a (hs.2.2.2.2.2.2 z a ha).1 3 (fun e => absurd (show 11 ≤ 3 from e) (by decide))]
  exact h z hz a ha
theorem q_sh_w {S S1 : qS} {h ar t : Nat} {ns : List Nat} {rows : Nat → List Nat} (hs : q_sh S h ar t ns rows) (hf : q_fr S S1 q_cWI q_cWR q_c0) : q_sh S1 h ar t ns rows :=
  q_sh_fr hs hf (fun a e => absurd (show 11 ≤ 4 from e) (by decide)) (fun _ p _ e => absurd (show 11 ≤ 1 from e) (by decide)) (fun a => ⟨fun e => absurd (show 12 ≤ 5 from e) (by decide), fun e => absurd (show 12 ≤ 6 from e) (by decide), fun e => absurd (show 12 ≤ 3 from e) (by decide), fun e => absurd (show 12 ≤ 4 from e) (by decide), fun e => absurd (show 12 ≤ 7 from e) (by decide), fun e => absurd (show 12 ≤ 2 from e) (by decide)⟩) (fun _ _ _ e => absurd (show 12 ≤ 1 from e) (by decide))
theorem q_row_w {S S1 : qS} {h ar t : Nat} {ns : List Nat} {rows : Nat → List Nat} {z r : Nat} (hs : q_sh S h ar t ns rows) (hf : q_fr S S1 q_cWI q_cWR q_c0) (hr : q_row S rows z r) : q_row S1 rows z r :=
  q_row_fr hr hf (fun e => absurd (show 11 ≤ 4 from e) (by decide)) (fun e => absurd (show 12 ≤ 2 from e) (by decide)) (fun p hp => ⟨(hs.2.2.2.2.2.2 _ p hp).1, fun e => absurd (show 12 ≤ 1 from e) (by decide)⟩) rfl
theorem q_c3_ft {S S1 : qS} {l : List Nat} (hf : q_fr S S1 (q_c3 l) q_c0 q_c0) : q_ft S S1 := q_fr_mo hf (fun _ _ z => Or.inl z.1) (fun _ _ z => z.elim) (fun _ _ z => z)
theorem q_w_ft {S S1 : qS} (hf : q_fr S S1 q_cWI q_cWR q_c0) : q_ft S S1 := q_fr_mo hf (fun _ _ z => Or.inr z) (fun _ _ z => z) (fun _ _ z => z)
theorem q_wst_c3 {S S1 : qS} {w : Nat} {zf : Nat → Nat} {st : List q_Y} {l : List Nat} (h : q_wst S w zf st) (hf : q_fr S S1 (q_c3 l) q_c0 q_c0) : q_wst S1 w zf st :=
  q_wst_fr h hf (fun a => ⟨fun e => absurd e.1 (by decide), fun e => absurd e.1 (by decide), fun e => absurd e.1 (by decide), fun e => absurd e.1 (by decide)⟩) (fun a => ⟨id, id, id, id⟩)
theorem q_l2_pm {rows : Nat → List Nat} {zf : Nat → Nat} {A B : List Nat} (h : A.Perm B) : (q_l2 rows zf A).length = (q_l2 rows zf B).length := by
  induction h with
  | nil => rfl
  | cons x _ ih => simp only [q_l2, List.length_append, ih]
  | swap x y l => simp only [q_l2, List.length_append]; omega
  | trans _ _ ih1 ih2 => exact ih1.trans ih2
set_option maxHeartbeats 4000000 in
set_option maxRecDepth 100000 in
theorem c0_Shelves_wrongThings (l : Launch) (E : qE) (S : qS) (h ar t sh m9 : Nat) (ns : List Nat) (rows : Nat → List Nat) (zf : Nat → Nat) (hs : q_sh S h ar t ns rows) (hne : q_ne S ns rows) (hzf : ∀ r ∈ ns, q_row S rows (zf r) r ∧ 64 ≤ zf r) (hfl : q_flg S rows (fun _ => True)) (hpw : ∀ z, (rows z).Pairwise (fun a b => (S.J 0 b).toInt < (S.J 0 a).toInt)) (hlen : ∀ z, (rows z).length ≤ m9) (hnl : ns.length ≤ m9) (hm2 : m9 < 2 ^ 31) (hz9 : ∀ z, rows z ≠ [] → z ≤ m9) (hsh : sh = (q_l1 rows 61).length + (q_l2 rows zf ns).length) (post : Int32 → qS → Prop) (hpost : ∀ r S1, (r = 0 ∧ q_ft S S1) → post r S1) : q_Mi l yX2_wrongThings cX2_wrongThings 8 .int { frames := 2, cells := 1, slots := 2, locals := 44 } E [.ref h, .int (nI sh), .int (nI m9)] S (post) 1 2 := by
  refine q_ofW1 (by decide) (q_1c rfl (q_1c rfl (q_1c rfl q_1n))) (Nat.le_of_ble_eq_true rfl) (fun p e s m below meth c C hV hr hlk hnm ls hl => ?_)
  have hl : lv_has ls 8 [(0, va_rf (some h)), (1, .int (nI sh)), (2, .int (nI m9))] := hl
  have hnd : ns.Nodup := q_so_nodup hs.2.2.2.1.2.2.2.2
  have hnez : ∀ r ∈ ns, rows (zf r) ≠ [] := fun r hr => by
    have h9 := hne r hr
    rw [q_row_z (hzf r hr).1] at h9
    simpa using h9
  have loop2 : ∀ (k : Nat) (pp : Option Nat) (mt i7 : Int32) (j k9 w9 : Nat) (st : List q_Y) (R : List Nat) (S' : qS) (H : Heap) (locs : List Loc) (ls : Array Slot), R.length < k → q_V E s S' H locs → lv_has ls 8 [(7, .int (i7)), (6, va_rf (pp)), (5, va_rf (some w9)), (4, .int (mt)), (3, .int (0)), (0, va_rf (some h)), (1, .int (nI sh)), (2, .int (nI m9))] → q_sh S' h ar t ns rows → q_wst S' w9 zf st → R = q_rem pp st → (∀ r ∈ R, r ∈ ns) → R.Nodup → mt = nI k9 → k9 + (q_l2 rows zf R).length = sh → i7 = nI j → j + R.length = ns.length → q_flg S' rows (fun z => ∃ r ∈ R, z = zf r) → (∀ z, (rows z).Pairwise (fun a b => (S'.J 0 b).toInt < (S'.J 0 a).toInt)) → (∀ r ∈ ns, q_row S' rows (zf r) r ∧ 64 ≤ zf r) → q_ft S S' → W p l e ({ frames := 2, cells := 1, slots := 2, locals := 44 } : Room) s m [.ref h, .int (nI sh), .int (nI m9)].toArray below meth c H locs (0 + 1) (0 + 2) (MQ below (va_Qi (post) (q_B E) E.A) [.ref h, .int (nI sh), .int (nI m9)].toArray s (1) (2) E.A) (F0 m 108 ls []) := by
    intro k
    induction k with
    | zero => intro pp mt i7 j k9 w9 st R S' H locs ls hk; exact absurd hk (Nat.not_lt_zero _)
    | succ k ih =>
      intro pp mt i7 j k9 w9 st R S' H locs ls hk hV hl hsS hws hR0 hRn hRd hmt hk9 hi7 hj hfl9 hpw9 hrw9 hfS
      have hL_w9 := hws.1
      have hK_w9 := hws.2.1
      refine q_aload (r := pp) C dX2_wrongThings_108 (lv_at hl 1 rfl) ?_
      refine q_ifnull (r := pp) (tgt := 163) C dX2_wrongThings_110 (by decide) (fun c110 => ?_) (fun x110 c110 => ?_)
      · subst c110
        refine lv_iload_n C.1 C.2.1 dX2_wrongThings_163 rfl (lv_at hl 4 rfl) ?_
        refine q_aload (r := some w9) C dX2_wrongThings_164 (lv_at hl 2 rfl) ?_
        refine g_Walk_wrongLinks C hV hL_w9 hK_w9 (Or.inr ⟨_, wd_275⟩) dX2_wrongThings_166 ?_
        refine q_ti (v' := 0) (hws.2.2.1) ?_
        refine lv_iadd C.1 C.2.1 dX2_wrongThings_169 ?_
        refine q_ti (v' := 0) (by decide) ?_
        refine q_istore_n (x := 0) (lv' := [(3, .int (0)), (7, .int (i7)), (6, va_rf (none)), (5, va_rf (some w9)), (4, .int (mt)), (0, va_rf (some h)), (1, .int (nI sh)), (2, .int (nI m9))]) C dX2_wrongThings_170 rfl hl (by decide) (q_k0 (q_kN 0 rfl (by decide) (by decide) (q_kN 1 rfl (by decide) (by decide) (q_kN 2 rfl (by decide) (by decide) (q_kN 3 rfl (by decide) (by decide) (q_kN 5 rfl (by decide) (by decide) (q_kN 6 rfl (by decide) (by decide) (q_kC 7 rfl (by decide) rfl q_kz)))))))) (fun ls hl => ?_)
        have hmtE : mt = nI sh := by
          have hRe : R = [] := hR0
          rw [hmt]; rw [hRe] at hk9; rw [show k9 = sh from by simpa [q_l2] using hk9]
        subst hmtE
        refine lv_iload C.1 C.2.1 dX2_wrongThings_171 (lv_at hl 4 rfl) ?_
        refine lv_iload_n C.1 C.2.1 dX2_wrongThings_173 rfl (lv_at hl 6 rfl) ?_
        refine lv_icmp_ne (tgt := 181) C.1 C.2.1 dX2_wrongThings_174 (by decide) (fun c174 => ?_) (fun c174 => ?_)
        · exfalso
          exact c174 rfl
        · refine lv_iload_n C.1 C.2.1 dX2_wrongThings_177 rfl (lv_at hl 0 rfl) ?_
          refine lv_goto (tgt := 184) C.1 C.2.1 dX2_wrongThings_178 (by decide) ?_
          refine q_iret (v := 0) C hV hr hlk (Nat.le_of_ble_eq_true rfl) (Nat.le_of_ble_eq_true rfl) dX2_wrongThings_184 ?_
          exact hpost _ _ ⟨rfl, hfS⟩
      · subst c110
        have hR : R = x110 :: q_fla st := hR0
        subst hR
        have hxn : x110 ∈ ns := hRn x110 List.mem_cons_self
        obtain ⟨hrx, hz64⟩ := hrw9 x110 hxn
        have hL_x110 := hrx.1
        have hK_x110 := hrx.2.1
        have hz4 := hrx.2.2.1
        have hnex : rows (zf x110) ≠ [] := hnez x110 hxn
        have hjm : j < m9 := by simp only [List.length_cons] at hj; omega
        refine lv_iload C.1 C.2.1 dX2_wrongThings_113 (lv_at hl 0 rfl) ?_
        refine lv_iload_n C.1 C.2.1 dX2_wrongThings_115 rfl (lv_at hl 7 rfl) ?_
        refine lv_icmp_ge (tgt := 163) C.1 C.2.1 dX2_wrongThings_116 (by decide) (fun c116 => ?_) (fun c116 => ?_)
        · exfalso
          exact absurd (hi7 ▸ c116) (nI_ge hjm (by omega))
        · refine q_aload (r := some x110) C dX2_wrongThings_119 (lv_at hl 1 rfl) ?_
          refine g_Row_latest C hV hL_x110 hK_x110 (Or.inr ⟨_, wd_78⟩) dX2_wrongThings_121 ?_
          refine q_nr (fun r121 h121 => ?_)
          refine q_ifnonnull (r := r121) (tgt := 130) C dX2_wrongThings_124 (by decide) (fun x124 c124 => ?_) (fun c124 => ?_)
          · subst c124
            refine lv_iload_n C.1 C.2.1 dX2_wrongThings_130 rfl (lv_at hl 4 rfl) ?_
            refine q_aload (r := some x110) C dX2_wrongThings_131 (lv_at hl 1 rfl) ?_
            refine lv_iload_n C.1 C.2.1 dX2_wrongThings_133 rfl (lv_at hl 7 rfl) ?_
            refine q_ci hV (q_rS (As := [va_rf (some x110), .int (nI m9)]) (rest := [.int (0)]) C hV (c_Shelves_wrongInRow l E S' x110 m9 (zf x110) (rows (zf x110)) hL_x110 hK_x110 hz4 hrx.2.2.2.2 (fun b hb => ⟨(hsS.2.2.2.2.2.2 _ b hb).1, (hsS.2.2.2.2.2.2 _ b hb).2.1, (hsS.2.2.2.2.2.2 _ b hb).2.2.1, hfl9 _ ⟨x110, List.mem_cons_self, rfl⟩ b hb⟩) (hpw9 _) (hlen _) hm2) wd_263 wd_261 wd_262 wd_40 ok_X2_wrongInRow ⟨rfl, rfl, Nat.le_of_ble_eq_true rfl, Nat.le_of_ble_eq_true rfl⟩ rfl hl.1 rfl (q_sm (q_1c rfl q_1n) (Nat.le_of_ble_eq_true rfl)) dX2_wrongThings_134 ⟨Nat.le_of_ble_eq_true rfl, Nat.le_of_ble_eq_true rfl⟩) (fun i134 S134 H locs hp134 hV => ?_)
            obtain ⟨rfl, hf134⟩ := hp134
            have hs3 := q_sh_c3 hsS hf134
            have hpw3 := q_pw_fr hsS hf134 hpw9
            have hL_x110 : x110 ∈ S134.L := (hf134.1 x110 hL_x110).1
            have hK_x110 : S134.K x110 = 1 := (hf134.1 x110 hrx.1).2.1.trans hK_x110
            have hrw3 : ∀ r ∈ ns, q_row S134 rows (zf r) r ∧ 64 ≤ zf r := fun r hr => ⟨q_row_fr (hrw9 r hr).1 hf134 (fun e => absurd e.1 (by decide)) id (fun p hp => ⟨(hsS.2.2.2.2.2.2 _ p hp).1, id⟩) rfl, (hrw9 r hr).2⟩
            have hinj : ∀ r ∈ ns, r ≠ x110 → zf r ≠ zf x110 := fun r hr hn e => hn (q_so_inj hs.2.2.2.1.2.2.2.2 hr hxn (by rw [q_row_z (hzf r hr).1, q_row_z (hzf x110 hxn).1, e]))
            have hfl3 : q_flg S134 rows (fun z => ∃ r ∈ q_fla st, z = zf r) := q_flg_fr hsS hf134 hfl9 (fun z ⟨r, hr, e⟩ => ⟨⟨r, List.mem_cons_of_mem _ hr, e⟩, by rw [e]; exact hinj r (hRn r (List.mem_cons_of_mem _ hr)) (fun e9 => (List.nodup_cons.mp hRd).1 (e9 ▸ hr))⟩)
            have hws3 := q_wst_c3 hws hf134
            have hL_w9 := hws3.1
            have hK_w9 := hws3.2.1
            refine lv_iadd C.1 C.2.1 dX2_wrongThings_137 ?_
            refine q_ti (v' := 0) (by decide) ?_
            refine q_istore_n (x := 0) (lv' := [(3, .int (0)), (7, .int (i7)), (6, va_rf (some x110)), (5, va_rf (some w9)), (4, .int (mt)), (0, va_rf (some h)), (1, .int (nI sh)), (2, .int (nI m9))]) C dX2_wrongThings_138 rfl hl (by decide) (q_k0 (q_kN 0 rfl (by decide) (by decide) (q_kN 1 rfl (by decide) (by decide) (q_kN 2 rfl (by decide) (by decide) (q_kN 3 rfl (by decide) (by decide) (q_kN 5 rfl (by decide) (by decide) (q_kN 6 rfl (by decide) (by decide) (q_kC 7 rfl (by decide) rfl q_kz)))))))) (fun ls hl => ?_)
            refine lv_iload C.1 C.2.1 dX2_wrongThings_139 (lv_at hl 4 rfl) ?_
            refine q_aload (r := some x110) C dX2_wrongThings_141 (lv_at hl 2 rfl) ?_
            refine lv_iload_n C.1 C.2.1 dX2_wrongThings_143 rfl (lv_at hl 7 rfl) ?_
            refine q_ci hV (q_rS (As := [va_rf (some x110), .int (nI m9)]) (rest := [.int (mt)]) C hV (c_Shelves_piecesIn l E S134 x110 m9 (rows (zf x110)) hL_x110 hK_x110 (hrw3 x110 hxn).1.2.2.2.2 (fun b hb => ⟨(hs3.2.2.2.2.2.2 _ b hb).1, (hs3.2.2.2.2.2.2 _ b hb).2.1⟩) (hlen _) hm2) wd_266 wd_264 wd_265 wd_40 ok_X2_piecesIn ⟨rfl, rfl, Nat.le_of_ble_eq_true rfl, Nat.le_of_ble_eq_true rfl⟩ rfl hl.1 rfl (q_sm (q_1c rfl q_1n) (Nat.le_of_ble_eq_true rfl)) dX2_wrongThings_144 ⟨Nat.le_of_ble_eq_true rfl, Nat.le_of_ble_eq_true rfl⟩) (fun i144 S144 H locs hp144 hV => ?_)
            obtain ⟨eS144, hp144⟩ := hp144
            rw [eS144] at hV
            subst hp144
            refine lv_iadd C.1 C.2.1 dX2_wrongThings_147 ?_
            refine q_istore (x := mt + (nI (rows (zf x110)).length)) (lv' := [(4, .int (mt + (nI (rows (zf x110)).length))), (3, .int (0)), (7, .int (i7)), (6, va_rf (some x110)), (5, va_rf (some w9)), (0, va_rf (some h)), (1, .int (nI sh)), (2, .int (nI m9))]) C dX2_wrongThings_148 hl (by decide) (q_k0 (q_kC 0 rfl (by decide) rfl (q_kN 1 rfl (by decide) (by decide) (q_kN 2 rfl (by decide) (by decide) (q_kN 3 rfl (by decide) (by decide) (q_kN 5 rfl (by decide) (by decide) (q_kN 6 rfl (by decide) (by decide) (q_kN 7 rfl (by decide) (by decide) q_kz)))))))) (fun ls hl => ?_)
            refine q_aload (r := some w9) C dX2_wrongThings_150 (lv_at hl 4 rfl) ?_
            refine q_cq hV (q_rN (b := w9) (As := []) (rest := []) C hV (c_Walk_nextS l E S134 w9 zf st hws3) wd_288 wd_285 wd_287 wd_18 wd_51 ok_X4_next ⟨rfl, rfl, Nat.le_of_ble_eq_true rfl, Nat.le_of_ble_eq_true rfl⟩ (q_rc8 hV hL_w9 hK_w9) rfl hl.1 rfl (q_sm q_1n (Nat.le_of_ble_eq_true rfl)) dX2_wrongThings_152 ⟨Nat.le_of_ble_eq_true rfl, Nat.le_of_ble_eq_true rfl⟩) (fun r152 S152 H locs hp152 hV => ?_)
            obtain ⟨st1, hws1, hf152, hcase⟩ := hp152
            have hpm := q_rem_pm hcase
            have hs4 := q_sh_w hs3 hf152
            have hpw4 := q_pw_fr hs3 hf152 hpw3
            have hrw4 : ∀ r ∈ ns, q_row S152 rows (zf r) r ∧ 64 ≤ zf r := fun r hr => ⟨q_row_w hs3 hf152 (hrw3 r hr).1, (hrw3 r hr).2⟩
            have hfl4 : q_flg S152 rows (fun z => ∃ r ∈ q_rem r152 st1, z = zf r) := q_flg_w hs3 hf152 (fun z ⟨r, hr, e⟩ => hfl3 z ⟨r, hpm.mem_iff.mp hr, e⟩)
            refine q_astore (r := r152) (lv' := [(6, va_rf (r152)), (4, .int (mt + (nI (rows (zf x110)).length))), (3, .int (0)), (7, .int (i7)), (5, va_rf (some w9)), (0, va_rf (some h)), (1, .int (nI sh)), (2, .int (nI m9))]) C dX2_wrongThings_155 hl (by decide) (q_k0 (q_kN 0 rfl (by decide) (by decide) (q_kN 1 rfl (by decide) (by decide) (q_kN 2 rfl (by decide) (by decide) (q_kC 4 rfl (by decide) (q_cat _) (q_kN 5 rfl (by decide) (by decide) (q_kN 6 rfl (by decide) (by decide) (q_kN 7 rfl (by decide) (by decide) q_kz)))))))) (fun ls hl => ?_)
            obtain ⟨i157, e157⟩ : ∃ y : Int32, y = i7 + 1 := ⟨_, rfl⟩
            refine q_iinc (v := i157) (k := 3) (lv' := [(7, .int (i157)), (6, va_rf (r152)), (4, .int (mt + (nI (rows (zf x110)).length))), (3, .int (0)), (5, va_rf (some w9)), (0, va_rf (some h)), (1, .int (nI sh)), (2, .int (nI m9))]) C dX2_wrongThings_157 hl rfl (by rw [e157]; rfl) (by decide) (q_k0 (q_kC 0 rfl (by decide) (q_cat _) (q_kN 1 rfl (by decide) (by decide) (q_kN 2 rfl (by decide) (by decide) (q_kN 4 rfl (by decide) (by decide) (q_kN 5 rfl (by decide) (by decide) (q_kN 6 rfl (by decide) (by decide) (q_kN 7 rfl (by decide) (by decide) q_kz)))))))) (fun ls hl => ?_)
            refine lv_goto (tgt := 108) C.1 C.2.1 dX2_wrongThings_160 (by decide) ?_
            exact ih r152 _ i157 (j + 1) (k9 + (rows (zf x110)).length) w9 st1 (q_rem r152 st1) S152 H locs ls (by have := hpm.length_eq; simp only [List.length_cons] at hk; omega) hV (lv_sub hl [0, 1, 4, 2, 3, 5, 6, 7] rfl) hs4 hws1 rfl (fun r hr => hRn r (List.mem_cons_of_mem _ (hpm.mem_iff.mp hr))) (hpm.symm.nodup (List.nodup_cons.mp hRd).2) (by rw [hmt]; exact nI_add _ _) (by rw [q_l2_pm hpm]; simp only [q_l2, List.length_append] at hk9; omega) (by rw [e157, hi7]; exact nI_1 j) (by have := hpm.length_eq; simp only [List.length_cons] at hj; omega) hfl4 hpw4 hrw4 (q_fr_tr hfS (q_fr_tr (q_c3_ft hf134) (q_w_ft hf152)))
          · subst c124
            exfalso
            have hch := hrx.2.2.2.2
            rw [← h121] at hch
            cases hrr : rows (zf x110) with
            | nil => exact hnex hrr
            | cons b u => rw [hrr] at hch; exact nomatch hch.1
  have loop1 : ∀ (k : Nat) (i5 mt : Int32) (j : Nat) (S' : qS) (H : Heap) (locs : List Loc) (ls : Array Slot), 61 - j < k → q_V E s S' H locs → lv_has ls 8 [(5, .int (i5)), (4, .int (mt)), (3, .int (0)), (0, va_rf (some h)), (1, .int (nI sh)), (2, .int (nI m9))] → q_sh S' h ar t ns rows → i5 = nI j → j ≤ 61 → mt = nI (q_l1 rows j).length → q_flg S' rows (fun z => j + 3 ≤ z) → (∀ z, (rows z).Pairwise (fun a b => (S'.J 0 b).toInt < (S'.J 0 a).toInt)) → q_ft S S' → W p l e ({ frames := 2, cells := 1, slots := 2, locals := 44 } : Room) s m [.ref h, .int (nI sh), .int (nI m9)].toArray below meth c H locs (0) (0) (MQ below (va_Qi (post) (q_B E) E.A) [.ref h, .int (nI sh), .int (nI m9)].toArray s (1) (2) E.A) (F0 m 8 ls []) := by
    intro k
    induction k with
    | zero => intro i5 mt j S' H locs ls hk; exact absurd hk (Nat.not_lt_zero _)
    | succ k ih =>
      intro i5 mt j S' H locs ls hk hV hl hsS hi5 hj hmt hfl9 hpw9 hfS
      have hL_h := hsS.1.1
      have hK_h := hsS.1.2.1
      have hL_ar := hsS.2.1.1
      have hK_ar := hsS.2.1.2.1
      refine lv_iload C.1 C.2.1 dX2_wrongThings_8 (lv_at hl 0 rfl) ?_
      refine q_aload_n (r := some h) C dX2_wrongThings_10 rfl (lv_at hl 3 rfl) ?_
      refine g_Shelves_small C hV hL_h hK_h (Or.inl wd_112) dX2_wrongThings_11 ?_
      refine q_tr (v' := some ar) (hsS.1.2.2.1) ?_
      refine q_len7 C hV hL_ar hK_ar dX2_wrongThings_14 ?_
      refine q_ti (v' := 61) (by rw [hsS.2.1.2.2]; decide) ?_
      refine lv_icmp_ge (tgt := 74) C.1 C.2.1 dX2_wrongThings_15 (by decide) (fun c15 => ?_) (fun c15 => ?_)
      · have hj61 : j = 61 := by
          rcases Nat.lt_or_ge j 61 with h | h
          · exact absurd (hi5 ▸ c15) (nI_ge h (by omega))
          · omega
        subst hj61
        refine n_Walk C hV wd_267 (Nat.le_of_ble_eq_true rfl) (Nat.le_of_ble_eq_true rfl) dX2_wrongThings_74 (fun q74 H hq74 hV => ?_)
        refine lv_dup C.1 C.2.1 dX2_wrongThings_77 rfl ?_
        refine q_cv hV (q_rI (b := q74) (As := []) (rest := [va_rf (some q74)]) C hV (c_Walk_init l E (S'.nO q74 8) q74 (q_nO_in _ _ _) (q_nO_K _ _ _)) wd_271 (Or.inr ⟨_, wd_269⟩) wd_270 wd_51 rfl ok_X4_init ⟨rfl, rfl, Nat.le_of_ble_eq_true rfl, Nat.le_of_ble_eq_true rfl⟩ rfl hl.1 rfl (q_sm (q_1c (q_cat _) q_1n) (Nat.le_of_ble_eq_true rfl)) dX2_wrongThings_78 ⟨Nat.le_of_ble_eq_true rfl, Nat.le_of_ble_eq_true rfl⟩) (fun S78 H locs hp78 hV => ?_)
        have hfw0 : q_fr S' S78 q_cWI q_cWR q_c0 := by rw [hp78]; exact q_fr_nO hq74
        have hs8 := q_sh_w hsS hfw0
        have hL_h := hs8.1.1
        have hK_h := hs8.1.2.1
        have hL_t := hs8.2.2.2.1.1
        have hK_t := hs8.2.2.2.1.2.1
        have hL_q74 : q74 ∈ S78.L := by rw [hp78]; exact q_nO_in _ _ _
        have hK_q74 : S78.K q74 = 8 := by rw [hp78]; exact q_nO_K _ _ _
        have hI_q74 : S78.I 13 q74 = 0 := by rw [hp78]; exact va_up_self _ _ _
        have hR_q74 : S78.R 13 q74 = none := by rw [hp78]; exact va_up_self _ _ _
        have hrw8 : ∀ r ∈ ns, q_row S78 rows (zf r) r ∧ 64 ≤ zf r := fun r hr => ⟨q_row_w hsS hfw0 (q_row_fr (hzf r hr).1 hfS (fun e => absurd (show 4 = 3 ∨ 11 ≤ 4 from e) (by decide)) (fun e => absurd (show 12 ≤ 2 from e) (by decide)) (fun p hp => ⟨(hs.2.2.2.2.2.2 _ p hp).1, fun e => absurd (show 12 ≤ 1 from e) (by decide)⟩) rfl), (hzf r hr).2⟩
        obtain ⟨hE8, hws8, hfl8⟩ := q_wst_0 (zf := zf) (m9 := m9) hs8.2.2.2.1 hL_q74 hK_q74 hI_q74 hR_q74 (fun r hr => ⟨(hrw8 r hr).1.2.2.1, (hrw8 r hr).2, hz9 _ (hnez r hr)⟩) hm2
        refine q_astore (r := some q74) (lv' := [(5, va_rf (some q74)), (4, .int (mt)), (3, .int (0)), (0, va_rf (some h)), (1, .int (nI sh)), (2, .int (nI m9))]) C dX2_wrongThings_81 hl (by decide) (q_k0 (q_kC 1 rfl (by decide) rfl (q_kN 2 rfl (by decide) (by decide) (q_kN 3 rfl (by decide) (by decide) (q_kN 4 rfl (by decide) (by decide) (q_kN 5 rfl (by decide) (by decide) q_kz)))))) (fun ls hl => ?_)
        refine q_aload (r := some q74) C dX2_wrongThings_83 (lv_at hl 0 rfl) ?_
        refine q_aload_n (r := some h) C dX2_wrongThings_85 rfl (lv_at hl 3 rfl) ?_
        refine g_Shelves_great C hV hL_h hK_h (Or.inl wd_113) dX2_wrongThings_86 ?_
        refine q_tr (v' := some t) (hs8.1.2.2.2) ?_
        refine g_Tree_root C hV hL_t hK_t (Or.inr ⟨_, wd_108⟩) dX2_wrongThings_89 ?_
        refine q_tr (v' := S78.R 7 t) (rfl) ?_
        refine lv_bipush (v := 64) C.1 C.2.1 dX2_wrongThings_92 (by decide) ?_
        refine lv_iload_n C.1 C.2.1 dX2_wrongThings_94 rfl (lv_at hl 5 rfl) ?_
        refine q_cv hV (q_rN (b := q74) (As := [va_rf (S78.R 7 t), .int (64), .int (nI m9)]) (rest := []) C hV (c_Walk_enter l E S78 q74 (S78.R 7 t) 64 (nI m9) hL_q74 hK_q74 hE8) wd_284 wd_281 wd_283 wd_17 wd_51 ok_X4_enter ⟨rfl, rfl, Nat.le_of_ble_eq_true rfl, Nat.le_of_ble_eq_true rfl⟩ (q_rc8 hV hL_q74 hK_q74) rfl hl.1 rfl (q_sm q_1n (Nat.le_of_ble_eq_true rfl)) dX2_wrongThings_95 ⟨Nat.le_of_ble_eq_true rfl, Nat.le_of_ble_eq_true rfl⟩) (fun S95 H locs hp95 hV => ?_)
        have hfw1 : q_fr S78 S95 q_cWI q_cWR q_c0 := by rw [hp95]; exact q_ent_fr
        have hws95 : q_wst S95 q74 zf (q_pu (S78.R 7 t) 64 m9 ns []) := by rw [hp95]; exact hws8
        have hL_q74 := hws95.1
        have hK_q74 := hws95.2.1
        refine q_aload (r := some q74) C dX2_wrongThings_98 (lv_at hl 0 rfl) ?_
        refine q_cq hV (q_rN (b := q74) (As := []) (rest := []) C hV (c_Walk_nextS l E S95 q74 zf (q_pu (S78.R 7 t) 64 m9 ns []) hws95) wd_288 wd_285 wd_287 wd_18 wd_51 ok_X4_next ⟨rfl, rfl, Nat.le_of_ble_eq_true rfl, Nat.le_of_ble_eq_true rfl⟩ (q_rc8 hV hL_q74 hK_q74) rfl hl.1 rfl (q_sm q_1n (Nat.le_of_ble_eq_true rfl)) dX2_wrongThings_100 ⟨Nat.le_of_ble_eq_true rfl, Nat.le_of_ble_eq_true rfl⟩) (fun r100 S100 H locs hp100 hV => ?_)
        obtain ⟨st1, hws1, hf100, hcase⟩ := hp100
        have hpm := q_rem_pm hcase
        rw [hfl8] at hpm
        have hfw : q_fr S' S100 q_cWI q_cWR q_c0 := q_fr_tr hfw0 (q_fr_tr hfw1 hf100)
        have hs100 := q_sh_w hsS hfw
        have hpw100 := q_pw_fr hsS hfw hpw9
        have hrw100 : ∀ r ∈ ns, q_row S100 rows (zf r) r ∧ 64 ≤ zf r := fun r hr => ⟨q_row_w hs8 (q_fr_tr hfw1 hf100) (hrw8 r hr).1, (hrw8 r hr).2⟩
        have hfl100 : q_flg S100 rows (fun z => ∃ r ∈ q_rem r100 st1, z = zf r) := q_flg_w hsS hfw (fun z ⟨r, hr, e⟩ a ha => hfl9 z (by have := (hzf r (hpm.mem_iff.mp hr)).2; omega) a ha)
        refine q_astore (r := r100) (lv' := [(6, va_rf (r100)), (5, va_rf (some q74)), (4, .int (mt)), (3, .int (0)), (0, va_rf (some h)), (1, .int (nI sh)), (2, .int (nI m9))]) C dX2_wrongThings_103 hl (by decide) (q_k0 (q_kC 0 rfl (by decide) (q_cat _) (q_kN 1 rfl (by decide) (by decide) (q_kN 2 rfl (by decide) (by decide) (q_kN 3 rfl (by decide) (by decide) (q_kN 4 rfl (by decide) (by decide) (q_kN 5 rfl (by decide) (by decide) q_kz))))))) (fun ls hl => ?_)
        refine lv_iconst (v := 0) C.1 C.2.1 dX2_wrongThings_105 (by decide) ?_
        refine q_istore (x := 0) (lv' := [(7, .int (0)), (6, va_rf (r100)), (5, va_rf (some q74)), (4, .int (mt)), (3, .int (0)), (0, va_rf (some h)), (1, .int (nI sh)), (2, .int (nI m9))]) C dX2_wrongThings_106 hl (by decide) (q_k0 (q_kC 0 rfl (by decide) (q_cat _) (q_kN 1 rfl (by decide) (by decide) (q_kN 2 rfl (by decide) (by decide) (q_kN 3 rfl (by decide) (by decide) (q_kN 4 rfl (by decide) (by decide) (q_kN 5 rfl (by decide) (by decide) (q_kN 6 rfl (by decide) (by decide) q_kz)))))))) (fun ls hl => ?_)
        exact loop2 ((q_rem r100 st1).length + 1) r100 _ 0 0 (q_l1 rows 61).length q74 st1 (q_rem r100 st1) S100 H locs ls (Nat.lt_succ_self _) hV hl hs100 hws1 rfl (fun r hr => hpm.mem_iff.mp hr) (hpm.symm.nodup hnd) hmt (by rw [q_l2_pm hpm, hsh]) nI_0.symm (by have := hpm.length_eq; omega) hfl100 hpw100 hrw100 (q_fr_tr hfS (q_w_ft hfw))
      · have hj61 : j < 61 := by
          rcases Nat.lt_or_ge j 61 with h | h
          · exact h
          · exact absurd (by rw [hi5]; exact nI_le h (by omega)) c15
        obtain ⟨r9, hB9, hrow⟩ := hsS.2.2.1 j hj61
        have hL_ar := hsS.2.1.1
        have hK_ar := hsS.2.1.2.1
        have hN_ar : S'.N ar < 2 ^ 31 := by rw [hsS.2.1.2.2]; decide
        have hL_r9 := hrow.1
        have hK_r9 := hrow.2.1
        refine q_aload_n (r := some h) C dX2_wrongThings_18 rfl (lv_at hl 3 rfl) ?_
        refine g_Shelves_small C hV hL_h hK_h (Or.inl wd_112) dX2_wrongThings_19 ?_
        refine q_tr (v' := some ar) (hsS.1.2.2.1) ?_
        refine lv_iload C.1 C.2.1 dX2_wrongThings_22 (lv_at hl 0 rfl) ?_
        refine q_aald (j := j) C hV hL_ar hK_ar (hi5) (by rw [hsS.2.1.2.2]; exact hj61) (hN_ar) dX2_wrongThings_24 ?_
        refine q_tr (v' := some r9) (hB9) ?_
        refine g_Row_cells C hV hL_r9 hK_r9 (Or.inr ⟨_, wd_76⟩) dX2_wrongThings_25 ?_
        refine q_ti (v' := nI (j + 3)) (hrow.2.2.1) ?_
        refine lv_iconst (v := 3) C.1 C.2.1 dX2_wrongThings_28 (by decide) ?_
        refine lv_iload C.1 C.2.1 dX2_wrongThings_29 (lv_at hl 0 rfl) ?_
        refine lv_iadd C.1 C.2.1 dX2_wrongThings_31 ?_
        refine lv_icmp_eq (tgt := 38) C.1 C.2.1 dX2_wrongThings_32 (by decide) (fun c32 => ?_) (fun c32 => ?_)
        · refine lv_iload_n C.1 C.2.1 dX2_wrongThings_38 rfl (lv_at hl 2 rfl) ?_
          refine q_aload_n (r := some h) C dX2_wrongThings_39 rfl (lv_at hl 3 rfl) ?_
          refine g_Shelves_small C hV hL_h hK_h (Or.inl wd_112) dX2_wrongThings_40 ?_
          refine q_tr (v' := some ar) (hsS.1.2.2.1) ?_
          refine lv_iload C.1 C.2.1 dX2_wrongThings_43 (lv_at hl 0 rfl) ?_
          refine q_aald (j := j) C hV hL_ar hK_ar (hi5) (by rw [hsS.2.1.2.2]; exact hj61) (hN_ar) dX2_wrongThings_45 ?_
          refine q_tr (v' := some r9) (hB9) ?_
          refine lv_iload_n C.1 C.2.1 dX2_wrongThings_46 rfl (lv_at hl 5 rfl) ?_
          refine q_ci hV (q_rS (As := [va_rf (some r9), .int (nI m9)]) (rest := [.int (0)]) C hV (c_Shelves_wrongInRow l E S' r9 m9 (j + 3) (rows (j + 3)) hL_r9 hK_r9 hrow.2.2.1 hrow.2.2.2.2 (fun b hb => ⟨(hsS.2.2.2.2.2.2 _ b hb).1, (hsS.2.2.2.2.2.2 _ b hb).2.1, (hsS.2.2.2.2.2.2 _ b hb).2.2.1, hfl9 _ (by omega) b hb⟩) (hpw9 _) (hlen _) hm2) wd_263 wd_261 wd_262 wd_40 ok_X2_wrongInRow ⟨rfl, rfl, Nat.le_of_ble_eq_true rfl, Nat.le_of_ble_eq_true rfl⟩ rfl hl.1 rfl (q_sm (q_1c rfl q_1n) (Nat.le_of_ble_eq_true rfl)) dX2_wrongThings_47 ⟨Nat.le_of_ble_eq_true rfl, Nat.le_of_ble_eq_true rfl⟩) (fun i47 S47 H locs hp47 hV => ?_)
          obtain ⟨rfl, hf47⟩ := hp47
          have hs3 := q_sh_c3 hsS hf47
          have hpw3 := q_pw_fr hsS hf47 hpw9
          have hB9b : S47.B ar j = some r9 := by rw [(hf47.1 ar hL_ar).2.2.2.2]; exact hB9
          have hL_h := hs3.1.1
          have hK_h := hs3.1.2.1
          have hL_ar := hs3.2.1.1
          have hK_ar := hs3.2.1.2.1
          have hN_ar : S47.N ar < 2 ^ 31 := by rw [hs3.2.1.2.2]; decide
          have hrow3 : q_row S47 rows (j + 3) r9 := q_row_fr hrow hf47 (fun e => absurd e.1 (by decide)) id (fun p hp => ⟨(hsS.2.2.2.2.2.2 _ p hp).1, id⟩) rfl
          have hfl3 : q_flg S47 rows (fun z => j + 1 + 3 ≤ z) := q_flg_fr hsS hf47 hfl9 (fun z hz => ⟨by omega, by omega⟩)
          refine lv_iadd C.1 C.2.1 dX2_wrongThings_50 ?_
          refine q_ti (v' := 0) (by decide) ?_
          refine q_istore_n (x := 0) (lv' := [(3, .int (0)), (5, .int (i5)), (4, .int (mt)), (0, va_rf (some h)), (1, .int (nI sh)), (2, .int (nI m9))]) C dX2_wrongThings_51 rfl hl (by decide) (q_k0 (q_kN 0 rfl (by decide) (by decide) (q_kN 1 rfl (by decide) (by decide) (q_kN 3 rfl (by decide) (by decide) (q_kN 4 rfl (by decide) (by decide) (q_kC 5 rfl (by decide) rfl q_kz)))))) (fun ls hl => ?_)
          refine lv_iload C.1 C.2.1 dX2_wrongThings_52 (lv_at hl 2 rfl) ?_
          refine q_aload_n (r := some h) C dX2_wrongThings_54 rfl (lv_at hl 3 rfl) ?_
          refine g_Shelves_small C hV hL_h hK_h (Or.inl wd_112) dX2_wrongThings_55 ?_
          refine q_tr (v' := some ar) (hs3.1.2.2.1) ?_
          refine lv_iload C.1 C.2.1 dX2_wrongThings_58 (lv_at hl 1 rfl) ?_
          refine q_aald (j := j) C hV hL_ar hK_ar (hi5) (by rw [hs3.2.1.2.2]; exact hj61) (hN_ar) dX2_wrongThings_60 ?_
          refine q_tr (v' := some r9) (hB9b) ?_
          refine lv_iload_n C.1 C.2.1 dX2_wrongThings_61 rfl (lv_at hl 5 rfl) ?_
          refine q_ci hV (q_rS (As := [va_rf (some r9), .int (nI m9)]) (rest := [.int (mt)]) C hV (c_Shelves_piecesIn l E S47 r9 m9 (rows (j + 3)) (hrow3).1 hrow3.2.1 hrow3.2.2.2.2 (fun b hb => ⟨(hs3.2.2.2.2.2.2 _ b hb).1, (hs3.2.2.2.2.2.2 _ b hb).2.1⟩) (hlen _) hm2) wd_266 wd_264 wd_265 wd_40 ok_X2_piecesIn ⟨rfl, rfl, Nat.le_of_ble_eq_true rfl, Nat.le_of_ble_eq_true rfl⟩ rfl hl.1 rfl (q_sm (q_1c rfl q_1n) (Nat.le_of_ble_eq_true rfl)) dX2_wrongThings_62 ⟨Nat.le_of_ble_eq_true rfl, Nat.le_of_ble_eq_true rfl⟩) (fun i62 S62 H locs hp62 hV => ?_)
          obtain ⟨eS62, hp62⟩ := hp62
          rw [eS62] at hV
          subst hp62
          refine lv_iadd C.1 C.2.1 dX2_wrongThings_65 ?_
          refine q_istore (x := mt + (nI (rows (j + 3)).length)) (lv' := [(4, .int (mt + (nI (rows (j + 3)).length))), (3, .int (0)), (5, .int (i5)), (0, va_rf (some h)), (1, .int (nI sh)), (2, .int (nI m9))]) C dX2_wrongThings_66 hl (by decide) (q_k0 (q_kC 0 rfl (by decide) rfl (q_kN 1 rfl (by decide) (by decide) (q_kN 3 rfl (by decide) (by decide) (q_kN 4 rfl (by decide) (by decide) (q_kN 5 rfl (by decide) (by decide) q_kz)))))) (fun ls hl => ?_)
          obtain ⟨i68, e68⟩ : ∃ y : Int32, y = i5 + 1 := ⟨_, rfl⟩
          refine q_iinc (v := i68) (k := 2) (lv' := [(5, .int (i68)), (4, .int (mt + (nI (rows (j + 3)).length))), (3, .int (0)), (0, va_rf (some h)), (1, .int (nI sh)), (2, .int (nI m9))]) C dX2_wrongThings_68 hl rfl (by rw [e68]; rfl) (by decide) (q_k0 (q_kC 0 rfl (by decide) rfl (q_kN 1 rfl (by decide) (by decide) (q_kN 3 rfl (by decide) (by decide) (q_kN 4 rfl (by decide) (by decide) (q_kN 5 rfl (by decide) (by decide) q_kz)))))) (fun ls hl => ?_)
          refine lv_goto (tgt := 8) C.1 C.2.1 dX2_wrongThings_71 (by decide) ?_
          exact ih i68 _ (j + 1) S47 H locs ls (by omega) hV hl hs3 (by rw [e68, hi5]; exact nI_1 j) (by omega) (by rw [hmt]; simp only [q_l1, List.length_append]; exact nI_add _ _) hfl3 hpw3 (q_fr_tr hfS (q_c3_ft hf47))
        · exfalso
          exact c32 (by rw [hi5, show (3 : Int32) = nI 3 from by decide, nI_add, Nat.add_comm])
  refine lv_iconst (v := 0) C.1 C.2.1 dX2_wrongThings_0 (by decide) ?_
  refine q_istore_n (x := 0) (lv' := [(3, .int (0)), (0, va_rf (some h)), (1, .int (nI sh)), (2, .int (nI m9))]) C dX2_wrongThings_1 rfl hl (by decide) (q_k0 (q_kN 0 rfl (by decide) (by decide) (q_kN 1 rfl (by decide) (by decide) (q_kC 2 rfl (by decide) rfl q_kz)))) (fun ls hl => ?_)
  refine lv_iconst (v := 0) C.1 C.2.1 dX2_wrongThings_2 (by decide) ?_
  refine q_istore (x := 0) (lv' := [(4, .int (0)), (3, .int (0)), (0, va_rf (some h)), (1, .int (nI sh)), (2, .int (nI m9))]) C dX2_wrongThings_3 hl (by decide) (q_k0 (q_kC 0 rfl (by decide) rfl (q_kN 1 rfl (by decide) (by decide) (q_kN 2 rfl (by decide) (by decide) (q_kN 3 rfl (by decide) (by decide) q_kz))))) (fun ls hl => ?_)
  refine lv_iconst (v := 0) C.1 C.2.1 dX2_wrongThings_5 (by decide) ?_
  refine q_istore (x := 0) (lv' := [(5, .int (0)), (4, .int (0)), (3, .int (0)), (0, va_rf (some h)), (1, .int (nI sh)), (2, .int (nI m9))]) C dX2_wrongThings_6 hl (by decide) (q_k0 (q_kC 0 rfl (by decide) rfl (q_kN 1 rfl (by decide) (by decide) (q_kN 2 rfl (by decide) (by decide) (q_kN 3 rfl (by decide) (by decide) (q_kN 4 rfl (by decide) (by decide) q_kz)))))) (fun ls hl => ?_)
  exact loop1 62 0 0 0 S s.heap [] ls (by omega) hV hl hs nI_0.symm (by omega) nI_0.symm (fun z _ a ha => hfl z trivial a ha) hpw q_fr_rf
theorem c_Shelves_wrongThings (l : Launch) (E : qE) (S : qS) (h ar t sh m9 : Nat) (ns : List Nat) (rows : Nat → List Nat) (zf : Nat → Nat) (hs : q_sh S h ar t ns rows) (hne : q_ne S ns rows) (hzf : ∀ r ∈ ns, q_row S rows (zf r) r ∧ 64 ≤ zf r) (hfl : q_flg S rows (fun _ => True)) (hpw : ∀ z, (rows z).Pairwise (fun a b => (S.J 0 b).toInt < (S.J 0 a).toInt)) (hlen : ∀ z, (rows z).length ≤ m9) (hnl : ns.length ≤ m9) (hm2 : m9 < 2 ^ 31) (hz9 : ∀ z, rows z ≠ [] → z ≤ m9) (hsh : sh = (q_l1 rows 61).length + (q_l2 rows zf ns).length) : q_Mi l yX2_wrongThings cX2_wrongThings 8 .int { frames := 2, cells := 1, slots := 2, locals := 44 } E [.ref h, .int (nI sh), .int (nI m9)] S (fun r S1 => r = 0 ∧ q_ft S S1) 1 2 := c0_Shelves_wrongThings l E S h ar t sh m9 ns rows zf hs hne hzf hfl hpw hlen hnl hm2 hz9 hsh _ (fun _ _ h => h)

