/-! FAULTS: the rows one after another -/
def q_l1 (rows : Nat → List Nat) : Nat → List Nat
  | 0 => []
  | i + 1 => q_l1 rows i ++ rows (i + 3)
def q_l2 (rows : Nat → List Nat) (zf : Nat → Nat) : List Nat → List Nat
  | [] => []
  | r :: ns => rows (zf r) ++ q_l2 rows zf ns
set_option maxHeartbeats 4000000 in
set_option maxRecDepth 100000 in
theorem c0_Shelves_piecesIn (l : Launch) (E : qE) (S : qS) (r9 m9 : Nat) (l9 : List Nat) (hL_r9 : r9 ∈ S.L) (hK_r9 : S.K r9 = 1) (hc : q_ch (S.R 1) (S.R 2 r9) l9) (hok : ∀ a ∈ l9, a ∈ S.L ∧ S.K a = 0) (hm : l9.length ≤ m9) (hm2 : m9 < 2 ^ 31) (post : Int32 → qS → Prop) (hpost : ∀ r S1, (S1 = S ∧ r = nI l9.length) → post r S1) : q_Mi l yX2_piecesIn cX2_piecesIn 4 .int { frames := 0, cells := 0, slots := 0, locals := 0 } E [.ref r9, .int (nI m9)] S (post) 0 0 := by
  refine q_ofW1 (by decide) (q_1c rfl (q_1c rfl q_1n)) (Nat.le_of_ble_eq_true rfl) (fun p e s m below meth c C hV hr hlk hnm ls hl => ?_)
  have hl : lv_has ls 4 [(0, va_rf (some r9)), (1, .int (nI m9))] := hl
  have loop : ∀ (k : Nat) (pp : Option Nat) (i : Int32) (j : Nat) (rest : List Nat) (ls : Array Slot), rest.length < k → lv_has ls 4 [(3, va_rf (pp)), (2, .int (i)), (0, va_rf (some r9)), (1, .int (nI m9))] → q_ch (S.R 1) pp rest → i = nI j → j + rest.length = l9.length → (∀ a ∈ rest, a ∈ S.L ∧ S.K a = 0) → W p l e ({ frames := 0, cells := 0, slots := 0, locals := 0 } : Room) s m [.ref r9, .int (nI m9)].toArray below meth c s.heap [] (0) (0) (MQ below (va_Qi (post) (q_B E) E.A) [.ref r9, .int (nI m9)].toArray s (0) (0) E.A) (F0 m 7 ls []) := by
    intro k
    induction k with
    | zero => intro pp i j rest ls hk; exact absurd hk (Nat.not_lt_zero _)
    | succ k ih =>
      intro pp i j rest ls hk hl hch hi hj hok9
      refine q_aload_n (r := pp) C dX2_piecesIn_7 rfl (lv_at hl 0 rfl) ?_
      refine q_ifnull (r := pp) (tgt := 27) C dX2_piecesIn_8 (by decide) (fun c8 => ?_) (fun x8 c8 => ?_)
      · subst c8
        refine lv_iload_n C.1 C.2.1 dX2_piecesIn_27 rfl (lv_at hl 1 rfl) ?_
        refine q_iret (v := i) C hV hr hlk (Nat.le_of_ble_eq_true rfl) (Nat.le_of_ble_eq_true rfl) dX2_piecesIn_28 ?_
        have hre : rest = [] := by cases rest with
          | nil => rfl
          | cons a tl => exact nomatch hch.1
        refine hpost _ _ ⟨rfl, ?_⟩
        rw [hi, show j = l9.length from by rw [hre] at hj; simpa using hj]
      · subst c8
        obtain ⟨tl, rfl, hch2⟩ : ∃ tl, rest = x8 :: tl ∧ q_ch (S.R 1) (S.R 1 x8) tl := by
          cases rest with
          | nil => exact nomatch (show some x8 = none from hch)
          | cons a tl => cases hch.1; exact ⟨tl, rfl, hch.2⟩
        obtain ⟨hL_x8, hK_x8⟩ := hok9 x8 List.mem_cons_self
        refine lv_iload_n C.1 C.2.1 dX2_piecesIn_11 rfl (lv_at hl 1 rfl) ?_
        refine lv_iload_n C.1 C.2.1 dX2_piecesIn_12 rfl (lv_at hl 3 rfl) ?_
        refine lv_icmp_ge (tgt := 27) C.1 C.2.1 dX2_piecesIn_13 (by decide) (fun c13 => ?_) (fun c13 => ?_)
        · exfalso
          exact absurd (hi ▸ c13) (nI_ge (by simp at hj; omega) (by omega))
        · obtain ⟨i16, e16⟩ : ∃ y : Int32, y = i + 1 := ⟨_, rfl⟩
          refine q_iinc (v := i16) (k := 1) (lv' := [(2, .int (i16)), (3, va_rf (some x8)), (0, va_rf (some r9)), (1, .int (nI m9))]) C dX2_piecesIn_16 hl rfl (by rw [e16]; rfl) (by decide) (q_k0 (q_kN 0 rfl (by decide) (by decide) (q_kN 2 rfl (by decide) (by decide) (q_kC 3 rfl (by decide) rfl q_kz)))) (fun ls hl => ?_)
          refine q_aload_n (r := some x8) C dX2_piecesIn_19 rfl (lv_at hl 1 rfl) ?_
          refine g_Piece_older C hV hL_x8 hK_x8 (Or.inr ⟨_, wd_133⟩) dX2_piecesIn_20 ?_
          refine q_nr (fun r20 h20 => ?_)
          refine q_astore_n (r := r20) (lv' := [(3, va_rf (r20)), (2, .int (i16)), (0, va_rf (some r9)), (1, .int (nI m9))]) C dX2_piecesIn_23 rfl hl (by decide) (q_k0 (q_kC 0 rfl (by decide) rfl (q_kN 2 rfl (by decide) (by decide) (q_kN 3 rfl (by decide) (by decide) q_kz)))) (fun ls hl => ?_)
          refine lv_goto (tgt := 7) C.1 C.2.1 dX2_piecesIn_24 (by decide) ?_
          subst h20
          exact ih (S.R 1 x8) i16 (j + 1) tl ls (by simp at hk; omega) hl hch2 (by rw [e16, hi]; exact nI_1 j) (by simp at hj; omega) (fun a ha => hok9 a (List.mem_cons_of_mem _ ha))
  refine lv_iconst (v := 0) C.1 C.2.1 dX2_piecesIn_0 (by decide) ?_
  refine q_istore_n (x := 0) (lv' := [(2, .int (0)), (0, va_rf (some r9)), (1, .int (nI m9))]) C dX2_piecesIn_1 rfl hl (by decide) (q_k0 (q_kN 0 rfl (by decide) (by decide) (q_kC 1 rfl (by decide) rfl q_kz))) (fun ls hl => ?_)
  refine q_aload_n (r := some r9) C dX2_piecesIn_2 rfl (lv_at hl 1 rfl) ?_
  refine g_Row_latest C hV hL_r9 hK_r9 (Or.inr ⟨_, wd_74⟩) dX2_piecesIn_3 ?_
  refine q_nr (fun r3 h3 => ?_)
  refine q_astore_n (r := r3) (lv' := [(3, va_rf (r3)), (2, .int (0)), (0, va_rf (some r9)), (1, .int (nI m9))]) C dX2_piecesIn_6 rfl hl (by decide) (q_k0 (q_kC 0 rfl (by decide) rfl (q_kN 1 rfl (by decide) (by decide) (q_kN 2 rfl (by decide) (by decide) q_kz)))) (fun ls hl => ?_)
  exact loop (l9.length + 1) r3 0 0 l9 ls (Nat.lt_succ_self _) hl (by rw [h3]; exact hc) nI_0.symm (Nat.zero_add _) hok
theorem c_Shelves_piecesIn (l : Launch) (E : qE) (S : qS) (r9 m9 : Nat) (l9 : List Nat) (hL_r9 : r9 ∈ S.L) (hK_r9 : S.K r9 = 1) (hc : q_ch (S.R 1) (S.R 2 r9) l9) (hok : ∀ a ∈ l9, a ∈ S.L ∧ S.K a = 0) (hm : l9.length ≤ m9) (hm2 : m9 < 2 ^ 31) : q_Mi l yX2_piecesIn cX2_piecesIn 4 .int { frames := 0, cells := 0, slots := 0, locals := 0 } E [.ref r9, .int (nI m9)] S (fun r S1 => S1 = S ∧ r = nI l9.length) 0 0 := c0_Shelves_piecesIn l E S r9 m9 l9 hL_r9 hK_r9 hc hok hm hm2 _ (fun _ _ h => h)

abbrev q_c3 (l : List Nat) : Nat → Nat → Prop := fun j x => j = 3 ∧ x ∈ l
set_option maxHeartbeats 4000000 in
set_option maxRecDepth 100000 in
theorem c0_Shelves_wrongInRow (l : Launch) (E : qE) (S : qS) (r9 m9 z9 : Nat) (l9 : List Nat) (hL_r9 : r9 ∈ S.L) (hK_r9 : S.K r9 = 1) (hz : S.I 4 r9 = nI z9) (hc : q_ch (S.R 1) (S.R 2 r9) l9) (hok : ∀ a ∈ l9, a ∈ S.L ∧ S.K a = 0 ∧ S.I 1 a = nI z9 ∧ S.I 3 a = 1) (hpw : l9.Pairwise (fun a b => (S.J 0 b).toInt < (S.J 0 a).toInt)) (hm : l9.length ≤ m9) (hm2 : m9 < 2 ^ 31) (post : Int32 → qS → Prop) (hpost : ∀ r S1, (r = 0 ∧ q_fr S S1 (q_c3 l9) q_c0 q_c0) → post r S1) : q_Mi l yX2_wrongInRow cX2_wrongInRow 5 .int { frames := 0, cells := 0, slots := 0, locals := 0 } E [.ref r9, .int (nI m9)] S (post) 0 0 := by
  refine q_ofW1 (by decide) (q_1c rfl (q_1c rfl q_1n)) (Nat.le_of_ble_eq_true rfl) (fun p e s m below meth c C hV hr hlk hnm ls hl => ?_)
  have hl : lv_has ls 5 [(0, va_rf (some r9)), (1, .int (nI m9))] := hl
  have loop : ∀ (k : Nat) (pp : Option Nat) (i : Int32) (j : Nat) (rest : List Nat) (S' : qS) (H : Heap) (locs : List Loc) (ls : Array Slot), rest.length < k → q_V E s S' H locs → lv_has ls 5 [(4, .int (i)), (3, va_rf (pp)), (2, .int (0)), (0, va_rf (some r9)), (1, .int (nI m9))] → q_ch (S'.R 1) pp rest → i = nI j → j + rest.length = l9.length → (∀ a ∈ rest, a ∈ S'.L ∧ S'.K a = 0 ∧ S'.I 1 a = nI z9 ∧ S'.I 3 a = 1) → rest.Pairwise (fun a b => (S'.J 0 b).toInt < (S'.J 0 a).toInt) → r9 ∈ S'.L → S'.K r9 = 1 → S'.I 4 r9 = nI z9 → (∀ S1, q_fr S' S1 (q_c3 rest) q_c0 q_c0 → post 0 S1) → W p l e ({ frames := 0, cells := 0, slots := 0, locals := 0 } : Room) s m [.ref r9, .int (nI m9)].toArray below meth c H locs (0) (0) (MQ below (va_Qi (post) (q_B E) E.A) [.ref r9, .int (nI m9)].toArray s (0) (0) E.A) (F0 m 10 ls []) := by
    intro k
    induction k with
    | zero => intro pp i j rest S' H locs ls hk; exact absurd hk (Nat.not_lt_zero _)
    | succ k ih =>
      intro pp i j rest S' H locs ls hk hV hl hch hi hj hok9 hpw9 hL9 hK9 hz9 hpost9
      refine q_aload_n (r := pp) C dX2_wrongInRow_10 rfl (lv_at hl 1 rfl) ?_
      refine q_ifnull (r := pp) (tgt := 82) C dX2_wrongInRow_11 (by decide) (fun c11 => ?_) (fun x11 c11 => ?_)
      · subst c11
        refine lv_iload_n C.1 C.2.1 dX2_wrongInRow_82 rfl (lv_at hl 2 rfl) ?_
        refine q_iret (v := 0) C hV hr hlk (Nat.le_of_ble_eq_true rfl) (Nat.le_of_ble_eq_true rfl) dX2_wrongInRow_83 ?_
        have hre : rest = [] := by cases rest with
          | nil => rfl
          | cons a tl => exact nomatch hch.1
        exact hpost9 _ q_fr_rf
      · subst c11
        obtain ⟨tl, rfl, hch2⟩ : ∃ tl, rest = x11 :: tl ∧ q_ch (S'.R 1) (S'.R 1 x11) tl := by
          cases rest with
          | nil => exact nomatch (show some x11 = none from hch)
          | cons a tl => cases hch.1; exact ⟨tl, rfl, hch.2⟩
        obtain ⟨hL_x11, hK_x11, hI1x, hI3x⟩ := hok9 x11 List.mem_cons_self
        have hxt : x11 ∉ tl := (List.nodup_cons.mp (q_ch_nodup hch)).1
        have hL_r9 := hL9
        have hK_r9 := hK9
        refine lv_iload C.1 C.2.1 dX2_wrongInRow_14 (lv_at hl 0 rfl) ?_
        refine lv_iload_n C.1 C.2.1 dX2_wrongInRow_16 rfl (lv_at hl 4 rfl) ?_
        refine lv_icmp_ge (tgt := 82) C.1 C.2.1 dX2_wrongInRow_17 (by decide) (fun c17 => ?_) (fun c17 => ?_)
        · exfalso
          exact absurd (hi ▸ c17) (nI_ge (by simp at hj; omega) (by omega))
        · refine q_aload_n (r := some x11) C dX2_wrongInRow_20 rfl (lv_at hl 1 rfl) ?_
          refine g_Piece_awaited C hV hL_x11 hK_x11 (Or.inr ⟨_, wd_134⟩) dX2_wrongInRow_21 ?_
          refine q_ti (v' := 1) (hI3x) ?_
          refine lv_if_eq (tgt := 38) C.1 C.2.1 dX2_wrongInRow_24 (by decide) (fun c24 => ?_) (fun c24 => ?_)
          · exact absurd c24 (by decide)
          · refine q_aload_n (r := some x11) C dX2_wrongInRow_27 rfl (lv_at hl 1 rfl) ?_
            refine g_Piece_cells C hV hL_x11 hK_x11 (Or.inr ⟨_, wd_125⟩) dX2_wrongInRow_28 ?_
            refine q_ti (v' := nI z9) (hI1x) ?_
            refine q_aload_n (r := some r9) C dX2_wrongInRow_31 rfl (lv_at hl 3 rfl) ?_
            refine g_Row_cells C hV hL_r9 hK_r9 (Or.inr ⟨_, wd_72⟩) dX2_wrongInRow_32 ?_
            refine q_ti (v' := nI z9) (hz9) ?_
            refine lv_icmp_eq (tgt := 41) C.1 C.2.1 dX2_wrongInRow_35 (by decide) (fun c35 => ?_) (fun c35 => ?_)
            · refine q_aload_n (r := some x11) C dX2_wrongInRow_41 rfl (lv_at hl 1 rfl) ?_
              refine g_Piece_older C hV hL_x11 hK_x11 (Or.inr ⟨_, wd_133⟩) dX2_wrongInRow_42 ?_
              refine q_nr (fun r42 h42 => ?_)
              refine q_ifnull (r := r42) (tgt := 66) C dX2_wrongInRow_45 (by decide) (fun c45 => ?_) (fun x45 c45 => ?_)
              · subst c45
                refine q_aload_n (r := some x11) C dX2_wrongInRow_66 rfl (lv_at hl 1 rfl) ?_
                refine lv_iconst (v := 0) C.1 C.2.1 dX2_wrongInRow_67 (by decide) ?_
                refine p_Piece_awaited (v := 0) C hV hL_x11 hK_x11 (by decide) (Or.inr ⟨_, wd_134⟩) dX2_wrongInRow_68 (fun H locs hV => ?_)
                refine q_aload_n (r := some x11) C dX2_wrongInRow_71 rfl (lv_at hl 1 rfl) ?_
                refine g_Piece_older C hV hL_x11 hK_x11 (Or.inr ⟨_, wd_133⟩) dX2_wrongInRow_72 ?_
                refine q_nr (fun r72 h72 => ?_)
                refine q_astore_n (r := r72) (lv' := [(3, va_rf (r72)), (4, .int (i)), (2, .int (0)), (0, va_rf (some r9)), (1, .int (nI m9))]) C dX2_wrongInRow_75 rfl hl (by decide) (q_k0 (q_kN 0 rfl (by decide) (by decide) (q_kC 2 rfl (by decide) rfl (q_kN 3 rfl (by decide) (by decide) (q_kN 4 rfl (by decide) (by decide) q_kz))))) (fun ls hl => ?_)
                obtain ⟨i76, e76⟩ : ∃ y : Int32, y = i + 1 := ⟨_, rfl⟩
                refine q_iinc (v := i76) (k := 1) (lv' := [(4, .int (i76)), (3, va_rf (r72)), (2, .int (0)), (0, va_rf (some r9)), (1, .int (nI m9))]) C dX2_wrongInRow_76 hl rfl (by rw [e76]; rfl) (by decide) (q_k0 (q_kC 0 rfl (by decide) (q_cat _) (q_kN 2 rfl (by decide) (by decide) (q_kN 3 rfl (by decide) (by decide) (q_kN 4 rfl (by decide) (by decide) q_kz))))) (fun ls hl => ?_)
                refine lv_goto (tgt := 10) C.1 C.2.1 dX2_wrongInRow_79 (by decide) ?_
                subst h72
                exact ih (S'.R 1 x11) i76 (j + 1) tl (S'.sI 3 x11 0) H locs ls (by simp at hk; omega) hV hl hch2 (by rw [e76, hi]; exact nI_1 j) (by simp at hj; omega) (fun a ha => ⟨(hok9 a (List.mem_cons_of_mem _ ha)).1, (hok9 a (List.mem_cons_of_mem _ ha)).2.1, by rw [qI_ne _ _ _ _ (fun e : a = x11 => hxt (e ▸ ha))]; exact (hok9 a (List.mem_cons_of_mem _ ha)).2.2.1, by rw [qI_ne _ _ _ _ (fun e : a = x11 => hxt (e ▸ ha))]; exact (hok9 a (List.mem_cons_of_mem _ ha)).2.2.2⟩) (List.pairwise_cons.mp hpw9).2 hL9 hK9 (by rw [qI_of _ _ _ _ (by decide)]; exact hz9) (fun S1 h1 => hpost9 S1 (q_fr_tr (q_fr_sI ⟨rfl, List.mem_cons_self⟩) (q_fr_mo h1 (fun j x z => ⟨z.1, List.mem_cons_of_mem _ z.2⟩) (fun _ _ z => z) (fun _ _ z => z))))
              · subst c45
                obtain ⟨t2, htl⟩ : ∃ t2, tl = x45 :: t2 := by
                  have hq := q_ch_head hch2
                  rw [← h42] at hq
                  cases tl with
                  | nil => exact nomatch hq
                  | cons b t2 => exact ⟨t2, by rw [Option.some.inj hq]⟩
                have hR1x : S'.R 1 x11 = some x45 := h42.symm
                obtain ⟨hL_x45, hK_x45, -, -⟩ := hok9 x45 (by rw [htl]; simp)
                refine q_aload_n (r := some x11) C dX2_wrongInRow_48 rfl (lv_at hl 1 rfl) ?_
                refine g_Piece_older C hV hL_x11 hK_x11 (Or.inr ⟨_, wd_133⟩) dX2_wrongInRow_49 ?_
                refine q_tr (v' := some x45) (hR1x) ?_
                refine g_Piece_since C hV hL_x45 hK_x45 (Or.inr ⟨_, wd_129⟩) dX2_wrongInRow_52 ?_
                refine q_aload_n (r := some x11) C dX2_wrongInRow_55 rfl (lv_at hl 1 rfl) ?_
                refine g_Piece_since C hV hL_x11 hK_x11 (Or.inr ⟨_, wd_129⟩) dX2_wrongInRow_56 ?_
                refine W.lcmp C.1 C.2.1 dX2_wrongInRow_59 ?_
                refine lv_if_lt (tgt := 66) C.1 C.2.1 dX2_wrongInRow_60 (by decide) (fun c60 => ?_) (fun c60 => ?_)
                · refine q_aload_n (r := some x11) C dX2_wrongInRow_66 rfl (lv_at hl 1 rfl) ?_
                  refine lv_iconst (v := 0) C.1 C.2.1 dX2_wrongInRow_67 (by decide) ?_
                  refine p_Piece_awaited (v := 0) C hV hL_x11 hK_x11 (by decide) (Or.inr ⟨_, wd_134⟩) dX2_wrongInRow_68 (fun H locs hV => ?_)
                  refine q_aload_n (r := some x11) C dX2_wrongInRow_71 rfl (lv_at hl 1 rfl) ?_
                  refine g_Piece_older C hV hL_x11 hK_x11 (Or.inr ⟨_, wd_133⟩) dX2_wrongInRow_72 ?_
                  refine q_nr (fun r72 h72 => ?_)
                  refine q_astore_n (r := r72) (lv' := [(3, va_rf (r72)), (4, .int (i)), (2, .int (0)), (0, va_rf (some r9)), (1, .int (nI m9))]) C dX2_wrongInRow_75 rfl hl (by decide) (q_k0 (q_kN 0 rfl (by decide) (by decide) (q_kC 2 rfl (by decide) rfl (q_kN 3 rfl (by decide) (by decide) (q_kN 4 rfl (by decide) (by decide) q_kz))))) (fun ls hl => ?_)
                  obtain ⟨i76, e76⟩ : ∃ y : Int32, y = i + 1 := ⟨_, rfl⟩
                  refine q_iinc (v := i76) (k := 1) (lv' := [(4, .int (i76)), (3, va_rf (r72)), (2, .int (0)), (0, va_rf (some r9)), (1, .int (nI m9))]) C dX2_wrongInRow_76 hl rfl (by rw [e76]; rfl) (by decide) (q_k0 (q_kC 0 rfl (by decide) (q_cat _) (q_kN 2 rfl (by decide) (by decide) (q_kN 3 rfl (by decide) (by decide) (q_kN 4 rfl (by decide) (by decide) q_kz))))) (fun ls hl => ?_)
                  refine lv_goto (tgt := 10) C.1 C.2.1 dX2_wrongInRow_79 (by decide) ?_
                  subst h72
                  exact ih (S'.R 1 x11) i76 (j + 1) tl (S'.sI 3 x11 0) H locs ls (by simp at hk; omega) hV hl hch2 (by rw [e76, hi]; exact nI_1 j) (by simp at hj; omega) (fun a ha => ⟨(hok9 a (List.mem_cons_of_mem _ ha)).1, (hok9 a (List.mem_cons_of_mem _ ha)).2.1, by rw [qI_ne _ _ _ _ (fun e : a = x11 => hxt (e ▸ ha))]; exact (hok9 a (List.mem_cons_of_mem _ ha)).2.2.1, by rw [qI_ne _ _ _ _ (fun e : a = x11 => hxt (e ▸ ha))]; exact (hok9 a (List.mem_cons_of_mem _ ha)).2.2.2⟩) (List.pairwise_cons.mp hpw9).2 hL9 hK9 (by rw [qI_of _ _ _ _ (by decide)]; exact hz9) (fun S1 h1 => hpost9 S1 (q_fr_tr (q_fr_sI ⟨rfl, List.mem_cons_self⟩) (q_fr_mo h1 (fun j x z => ⟨z.1, List.mem_cons_of_mem _ z.2⟩) (fun _ _ z => z) (fun _ _ z => z))))
                · have hlt := (List.pairwise_cons.mp hpw9).1 x45 (by rw [htl]; simp)
                  exact absurd ((lg_cmp_lt _ _).mpr (Int64.lt_iff_toInt_lt.mpr hlt)) c60
            · exact absurd rfl c35
  refine lv_iconst (v := 0) C.1 C.2.1 dX2_wrongInRow_0 (by decide) ?_
  refine q_istore_n (x := 0) (lv' := [(2, .int (0)), (0, va_rf (some r9)), (1, .int (nI m9))]) C dX2_wrongInRow_1 rfl hl (by decide) (q_k0 (q_kN 0 rfl (by decide) (by decide) (q_kC 1 rfl (by decide) rfl q_kz))) (fun ls hl => ?_)
  refine q_aload_n (r := some r9) C dX2_wrongInRow_2 rfl (lv_at hl 1 rfl) ?_
  refine g_Row_latest C hV hL_r9 hK_r9 (Or.inr ⟨_, wd_74⟩) dX2_wrongInRow_3 ?_
  refine q_nr (fun r3 h3 => ?_)
  refine q_astore_n (r := r3) (lv' := [(3, va_rf (r3)), (2, .int (0)), (0, va_rf (some r9)), (1, .int (nI m9))]) C dX2_wrongInRow_6 rfl hl (by decide) (q_k0 (q_kC 0 rfl (by decide) rfl (q_kN 1 rfl (by decide) (by decide) (q_kN 2 rfl (by decide) (by decide) q_kz)))) (fun ls hl => ?_)
  refine lv_iconst (v := 0) C.1 C.2.1 dX2_wrongInRow_7 (by decide) ?_
  refine q_istore (x := 0) (lv' := [(4, .int (0)), (3, va_rf (r3)), (2, .int (0)), (0, va_rf (some r9)), (1, .int (nI m9))]) C dX2_wrongInRow_8 hl (by decide) (q_k0 (q_kC 0 rfl (by decide) (q_cat _) (q_kN 1 rfl (by decide) (by decide) (q_kN 2 rfl (by decide) (by decide) (q_kN 3 rfl (by decide) (by decide) q_kz))))) (fun ls hl => ?_)
  exact loop (l9.length + 1) r3 0 0 l9 S s.heap [] ls (Nat.lt_succ_self _) hV hl (by rw [h3]; exact hc) nI_0.symm (Nat.zero_add _) hok hpw hL_r9 hK_r9 hz (fun S1 h1 => hpost _ _ ⟨rfl, h1⟩)
theorem c_Shelves_wrongInRow (l : Launch) (E : qE) (S : qS) (r9 m9 z9 : Nat) (l9 : List Nat) (hL_r9 : r9 ∈ S.L) (hK_r9 : S.K r9 = 1) (hz : S.I 4 r9 = nI z9) (hc : q_ch (S.R 1) (S.R 2 r9) l9) (hok : ∀ a ∈ l9, a ∈ S.L ∧ S.K a = 0 ∧ S.I 1 a = nI z9 ∧ S.I 3 a = 1) (hpw : l9.Pairwise (fun a b => (S.J 0 b).toInt < (S.J 0 a).toInt)) (hm : l9.length ≤ m9) (hm2 : m9 < 2 ^ 31) : q_Mi l yX2_wrongInRow cX2_wrongInRow 5 .int { frames := 0, cells := 0, slots := 0, locals := 0 } E [.ref r9, .int (nI m9)] S (fun r S1 => r = 0 ∧ q_fr S S1 (q_c3 l9) q_c0 q_c0) 0 0 := c0_Shelves_wrongInRow l E S r9 m9 z9 l9 hL_r9 hK_r9 hz hc hok hpw hm hm2 _ (fun _ _ h => h)

/-- what faults needs of the rows: S0 the state in which the flags were set, S' a later one -/
def q_flg (S : qS) (rows : Nat → List Nat) (ok : Nat → Prop) : Prop := ∀ z, ok z → ∀ a ∈ rows z, S.I 3 a = 1
theorem q_flg_fr {S S1 : qS} {h ar t : Nat} {ns : List Nat} {rows : Nat → List Nat} (hs : q_sh S h ar t ns rows) {z0 : Nat} {ok ok' : Nat → Prop} (hf : q_fr S S1 (q_c3 (rows z0)) q_c0 q_c0) (h : q_flg S rows ok) (ho : ∀ z, ok' z → ok z ∧ z ≠ z0) : q_flg S1 rows ok' := by
  intro z hz a ha
  obtain ⟨h1, h2⟩ := ho z hz
  obtain ⟨g1, -, g3, g4⟩ := hs.2.2.2.2.2.2 z a ha
  rw [hf.2.1 a g1 3 (fun e => ?_)]
  · exact h z h1 a ha
  · obtain ⟨-, -, k3, k4⟩ := hs.2.2.2.2.2.2 z0 a e.2
    exact h2 ((nI_eq g4 k4).mp (g3.symm.trans k3))
theorem q_sh_c3 {S S1 : qS} {h ar t : Nat} {ns : List Nat} {rows : Nat → List Nat} {l : List Nat} (hs : q_sh S h ar t ns rows) (hf : q_fr S S1 (q_c3 l) q_c0 q_c0) : q_sh S1 h ar t ns rows :=
  q_sh_fr hs hf (fun a e => absurd e.1 (by decide)) (fun _ p _ e => absurd e.1 (by decide)) (fun a => ⟨id, id, id, id, id, id⟩) (fun _ _ _ e => e)
theorem q_pw_fr {S S1 : qS} {h ar t : Nat} {ns : List Nat} {rows : Nat → List Nat} {cI cR : Nat → Nat → Prop} (hs : q_sh S h ar t ns rows) (hf : q_fr S S1 cI cR q_c0) (h : ∀ z, (rows z).Pairwise (fun a b => (S.J 0 b).toInt < (S.J 0 a).toInt)) : ∀ z, (rows z).Pairwise (fun a b => (S1.J 0 b).toInt < (S1.J 0 a).toInt) := fun z => by
  refine List.Pairwise.imp_of_mem ?_ (h z)
  intro a b ha hb hab
  rw [hf.2.2.2 a (hs.2.2.2.2.2.2 z a ha).1 0 id, hf.2.2.2 b (hs.2.2.2.2.2.2 z b hb).1 0 id]
  exact hab
theorem q_c3_any {S S1 : qS} {l : List Nat} (hf : q_fr S S1 (q_c3 l) q_c0 q_c0) : q_fr S S1 (fun j _ => j = 3) q_c0 q_c0 := q_fr_mo hf (fun _ _ z => z.1) (fun _ _ z => z) (fun _ _ z => z)
set_option maxHeartbeats 4000000 in
set_option maxRecDepth 100000 in
theorem c0_Shelves_wrongThings (l : Launch) (E : qE) (S : qS) (h ar t sh m9 : Nat) (ns : List Nat) (rows : Nat → List Nat) (zf : Nat → Nat) (hs : q_sh S h ar t ns rows) (hne : q_ne S ns rows) (hzf : ∀ r ∈ ns, q_row S rows (zf r) r ∧ 64 ≤ zf r) (hfl : q_flg S rows (fun _ => True)) (hpw : ∀ z, (rows z).Pairwise (fun a b => (S.J 0 b).toInt < (S.J 0 a).toInt)) (hlen : ∀ z, (rows z).length ≤ m9) (hnl : ns.length ≤ m9) (hm2 : m9 < 2 ^ 31) (hz9 : ∀ z, rows z ≠ [] → z ≤ 16384) (hsh : sh = (q_l1 rows 61).length + (q_l2 rows zf ns).length) (post : Int32 → qS → Prop) (hpost : ∀ r S1, (r = 0 ∧ q_fr S S1 (fun j _ => j = 3) q_c0 q_c0) → post r S1) : q_Mi l yX2_wrongThings cX2_wrongThings 7 .int { frames := 1, cells := 0, slots := 0, locals := 24 } E [.ref h, .int (nI sh), .int (nI m9)] S (post) 0 0 := by
  refine q_ofW1 (by decide) (q_1c rfl (q_1c rfl (q_1c rfl q_1n))) (Nat.le_of_ble_eq_true rfl) (fun p e s m below meth c C hV hr hlk hnm ls hl => ?_)
  have hl : lv_has ls 7 [(0, va_rf (some h)), (1, .int (nI sh)), (2, .int (nI m9))] := hl
  have hnd : ns.Nodup := q_so_nodup hs.2.2.2.1.2.2.2.2
  have loop2 : ∀ (k : Nat) (pp : Option Nat) (mt i6 : Int32) (j k9 : Nat) (D R : List Nat) (S' : qS) (H : Heap) (locs : List Loc) (ls : Array Slot), R.length < k → q_V E s S' H locs → lv_has ls 7 [(6, .int (i6)), (5, va_rf (pp)), (4, .int (mt)), (3, .int (0)), (0, va_rf (some h)), (1, .int (nI sh)), (2, .int (nI m9))] → q_sh S' h ar t ns rows → D ++ R = ns → pp = R.head? → mt = nI k9 → k9 + (q_l2 rows zf R).length = sh → i6 = nI j → j = D.length → q_flg S' rows (fun z => ∃ r ∈ R, z = zf r) → (∀ z, (rows z).Pairwise (fun a b => (S'.J 0 b).toInt < (S'.J 0 a).toInt)) → (∀ r ∈ ns, q_row S' rows (zf r) r ∧ 64 ≤ zf r) → q_fr S S' (fun j _ => j = 3) q_c0 q_c0 → W p l e ({ frames := 1, cells := 0, slots := 0, locals := 24 } : Room) s m [.ref h, .int (nI sh), .int (nI m9)].toArray below meth c H locs (0) (0) (MQ below (va_Qi (post) (q_B E) E.A) [.ref h, .int (nI sh), .int (nI m9)].toArray s (0) (0) E.A) (F0 m 67 ls []) := by
    intro k
    induction k with
    | zero => intro pp mt i6 j k9 D R S' H locs ls hk; exact absurd hk (Nat.not_lt_zero _)
    | succ k ih =>
      intro pp mt i6 j k9 D R S' H locs ls hk hV hl hsS hD hpp hmt hk9 hi6 hj hfl9 hpw9 hrw9 hfS
      refine q_aload (r := pp) C dX2_wrongThings_67 (lv_at hl 1 rfl) ?_
      refine q_ifnull (r := pp) (tgt := 141) C dX2_wrongThings_69 (by decide) (fun c69 => ?_) (fun x69 c69 => ?_)
      · subst c69
        have hmtE : mt = nI sh := by
          have hRe : R = [] := by cases R with
            | nil => rfl
            | cons b R2 => exact nomatch hpp
          rw [hmt]; rw [hRe] at hk9; rw [show k9 = sh from by simpa [q_l2] using hk9]
        subst hmtE
        refine lv_iload C.1 C.2.1 dX2_wrongThings_141 (lv_at hl 2 rfl) ?_
        refine lv_iload_n C.1 C.2.1 dX2_wrongThings_143 rfl (lv_at hl 5 rfl) ?_
        refine lv_icmp_ne (tgt := 151) C.1 C.2.1 dX2_wrongThings_144 (by decide) (fun c144 => ?_) (fun c144 => ?_)
        · exfalso
          exact c144 rfl
        · refine lv_iload_n C.1 C.2.1 dX2_wrongThings_147 rfl (lv_at hl 3 rfl) ?_
          refine lv_goto (tgt := 154) C.1 C.2.1 dX2_wrongThings_148 (by decide) ?_
          refine q_iret (v := 0) C hV hr hlk (Nat.le_of_ble_eq_true rfl) (Nat.le_of_ble_eq_true rfl) dX2_wrongThings_154 ?_
          exact hpost _ _ ⟨rfl, hfS⟩
      · subst c69
        obtain ⟨R2, rfl⟩ : ∃ R2, R = x69 :: R2 := by
          cases R with
          | nil => exact nomatch hpp
          | cons b R2 => exact ⟨R2, by rw [Option.some.inj hpp]⟩
        have hxn : x69 ∈ ns := by rw [← hD]; simp
        obtain ⟨hrx, hz64⟩ := hrw9 x69 hxn
        have hL_x69 := hrx.1
        have hK_x69 := hrx.2.1
        have hz4 := hrx.2.2.1
        have hnex : rows (zf x69) ≠ [] := by
          have h9 := hne x69 hxn
          rw [q_row_z (hzf x69 hxn).1] at h9
          simpa using h9
        have hz5 := hz9 _ hnex
        have hlenD : D.length < ns.length := by rw [← hD]; simp
        obtain ⟨hL_t, hK_t⟩ : t ∈ S'.L ∧ S'.K t = 3 := ⟨hsS.2.2.2.1.1, hsS.2.2.2.1.2.1⟩
        refine lv_iload C.1 C.2.1 dX2_wrongThings_72 (lv_at hl 0 rfl) ?_
        refine lv_iload_n C.1 C.2.1 dX2_wrongThings_74 rfl (lv_at hl 6 rfl) ?_
        refine lv_icmp_ge (tgt := 141) C.1 C.2.1 dX2_wrongThings_75 (by decide) (fun c75 => ?_) (fun c75 => ?_)
        · exfalso
          exact absurd (hi6 ▸ c75) (nI_ge (by omega) (by omega))
        · refine q_aload (r := some x69) C dX2_wrongThings_78 (lv_at hl 1 rfl) ?_
          refine g_Row_cells C hV hL_x69 hK_x69 (Or.inr ⟨_, wd_72⟩) dX2_wrongThings_80 ?_
          refine q_ti (v' := nI (zf x69)) (hz4) ?_
          refine lv_bipush (v := 64) C.1 C.2.1 dX2_wrongThings_83 (by decide) ?_
          refine lv_icmp_lt (tgt := 96) C.1 C.2.1 dX2_wrongThings_85 (by decide) (fun c85 => ?_) (fun c85 => ?_)
          · exfalso
            exact absurd ((nI_ltI (by omega) (by omega)).mp (show nI (zf x69) < nI 64 from c85)) (by omega)
          · refine q_aload (r := some x69) C dX2_wrongThings_88 (lv_at hl 1 rfl) ?_
            refine g_Row_latest C hV hL_x69 hK_x69 (Or.inr ⟨_, wd_74⟩) dX2_wrongThings_90 ?_
            refine q_nr (fun r90 h90 => ?_)
            refine q_ifnonnull (r := r90) (tgt := 99) C dX2_wrongThings_93 (by decide) (fun x93 c93 => ?_) (fun c93 => ?_)
            · subst c93
              refine lv_iload_n C.1 C.2.1 dX2_wrongThings_99 rfl (lv_at hl 3 rfl) ?_
              refine q_aload (r := some x69) C dX2_wrongThings_100 (lv_at hl 1 rfl) ?_
              refine lv_iload_n C.1 C.2.1 dX2_wrongThings_102 rfl (lv_at hl 6 rfl) ?_
              refine q_ci hV (q_rS (As := [va_rf (some x69), .int (nI m9)]) (rest := [.int (0)]) C hV (c_Shelves_wrongInRow l E S' x69 m9 (zf x69) (rows (zf x69)) hL_x69 hK_x69 hz4 hrx.2.2.2.2 (fun b hb => ⟨(hsS.2.2.2.2.2.2 _ b hb).1, (hsS.2.2.2.2.2.2 _ b hb).2.1, (hsS.2.2.2.2.2.2 _ b hb).2.2.1, hfl9 _ ⟨x69, List.mem_cons_self, rfl⟩ b hb⟩) (hpw9 _) (hlen _) hm2) wd_248 wd_246 wd_247 wd_38 ok_X2_wrongInRow ⟨rfl, rfl, Nat.le_of_ble_eq_true rfl, Nat.le_of_ble_eq_true rfl⟩ rfl hl.1 rfl (q_sm (q_1c rfl q_1n) (Nat.le_of_ble_eq_true rfl)) dX2_wrongThings_103 ⟨Nat.le_of_ble_eq_true rfl, Nat.le_of_ble_eq_true rfl⟩) (fun i103 S103 H locs hp103 hV => ?_)
              obtain ⟨rfl, hf103⟩ := hp103
              have hs3 := q_sh_c3 hsS hf103
              have hpw3 := q_pw_fr hsS hf103 hpw9
              have hL_x69b : x69 ∈ S103.L := (hf103.1 x69 hL_x69).1
              have hK_x69b : S103.K x69 = 1 := (hf103.1 x69 hL_x69).2.1.trans hK_x69
              have hL_hb := hs3.1.1
              have hK_hb := hs3.1.2.1
              have hL_tb := hs3.2.2.2.1.1
              have hK_tb := hs3.2.2.2.1.2.1
              have hrw3 : ∀ r ∈ ns, q_row S103 rows (zf r) r ∧ 64 ≤ zf r := fun r hr => ⟨q_row_fr (hrw9 r hr).1 hf103 (fun e => absurd e.1 (by decide)) id (fun p hp => ⟨(hsS.2.2.2.2.2.2 _ p hp).1, id⟩) rfl, (hrw9 r hr).2⟩
              have hz4b : S103.I 4 x69 = nI (zf x69) := (hrw3 x69 hxn).1.2.2.1
              have hinj : ∀ r ∈ ns, r ≠ x69 → zf r ≠ zf x69 := fun r hr hn e => hn (q_so_inj hs.2.2.2.1.2.2.2.2 hr hxn (by rw [q_row_z (hzf r hr).1, q_row_z (hzf x69 hxn).1, e]))
              have hndx : ∀ r ∈ R2, r ≠ x69 := fun r hr e => by rw [← hD] at hnd; have := (List.nodup_append.mp hnd).2.1; exact (List.nodup_cons.mp this).1 (e ▸ hr)
              have hfl3 : q_flg S103 rows (fun z => ∃ r ∈ R2, z = zf r) := q_flg_fr hsS hf103 hfl9 (fun z ⟨r, hr, e⟩ => ⟨⟨r, List.mem_cons_of_mem _ hr, e⟩, by rw [e]; exact hinj r (by rw [← hD]; simp [hr]) (hndx r hr)⟩)
              refine lv_iadd C.1 C.2.1 dX2_wrongThings_106 ?_
              refine q_ti (v' := 0) (by decide) ?_
              refine q_istore_n (x := 0) (lv' := [(3, .int (0)), (6, .int (i6)), (5, va_rf (some x69)), (4, .int (mt)), (0, va_rf (some h)), (1, .int (nI sh)), (2, .int (nI m9))]) C dX2_wrongThings_107 rfl hl (by decide) (q_k0 (q_kN 0 rfl (by decide) (by decide) (q_kN 1 rfl (by decide) (by decide) (q_kN 2 rfl (by decide) (by decide) (q_kN 4 rfl (by decide) (by decide) (q_kN 5 rfl (by decide) (by decide) (q_kC 6 rfl (by decide) rfl q_kz))))))) (fun ls hl => ?_)
              refine lv_iload C.1 C.2.1 dX2_wrongThings_108 (lv_at hl 3 rfl) ?_
              refine q_aload (r := some x69) C dX2_wrongThings_110 (lv_at hl 2 rfl) ?_
              refine lv_iload_n C.1 C.2.1 dX2_wrongThings_112 rfl (lv_at hl 6 rfl) ?_
              refine q_ci hV (q_rS (As := [va_rf (some x69), .int (nI m9)]) (rest := [.int (mt)]) C hV (c_Shelves_piecesIn l E S103 x69 m9 (rows (zf x69)) hL_x69b hK_x69b (hrw3 x69 hxn).1.2.2.2.2 (fun b hb => ⟨(hs3.2.2.2.2.2.2 _ b hb).1, (hs3.2.2.2.2.2.2 _ b hb).2.1⟩) (hlen _) hm2) wd_251 wd_249 wd_250 wd_38 ok_X2_piecesIn ⟨rfl, rfl, Nat.le_of_ble_eq_true rfl, Nat.le_of_ble_eq_true rfl⟩ rfl hl.1 rfl (q_sm (q_1c rfl q_1n) (Nat.le_of_ble_eq_true rfl)) dX2_wrongThings_113 ⟨Nat.le_of_ble_eq_true rfl, Nat.le_of_ble_eq_true rfl⟩) (fun i113 S113 H locs hp113 hV => ?_)
              obtain ⟨eS113, hp113⟩ := hp113
              rw [eS113] at hV
              subst hp113
              refine lv_iadd C.1 C.2.1 dX2_wrongThings_116 ?_
              refine q_istore (x := mt + (nI (rows (zf x69)).length)) (lv' := [(4, .int (mt + (nI (rows (zf x69)).length))), (3, .int (0)), (6, .int (i6)), (5, va_rf (some x69)), (0, va_rf (some h)), (1, .int (nI sh)), (2, .int (nI m9))]) C dX2_wrongThings_117 hl (by decide) (q_k0 (q_kC 0 rfl (by decide) rfl (q_kN 1 rfl (by decide) (by decide) (q_kN 2 rfl (by decide) (by decide) (q_kN 4 rfl (by decide) (by decide) (q_kN 5 rfl (by decide) (by decide) (q_kN 6 rfl (by decide) (by decide) q_kz))))))) (fun ls hl => ?_)
              refine q_aload_n (r := some h) C dX2_wrongThings_119 rfl (lv_at hl 4 rfl) ?_
              refine g_Shelves_great C hV hL_hb hK_hb (Or.inl wd_98) dX2_wrongThings_120 ?_
              refine q_tr (v' := some t) (hs3.1.2.2.2) ?_
              refine q_aload (r := some x69) C dX2_wrongThings_123 (lv_at hl 3 rfl) ?_
              refine g_Row_cells C hV hL_x69b hK_x69b (Or.inr ⟨_, wd_72⟩) dX2_wrongThings_125 ?_
              refine q_ti (v' := nI (zf x69)) (hz4b) ?_
              refine lv_iconst (v := 1) C.1 C.2.1 dX2_wrongThings_128 (by decide) ?_
              refine lv_iadd C.1 C.2.1 dX2_wrongThings_129 ?_
              refine q_cq hV (q_rN (b := t) (As := [.int ((nI (zf x69)) + 1)]) (rest := []) C hV (c_Tree_leastFrom l E S103 t (nI (zf x69) + 1) ns hs3.2.2.2.1) wd_255 wd_252 wd_254 wd_17 wd_40 ok_X3_leastFrom ⟨rfl, rfl, Nat.le_of_ble_eq_true rfl, Nat.le_of_ble_eq_true rfl⟩ (q_rc3 hV hL_tb hK_tb) rfl hl.1 rfl (q_sm q_1n (Nat.le_of_ble_eq_true rfl)) dX2_wrongThings_130 ⟨Nat.le_of_ble_eq_true rfl, Nat.le_of_ble_eq_true rfl⟩) (fun r130 S130 H locs hp130 hV => ?_)
              obtain ⟨eS130, hp130⟩ := hp130
              rw [eS130] at hV
              have hpp2 : r130 = R2.head? := by
                rw [hp130]
                have hso := hs3.2.2.2.1.2.2.2.2
                rw [← hD] at hso ⊢
                rw [show D ++ x69 :: R2 = (D ++ [x69]) ++ R2 from by simp] at hso ⊢
                have e9 : (nI (zf x69) + 1).toInt = (zf x69 : Int) + 1 := by rw [nI_1, nI_toInt (by omega)]; rfl
                rw [e9]
                have hzx : q_z S103 x69 = zf x69 := q_row_z (hrw3 x69 hxn).1
                have hmid : q_so (q_z S103) (D ++ x69 :: R2) := by simpa using hso
                have hm9 := q_so_mid hmid
                refine q_find_ge (fun b hb => ?_) (fun b hb => ?_)
                · rcases List.mem_append.mp hb with hb | hb
                  · have := hm9.1 b hb; omega
                  · rw [List.mem_singleton.mp hb]; omega
                · have := hm9.2 b hb; omega
              refine q_astore (r := r130) (lv' := [(5, va_rf (r130)), (4, .int (mt + (nI (rows (zf x69)).length))), (3, .int (0)), (6, .int (i6)), (0, va_rf (some h)), (1, .int (nI sh)), (2, .int (nI m9))]) C dX2_wrongThings_133 hl (by decide) (q_k0 (q_kC 0 rfl (by decide) rfl (q_kN 1 rfl (by decide) (by decide) (q_kN 2 rfl (by decide) (by decide) (q_kN 4 rfl (by decide) (by decide) (q_kN 5 rfl (by decide) (by decide) (q_kN 6 rfl (by decide) (by decide) q_kz))))))) (fun ls hl => ?_)
              obtain ⟨i135, e135⟩ : ∃ y : Int32, y = i6 + 1 := ⟨_, rfl⟩
              refine q_iinc (v := i135) (k := 3) (lv' := [(6, .int (i135)), (5, va_rf (r130)), (4, .int (mt + (nI (rows (zf x69)).length))), (3, .int (0)), (0, va_rf (some h)), (1, .int (nI sh)), (2, .int (nI m9))]) C dX2_wrongThings_135 hl rfl (by rw [e135]; rfl) (by decide) (q_k0 (q_kC 0 rfl (by decide) (q_cat _) (q_kN 1 rfl (by decide) (by decide) (q_kN 2 rfl (by decide) (by decide) (q_kN 4 rfl (by decide) (by decide) (q_kN 5 rfl (by decide) (by decide) (q_kN 6 rfl (by decide) (by decide) q_kz))))))) (fun ls hl => ?_)
              refine lv_goto (tgt := 67) C.1 C.2.1 dX2_wrongThings_138 (by decide) ?_
              exact ih _ _ i135 (j + 1) (k9 + (rows (zf x69)).length) (D ++ [x69]) R2 S103 H locs ls (by simp at hk; omega) hV hl hs3 (by rw [← hD]; simp) hpp2 (by rw [hmt]; exact nI_add _ _) (by simp only [q_l2, List.length_append] at hk9; omega) (by rw [e135, hi6]; exact nI_1 j) (by simp; omega) hfl3 hpw3 hrw3 (q_fr_tr hfS (q_c3_any hf103))
            · subst c93
              exfalso
              have hch := hrx.2.2.2.2
              rw [← h90] at hch
              cases hrr : rows (zf x69) with
              | nil => exact hnex hrr
              | cons b u => rw [hrr] at hch; exact nomatch hch.1
  have loop1 : ∀ (k : Nat) (i5 mt : Int32) (j : Nat) (S' : qS) (H : Heap) (locs : List Loc) (ls : Array Slot), 61 - j < k → q_V E s S' H locs → lv_has ls 7 [(5, .int (i5)), (4, .int (mt)), (3, .int (0)), (0, va_rf (some h)), (1, .int (nI sh)), (2, .int (nI m9))] → q_sh S' h ar t ns rows → i5 = nI j → j ≤ 61 → mt = nI (q_l1 rows j).length → q_flg S' rows (fun z => j + 3 ≤ z) → (∀ z, (rows z).Pairwise (fun a b => (S'.J 0 b).toInt < (S'.J 0 a).toInt)) → q_fr S S' (fun j _ => j = 3) q_c0 q_c0 → W p l e ({ frames := 1, cells := 0, slots := 0, locals := 24 } : Room) s m [.ref h, .int (nI sh), .int (nI m9)].toArray below meth c H locs (0) (0) (MQ below (va_Qi (post) (q_B E) E.A) [.ref h, .int (nI sh), .int (nI m9)].toArray s (0) (0) E.A) (F0 m 8 ls []) := by
    intro k
    induction k with
    | zero => intro i5 mt j S' H locs ls hk; exact absurd hk (Nat.not_lt_zero _)
    | succ k ih =>
      intro i5 mt j S' H locs ls hk hV hl hsS hi5 hj hmt hfl9 hpw9 hfS
      have hL_h := hsS.1.1
      have hK_h := hsS.1.2.1
      have hL_ar := hsS.2.1.1
      have hK_ar := hsS.2.1.2.1
      refine lv_iload C.1 C.2.1 dX2_wrongThings_8 (lv_at hl 0 rfl) ?_
      refine q_aload_n (r := some h) C dX2_wrongThings_10 rfl (lv_at hl 3 rfl) ?_
      refine g_Shelves_small C hV hL_h hK_h (Or.inl wd_97) dX2_wrongThings_11 ?_
      refine q_tr (v' := some ar) (hsS.1.2.2.1) ?_
      refine q_len7 C hV hL_ar hK_ar dX2_wrongThings_14 ?_
      refine q_ti (v' := 61) (by rw [hsS.2.1.2.2]; decide) ?_
      refine lv_icmp_ge (tgt := 54) C.1 C.2.1 dX2_wrongThings_15 (by decide) (fun c15 => ?_) (fun c15 => ?_)
      · have hj61 : j = 61 := by
          rcases Nat.lt_or_ge j 61 with h | h
          · exact absurd (hi5 ▸ c15) (nI_ge h (by omega))
          · omega
        subst hj61
        obtain ⟨hL_t, hK_t⟩ : t ∈ S'.L ∧ S'.K t = 3 := ⟨hsS.2.2.2.1.1, hsS.2.2.2.1.2.1⟩
        have hrwS : ∀ r ∈ ns, q_row S' rows (zf r) r ∧ 64 ≤ zf r := fun r hr => ⟨q_row_fr (hzf r hr).1 hfS (fun e => absurd (show (4 : Nat) = 3 from e) (by decide)) id (fun p hp => ⟨(hs.2.2.2.2.2.2 _ p hp).1, id⟩) rfl, (hzf r hr).2⟩
        refine q_aload_n (r := some h) C dX2_wrongThings_54 rfl (lv_at hl 3 rfl) ?_
        refine g_Shelves_great C hV hL_h hK_h (Or.inl wd_98) dX2_wrongThings_55 ?_
        refine q_tr (v' := some t) (hsS.1.2.2.2) ?_
        refine lv_iconst (v := 0) C.1 C.2.1 dX2_wrongThings_58 (by decide) ?_
        refine q_cq hV (q_rN (b := t) (As := [.int (0)]) (rest := []) C hV (c_Tree_leastFrom l E S' t 0 ns hsS.2.2.2.1) wd_255 wd_252 wd_254 wd_17 wd_40 ok_X3_leastFrom ⟨rfl, rfl, Nat.le_of_ble_eq_true rfl, Nat.le_of_ble_eq_true rfl⟩ (q_rc3 hV hL_t hK_t) rfl hl.1 rfl (q_sm q_1n (Nat.le_of_ble_eq_true rfl)) dX2_wrongThings_59 ⟨Nat.le_of_ble_eq_true rfl, Nat.le_of_ble_eq_true rfl⟩) (fun r59 S59 H locs hp59 hV => ?_)
        obtain ⟨eS59, hp59⟩ := hp59
        rw [eS59] at hV
        have hp59 : r59 = ns.head? := by
          rw [hp59]
          have hh := q_find_ge (z := q_z S') (c := (0 : Int32).toInt) (pre := []) (post := ns) (fun b hb => nomatch hb) (fun b hb => by rw [q_row_z (hrwS b hb).1, q_i0]; omega)
          exact hh
        have hfl9 : q_flg S' rows (fun z => ∃ r ∈ ns, z = zf r) := fun z ⟨r, hr, e⟩ a ha => hfl9 z (by have := (hzf r hr).2; omega) a ha
        refine q_astore (r := r59) (lv' := [(5, va_rf (r59)), (4, .int (mt)), (3, .int (0)), (0, va_rf (some h)), (1, .int (nI sh)), (2, .int (nI m9))]) C dX2_wrongThings_62 hl (by decide) (q_k0 (q_kC 1 rfl (by decide) rfl (q_kN 2 rfl (by decide) (by decide) (q_kN 3 rfl (by decide) (by decide) (q_kN 4 rfl (by decide) (by decide) (q_kN 5 rfl (by decide) (by decide) q_kz)))))) (fun ls hl => ?_)
        refine lv_iconst (v := 0) C.1 C.2.1 dX2_wrongThings_64 (by decide) ?_
        refine q_istore (x := 0) (lv' := [(6, .int (0)), (5, va_rf (r59)), (4, .int (mt)), (3, .int (0)), (0, va_rf (some h)), (1, .int (nI sh)), (2, .int (nI m9))]) C dX2_wrongThings_65 hl (by decide) (q_k0 (q_kC 0 rfl (by decide) (q_cat _) (q_kN 1 rfl (by decide) (by decide) (q_kN 2 rfl (by decide) (by decide) (q_kN 3 rfl (by decide) (by decide) (q_kN 4 rfl (by decide) (by decide) (q_kN 5 rfl (by decide) (by decide) q_kz))))))) (fun ls hl => ?_)
        exact loop2 (ns.length + 1) _ _ 0 0 (q_l1 rows 61).length [] ns S' H locs ls (Nat.lt_succ_self _) hV hl hsS rfl hp59 hmt (by rw [hsh]) nI_0.symm rfl hfl9 hpw9 hrwS hfS
      · have hj61 : j < 61 := by
          rcases Nat.lt_or_ge j 61 with h | h
          · exact h
          · exact absurd (by rw [hi5]; exact nI_le h (by omega)) c15
        obtain ⟨r9, hB9, hrow⟩ := hsS.2.2.1 j hj61
        have hL_ar := hsS.2.1.1
        have hK_ar := hsS.2.1.2.1
        have hN_ar : S'.N ar < 2 ^ 31 := by rw [hsS.2.1.2.2]; decide
        have hL_r9 := hrow.1
        have hK_r9 := hrow.2.1
        refine lv_iload_n C.1 C.2.1 dX2_wrongThings_18 rfl (lv_at hl 2 rfl) ?_
        refine q_aload_n (r := some h) C dX2_wrongThings_19 rfl (lv_at hl 3 rfl) ?_
        refine g_Shelves_small C hV hL_h hK_h (Or.inl wd_97) dX2_wrongThings_20 ?_
        refine q_tr (v' := some ar) (hsS.1.2.2.1) ?_
        refine lv_iload C.1 C.2.1 dX2_wrongThings_23 (lv_at hl 0 rfl) ?_
        refine q_aald (j := j) C hV hL_ar hK_ar (hi5) (by rw [hsS.2.1.2.2]; exact hj61) (hN_ar) dX2_wrongThings_25 ?_
        refine q_tr (v' := some r9) (hB9) ?_
        refine lv_iload_n C.1 C.2.1 dX2_wrongThings_26 rfl (lv_at hl 5 rfl) ?_
        refine q_ci hV (q_rS (As := [va_rf (some r9), .int (nI m9)]) (rest := [.int (0)]) C hV (c_Shelves_wrongInRow l E S' r9 m9 (j + 3) (rows (j + 3)) hL_r9 hK_r9 hrow.2.2.1 hrow.2.2.2.2 (fun b hb => ⟨(hsS.2.2.2.2.2.2 _ b hb).1, (hsS.2.2.2.2.2.2 _ b hb).2.1, (hsS.2.2.2.2.2.2 _ b hb).2.2.1, hfl9 _ (by omega) b hb⟩) (hpw9 _) (hlen _) hm2) wd_248 wd_246 wd_247 wd_38 ok_X2_wrongInRow ⟨rfl, rfl, Nat.le_of_ble_eq_true rfl, Nat.le_of_ble_eq_true rfl⟩ rfl hl.1 rfl (q_sm (q_1c rfl q_1n) (Nat.le_of_ble_eq_true rfl)) dX2_wrongThings_27 ⟨Nat.le_of_ble_eq_true rfl, Nat.le_of_ble_eq_true rfl⟩) (fun i27 S27 H locs hp27 hV => ?_)
        obtain ⟨rfl, hf27⟩ := hp27
        have hs3 := q_sh_c3 hsS hf27
        have hpw3 := q_pw_fr hsS hf27 hpw9
        have hL_hb := hs3.1.1
        have hK_hb := hs3.1.2.1
        have hL_arb := hs3.2.1.1
        have hK_arb := hs3.2.1.2.1
        have hN_arb : S27.N ar < 2 ^ 31 := by rw [hs3.2.1.2.2]; decide
        have hrow3 : q_row S27 rows (j + 3) r9 := q_row_fr hrow hf27 (fun e => absurd e.1 (by decide)) id (fun p hp => ⟨(hsS.2.2.2.2.2.2 _ p hp).1, id⟩) rfl
        have hB9b : S27.B ar j = some r9 := by rw [(hf27.1 ar hL_ar).2.2.2.2]; exact hB9
        have hfl3 : q_flg S27 rows (fun z => j + 1 + 3 ≤ z) := q_flg_fr hsS hf27 hfl9 (fun z hz => ⟨by omega, by omega⟩)
        refine lv_iadd C.1 C.2.1 dX2_wrongThings_30 ?_
        refine q_ti (v' := 0) (by decide) ?_
        refine q_istore_n (x := 0) (lv' := [(3, .int (0)), (5, .int (i5)), (4, .int (mt)), (0, va_rf (some h)), (1, .int (nI sh)), (2, .int (nI m9))]) C dX2_wrongThings_31 rfl hl (by decide) (q_k0 (q_kN 0 rfl (by decide) (by decide) (q_kN 1 rfl (by decide) (by decide) (q_kN 3 rfl (by decide) (by decide) (q_kN 4 rfl (by decide) (by decide) (q_kC 5 rfl (by decide) rfl q_kz)))))) (fun ls hl => ?_)
        refine lv_iload C.1 C.2.1 dX2_wrongThings_32 (lv_at hl 2 rfl) ?_
        refine q_aload_n (r := some h) C dX2_wrongThings_34 rfl (lv_at hl 3 rfl) ?_
        refine g_Shelves_small C hV hL_hb hK_hb (Or.inl wd_97) dX2_wrongThings_35 ?_
        refine q_tr (v' := some ar) (hs3.1.2.2.1) ?_
        refine lv_iload C.1 C.2.1 dX2_wrongThings_38 (lv_at hl 1 rfl) ?_
        refine q_aald (j := j) C hV hL_arb hK_arb (hi5) (by rw [hs3.2.1.2.2]; exact hj61) (hN_arb) dX2_wrongThings_40 ?_
        refine q_tr (v' := some r9) (hB9b) ?_
        refine lv_iload_n C.1 C.2.1 dX2_wrongThings_41 rfl (lv_at hl 5 rfl) ?_
        refine q_ci hV (q_rS (As := [va_rf (some r9), .int (nI m9)]) (rest := [.int (mt)]) C hV (c_Shelves_piecesIn l E S27 r9 m9 (rows (j + 3)) (hrow3).1 hrow3.2.1 hrow3.2.2.2.2 (fun b hb => ⟨(hs3.2.2.2.2.2.2 _ b hb).1, (hs3.2.2.2.2.2.2 _ b hb).2.1⟩) (hlen _) hm2) wd_251 wd_249 wd_250 wd_38 ok_X2_piecesIn ⟨rfl, rfl, Nat.le_of_ble_eq_true rfl, Nat.le_of_ble_eq_true rfl⟩ rfl hl.1 rfl (q_sm (q_1c rfl q_1n) (Nat.le_of_ble_eq_true rfl)) dX2_wrongThings_42 ⟨Nat.le_of_ble_eq_true rfl, Nat.le_of_ble_eq_true rfl⟩) (fun i42 S42 H locs hp42 hV => ?_)
        obtain ⟨eS42, hp42⟩ := hp42
        rw [eS42] at hV
        subst hp42
        refine lv_iadd C.1 C.2.1 dX2_wrongThings_45 ?_
        refine q_istore (x := mt + (nI (rows (j + 3)).length)) (lv' := [(4, .int (mt + (nI (rows (j + 3)).length))), (3, .int (0)), (5, .int (i5)), (0, va_rf (some h)), (1, .int (nI sh)), (2, .int (nI m9))]) C dX2_wrongThings_46 hl (by decide) (q_k0 (q_kC 0 rfl (by decide) rfl (q_kN 1 rfl (by decide) (by decide) (q_kN 3 rfl (by decide) (by decide) (q_kN 4 rfl (by decide) (by decide) (q_kN 5 rfl (by decide) (by decide) q_kz)))))) (fun ls hl => ?_)
        obtain ⟨i48, e48⟩ : ∃ y : Int32, y = i5 + 1 := ⟨_, rfl⟩
        refine q_iinc (v := i48) (k := 2) (lv' := [(5, .int (i48)), (4, .int (mt + (nI (rows (j + 3)).length))), (3, .int (0)), (0, va_rf (some h)), (1, .int (nI sh)), (2, .int (nI m9))]) C dX2_wrongThings_48 hl rfl (by rw [e48]; rfl) (by decide) (q_k0 (q_kC 0 rfl (by decide) rfl (q_kN 1 rfl (by decide) (by decide) (q_kN 3 rfl (by decide) (by decide) (q_kN 4 rfl (by decide) (by decide) (q_kN 5 rfl (by decide) (by decide) q_kz)))))) (fun ls hl => ?_)
        refine lv_goto (tgt := 8) C.1 C.2.1 dX2_wrongThings_51 (by decide) ?_
        exact ih i48 _ (j + 1) S27 H locs ls (by omega) hV hl hs3 (by rw [e48, hi5]; exact nI_1 j) (by omega) (by rw [hmt]; simp only [q_l1, List.length_append]; exact nI_add _ _) hfl3 hpw3 (q_fr_tr hfS (q_c3_any hf27))
  refine lv_iconst (v := 0) C.1 C.2.1 dX2_wrongThings_0 (by decide) ?_
  refine q_istore_n (x := 0) (lv' := [(3, .int (0)), (0, va_rf (some h)), (1, .int (nI sh)), (2, .int (nI m9))]) C dX2_wrongThings_1 rfl hl (by decide) (q_k0 (q_kN 0 rfl (by decide) (by decide) (q_kN 1 rfl (by decide) (by decide) (q_kC 2 rfl (by decide) rfl q_kz)))) (fun ls hl => ?_)
  refine lv_iconst (v := 0) C.1 C.2.1 dX2_wrongThings_2 (by decide) ?_
  refine q_istore (x := 0) (lv' := [(4, .int (0)), (3, .int (0)), (0, va_rf (some h)), (1, .int (nI sh)), (2, .int (nI m9))]) C dX2_wrongThings_3 hl (by decide) (q_k0 (q_kC 0 rfl (by decide) rfl (q_kN 1 rfl (by decide) (by decide) (q_kN 2 rfl (by decide) (by decide) (q_kN 3 rfl (by decide) (by decide) q_kz))))) (fun ls hl => ?_)
  refine lv_iconst (v := 0) C.1 C.2.1 dX2_wrongThings_5 (by decide) ?_
  refine q_istore (x := 0) (lv' := [(5, .int (0)), (4, .int (0)), (3, .int (0)), (0, va_rf (some h)), (1, .int (nI sh)), (2, .int (nI m9))]) C dX2_wrongThings_6 hl (by decide) (q_k0 (q_kC 0 rfl (by decide) rfl (q_kN 1 rfl (by decide) (by decide) (q_kN 2 rfl (by decide) (by decide) (q_kN 3 rfl (by decide) (by decide) (q_kN 4 rfl (by decide) (by decide) q_kz)))))) (fun ls hl => ?_)
  exact loop1 62 0 0 0 S s.heap [] ls (by omega) hV hl hs nI_0.symm (by omega) nI_0.symm (fun z _ a ha => hfl z trivial a ha) hpw q_fr_rf
theorem c_Shelves_wrongThings (l : Launch) (E : qE) (S : qS) (h ar t sh m9 : Nat) (ns : List Nat) (rows : Nat → List Nat) (zf : Nat → Nat) (hs : q_sh S h ar t ns rows) (hne : q_ne S ns rows) (hzf : ∀ r ∈ ns, q_row S rows (zf r) r ∧ 64 ≤ zf r) (hfl : q_flg S rows (fun _ => True)) (hpw : ∀ z, (rows z).Pairwise (fun a b => (S.J 0 b).toInt < (S.J 0 a).toInt)) (hlen : ∀ z, (rows z).length ≤ m9) (hnl : ns.length ≤ m9) (hm2 : m9 < 2 ^ 31) (hz9 : ∀ z, rows z ≠ [] → z ≤ 16384) (hsh : sh = (q_l1 rows 61).length + (q_l2 rows zf ns).length) : q_Mi l yX2_wrongThings cX2_wrongThings 7 .int { frames := 1, cells := 0, slots := 0, locals := 24 } E [.ref h, .int (nI sh), .int (nI m9)] S (fun r S1 => r = 0 ∧ q_fr S S1 (fun j _ => j = 3) q_c0 q_c0) 0 0 := c0_Shelves_wrongThings l E S h ar t sh m9 ns rows zf hs hne hzf hfl hpw hlen hnl hm2 hz9 hsh _ (fun _ _ h => h)

