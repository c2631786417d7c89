/-! JOINING over the values -/
abbrev v_V : Type := List (Nat × Bool × Nat)
def v_sw (tm : Nat) (x : Nat × Bool × Nat) (F : v_V) : Nat × Bool × Nat := if F = [] then x else (x.1 + v_sz F, true, tm)
def v_st (tm : Nat) (F : v_V) : Nat := if F = [] then tm else tm + 1
def v_ja : Nat → v_V → Nat → v_V × Nat × Nat
  | 0, V, tm => (V, tm, 0)
  | _ + 1, [], tm => ([], tm, 0)
  | k + 1, x :: R, tm => if x.2.1 = true then (v_sw tm x (R.takeWhile (fun y => y.2.1)) :: (v_ja k (R.dropWhile (fun y => y.2.1)) (v_st tm (R.takeWhile (fun y => y.2.1)))).1, (v_ja k (R.dropWhile (fun y => y.2.1)) (v_st tm (R.takeWhile (fun y => y.2.1)))).2.1, (R.takeWhile (fun y => y.2.1)).length + (v_ja k (R.dropWhile (fun y => y.2.1)) (v_st tm (R.takeWhile (fun y => y.2.1)))).2.2)
    else (x :: (v_ja k R tm).1, (v_ja k R tm).2.1, (v_ja k R tm).2.2)
abbrev q_tk (R : List q_X) : List q_X := R.takeWhile (fun y => y.2.2.1)
abbrev q_dr9 (R : List q_X) : List q_X := R.dropWhile (fun y => y.2.2.1)
theorem q_tk_vl (R : List q_X) : (q_vl R).takeWhile (fun y => y.2.1) = q_vl (q_tk R) := List.takeWhile_map
theorem q_dr_vl (R : List q_X) : (q_vl R).dropWhile (fun y => y.2.1) = q_vl (q_dr9 R) := List.dropWhile_map
theorem q_tk_dr (R : List q_X) : q_tk R ++ q_dr9 R = R := List.takeWhile_append_dropWhile
theorem q_tk_free : ∀ (R : List q_X), ∀ y ∈ q_tk R, y.2.2.1 = true := by
  intro R
  induction R with
  | nil => intro y hy; cases hy
  | cons x R ih =>
    intro y hy
    simp only [q_tk, List.takeWhile_cons] at hy
    split at hy
    · rename_i h
      rcases List.mem_cons.mp hy with e | hy
      · rw [e]; exact h
      · exact ih y hy
    · cases hy
theorem q_dr_head : ∀ (R : List q_X), ∀ y, (q_dr9 R).head? = some y → y.2.2.1 = false := by
  intro R
  induction R with
  | nil => intro y hy; cases hy
  | cons x R ih =>
    intro y hy
    simp only [q_dr9, List.dropWhile_cons] at hy
    split at hy
    · exact ih y hy
    · rename_i h
      cases hy
      cases e : x.2.2.1 with
      | true => exact absurd e h
      | false => rfl
theorem q_dr_len (R : List q_X) : (q_tk R).length + (q_dr9 R).length = R.length := by
  have h := congrArg List.length (q_tk_dr R)
  rw [List.length_append] at h
  exact h
theorem q_vl_nil {F : List q_X} : q_vl F = [] ↔ F = [] := List.map_eq_nil_iff
theorem q_sw_vl (tm : Nat) (x : q_X) (F : List q_X) : (q_sw tm x F).2 = v_sw tm x.2 (q_vl F) := by
  simp only [q_sw, v_sw, q_vl_nil]
  split
  · rfl
  · show (x.2.1 + q_sz F, true, tm) = _; rw [v_sz_vl]
theorem q_sw_1 (tm : Nat) (x : q_X) (F : List q_X) : (q_sw tm x F).1 = x.1 := by
  simp only [q_sw]; split <;> rfl
theorem q_st_vl (tm : Nat) (F : List q_X) : q_st tm F = v_st tm (q_vl F) := by
  simp only [q_st, v_st, q_vl_nil]
theorem v_ja_f {k tm : Nat} {x : q_X} {R : List q_X} (hx : x.2.2.1 = true) : v_ja (k + 1) (q_vl (x :: R)) tm = (v_sw tm x.2 (q_vl (q_tk R)) :: (v_ja k (q_vl (q_dr9 R)) (v_st tm (q_vl (q_tk R)))).1, (v_ja k (q_vl (q_dr9 R)) (v_st tm (q_vl (q_tk R)))).2.1, (q_tk R).length + (v_ja k (q_vl (q_dr9 R)) (v_st tm (q_vl (q_tk R)))).2.2) := by
  show v_ja (k + 1) (x.2 :: q_vl R) tm = _
  rw [v_ja, if_pos hx, q_tk_vl, q_dr_vl]
  simp only [q_vl, List.length_map]
theorem v_ja_u {k tm : Nat} {x : q_X} {R : List q_X} (hx : x.2.2.1 = false) : v_ja (k + 1) (q_vl (x :: R)) tm = (x.2 :: (v_ja k (q_vl R) tm).1, (v_ja k (q_vl R) tm).2.1, (v_ja k (q_vl R) tm).2.2) := by
  show v_ja (k + 1) (x.2 :: q_vl R) tm = _
  rw [v_ja, if_neg (by rw [hx]; exact fun z => nomatch z)]
set_option maxHeartbeats 4000000 in
set_option maxRecDepth 100000 in
theorem c0_Shelf_joinAll (l : Launch) (E : qE) (S : qS) (c9 h ar t n9 f9 tm kb : Nat) (P : List q_X) (ns : List Nat) (rows : Nat → List Nat) (hC : q_C S c9 n9 f9 tm P h ar t ns rows) (hkb : P.length ≤ kb) (htm : tm + P.length < 2 ^ 40) (post : Int32 → qS → Prop) (hpost : ∀ r S1, (r = nI (v_ja P.length (q_vl P) tm).2.2 ∧ ∃ P1, q_vl P1 = (v_ja P.length (q_vl P) tm).1 ∧ q_CC S1 c9 n9 f9 (v_ja P.length (q_vl P) tm).2.1 P1 h ar t ∧ q_fk S S1) → post r S1) : q_Mi l yX5_joinAll cX5_joinAll 3 .int { frames := 5, cells := kb, slots := (7 * kb), locals := 99 } E [.ref c9] S (post) kb (7 * kb) := by
  refine q_ofW1 (by decide) (q_1c rfl q_1n) (Nat.le_of_ble_eq_true rfl) (fun p e s m below meth c C hV hr hlk hnm ls hl => ?_)
  have hl : lv_has ls 3 [(0, va_rf (some c9))] := hl
  obtain ⟨hL_c9, hK_c9, hR8, hL_h, hK_h, hJ⟩ := q_C_cl hC
  have loop : ∀ (k : Nat) (pp : Option Nat) (ac : Int32) (k9 fu cc ss tm9 : Nat) (D R : List q_X) (ns9 : List Nat) (rows9 : Nat → List Nat) (S' : qS) (H : Heap) (locs : List Loc) (ls : Array Slot), fu < k → q_V E s S' H locs → lv_has ls 3 [(2, va_rf (pp)), (1, .int (ac)), (0, va_rf (some c9))] → q_C S' c9 n9 f9 tm9 (D ++ R) h ar t ns9 rows9 → q_ch (S'.R 0) pp (q_ad R) → R.length ≤ fu → ac = nI k9 → cc + R.length ≤ kb → ss + 7 * R.length ≤ 7 * kb → q_fk S S' → tm9 + R.length < 2 ^ 40 → q_vl D ++ (v_ja fu (q_vl R) tm9).1 = (v_ja P.length (q_vl P) tm).1 → (v_ja fu (q_vl R) tm9).2.1 = (v_ja P.length (q_vl P) tm).2.1 → k9 + (v_ja fu (q_vl R) tm9).2.2 = (v_ja P.length (q_vl P) tm).2.2 → W p l e ({ frames := 5, cells := kb, slots := (7 * kb), locals := 99 } : Room) s m [.ref c9].toArray below meth c H locs (cc) (ss) (MQ below (va_Qi (post) (q_B E) E.A) [.ref c9].toArray s (kb) ((7 * kb)) E.A) (F0 m 7 ls []) := by
    intro k
    induction k with
    | zero => intro pp ac k9 fu cc ss tm9 D R ns9 rows9 S' H locs ls hk; exact absurd hk (Nat.not_lt_zero _)
    | succ k ih =>
      intro pp ac k9 fu cc ss tm9 D R ns9 rows9 S' H locs ls hk hV hl hC9 hch hfu hac hcc hss hfS htm9 hVF hTF hGF
      refine q_aload_n (r := pp) C dX5_joinAll_7 rfl (lv_at hl 0 rfl) ?_
      refine q_ifnull (r := pp) (tgt := 34) C dX5_joinAll_8 (by decide) (fun c8 => ?_) (fun x8 c8 => ?_)
      · subst c8
        refine lv_iload_n C.1 C.2.1 dX5_joinAll_34 rfl (lv_at hl 1 rfl) ?_
        refine q_iret (v := ac) C hV hr hlk (by omega) (by omega) dX5_joinAll_35 ?_
        have hRe : R = [] := by cases R with
          | nil => rfl
          | cons y R2 => exact nomatch hch.1
        subst hRe
        have hj0 : v_ja fu (q_vl []) tm9 = ([], tm9, 0) := by cases fu <;> rfl
        rw [hj0] at hVF hTF hGF
        rw [List.append_nil] at hC9
        refine hpost _ _ ⟨by rw [hac]; exact congrArg nI hGF, D, by rw [← hVF]; exact (List.append_nil _).symm, ⟨ns9, rows9, by rw [← hTF]; exact hC9⟩, hfS⟩
      · subst c8
        obtain ⟨y, R2, hRe, hyp⟩ : ∃ y R2, R = y :: R2 ∧ y.1 = x8 := by
          cases R with
          | nil => exact nomatch (show some x8 = none from hch)
          | cons y R2 => exact ⟨y, R2, rfl, (Option.some.inj hch.1).symm⟩
        subst hRe
        subst hyp
        have hch2 := hch.2
        obtain ⟨fu2, rfl⟩ : ∃ f, fu = f + 1 := ⟨fu - 1, by simp only [List.length_cons] at hfu; omega⟩
        have hfu2 : R2.length ≤ fu2 := by simp only [List.length_cons] at hfu; omega
        obtain ⟨hL_y, hK_y, -, -, hI2y, -, -, -, -⟩ := q_C_at hC9
        have hL_c8 : c9 ∈ S'.L := hC9.1.1
        have hK_c8 : S'.K c9 = 4 := hC9.1.2.1
        refine q_aload_n (r := some y.1) C dX5_joinAll_11 rfl (lv_at hl 0 rfl) ?_
        refine g_Piece_isFree C hV hL_y hK_y (Or.inr ⟨_, wd_142⟩) dX5_joinAll_12 ?_
        refine q_ti (v' := q_fl y.2.2.1) (hI2y) ?_
        refine lv_if_eq (tgt := 26) C.1 C.2.1 dX5_joinAll_15 (by decide) (fun c15 => ?_) (fun c15 => ?_)
        · have hyf : y.2.2.1 = false := q_fl0.mp c15
          have hja := v_ja_u (k := fu2) (tm := tm9) (R := R2) hyf
          refine q_aload_n (r := some y.1) C dX5_joinAll_26 rfl (lv_at hl 0 rfl) ?_
          refine g_Piece_behind C hV hL_y hK_y (Or.inr ⟨_, wd_146⟩) dX5_joinAll_27 ?_
          refine q_nr (fun r27 h27 => ?_)
          refine q_astore_n (r := r27) (lv' := [(2, va_rf (r27)), (1, .int (ac)), (0, va_rf (some c9))]) C dX5_joinAll_30 rfl hl (by decide) (q_k0 (q_kC 1 rfl (by decide) rfl (q_kN 2 rfl (by decide) (by decide) q_kz))) (fun ls hl => ?_)
          refine lv_goto (tgt := 7) C.1 C.2.1 dX5_joinAll_31 (by decide) ?_
          subst h27
          exact ih _ ac k9 fu2 cc ss tm9 (D ++ [y]) R2 ns9 rows9 S' H locs ls (by omega) hV hl (by simpa using hC9) hch2 (by omega) hac (by simp only [List.length_cons] at hcc; omega) (by simp only [List.length_cons] at hss; omega) hfS (by simp only [List.length_cons] at htm9; omega) (by rw [← hVF, hja]; simp) (by rw [← hTF, hja]) (by rw [← hGF, hja])
        · have hyf : y.2.2.1 = true := by cases e9 : y.2.2.1 with
            | true => rfl
            | false => exact absurd (q_fl0.mpr e9) c15
          have hja := v_ja_f (k := fu2) (tm := tm9) (R := R2) hyf
          have hlen := q_dr_len R2
          refine lv_iload_n C.1 C.2.1 dX5_joinAll_18 rfl (lv_at hl 1 rfl) ?_
          refine q_aload_n (r := some c9) C dX5_joinAll_19 rfl (lv_at hl 2 rfl) ?_
          refine q_aload_n (r := some y.1) C dX5_joinAll_20 rfl (lv_at hl 0 rfl) ?_
          refine q_ci hV (q_rV (b := c9) (As := [va_rf (some y.1)]) (rest := [.int (ac)]) C hV (c_Shelf_swallow l E S' c9 h ar t n9 f9 tm9 D (q_tk R2) (q_dr9 R2) y ns9 rows9 (by rw [q_tk_dr]; exact hC9) hyf (q_tk_free R2) (q_dr_head R2) (by simp only [List.length_cons] at htm9; omega)) wd_212 wd_209 wd_211 wd_8 wd_39 ok_X5_swallowFreeBehind ⟨rfl, rfl, Nat.le_of_ble_eq_true rfl, Nat.le_of_ble_eq_true rfl⟩ (q_rc4 hV hL_c8 hK_c8) rfl hl.1 rfl (q_sm (q_1c rfl q_1n) (Nat.le_of_ble_eq_true rfl)) dX5_joinAll_21 ⟨by simp only [List.length_cons] at hcc; show _ ≤ kb; omega, by simp only [List.length_cons] at hss; show _ ≤ 7 * kb; omega⟩) (fun i21 S21 H locs hp21 hV => ?_)
          obtain ⟨hp21, ⟨ns21, rows21, hC21⟩, hf21⟩ := hp21
          obtain ⟨hL_y, hK_y, -, -, -, hch21, -, -, -⟩ := q_C_at hC21
          rw [q_sw_1] at hL_y hK_y hch21
          refine lv_iadd C.1 C.2.1 dX5_joinAll_24 ?_
          refine q_istore_n (x := ac + i21) (lv' := [(1, .int (ac + i21)), (2, va_rf (some y.1)), (0, va_rf (some c9))]) C dX5_joinAll_25 rfl hl (by decide) (q_k0 (q_kN 0 rfl (by decide) (by decide) (q_kC 2 rfl (by decide) (q_cat _) q_kz))) (fun ls hl => ?_)
          refine q_aload_n (r := some y.1) C dX5_joinAll_26 rfl (lv_at hl 1 rfl) ?_
          refine g_Piece_behind C hV hL_y hK_y (Or.inr ⟨_, wd_146⟩) dX5_joinAll_27 ?_
          refine q_nr (fun r27 h27 => ?_)
          refine q_astore_n (r := r27) (lv' := [(2, va_rf (r27)), (1, .int (ac + i21)), (0, va_rf (some c9))]) C dX5_joinAll_30 rfl hl (by decide) (q_k0 (q_kC 0 rfl (by decide) rfl (q_kN 2 rfl (by decide) (by decide) q_kz))) (fun ls hl => ?_)
          refine lv_goto (tgt := 7) C.1 C.2.1 dX5_joinAll_31 (by decide) ?_
          subst h27
          exact ih _ _ (k9 + (q_tk R2).length) fu2 (cc + 1) (ss + 7) (q_st tm9 (q_tk R2)) (D ++ [q_sw tm9 y (q_tk R2)]) (q_dr9 R2) ns21 rows21 S21 H locs ls (by omega) hV hl (by simpa using hC21) hch21 (by omega) (by rw [hac, hp21]; exact nI_add _ _) (by simp only [List.length_cons] at hcc; omega) (by simp only [List.length_cons] at hss; omega) (q_fr_tr hfS hf21) (by rw [q_st]; simp only [List.length_cons] at htm9; split <;> omega) (by rw [← hVF, hja]; simp [q_sw_vl, q_st_vl]) (by rw [← hTF, hja, q_st_vl]) (by rw [← hGF, hja, q_st_vl]; simp only []; omega)
  refine lv_iconst (v := 0) C.1 C.2.1 dX5_joinAll_0 (by decide) ?_
  refine q_istore_n (x := 0) (lv' := [(1, .int (0)), (0, va_rf (some c9))]) C dX5_joinAll_1 rfl hl (by decide) (q_k0 (q_kC 0 rfl (by decide) (q_cat _) q_kz)) (fun ls hl => ?_)
  refine q_aload_n (r := some c9) C dX5_joinAll_2 rfl (lv_at hl 1 rfl) ?_
  refine g_Shelf_lowest C hV hL_c9 hK_c9 (Or.inl wd_193) dX5_joinAll_3 ?_
  refine q_nr (fun r3 h3 => ?_)
  refine q_astore_n (r := r3) (lv' := [(2, va_rf (r3)), (1, .int (0)), (0, va_rf (some c9))]) C dX5_joinAll_6 rfl hl (by decide) (q_k0 (q_kC 0 rfl (by decide) rfl (q_kN 1 rfl (by decide) (by decide) q_kz))) (fun ls hl => ?_)
  exact loop (P.length + 1) r3 0 0 P.length 0 0 tm [] P ns rows S s.heap [] ls (Nat.lt_succ_self _) hV hl hC (by rw [h3]; exact hC.1.2.2.2.1) (Nat.le_refl _) nI_0.symm (by omega) (by omega) q_fr_rf htm (List.nil_append _) rfl (Nat.zero_add _)
theorem c_Shelf_joinAll (l : Launch) (E : qE) (S : qS) (c9 h ar t n9 f9 tm kb : Nat) (P : List q_X) (ns : List Nat) (rows : Nat → List Nat) (hC : q_C S c9 n9 f9 tm P h ar t ns rows) (hkb : P.length ≤ kb) (htm : tm + P.length < 2 ^ 40) : q_Mi l yX5_joinAll cX5_joinAll 3 .int { frames := 5, cells := kb, slots := (7 * kb), locals := 99 } E [.ref c9] S (fun r S1 => r = nI (v_ja P.length (q_vl P) tm).2.2 ∧ ∃ P1, q_vl P1 = (v_ja P.length (q_vl P) tm).1 ∧ q_CC S1 c9 n9 f9 (v_ja P.length (q_vl P) tm).2.1 P1 h ar t ∧ q_fk S S1) kb (7 * kb) := c0_Shelf_joinAll l E S c9 h ar t n9 f9 tm kb P ns rows hC hkb htm _ (fun _ _ h => h)

