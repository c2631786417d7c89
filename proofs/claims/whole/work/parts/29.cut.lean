/-! one piece of the class, and what pullOut and putIn do with it -/
theorem q_C_cl {S : qS} {c n fails tm : Nat} {P : List q_X} {h ar t : Nat} {ns : List Nat} {rows : Nat → List Nat} (hC : q_C S c n fails tm P h ar t ns rows) : c ∈ S.L ∧ S.K c = 4 ∧ S.R 8 c = some h ∧ h ∈ S.L ∧ S.K h = 2 ∧ S.J 1 h = lN tm := ⟨hC.1.1, hC.1.2.1, hC.2.1, hC.2.2.2.1.1.1, hC.2.2.2.1.1.2.1, hC.2.2.2.2.2.1⟩
theorem q_C_at {S : qS} {c n fails tm : Nat} {A B : List q_X} {x : q_X} {h ar t : Nat} {ns : List Nat} {rows : Nat → List Nat} (hC : q_C S c n fails tm (A ++ x :: B) h ar t ns rows) : x.1 ∈ S.L ∧ S.K x.1 = 0 ∧ S.I 0 x.1 = nI (1 + q_sz A) ∧ S.I 1 x.1 = nI x.2.1 ∧ S.I 2 x.1 = q_fl x.2.2.1 ∧ q_ch (S.R 0) (S.R 0 x.1) (q_ad B) ∧ 1 ≤ x.2.1 ∧ q_sz A + x.2.1 + q_sz B = n ∧ n ≤ 16384 := by
  obtain ⟨⟨h1, h2, h3, h4, h5, h6, h7, h8⟩, -⟩ := hC
  obtain ⟨g1, g2, g3, g4, g5, -⟩ := q_pok_at h5
  rw [q_ad_app] at h4
  refine ⟨g1, g2, g3, g4, g5, q_ch_at h4, h8 x (by simp), ?_, h7⟩
  rw [← h6, q_sz_app]; simp only [q_sz]; omega
theorem c_pullC (l : Launch) (E : qE) (S : qS) (c n fails tm : Nat) (A B : List q_X) (x : q_X) (h ar t : Nat) (ns : List Nat) (rows : Nat → List Nat) (hC : q_C S c n fails tm (A ++ x :: B) h ar t ns rows) (hx : x.2.2.1 = true) : q_Mv l yX2_pullOut cX2_pullOut 3 { frames := 2, cells := 0, slots := 0, locals := 44 } E [.ref h, .ref x.1] S (fun S1 => ∃ ns1 rows1, q_C S1 c n fails tm (A ++ (x.1, x.2.1, false, x.2.2.2) :: B) h ar t ns1 rows1 ∧ q_fr S S1 q_kI q_kR q_kJ) 0 0 := by
  obtain ⟨g1, g2, -, g4, -, -, -, g8, g9⟩ := q_C_at hC
  refine c0_Shelves_pullOut l E S h ar t ns rows hC.2.2.2.1 hC.2.2.2.2.1 x.1 x.2.1 g1 g2 g4 (by omega) (fun h3 => (hC.2.2.2.2.2.2.1.1 x.2.1 x.1).mpr ⟨h3, x, by simp, rfl, rfl, hx⟩) _ ?_
  rintro S1 ⟨ns1, k1, k2, k3, k4⟩
  obtain ⟨rows1, hC1⟩ := q_C_pull hC hx k1 k2 k3 k4
  exact ⟨ns1, rows1, hC1, q_fr_mo k3 q_k_PI q_k_OR (fun _ _ z => z.elim)⟩
theorem c_putC (l : Launch) (E : qE) (S : qS) (c n fails tm : Nat) (A B : List q_X) (x : q_X) (h ar t : Nat) (ns : List Nat) (rows : Nat → List Nat) (hC : q_C S c n fails tm (A ++ x :: B) h ar t ns rows) (hx : x.2.2.1 = false) (htm : tm + 1 < 2 ^ 40) : q_Mv l yX2_putIn cX2_putIn 2 { frames := 3, cells := 1, slots := 7, locals := 55 } E [.ref h, .ref x.1] S (fun S1 => ∃ ns1 rows1, q_C S1 c n fails (tm + 1) (A ++ (x.1, x.2.1, true, tm) :: B) h ar t ns1 rows1 ∧ q_fr S S1 q_kI q_kR q_kJ) 1 7 := by
  obtain ⟨g1, g2, -, g4, -, -, -, g8, g9⟩ := q_C_at hC
  refine c0_Shelves_putIn l E S h ar t ns rows hC.2.2.2.1 hC.2.2.2.2.1 x.1 x.2.1 tm g1 g2 g4 (by omega) (q_C_used hC hx) hC.2.2.2.2.2.1 _ ?_
  rintro S1 ⟨ns1, k1, k2, k3, k4, k5, k6⟩
  obtain ⟨rows1, hC1⟩ := q_C_put hC hx htm k1 k2 k3 k4 k5 k6
  exact ⟨ns1, rows1, hC1, q_fr_mo k3 q_k_PI q_k_PR (fun _ _ _ => trivial)⟩
abbrev q_fk (S S1 : qS) : Prop := q_fr S S1 q_kI q_kR q_kJ
/-- what faults() may change: the flags of pieces, and what the way over the tree keeps -/
abbrev q_ft (S S1 : qS) : Prop := q_fr S S1 (fun j _ => j = 3 ∨ 11 ≤ j) (fun j _ => 12 ≤ j) q_c0
/-- the class, where the shelves' rows need no names -/
def q_CC (S : qS) (c n fails tm : Nat) (P : List q_X) (h ar t : Nat) : Prop := ∃ ns rows, q_C S c n fails tm P h ar t ns rows
set_option maxHeartbeats 4000000 in
set_option maxRecDepth 100000 in
theorem c0_Shelf_cut (l : Launch) (E : qE) (S : qS) (c9 h ar t n9 f9 tm p9 z9 s9 t9 : Nat) (A B : List q_X) (ns : List Nat) (rows : Nat → List Nat) (hC : q_C S c9 n9 f9 tm (A ++ (p9, z9, false, t9) :: B) h ar t ns rows) (hs1 : 1 ≤ s9) (hs2 : s9 < z9) (htm : tm + 1 < 2 ^ 40) (post : qS → Prop) (hpost : ∀ S1, (∃ q, q_CC S1 c9 n9 f9 (tm + 1) (A ++ (p9, s9, false, t9) :: (q, z9 - s9, true, tm) :: B) h ar t ∧ q_fk S S1) → post S1) : q_Mv l yX5_cut cX5_cut 4 { frames := 4, cells := 2, slots := 14, locals := 76 } E [.ref c9, .ref p9, .int (nI s9)] S (post) 2 14 := by
  refine q_ofW1 (by decide) (q_1c rfl (q_1c rfl (q_1c rfl q_1n))) (Nat.le_of_ble_eq_true rfl) (fun p e s m below meth c C hV hr hlk hnm ls hl => ?_)
  have hl : lv_has ls 4 [(0, va_rf (some c9)), (1, va_rf (some p9)), (2, .int (nI s9))] := hl
  obtain ⟨hL_c9, hK_c9, hR8, hL_h, hK_h, hJ⟩ := q_C_cl hC
  obtain ⟨hL_p9, hK_p9, hI0, hI1, hI2, -, -, hsz, hn9⟩ := q_C_at hC
  refine n_Piece C hV wd_130 (by decide) (by decide) dX5_cut_0 (fun q0 H hq0 hV => ?_)
  have hf0 : q_fr S (S.nO q0 0) q_c0 q_c0 q_c0 := q_fr_nO hq0
  have hL_p0 := (hf0.1 p9 hL_p9).1
  have hK_p0 : (S.nO q0 0).K p9 = 0 := (hf0.1 p9 hL_p9).2.1.trans hK_p9
  have hI00 : (S.nO q0 0).I 0 p9 = nI (1 + q_sz A) := (hf0.2.1 p9 hL_p9 0 id).trans hI0
  have hI10 : (S.nO q0 0).I 1 p9 = nI z9 := (hf0.2.1 p9 hL_p9 1 id).trans hI1
  have hR00 : (S.nO q0 0).R 0 p9 = S.R 0 p9 := hf0.2.2.1 p9 hL_p9 0 id
  refine lv_dup C.1 C.2.1 dX5_cut_3 rfl ?_
  refine q_aload_n (r := some p9) C dX5_cut_4 rfl (lv_at hl 1 rfl) ?_
  refine g_Piece_at C hV hL_p0 hK_p0 (Or.inr ⟨_, wd_137⟩) dX5_cut_5 ?_
  refine q_ti (v' := nI (1 + q_sz A)) (hI00) ?_
  refine lv_iload_n C.1 C.2.1 dX5_cut_8 rfl (lv_at hl 2 rfl) ?_
  refine lv_iadd C.1 C.2.1 dX5_cut_9 ?_
  refine q_aload_n (r := some p9) C dX5_cut_10 rfl (lv_at hl 1 rfl) ?_
  refine g_Piece_cells C hV hL_p0 hK_p0 (Or.inr ⟨_, wd_139⟩) dX5_cut_11 ?_
  refine q_ti (v' := nI z9) (hI10) ?_
  refine lv_iload_n C.1 C.2.1 dX5_cut_14 rfl (lv_at hl 2 rfl) ?_
  refine lv_isub C.1 C.2.1 dX5_cut_15 ?_
  refine q_aload_n (r := some p9) C dX5_cut_16 rfl (lv_at hl 1 rfl) ?_
  refine g_Piece_behind C hV hL_p0 hK_p0 (Or.inr ⟨_, wd_146⟩) dX5_cut_17 ?_
  refine q_tr (v' := S.R 0 p9) (hR00) ?_
  refine q_cv hV (q_rI (b := q0) (As := [.int ((nI (1 + q_sz A)) + (nI s9)), .int ((nI z9) - (nI s9)), va_rf (S.R 0 p9)]) (rest := [va_rf (some q0)]) C hV (c_Piece_init l E (S.nO q0 0) q0 (nI (1 + q_sz A) + nI s9) (nI z9 - nI s9) (S.R 0 p9) (q_nO_in _ _ _) (q_nO_K _ _ _)) wd_134 (Or.inr ⟨_, wd_132⟩) wd_133 wd_43 rfl ok_X0_init ⟨rfl, rfl, Nat.le_of_ble_eq_true rfl, Nat.le_of_ble_eq_true rfl⟩ rfl hl.1 rfl (q_sm (q_1c (q_cat _) q_1n) (Nat.le_of_ble_eq_true rfl)) dX5_cut_20 ⟨Nat.le_of_ble_eq_true rfl, Nat.le_of_ble_eq_true rfl⟩) (fun S20 H locs hp20 hV => ?_)
  subst hp20
  obtain ⟨hfq, hq1, hq2, -, -, -, -⟩ := q_fresh (A := S) (q := q0) (a := nI (1 + q_sz A) + nI s9) (n := nI z9 - nI s9) (b := S.R 0 p9) hq0
  have hV : q_V E s (q_pcn S q0 (nI (1 + q_sz A) + nI s9) (nI z9 - nI s9) (S.R 0 p9)) H locs := hV
  have hL_p2 : p9 ∈ (q_pcn S q0 (nI (1 + q_sz A) + nI s9) (nI z9 - nI s9) (S.R 0 p9)).L := (hfq.1 p9 hL_p9).1
  have hK_p2 : (q_pcn S q0 (nI (1 + q_sz A) + nI s9) (nI z9 - nI s9) (S.R 0 p9)).K p9 = 0 := (hfq.1 p9 hL_p9).2.1.trans hK_p9
  refine q_astore_n (r := some q0) (lv' := [(3, va_rf (some q0)), (0, va_rf (some c9)), (1, va_rf (some p9)), (2, .int (nI s9))]) C dX5_cut_23 rfl hl (by decide) (q_k0 (q_kN 0 rfl (by decide) (by decide) (q_kN 1 rfl (by decide) (by decide) (q_kC 2 rfl (by decide) rfl q_kz)))) (fun ls hl => ?_)
  refine q_aload_n (r := some p9) C dX5_cut_24 rfl (lv_at hl 2 rfl) ?_
  refine lv_iload_n C.1 C.2.1 dX5_cut_25 rfl (lv_at hl 3 rfl) ?_
  refine p_Piece_cells (v := nI s9) C hV hL_p2 hK_p2 (Or.inr ⟨_, wd_139⟩) dX5_cut_26 (fun H locs hV => ?_)
  refine q_aload_n (r := some p9) C dX5_cut_29 rfl (lv_at hl 2 rfl) ?_
  refine q_aload_n (r := some q0) C dX5_cut_30 rfl (lv_at hl 0 rfl) ?_
  refine p_Piece_behind (v := some q0) C hV hL_p2 hK_p2 (Or.inr ⟨_, wd_146⟩) dX5_cut_31 (fun H locs hV => ?_)
  obtain ⟨S6, hS6⟩ : ∃ X : qS, X = ((q_pcn S q0 (nI (1 + q_sz A) + nI s9) (nI z9 - nI s9) (S.R 0 p9)).sI 1 p9 (nI s9)).sR 0 p9 (some q0) := ⟨_, rfl⟩
  have hV : q_V E s S6 H locs := by rw [hS6]; exact hV
  obtain ⟨hC6, hf6⟩ := q_C_cut hC hs1 hs2 hq0 hS6
  rw [show A ++ (p9, s9, false, t9) :: (q0, z9 - s9, false, 0) :: B = (A ++ [(p9, s9, false, t9)]) ++ (q0, z9 - s9, false, 0) :: B from by simp] at hC6
  obtain ⟨hL_c6, hK_c6, hR86, hL_h6, hK_h6, -⟩ := q_C_cl hC6
  refine q_aload_n (r := some c9) C dX5_cut_34 rfl (lv_at hl 1 rfl) ?_
  refine g_Shelf_shelves C hV hL_c6 hK_c6 (Or.inl wd_192) dX5_cut_35 ?_
  refine q_tr (v' := some h) (hR86) ?_
  refine q_aload_n (r := some q0) C dX5_cut_38 rfl (lv_at hl 0 rfl) ?_
  refine q_cv hV (q_rN (b := h) (As := [va_rf (some q0)]) (rest := []) C hV (c_putC l E S6 c9 n9 f9 tm (A ++ [(p9, s9, false, t9)]) B (q0, z9 - s9, false, 0) h ar t ns rows hC6 rfl htm) wd_169 wd_166 wd_168 wd_2 wd_40 ok_X2_putIn ⟨rfl, rfl, Nat.le_of_ble_eq_true rfl, Nat.le_of_ble_eq_true rfl⟩ (q_rc2 hV hL_h6 hK_h6) rfl hl.1 rfl (q_sm q_1n (Nat.le_of_ble_eq_true rfl)) dX5_cut_39 ⟨Nat.le_of_ble_eq_true rfl, Nat.le_of_ble_eq_true rfl⟩) (fun S39 H locs hp39 hV => ?_)
  refine q_vret C hV hr hlk (by decide) (by decide) dX5_cut_42 ?_
  obtain ⟨ns1, rows1, hC1, hf1⟩ := hp39
  rw [show (A ++ [(p9, s9, false, t9)]) ++ (q0, z9 - s9, true, tm) :: B = A ++ (p9, s9, false, t9) :: (q0, z9 - s9, true, tm) :: B from by simp] at hC1
  exact hpost _ ⟨q0, ⟨ns1, rows1, hC1⟩, q_fr_tr (q_fr_mo hf6 (fun j x z => by rw [z.1]; exact Nat.le_of_ble_eq_true rfl) (fun j x z => by rw [z.1]; exact Nat.le_of_ble_eq_true rfl) (fun _ _ z => z.elim)) hf1⟩
theorem c_Shelf_cut (l : Launch) (E : qE) (S : qS) (c9 h ar t n9 f9 tm p9 z9 s9 t9 : Nat) (A B : List q_X) (ns : List Nat) (rows : Nat → List Nat) (hC : q_C S c9 n9 f9 tm (A ++ (p9, z9, false, t9) :: B) h ar t ns rows) (hs1 : 1 ≤ s9) (hs2 : s9 < z9) (htm : tm + 1 < 2 ^ 40) : q_Mv l yX5_cut cX5_cut 4 { frames := 4, cells := 2, slots := 14, locals := 76 } E [.ref c9, .ref p9, .int (nI s9)] S (fun S1 => ∃ q, q_CC S1 c9 n9 f9 (tm + 1) (A ++ (p9, s9, false, t9) :: (q, z9 - s9, true, tm) :: B) h ar t ∧ q_fk S S1) 2 14 := c0_Shelf_cut l E S c9 h ar t n9 f9 tm p9 z9 s9 t9 A B ns rows hC hs1 hs2 htm _ (fun _ h => h)

/-- what a free piece becomes that swallows F -/
def q_sw (tm : Nat) (x : q_X) (F : List q_X) : q_X := if F = [] then x else (x.1, x.2.1 + q_sz F, true, tm)
def q_st (tm : Nat) (F : List q_X) : Nat := if F = [] then tm else tm + 1
set_option maxHeartbeats 4000000 in
set_option maxRecDepth 100000 in
theorem c0_Shelf_swallow (l : Launch) (E : qE) (S : qS) (c9 h ar t n9 f9 tm : Nat) (A F B : List q_X) (x : q_X) (ns : List Nat) (rows : Nat → List Nat) (hC : q_C S c9 n9 f9 tm (A ++ x :: (F ++ B)) h ar t ns rows) (hx : x.2.2.1 = true) (hF : ∀ y ∈ F, y.2.2.1 = true) (hB : ∀ y, B.head? = some y → y.2.2.1 = false) (htm : tm + 1 < 2 ^ 40) (post : Int32 → qS → Prop) (hpost : ∀ r S1, (r = nI F.length ∧ q_CC S1 c9 n9 f9 (q_st tm F) (A ++ q_sw tm x F :: B) h ar t ∧ q_fk S S1) → post r S1) : q_Mi l yX5_swallowFreeBehind cX5_swallowFreeBehind 4 .int { frames := 4, cells := 1, slots := 7, locals := 76 } E [.ref c9, .ref x.1] S (post) 1 7 := by
  refine q_ofW1 (by decide) (q_1c rfl (q_1c rfl q_1n)) (Nat.le_of_ble_eq_true rfl) (fun p e s m below meth c C hV hr hlk hnm ls hl => ?_)
  have hl : lv_has ls 4 [(0, va_rf (some c9)), (1, va_rf (some x.1))] := hl
  obtain ⟨px, hpx⟩ : ∃ px : Nat, px = x.1 := ⟨_, rfl⟩
  obtain ⟨hL_c9, hK_c9, hR8, hL_h, hK_h, hJ⟩ := q_C_cl hC
  obtain ⟨hL_px, hK_px, -, -, -, hchx, -, hsz, hn9⟩ := q_C_at hC
  rw [← hpx] at hL_px hK_px hchx hl
  have hl : lv_has ls 4 [(0, va_rf (some c9)), (1, va_rf (some px))] := hl
  have loop : ∀ (k : Nat) (pp : Option Nat) (i : Int32) (k9 z : Nat) (F9 : List q_X) (ns9 : List Nat) (rows9 : Nat → List Nat) (S' : qS) (H : Heap) (locs : List Loc) (ls : Array Slot), F9.length < k → q_V E s S' H locs → lv_has ls 4 [(3, va_rf (pp)), (2, .int (i)), (0, va_rf (some c9)), (1, va_rf (some px))] → q_C S' c9 n9 f9 tm (A ++ (px, z, false, x.2.2.2) :: (F9 ++ B)) h ar t ns9 rows9 → z + q_sz F9 = x.2.1 + q_sz F → k9 + F9.length = F.length → i = nI k9 → q_ch (S'.R 0) pp (q_ad (F9 ++ B)) → (∀ a ∈ F9, a.2.2.1 = true) → q_fk S S' → F ≠ [] → W p l e ({ frames := 4, cells := 1, slots := 7, locals := 76 } : Room) s m [.ref c9, .ref x.1].toArray below meth c H locs (0) (0) (MQ below (va_Qi (post) (q_B E) E.A) [.ref c9, .ref x.1].toArray s (1) (7) E.A) (F0 m 34 ls []) := by
    intro k
    induction k with
    | zero => intro pp i k9 z F9 ns9 rows9 S' H locs ls hk; exact absurd hk (Nat.not_lt_zero _)
    | succ k ih =>
      intro pp i k9 z F9 ns9 rows9 S' H locs ls hk hV hl hC9 hz hkk hi hch hFF hfS hFne
      refine q_aload_n (r := pp) C dX5_swallowFreeBehind_34 rfl (lv_at hl 0 rfl) ?_
      refine q_ifnull (r := pp) (tgt := 85) C dX5_swallowFreeBehind_35 (by decide) (fun c35 => ?_) (fun x35 c35 => ?_)
      · subst c35
        have hFB : F9 = [] ∧ B = [] := by
          cases F9 with
          | nil => cases B with
            | nil => exact ⟨rfl, rfl⟩
            | cons b B => exact nomatch hch.1
          | cons b F9 => exact nomatch hch.1
        obtain ⟨rfl, hBe⟩ := hFB
        have hC9 : q_C S' c9 n9 f9 tm (A ++ (px, z, false, x.2.2.2) :: B) h ar t ns9 rows9 := hC9
        obtain ⟨hL_c8, hK_c8, hR88, hL_h8, hK_h8, -⟩ := q_C_cl hC9
        refine q_aload_n (r := some c9) C dX5_swallowFreeBehind_85 rfl (lv_at hl 2 rfl) ?_
        refine g_Shelf_shelves C hV hL_c8 hK_c8 (Or.inl wd_192) dX5_swallowFreeBehind_86 ?_
        refine q_tr (v' := some h) (hR88) ?_
        refine q_aload_n (r := some px) C dX5_swallowFreeBehind_89 rfl (lv_at hl 3 rfl) ?_
        refine q_cv hV (q_rN (b := h) (As := [va_rf (some px)]) (rest := []) C hV (c_putC l E S' c9 n9 f9 tm A B (px, z, false, x.2.2.2) h ar t ns9 rows9 hC9 rfl htm) wd_169 wd_166 wd_168 wd_2 wd_40 ok_X2_putIn ⟨rfl, rfl, Nat.le_of_ble_eq_true rfl, Nat.le_of_ble_eq_true rfl⟩ (q_rc2 hV hL_h8 hK_h8) rfl hl.1 rfl (q_sm q_1n (Nat.le_of_ble_eq_true rfl)) dX5_swallowFreeBehind_90 ⟨Nat.le_of_ble_eq_true rfl, Nat.le_of_ble_eq_true rfl⟩) (fun S90 H locs hp90 hV => ?_)
        refine lv_iload_n C.1 C.2.1 dX5_swallowFreeBehind_93 rfl (lv_at hl 1 rfl) ?_
        refine q_iret (v := i) C hV hr hlk (by decide) (by decide) dX5_swallowFreeBehind_94 ?_
        obtain ⟨ns1, rows1, hC1, hf1⟩ := hp90
        refine hpost _ _ ⟨?_, ?_, q_fr_tr hfS hf1⟩
        · rw [hi, show k9 = F.length from by simp at hkk; omega]
        · refine ⟨ns1, rows1, ?_⟩
          rw [q_st, if_neg hFne, q_sw, if_neg hFne, show x.2.1 + q_sz F = z from by simp only [q_sz] at hz; omega, ← hpx]
          exact hC1
      · subst c35
        obtain ⟨y, R, hFB, hyp⟩ : ∃ y R, F9 ++ B = y :: R ∧ y.1 = x35 := by
          cases hR : F9 ++ B with
          | nil => rw [hR] at hch; exact nomatch (show some x35 = none from hch)
          | cons y R => rw [hR] at hch; exact ⟨y, R, rfl, (Option.some.inj hch.1).symm⟩
        subst hyp
        have hCy : q_C S' c9 n9 f9 tm ((A ++ [(px, z, false, x.2.2.2)]) ++ y :: R) h ar t ns9 rows9 := by rw [hFB] at hC9; simpa using hC9
        obtain ⟨hL_y, hK_y, -, hI1y, hI2y, -, -, -, -⟩ := q_C_at hCy
        refine q_aload_n (r := some y.1) C dX5_swallowFreeBehind_38 rfl (lv_at hl 0 rfl) ?_
        refine g_Piece_isFree C hV hL_y hK_y (Or.inr ⟨_, wd_142⟩) dX5_swallowFreeBehind_39 ?_
        refine q_ti (v' := q_fl y.2.2.1) (hI2y) ?_
        refine lv_if_eq (tgt := 85) C.1 C.2.1 dX5_swallowFreeBehind_42 (by decide) (fun c42 => ?_) (fun c42 => ?_)
        · have hyf : y.2.2.1 = false := q_fl0.mp c42
          obtain ⟨rfl⟩ : F9 = [] := by
            cases F9 with
            | nil => rfl
            | cons b F2 => rw [List.cons_append] at hFB; obtain ⟨e1, -⟩ := List.cons.inj hFB; rw [← e1, hFF b List.mem_cons_self] at hyf; exact nomatch hyf
          have hC9 : q_C S' c9 n9 f9 tm (A ++ (px, z, false, x.2.2.2) :: B) h ar t ns9 rows9 := hC9
          obtain ⟨hL_c8, hK_c8, hR88, hL_h8, hK_h8, -⟩ := q_C_cl hC9
          refine q_aload_n (r := some c9) C dX5_swallowFreeBehind_85 rfl (lv_at hl 2 rfl) ?_
          refine g_Shelf_shelves C hV hL_c8 hK_c8 (Or.inl wd_192) dX5_swallowFreeBehind_86 ?_
          refine q_tr (v' := some h) (hR88) ?_
          refine q_aload_n (r := some px) C dX5_swallowFreeBehind_89 rfl (lv_at hl 3 rfl) ?_
          refine q_cv hV (q_rN (b := h) (As := [va_rf (some px)]) (rest := []) C hV (c_putC l E S' c9 n9 f9 tm A B (px, z, false, x.2.2.2) h ar t ns9 rows9 hC9 rfl htm) wd_169 wd_166 wd_168 wd_2 wd_40 ok_X2_putIn ⟨rfl, rfl, Nat.le_of_ble_eq_true rfl, Nat.le_of_ble_eq_true rfl⟩ (q_rc2 hV hL_h8 hK_h8) rfl hl.1 rfl (q_sm q_1n (Nat.le_of_ble_eq_true rfl)) dX5_swallowFreeBehind_90 ⟨Nat.le_of_ble_eq_true rfl, Nat.le_of_ble_eq_true rfl⟩) (fun S90 H locs hp90 hV => ?_)
          refine lv_iload_n C.1 C.2.1 dX5_swallowFreeBehind_93 rfl (lv_at hl 1 rfl) ?_
          refine q_iret (v := i) C hV hr hlk (by decide) (by decide) dX5_swallowFreeBehind_94 ?_
          obtain ⟨ns1, rows1, hC1, hf1⟩ := hp90
          refine hpost _ _ ⟨?_, ?_, q_fr_tr hfS hf1⟩
          · rw [hi, show k9 = F.length from by simp at hkk; omega]
          · refine ⟨ns1, rows1, ?_⟩
            rw [q_st, if_neg hFne, q_sw, if_neg hFne, show x.2.1 + q_sz F = z from by simp only [q_sz] at hz; omega, ← hpx]
            exact hC1
        · have hyf : y.2.2.1 = true := by cases e9 : y.2.2.1 with
            | true => rfl
            | false => exact absurd (q_fl0.mpr e9) c42
          obtain ⟨F2, rfl⟩ : ∃ F2, F9 = y :: F2 := by
            cases F9 with
            | nil => exact absurd (hB y (by rw [show B = y :: R from hFB]; rfl)) (by rw [hyf]; exact fun z => nomatch z)
            | cons b F2 => rw [List.cons_append] at hFB; obtain ⟨e1, -⟩ := List.cons.inj hFB; exact ⟨F2, by rw [e1]⟩
          obtain ⟨rfl⟩ : F2 ++ B = R := by simpa using hFB
          obtain ⟨hL_c8, hK_c8, hR89, hL_h8, hK_h8, -⟩ := q_C_cl hCy
          refine q_aload_n (r := some c9) C dX5_swallowFreeBehind_45 rfl (lv_at hl 2 rfl) ?_
          refine g_Shelf_shelves C hV hL_c8 hK_c8 (Or.inl wd_192) dX5_swallowFreeBehind_46 ?_
          refine q_tr (v' := some h) (hR89) ?_
          refine q_aload_n (r := some y.1) C dX5_swallowFreeBehind_49 rfl (lv_at hl 0 rfl) ?_
          refine q_cv hV (q_rN (b := h) (As := [va_rf (some y.1)]) (rest := []) C hV (c_pullC l E S' c9 n9 f9 tm (A ++ [(px, z, false, x.2.2.2)]) (F2 ++ B) y h ar t ns9 rows9 hCy hyf) wd_216 wd_213 wd_215 wd_9 wd_40 ok_X2_pullOut ⟨rfl, rfl, Nat.le_of_ble_eq_true rfl, Nat.le_of_ble_eq_true rfl⟩ (q_rc2 hV hL_h8 hK_h8) rfl hl.1 rfl (q_sm q_1n (Nat.le_of_ble_eq_true rfl)) dX5_swallowFreeBehind_50 ⟨Nat.le_of_ble_eq_true rfl, Nat.le_of_ble_eq_true rfl⟩) (fun S50 H locs hp50 hV => ?_)
          obtain ⟨ns50, rows50, hC50, hf50⟩ := hp50
          have hC50 : q_C S50 c9 n9 f9 tm (A ++ (px, z, false, x.2.2.2) :: (y.1, y.2.1, false, y.2.2.2) :: (F2 ++ B)) h ar t ns50 rows50 := by simpa using hC50
          obtain ⟨hL_x5, hK_x5, -, hI1x5, -, -, -, -, -⟩ := q_C_at hC50
          obtain ⟨hL_y5, hK_y5, -, hI1y5, -, -, -, -, -⟩ := q_C_at (A := A ++ [(px, z, false, x.2.2.2)]) (x := (y.1, y.2.1, false, y.2.2.2)) (B := F2 ++ B) (by simpa using hC50)
          have hyx : y.1 ≠ px := q_nd_mid (q_line_nd hC50.1) (y.1, y.2.1, false, y.2.2.2) (by simp)
          refine q_aload_n (r := some px) C dX5_swallowFreeBehind_53 rfl (lv_at hl 3 rfl) ?_
          refine lv_dup C.1 C.2.1 dX5_swallowFreeBehind_54 rfl ?_
          refine g_Piece_cells C hV hL_x5 hK_x5 (Or.inr ⟨_, wd_139⟩) dX5_swallowFreeBehind_55 ?_
          refine q_ti (v' := nI z) (hI1x5) ?_
          refine q_aload_n (r := some y.1) C dX5_swallowFreeBehind_58 rfl (lv_at hl 0 rfl) ?_
          refine g_Piece_cells C hV hL_y5 hK_y5 (Or.inr ⟨_, wd_139⟩) dX5_swallowFreeBehind_59 ?_
          refine q_ti (v' := nI y.2.1) (hI1y5) ?_
          refine lv_iadd C.1 C.2.1 dX5_swallowFreeBehind_62 ?_
          refine p_Piece_cells (v := (nI z) + (nI y.2.1)) C hV hL_x5 hK_x5 (Or.inr ⟨_, wd_139⟩) dX5_swallowFreeBehind_63 (fun H locs hV => ?_)
          refine q_aload_n (r := some px) C dX5_swallowFreeBehind_66 rfl (lv_at hl 3 rfl) ?_
          refine q_aload_n (r := some y.1) C dX5_swallowFreeBehind_67 rfl (lv_at hl 0 rfl) ?_
          refine g_Piece_behind C hV hL_y5 hK_y5 (Or.inr ⟨_, wd_146⟩) dX5_swallowFreeBehind_68 ?_
          refine q_nr (fun r68 h68 => ?_)
          refine p_Piece_behind (v := r68) C hV hL_x5 hK_x5 (Or.inr ⟨_, wd_146⟩) dX5_swallowFreeBehind_71 (fun H locs hV => ?_)
          obtain ⟨S6, hS6⟩ : ∃ X : qS, X = (S50.sI 1 px (nI z + nI y.2.1)).sR 0 px (S50.R 0 y.1) := ⟨_, rfl⟩
          have hV : q_V E s S6 H locs := by rw [hS6]; rw [q_RI] at h68; rw [← h68]; exact hV
          obtain ⟨hC6, hf6⟩ := q_C_merge hC50 hS6
          have hL_y6 : y.1 ∈ S6.L := (hf6.1 y.1 hL_y5).1
          have hK_y6 : S6.K y.1 = 0 := (hf6.1 y.1 hL_y5).2.1.trans hK_y5
          obtain ⟨i74, e74⟩ : ∃ y : Int32, y = i + 1 := ⟨_, rfl⟩
          refine q_iinc (v := i74) (k := 1) (lv' := [(2, .int (i74)), (3, va_rf (some y.1)), (0, va_rf (some c9)), (1, va_rf (some px))]) C dX5_swallowFreeBehind_74 hl rfl (by rw [e74]; rfl) (by decide) (q_k0 (q_kN 0 rfl (by decide) (by decide) (q_kN 2 rfl (by decide) (by decide) (q_kC 3 rfl (by decide) (q_cat _) q_kz)))) (fun ls hl => ?_)
          refine q_aload_n (r := some y.1) C dX5_swallowFreeBehind_77 rfl (lv_at hl 1 rfl) ?_
          refine g_Piece_behind C hV hL_y6 hK_y6 (Or.inr ⟨_, wd_146⟩) dX5_swallowFreeBehind_78 ?_
          refine q_nr (fun r78 h78 => ?_)
          refine q_astore_n (r := r78) (lv' := [(3, va_rf (r78)), (2, .int (i74)), (0, va_rf (some c9)), (1, va_rf (some px))]) C dX5_swallowFreeBehind_81 rfl hl (by decide) (q_k0 (q_kC 0 rfl (by decide) rfl (q_kN 2 rfl (by decide) (by decide) (q_kN 3 rfl (by decide) (by decide) q_kz)))) (fun ls hl => ?_)
          refine lv_goto (tgt := 34) C.1 C.2.1 dX5_swallowFreeBehind_82 (by decide) ?_
          have e78 : r78 = S6.R 0 px := by rw [h78, hS6, qR_ne _ _ _ _ hyx, qR_self, q_RI]
          subst e78
          exact ih (S6.R 0 px) i74 (k9 + 1) (z + y.2.1) F2 ns50 rows50 S6 H locs ls (by simp at hk; omega) hV hl hC6 (by simp only [q_sz] at hz; omega) (by simp only [List.length_cons] at hkk; omega) (by rw [e74, hi]; exact nI_1 k9) (q_C_at hC6).2.2.2.2.2.1 (fun a ha => hFF a (List.mem_cons_of_mem _ ha)) (q_fr_tr hfS (q_fr_tr hf50 (q_fr_mo hf6 (fun j x z => by rw [z.1]; exact Nat.le_of_ble_eq_true rfl) (fun j x z => by rw [z.1]; exact Nat.le_of_ble_eq_true rfl) (fun _ _ z => z.elim)))) hFne
  refine q_aload_n (r := some px) C dX5_swallowFreeBehind_0 rfl (lv_at hl 1 rfl) ?_
  refine g_Piece_behind C hV hL_px hK_px (Or.inr ⟨_, wd_146⟩) dX5_swallowFreeBehind_1 ?_
  refine q_nr (fun r1 h1 => ?_)
  refine q_ifnull (r := r1) (tgt := 17) C dX5_swallowFreeBehind_4 (by decide) (fun c4 => ?_) (fun x4 c4 => ?_)
  · subst c4
    have hFe : F = [] := by
      cases F with
      | nil => rfl
      | cons b F2 => rw [← h1] at hchx; exact nomatch hchx.1
    refine lv_iconst (v := 0) C.1 C.2.1 dX5_swallowFreeBehind_17 (by decide) ?_
    refine q_iret (v := 0) C hV hr hlk (by decide) (by decide) dX5_swallowFreeBehind_18 ?_
    refine hpost _ _ ⟨?_, ?_, q_fr_rf⟩
    · rw [hFe]; exact nI_0.symm
    · rw [hFe]; exact ⟨ns, rows, by rw [hFe] at hC; exact hC⟩
  · subst c4
    have hR01 : S.R 0 px = some x4 := h1.symm
    obtain ⟨y, R, hFB, hyp⟩ : ∃ y R, F ++ B = y :: R ∧ y.1 = x4 := by
      rw [hR01] at hchx
      cases hR : F ++ B with
      | nil => rw [hR] at hchx; exact nomatch (show some x4 = none from hchx)
      | cons y R => rw [hR] at hchx; exact ⟨y, R, rfl, (Option.some.inj hchx.1).symm⟩
    subst hyp
    have hCy : q_C S c9 n9 f9 tm ((A ++ [x]) ++ y :: R) h ar t ns rows := by rw [hFB] at hC; simpa using hC
    obtain ⟨hL_y, hK_y, -, -, hI2y, -, -, -, -⟩ := q_C_at hCy
    refine q_aload_n (r := some px) C dX5_swallowFreeBehind_7 rfl (lv_at hl 1 rfl) ?_
    refine g_Piece_behind C hV hL_px hK_px (Or.inr ⟨_, wd_146⟩) dX5_swallowFreeBehind_8 ?_
    refine q_tr (v' := some y.1) (hR01) ?_
    refine g_Piece_isFree C hV hL_y hK_y (Or.inr ⟨_, wd_142⟩) dX5_swallowFreeBehind_11 ?_
    refine q_ti (v' := q_fl y.2.2.1) (hI2y) ?_
    refine lv_if_ne (tgt := 19) C.1 C.2.1 dX5_swallowFreeBehind_14 (by decide) (fun c14 => ?_) (fun c14 => ?_)
    · have hFne : F ≠ [] := by
        intro hFe
        rw [hFe] at hFB
        have := hB y (by rw [show B = y :: R from hFB]; rfl)
        rw [this] at c14; exact c14 rfl
      refine q_aload_n (r := some c9) C dX5_swallowFreeBehind_19 rfl (lv_at hl 0 rfl) ?_
      refine g_Shelf_shelves C hV hL_c9 hK_c9 (Or.inl wd_192) dX5_swallowFreeBehind_20 ?_
      refine q_tr (v' := some h) (hR8) ?_
      refine q_aload_n (r := some px) C dX5_swallowFreeBehind_23 rfl (lv_at hl 1 rfl) ?_
      refine q_cv hV (q_rN (b := h) (As := [va_rf (some px)]) (rest := []) C hV (c_pullC l E S c9 n9 f9 tm A (F ++ B) (px, x.2) h ar t ns rows (by rw [hpx]; exact hC) hx) wd_216 wd_213 wd_215 wd_9 wd_40 ok_X2_pullOut ⟨rfl, rfl, Nat.le_of_ble_eq_true rfl, Nat.le_of_ble_eq_true rfl⟩ (q_rc2 hV hL_h hK_h) rfl hl.1 rfl (q_sm q_1n (Nat.le_of_ble_eq_true rfl)) dX5_swallowFreeBehind_24 ⟨Nat.le_of_ble_eq_true rfl, Nat.le_of_ble_eq_true rfl⟩) (fun S24 H locs hp24 hV => ?_)
      obtain ⟨ns24, rows24, hC24, hf24⟩ := hp24
      have hC24 : q_C S24 c9 n9 f9 tm (A ++ (px, x.2.1, false, x.2.2.2) :: (F ++ B)) h ar t ns24 rows24 := hC24
      obtain ⟨hL_x24, hK_x24, -, -, -, -, -, -, -⟩ := q_C_at hC24
      refine lv_iconst (v := 0) C.1 C.2.1 dX5_swallowFreeBehind_27 (by decide) ?_
      refine q_istore_n (x := 0) (lv' := [(2, .int (0)), (0, va_rf (some c9)), (1, va_rf (some px))]) C dX5_swallowFreeBehind_28 rfl hl (by decide) (q_k0 (q_kN 0 rfl (by decide) (by decide) (q_kC 1 rfl (by decide) (q_cat _) q_kz))) (fun ls hl => ?_)
      refine q_aload_n (r := some px) C dX5_swallowFreeBehind_29 rfl (lv_at hl 2 rfl) ?_
      refine g_Piece_behind C hV hL_x24 hK_x24 (Or.inr ⟨_, wd_146⟩) dX5_swallowFreeBehind_30 ?_
      refine q_nr (fun r30 h30 => ?_)
      refine q_astore_n (r := r30) (lv' := [(3, va_rf (r30)), (2, .int (0)), (0, va_rf (some c9)), (1, va_rf (some px))]) C dX5_swallowFreeBehind_33 rfl hl (by decide) (q_k0 (q_kC 0 rfl (by decide) rfl (q_kN 1 rfl (by decide) (by decide) (q_kN 2 rfl (by decide) (by decide) q_kz)))) (fun ls hl => ?_)
      subst h30
      have eF : F ≠ [] := hFne
      exact loop (F.length + 1) (S24.R 0 px) 0 0 x.2.1 F ns24 rows24 S24 H locs ls (Nat.lt_succ_self _) hV hl hC24 rfl (Nat.zero_add _) nI_0.symm (q_C_at hC24).2.2.2.2.2.1 hF hf24 hFne
    · have hFe : F = [] := by
        cases F with
        | nil => rfl
        | cons b F2 => rw [List.cons_append] at hFB; obtain ⟨e1, -⟩ := List.cons.inj hFB; rw [← e1, hF b List.mem_cons_self] at c14; exact absurd c14 (by decide)
      refine lv_iconst (v := 0) C.1 C.2.1 dX5_swallowFreeBehind_17 (by decide) ?_
      refine q_iret (v := 0) C hV hr hlk (by decide) (by decide) dX5_swallowFreeBehind_18 ?_
      refine hpost _ _ ⟨?_, ?_, q_fr_rf⟩
      · rw [hFe]; exact nI_0.symm
      · rw [hFe]; exact ⟨ns, rows, by rw [hFe] at hC; exact hC⟩
theorem c_Shelf_swallow (l : Launch) (E : qE) (S : qS) (c9 h ar t n9 f9 tm : Nat) (A F B : List q_X) (x : q_X) (ns : List Nat) (rows : Nat → List Nat) (hC : q_C S c9 n9 f9 tm (A ++ x :: (F ++ B)) h ar t ns rows) (hx : x.2.2.1 = true) (hF : ∀ y ∈ F, y.2.2.1 = true) (hB : ∀ y, B.head? = some y → y.2.2.1 = false) (htm : tm + 1 < 2 ^ 40) : q_Mi l yX5_swallowFreeBehind cX5_swallowFreeBehind 4 .int { frames := 4, cells := 1, slots := 7, locals := 76 } E [.ref c9, .ref x.1] S (fun r S1 => r = nI F.length ∧ q_CC S1 c9 n9 f9 (q_st tm F) (A ++ q_sw tm x F :: B) h ar t ∧ q_fk S S1) 1 7 := c0_Shelf_swallow l E S c9 h ar t n9 f9 tm A F B x ns rows hC hx hF hB htm _ (fun _ _ h => h)

