/-! what the class may change, seen from the reference -/
abbrev q_kI : Nat → Nat → Prop := fun j _ => j ≤ 6
abbrev q_kR : Nat → Nat → Prop := fun j _ => j ≤ 9
abbrev q_kJ : Nat → Nat → Prop := fun _ _ => True
theorem q_fr_I {S S' : qS} {k x : Nat} {v : Int32} {cI cR cJ : Nat → Nat → Prop} (hf : q_fr S S' cI cR cJ) (h : cI k x ∨ x ∉ S.L) : q_fr S (S'.sI k x v) cI cR cJ :=
  ⟨hf.1, fun a ha j hj => by
    rcases h with h | h
    · exact ((q_fr_sI (S := S') (v := v) (cR := cR) (cJ := cJ) h).2.1 a (hf.1 a ha).1 j hj).trans (hf.2.1 a ha j hj)
    · rw [qI_ne _ _ _ _ (fun e : a = x => h (e ▸ ha))]; exact hf.2.1 a ha j hj, hf.2.2.1, hf.2.2.2⟩
theorem q_fr_R {S S' : qS} {k x : Nat} {v : Option Nat} {cI cR cJ : Nat → Nat → Prop} (hf : q_fr S S' cI cR cJ) (h : cR k x ∨ x ∉ S.L) : q_fr S (S'.sR k x v) cI cR cJ :=
  ⟨hf.1, hf.2.1, fun a ha j hj => by
    rcases h with h | h
    · exact ((q_fr_sR (S := S') (v := v) (cI := cI) (cJ := cJ) h).2.2.1 a (hf.1 a ha).1 j hj).trans (hf.2.2.1 a ha j hj)
    · rw [qR_ne _ _ _ _ (fun e : a = x => h (e ▸ ha))]; exact hf.2.2.1 a ha j hj, hf.2.2.2⟩
theorem q_k_CR : ∀ j x, q_cCR j x → q_kR j x := fun j x z => by rcases z with z | z <;> subst z <;> exact Nat.le_of_ble_eq_true rfl
theorem q_k_T : ∀ j x, q_cT j x → q_kR j x := fun j x z => by rcases z with z | z | z <;> subst z <;> exact Nat.le_of_ble_eq_true rfl
theorem q_k_PR {g : Nat} : ∀ j x, q_cPR g j x → q_kR j x := fun j x z => by rcases z with ⟨z, -⟩ | z | z | z | z <;> subst z <;> exact Nat.le_of_ble_eq_true rfl
theorem q_k_OR {l : List Nat} : ∀ j x, q_cOR l j x → q_kR j x := fun j x z => by rcases z with ⟨z, -⟩ | z | z | z | z <;> subst z <;> exact Nat.le_of_ble_eq_true rfl
theorem q_k_PI {g : Nat} : ∀ j x, q_cPI g j x → q_kI j x := fun j x z => by rw [z.1]; exact Nat.le_of_ble_eq_true rfl
theorem q_fr_new {S S' : qS} {q k : Nat} {cI cR cJ : Nat → Nat → Prop} (hq : q ∉ S.L) (hf : q_fr (S.nO q k) S' q_c0 (fun _ x => x = q) q_c0) : q_fr S S' cI cR cJ := by
  have h0 : q_fr S (S.nO q k) q_c0 q_c0 q_c0 := q_fr_nO hq
  refine ⟨fun a ha => ?_, fun a ha j _ => (hf.2.1 a (h0.1 a ha).1 j (fun z => z)).trans (h0.2.1 a ha j (fun z => z)), fun a ha j _ => (hf.2.2.1 a (h0.1 a ha).1 j (fun z : a = q => hq (z ▸ ha))).trans (h0.2.2.1 a ha j (fun z => z)), fun a ha j _ => (hf.2.2.2 a (h0.1 a ha).1 j (fun z => z)).trans (h0.2.2.2 a ha j (fun z => z))⟩
  obtain ⟨h1, h2, h3, h4, h5⟩ := h0.1 a ha
  obtain ⟨g1, g2, g3, g4, g5⟩ := hf.1 a h1
  exact ⟨g1, g2.trans h2, g3.trans h3, g4.trans h4, g5.trans h5⟩
/-- a piece that has just been made -/
def q_pcn (A : qS) (q : Nat) (a n : Int32) (b : Option Nat) : qS := (((A.nO q 0).sI 0 q a).sI 1 q n).sR 0 q b
theorem q_fresh {A : qS} {q : Nat} {a n : Int32} {b : Option Nat} (hq : q ∉ A.L) : q_fr A (q_pcn A q a n b) q_c0 q_c0 q_c0 ∧ q ∈ (q_pcn A q a n b).L ∧ (q_pcn A q a n b).K q = 0 ∧ (q_pcn A q a n b).I 0 q = a ∧ (q_pcn A q a n b).I 1 q = n ∧ (q_pcn A q a n b).I 2 q = 0 ∧ (q_pcn A q a n b).R 0 q = b := by
  have e0 : (((A.nO q 0).sI 0 q a).sI 1 q n).I 0 q = a := (congrFun (qI_of _ _ _ _ (by decide)) q).trans (qI_self _ _ _ _)
  have e1 : (((A.nO q 0).sI 0 q a).sI 1 q n).I 1 q = n := qI_self _ _ _ _
  have e2 : (((A.nO q 0).sI 0 q a).sI 1 q n).I 2 q = 0 := (congrFun (qI_of _ _ _ _ (by decide)) q).trans ((congrFun (qI_of _ _ _ _ (by decide)) q).trans (va_up_self _ _ _))
  exact ⟨q_fr_R (q_fr_I (q_fr_I (q_fr_nO hq) (Or.inr hq)) (Or.inr hq)) (Or.inr hq), q_nO_in A q 0, q_nO_K A q 0, e0, e1, e2, qR_self _ _ _ _⟩
set_option maxHeartbeats 4000000 in
set_option maxRecDepth 100000 in
theorem c0_Shelf_startWith (l : Launch) (E : qE) (S : qS) (c9 h ar t n9 tm : Nat) (ns : List Nat) (rows : Nat → List Nat) (hL_c9 : c9 ∈ S.L) (hK_c9 : S.K c9 = 4) (hR8 : S.R 8 c9 = some h) (hs : q_sh S h ar t ns rows) (hJ : S.J 1 h = lN tm) (htm : tm + 1 < 2 ^ 40) (hn1 : 1 ≤ n9) (hn2 : n9 ≤ 16384) (post : qS → Prop) (hpost : ∀ S1, (∃ q ns1 rows1, q_C S1 c9 n9 0 (tm + 1) [(q, n9, true, tm)] h ar t ns1 rows1 ∧ q_fr S S1 q_kI q_kR q_kJ) → post S1) : q_Mv l yX5_startWith cX5_startWith 2 { frames := 4, cells := 2, slots := 14, locals := 76 } E [.ref c9, .int (nI n9)] S (post) 2 14 := by
  refine q_ofW1 (by decide) (q_1c rfl (q_1c rfl q_1n)) (Nat.le_of_ble_eq_true rfl) (fun p e s m below meth c C hV hr hlk hnm ls hl => ?_)
  have hl : lv_has ls 2 [(0, va_rf (some c9)), (1, .int (nI n9))] := hl
  have hL_h := hs.1.1
  have hK_h := hs.1.2.1
  refine q_aload_n (r := some c9) C dX5_startWith_0 rfl (lv_at hl 0 rfl) ?_
  refine g_Shelf_shelves C hV hL_c9 hK_c9 (Or.inl wd_192) dX5_startWith_1 ?_
  refine q_tr (v' := some h) (hR8) ?_
  refine q_cv hV (q_rN (b := h) (As := []) (rest := []) C hV (c_Shelves_clear l E S h ar t ns rows hs) wd_129 wd_126 wd_128 wd_1 wd_40 ok_X2_clear ⟨rfl, rfl, Nat.le_of_ble_eq_true rfl, Nat.le_of_ble_eq_true rfl⟩ (q_rc2 hV hL_h hK_h) rfl hl.1 rfl (q_sm q_1n (Nat.le_of_ble_eq_true rfl)) dX5_startWith_4 ⟨Nat.le_of_ble_eq_true rfl, Nat.le_of_ble_eq_true rfl⟩) (fun S4 H locs hp4 hV => ?_)
  obtain ⟨hs4, hf4⟩ := hp4
  have hL_c4 : c9 ∈ S4.L := (hf4.1 c9 hL_c9).1
  have hK_c4 : S4.K c9 = 4 := (hf4.1 c9 hL_c9).2.1.trans hK_c9
  have hR84 : S4.R 8 c9 = some h := (hf4.2.2.1 c9 hL_c9 8 (fun z => by rcases z with z | z <;> exact absurd z (by decide))).trans hR8
  have hJ4 : S4.J 1 h = lN tm := (hf4.2.2.2 h hs.1.1 1 (fun z => z)).trans hJ
  refine q_aload_n (r := some c9) C dX5_startWith_7 rfl (lv_at hl 0 rfl) ?_
  refine lv_iload_n C.1 C.2.1 dX5_startWith_8 rfl (lv_at hl 1 rfl) ?_
  refine p_Shelf_cellCount (v := nI n9) C hV hL_c4 hK_c4 (Or.inl wd_194) dX5_startWith_9 (fun H locs hV => ?_)
  refine q_aload_n (r := some c9) C dX5_startWith_12 rfl (lv_at hl 0 rfl) ?_
  refine lv_iconst (v := 0) C.1 C.2.1 dX5_startWith_13 (by decide) ?_
  refine p_Shelf_misses (v := 0) C hV hL_c4 hK_c4 (Or.inl wd_195) dX5_startWith_14 (fun H locs hV => ?_)
  refine q_aload_n (r := some c9) C dX5_startWith_17 rfl (lv_at hl 0 rfl) ?_
  refine n_Piece C hV wd_130 (by decide) (by decide) dX5_startWith_18 (fun q18 H hq18 hV => ?_)
  refine lv_dup C.1 C.2.1 dX5_startWith_21 rfl ?_
  refine lv_iconst (v := 1) C.1 C.2.1 dX5_startWith_22 (by decide) ?_
  refine lv_iload_n C.1 C.2.1 dX5_startWith_23 rfl (lv_at hl 1 rfl) ?_
  refine lv_null C.1 C.2.1 dX5_startWith_24 ?_
  refine q_cv hV (q_rI (b := q18) (As := [.int (1), .int (nI n9), va_rf (none)]) (rest := [va_rf (some q18), va_rf (some c9)]) C hV (c_Piece_init l E (((S4.sI 5 c9 (nI n9)).sI 6 c9 (0)).nO q18 0) q18 1 (nI n9) none (q_nO_in _ _ _) (q_nO_K _ _ _)) wd_134 (Or.inr ⟨_, wd_132⟩) wd_133 wd_43 rfl ok_X0_init ⟨rfl, rfl, Nat.le_of_ble_eq_true rfl, Nat.le_of_ble_eq_true rfl⟩ rfl hl.1 rfl (q_sm (q_1c (q_cat _) (q_1c (q_cat _) q_1n)) (Nat.le_of_ble_eq_true rfl)) dX5_startWith_25 ⟨Nat.le_of_ble_eq_true rfl, Nat.le_of_ble_eq_true rfl⟩) (fun S25 H locs hp25 hV => ?_)
  subst hp25
  obtain ⟨hfq, hq1, hq2, hq3, hq4, hq5, hq6⟩ := q_fresh (A := (S4.sI 5 c9 (nI n9)).sI 6 c9 (0)) (q := q18) (a := 1) (n := nI n9) (b := none) hq18
  have hL_c5 : c9 ∈ (q_pcn ((S4.sI 5 c9 (nI n9)).sI 6 c9 (0)) q18 1 (nI n9) none).L := (hfq.1 c9 hL_c4).1
  have hK_c5 : (q_pcn ((S4.sI 5 c9 (nI n9)).sI 6 c9 (0)) q18 1 (nI n9) none).K c9 = 4 := (hfq.1 c9 hL_c4).2.1.trans hK_c4
  refine p_Shelf_lowest (v := some q18) C hV hL_c5 hK_c5 (Or.inl wd_193) dX5_startWith_28 (fun H locs hV => ?_)
  obtain ⟨S6, hS6⟩ : ∃ X : qS, X = (q_pcn ((S4.sI 5 c9 (nI n9)).sI 6 c9 (0)) q18 1 (nI n9) none).sR 9 c9 (some q18) := ⟨_, rfl⟩
  have hV : q_V E s S6 H locs := by rw [hS6]; exact hV
  have hf6 : q_fr S4 S6 (fun j x => x = c9 ∧ (j = 5 ∨ j = 6)) (fun j x => j = 9 ∧ x = c9) q_c0 := by
    rw [hS6]
    exact q_fr_R (q_fr_tr (q_fr_I (q_fr_sI ⟨rfl, Or.inl rfl⟩) (Or.inl ⟨rfl, Or.inr rfl⟩)) (q_fr_mo hfq (fun _ _ z => z.elim) (fun _ _ z => z.elim) (fun _ _ z => z))) (Or.inl ⟨rfl, rfl⟩)
  have hs6 : q_sh S6 h ar t [] (fun _ => []) := q_sh_fr hs4 hf6 (fun a z => by rcases z.2 with z | z <;> exact absurd z (by decide)) (fun z p hp => nomatch hp) (fun a => ⟨fun z => absurd z.1 (by decide), fun z => absurd z.1 (by decide), fun z => absurd z.1 (by decide), fun z => absurd z.1 (by decide), fun z => absurd z.1 (by decide), fun z => absurd z.1 (by decide)⟩) (fun z p hp => nomatch hp)
  have hL_q6 : q18 ∈ S6.L := by rw [hS6]; exact hq1
  have hK_q6 : S6.K q18 = 0 := by rw [hS6]; exact hq2
  have hI0 : S6.I 0 q18 = 1 := by rw [hS6]; exact hq3
  have hI1 : S6.I 1 q18 = nI n9 := by rw [hS6]; exact hq4
  have hI2 : S6.I 2 q18 = 0 := by rw [hS6]; exact hq5
  have hR0 : S6.R 0 q18 = none := by rw [hS6]; exact (congrFun (qR_of _ _ _ _ (by decide)) q18).trans hq6
  have hR9 : S6.R 9 c9 = some q18 := by rw [hS6]; exact qR_self _ _ _ _
  have hL_c6 : c9 ∈ S6.L := (hf6.1 c9 hL_c4).1
  have hK_c6 : S6.K c9 = 4 := (hf6.1 c9 hL_c4).2.1.trans hK_c4
  have hI5 : S6.I 5 c9 = nI n9 := by rw [hS6]; exact (hfq.2.1 c9 hL_c4 5 (fun z => z)).trans ((congrFun (qI_of _ _ _ _ (by decide)) c9).trans (qI_self _ _ _ _))
  have hI6 : S6.I 6 c9 = 0 := by rw [hS6]; exact (hfq.2.1 c9 hL_c4 6 (fun z => z)).trans (qI_self _ _ _ _)
  have hR86 : S6.R 8 c9 = some h := (hf6.2.2.1 c9 hL_c4 8 (fun z => absurd z.1 (by decide))).trans hR84
  have hJ6 : S6.J 1 h = lN tm := (hf6.2.2.2 h hs4.1.1 1 (fun z => z)).trans hJ4
  have hC6 : q_C S6 c9 n9 0 tm [(q18, n9, false, 0)] h ar t [] (fun _ => []) := ⟨⟨hL_c6, hK_c6, hI5, ⟨hR9, hR0⟩, ⟨⟨hL_q6, hK_q6, hI0, hI1, hI2, fun e => nomatch e⟩, trivial⟩, Nat.add_zero _, hn2, fun x hx => by rw [List.mem_singleton.mp hx]; exact hn1⟩, hR86, hI6, hs6, fun r hr => (nomatch hr), hJ6, ⟨fun z a => ⟨fun hh => (nomatch hh), fun ⟨_, x, hx, _, _, e⟩ => by rw [List.mem_singleton.mp hx] at e; exact nomatch e⟩, fun z => List.Pairwise.nil⟩, fun x hx e => (by rw [List.mem_singleton.mp hx] at e; exact (nomatch e)), by omega, hn1⟩
  have hL_h6 := hs6.1.1
  have hK_h6 := hs6.1.2.1
  refine q_aload_n (r := some c9) C dX5_startWith_31 rfl (lv_at hl 0 rfl) ?_
  refine g_Shelf_shelves C hV hL_c6 hK_c6 (Or.inl wd_192) dX5_startWith_32 ?_
  refine q_tr (v' := some h) (hR86) ?_
  refine q_aload_n (r := some c9) C dX5_startWith_35 rfl (lv_at hl 0 rfl) ?_
  refine g_Shelf_lowest C hV hL_c6 hK_c6 (Or.inl wd_193) dX5_startWith_36 ?_
  refine q_tr (v' := some q18) (hR9) ?_
  refine q_cv hV (q_rN (b := h) (As := [va_rf (some q18)]) (rest := []) C hV (c_Shelves_putIn l E S6 h ar t [] (fun _ => []) hs6 (fun r hr => nomatch hr) q18 n9 tm hL_q6 hK_q6 hI1 (by omega) (fun y hy => nomatch hy) hJ6) wd_169 wd_166 wd_168 wd_2 wd_40 ok_X2_putIn ⟨rfl, rfl, Nat.le_of_ble_eq_true rfl, Nat.le_of_ble_eq_true rfl⟩ (q_rc2 hV hL_h6 hK_h6) rfl hl.1 rfl (q_sm q_1n (Nat.le_of_ble_eq_true rfl)) dX5_startWith_39 ⟨Nat.le_of_ble_eq_true rfl, Nat.le_of_ble_eq_true rfl⟩) (fun S39 H locs hp39 hV => ?_)
  refine q_vret C hV hr hlk (by decide) (by decide) dX5_startWith_42 ?_
  obtain ⟨ns39, k1, k2, k3, k4, k5, k6⟩ := hp39
  obtain ⟨rows39, hC39⟩ := q_C_put (A := []) (B := []) (x := (q18, n9, false, 0)) hC6 rfl htm k1 k2 k3 k4 k5 k6
  refine hpost _ ⟨q18, ns39, rows39, hC39, q_fr_tr (q_fr_tr (q_fr_mo hf4 (fun _ _ z => z.elim) q_k_CR (fun _ _ z => z.elim)) (q_fr_mo hf6 (fun j x z => by rcases z.2 with z | z <;> subst z <;> exact Nat.le_of_ble_eq_true rfl) (fun j x z => by rw [z.1]; exact Nat.le_of_ble_eq_true rfl) (fun _ _ z => z.elim))) (q_fr_mo k3 q_k_PI q_k_PR (fun _ _ _ => trivial))⟩
theorem c_Shelf_startWith (l : Launch) (E : qE) (S : qS) (c9 h ar t n9 tm : Nat) (ns : List Nat) (rows : Nat → List Nat) (hL_c9 : c9 ∈ S.L) (hK_c9 : S.K c9 = 4) (hR8 : S.R 8 c9 = some h) (hs : q_sh S h ar t ns rows) (hJ : S.J 1 h = lN tm) (htm : tm + 1 < 2 ^ 40) (hn1 : 1 ≤ n9) (hn2 : n9 ≤ 16384) : q_Mv l yX5_startWith cX5_startWith 2 { frames := 4, cells := 2, slots := 14, locals := 76 } E [.ref c9, .int (nI n9)] S (fun S1 => ∃ q ns1 rows1, q_C S1 c9 n9 0 (tm + 1) [(q, n9, true, tm)] h ar t ns1 rows1 ∧ q_fr S S1 q_kI q_kR q_kJ) 2 14 := c0_Shelf_startWith l E S c9 h ar t n9 tm ns rows hL_c9 hK_c9 hR8 hs hJ htm hn1 hn2 _ (fun _ h => h)

set_option maxHeartbeats 4000000 in
set_option maxRecDepth 100000 in
theorem c0_Shelf_init (l : Launch) (E : qE) (S : qS) (c9 : Nat) (hL_c9 : c9 ∈ S.L) (hK_c9 : S.K c9 = 4) (post : qS → Prop) (hpost : ∀ S1, (∃ q h ar t ns1 rows1, q_C S1 c9 1024 0 1 [(q, 1024, true, 0)] h ar t ns1 rows1 ∧ q_fr S S1 q_kI (fun j x => j ≤ 9) q_kJ) → post S1) : q_Mv l yX5_init cX5_init 1 { frames := 5, cells := 66, slots := 506, locals := 97 } E [.ref c9] S (post) 66 506 := by
  refine q_ofW1 (by decide) (q_1c rfl q_1n) (Nat.le_of_ble_eq_true rfl) (fun p e s m below meth c C hV hr hlk hnm ls hl => ?_)
  have hl : lv_has ls 1 [(0, va_rf (some c9))] := hl
  refine q_aload_n (r := some c9) C dX5_init_0 rfl (lv_at hl 0 rfl) ?_
  refine q_objInit C wd_57 wd_58 wd_59 hl.1 dX5_init_1 (Nat.le_of_ble_eq_true rfl) (Nat.le_of_ble_eq_true rfl) ?_
  refine q_aload_n (r := some c9) C dX5_init_4 rfl (lv_at hl 0 rfl) ?_
  refine n_Shelves C hV wd_60 (by decide) (by decide) dX5_init_5 (fun q5 H hq5 hV => ?_)
  refine lv_dup C.1 C.2.1 dX5_init_8 rfl ?_
  refine q_cv hV (q_rI (b := q5) (As := []) (rest := [va_rf (some q5), va_rf (some c9)]) C hV (c_Shelves_init l E (S.nO q5 2) q5 (q_nO_in _ _ _) (q_nO_K _ _ _)) wd_64 (Or.inr ⟨_, wd_62⟩) wd_63 wd_40 rfl ok_X2_init ⟨rfl, rfl, Nat.le_of_ble_eq_true rfl, Nat.le_of_ble_eq_true rfl⟩ rfl hl.1 rfl (q_sm (q_1c (q_cat _) (q_1c (q_cat _) q_1n)) (Nat.le_of_ble_eq_true rfl)) dX5_init_9 ⟨Nat.le_of_ble_eq_true rfl, Nat.le_of_ble_eq_true rfl⟩) (fun S9 H locs hp9 hV => ?_)
  obtain ⟨ar, t, hs9, hf9, -, -⟩ := hp9
  have hL_c9b : c9 ∈ S9.L := (hf9.1 c9 (List.mem_append_left _ hL_c9)).1
  have hK_c9b : S9.K c9 = 4 := (hf9.1 c9 (List.mem_append_left _ hL_c9)).2.1.trans ((va_up_ne _ _ (fun e : c9 = q5 => hq5 (e ▸ hL_c9))).trans hK_c9)
  refine p_Shelf_shelves (v := some q5) C hV hnm hL_c9b hK_c9b (wd_192) rfl dX5_init_12 (fun H locs hV => ?_)
  have hs9b : q_sh (S9.sR 8 c9 (some q5)) q5 ar t [] (fun _ => []) := q_sh_fr (cI := q_c0) (cR := fun j _ => j = 8) (cJ := q_c0) hs9 (q_fr_sR rfl) (fun a z => z) (fun z p hp => nomatch hp) (fun a => ⟨fun z => absurd (show (5 : Nat) = 8 from z) (by decide), fun z => absurd (show (6 : Nat) = 8 from z) (by decide), fun z => absurd (show (3 : Nat) = 8 from z) (by decide), fun z => absurd (show (4 : Nat) = 8 from z) (by decide), fun z => absurd (show (7 : Nat) = 8 from z) (by decide), fun z => absurd (show (2 : Nat) = 8 from z) (by decide)⟩) (fun z p hp => nomatch hp)
  have hJ9b : (S9.sR 8 c9 (some q5)).J 1 q5 = lN 0 := (hf9.2.2.2 q5 (q_nO_in S q5 2) 1 (fun z => z)).trans (va_up_self _ _ _)
  refine q_aload_n (r := some c9) C dX5_init_15 rfl (lv_at hl 0 rfl) ?_
  refine lv_sipush (v := 1024) C.1 C.2.1 dX5_init_16 (by decide) ?_
  refine q_ti (v' := nI 1024) (by decide) ?_
  refine q_cv hV (q_rV (b := c9) (As := [.int (nI 1024)]) (rest := []) C hV (c_Shelf_startWith l E (S9.sR 8 c9 (some q5)) c9 q5 ar t 1024 0 [] (fun _ => []) hL_c9b hK_c9b (qR_self _ _ _ _) hs9b hJ9b (by decide) (by decide) (by decide)) wd_125 wd_122 wd_124 wd_0 wd_39 ok_X5_startWith ⟨rfl, rfl, Nat.le_of_ble_eq_true rfl, Nat.le_of_ble_eq_true rfl⟩ (q_rc4 hV hL_c9b hK_c9b) rfl hl.1 rfl (q_sm q_1n (Nat.le_of_ble_eq_true rfl)) dX5_init_19 ⟨Nat.le_of_ble_eq_true rfl, Nat.le_of_ble_eq_true rfl⟩) (fun S19 H locs hp19 hV => ?_)
  refine q_vret C hV hr hlk (by decide) (by decide) dX5_init_22 ?_
  obtain ⟨q, ns1, rows1, hCF, hfF⟩ := hp19
  refine hpost _ ⟨q, q5, ar, t, ns1, rows1, hCF, q_fr_tr (q_fr_R (q_fr_new hq5 hf9) (Or.inl (Nat.le_of_ble_eq_true rfl))) hfF⟩
theorem c_Shelf_init (l : Launch) (E : qE) (S : qS) (c9 : Nat) (hL_c9 : c9 ∈ S.L) (hK_c9 : S.K c9 = 4) : q_Mv l yX5_init cX5_init 1 { frames := 5, cells := 66, slots := 506, locals := 97 } E [.ref c9] S (fun S1 => ∃ q h ar t ns1 rows1, q_C S1 c9 1024 0 1 [(q, 1024, true, 0)] h ar t ns1 rows1 ∧ q_fr S S1 q_kI (fun j x => j ≤ 9) q_kJ) 66 506 := c0_Shelf_init l E S c9 hL_c9 hK_c9 _ (fun _ h => h)

