theorem q_split {l1 l2 r1 r2 : List Nat} {g : Nat} (h : l1 ++ g :: r1 = l2 ++ g :: r2) (hn : (l1 ++ g :: r1).Nodup) : l1 = l2 ∧ r1 = r2 := by
  induction l1 generalizing l2 with
  | nil =>
    cases l2 with
    | nil => simp at h; exact ⟨rfl, h⟩
    | cons b t =>
      simp at h
      obtain ⟨rfl, h2⟩ := h
      rw [h2] at hn
      simp at hn
  | cons a t ih =>
    cases l2 with
    | nil =>
      simp at h
      obtain ⟨rfl, h2⟩ := h
      simp at hn
    | cons b t2 =>
      simp at h
      obtain ⟨rfl, h2⟩ := h
      have hn2 : (t ++ g :: r1).Nodup := (List.nodup_cons.mp hn).2
      obtain ⟨e1, e2⟩ := ih h2 hn2
      exact ⟨by rw [e1], e2⟩
theorem q_found {S : qS} {q g : Nat} {pre post_ : List Nat} {par : Option Nat} (ht : q_tree S q (pre ++ g :: post_)) (hp : q_place S q (q_z S g) (pre ++ g :: post_) par) : ∃ (pre1 l1 l2 post1 : List Nat) (kd : Nat), pre = pre1 ++ l1 ∧ post_ = l2 ++ post1 ∧ q_cx (S.R 3) (S.R 4) (q_z S) (q_z S g) (S.R 7 q) par pre1 post1 ∧ q_bt (S.R 3) (S.R 4) kd (S.R 3 g) l1 ∧ q_bt (S.R 3) (S.R 4) kd (S.R 4 g) l2 := by
  obtain ⟨row, pre1, ms, post1, kd, hns, hpre, hpo, hcx, hsd, hb, hrow⟩ := hp
  have hso := ht.2.2.2.2
  have hgm : g ∈ ms := by
    have : g ∈ pre1 ++ ms ++ post1 := by rw [← hns]; simp
    rcases List.mem_append.mp this with h | h
    · rcases List.mem_append.mp h with h | h
      · have := hpre g h; omega
      · exact h
    · have := hpo g h; omega
  rcases hrow with hr | ⟨a, hr, hz⟩
  · rw [hr] at hb
    rw [q_bt_nil hb] at hgm
    cases hgm
  · rw [hr] at hb
    obtain ⟨l1, l2, hm, hb1, hb2⟩ := q_bt_some hb
    have hso2 := hso
    rw [hns] at hso2
    have hmid := q_so_mid (z := q_z S) (l1 := l1) (a := a) (l2 := l2) (by rw [hm] at hso2; exact (List.pairwise_append.mp (List.pairwise_append.mp hso2).1).2.1)
    have hga : g = a := by
      rw [hm] at hgm
      rcases List.mem_append.mp hgm with h | h
      · have := hmid.1 g h; omega
      · rcases List.mem_cons.mp h with h | h
        · exact h
        · have := hmid.2 g h; omega
    subst hga
    have hnd := q_so_nodup hso
    have e : pre ++ g :: post_ = (pre1 ++ l1) ++ g :: (l2 ++ post1) := by rw [hns, hm]; simp [List.append_assoc]
    obtain ⟨e1, e2⟩ := q_split e hnd
    exact ⟨pre1, l1, l2, post1, kd, e1, e2, hcx, hb1, hb2⟩
theorem q_removed {S S' : qS} {q g : Nat} {pre1 l1 l2 post1 : List Nat} {par o : Option Nat} {n : Int32} {k : Nat} (ht : q_tree S q ((pre1 ++ l1) ++ g :: (l2 ++ post1))) (hn : n.toInt = q_z S g) (hcx : q_cx (S.R 3) (S.R 4) (q_z S) (q_z S g) (S.R 7 q) par pre1 post1)
    (hS' : S' = S ∨ ∃ x ∈ l2, S' = S.sR 3 x (S.R 3 g)) (hb : q_bt (S'.R 3) (S'.R 4) k o (l1 ++ l2)) : q_fr S (q_hang S' q par n o) q_c0 q_cT q_c0 ∧ q_tree (q_hang S' q par n o) q ((pre1 ++ l1) ++ (l2 ++ post1)) := by
  have hnd := q_so_nodup ht.2.2.2.2
  have e0 : (pre1 ++ l1) ++ g :: (l2 ++ post1) = pre1 ++ (l1 ++ g :: l2) ++ post1 := by simp [List.append_assoc]
  rw [e0] at hnd
  obtain ⟨-, -, hap⟩ := q_nd3 hnd
  have hI : S'.I = S.I ∧ S'.L = S.L ∧ S'.K = S.K ∧ S'.R 4 = S.R 4 ∧ S'.R 7 = S.R 7 := by
    rcases hS' with h | ⟨x, -, h⟩ <;> subst h <;> exact ⟨rfl, rfl, rfl, rfl, rfl⟩
  have h3 : ∀ x ∈ pre1 ++ post1, S'.R 3 x = S.R 3 x := by
    intro x hx
    rcases hS' with h | ⟨y, hy, h⟩
    · rw [h]
    · rw [h]
      exact qR_ne _ _ _ _ (fun e : x = y => (hap x hx).2.2 (by rw [e]; exact hy)) 3
  have hfr : q_fr S S' q_c0 q_cT q_c0 := by
    rcases hS' with h | ⟨x, -, h⟩ <;> subst h
    · exact q_fr_rf
    · exact q_fr_sR (Or.inl rfl)
  rw [← hn] at hcx
  obtain ⟨k', hk'⟩ := q_hung (S := S) (S' := S') (q := q) (n := n) (o := o) (ms := l1 ++ l2) hcx (fun x hx => ⟨h3 x hx, by rw [hI.2.2.2.1], by rw [hI.1]⟩) (by rw [hI.2.2.2.2]) (fun x hx hm => by
    rcases List.mem_append.mp hx with h | h
    · exact (hap x hm).2.1 h
    · exact (hap x hm).2.2 h) hb
  have eH := q_hang_L (S := S') (q := q) (par := par) (o := o) (n := n)
  refine ⟨q_fr_tr hfr q_hang_fr, by rw [eH.1, hI.2.1]; exact ht.1, by rw [eH.2.1, hI.2.2.1]; exact ht.2.1, ⟨k', by simpa [List.append_assoc] using hk'⟩, fun a ha => ?_, ?_⟩
  · rw [eH.1, hI.2.1, eH.2.1, hI.2.2.1]
    exact ht.2.2.2.1 a (by simp only [List.mem_append, List.mem_cons] at ha ⊢; rcases ha with (h | h) | h | h <;> simp [h])
  · have e2 : q_z (q_hang S' q par n o) = q_z S := funext fun a => by show ((q_hang S' q par n o).I 4 a).toInt = _; rw [eH.2.2, hI.1]; rfl
    rw [e2]
    have hso := List.pairwise_append.mp ht.2.2.2.2
    exact List.pairwise_append.mpr ⟨hso.1, (List.pairwise_cons.mp hso.2.1).2, fun a ha b hb => hso.2.2 a ha b (List.mem_cons_of_mem _ hb)⟩
set_option maxHeartbeats 4000000 in
set_option maxRecDepth 100000 in
theorem c0_Tree_remove (l : Launch) (E : qE) (S : qS) (q g : Nat) (pre post_ : List Nat) (ht : q_tree S q (pre ++ g :: post_)) (post : qS → Prop) (hpost : ∀ S1, (q_fr S S1 q_c0 q_cT q_c0 ∧ q_tree S1 q (pre ++ post_)) → post S1) : q_Mv l yX3_remove cX3_remove 2 { frames := 1, cells := 0, slots := 0, locals := 23 } E [.ref q, .ref g] S (post) 0 0 := by
  refine q_ofW1 (by decide) (q_1c rfl (q_1c rfl q_1n)) (Nat.le_of_ble_eq_true rfl) (fun p e s m below meth c C hV hr hlk hnm ls hl => ?_)
  have hl : lv_has ls 2 [(0, va_rf (some q)), (1, va_rf (some g))] := hl
  have hL_q := ht.1
  have hK_q := ht.2.1
  obtain ⟨hL_g, hK_g⟩ := ht.2.2.2.1 g (by simp)
  refine q_aload_n (r := some q) C dX3_remove_0 rfl (lv_at hl 0 rfl) ?_
  refine q_aload_n (r := some q) C dX3_remove_1 rfl (lv_at hl 0 rfl) ?_
  refine q_aload_n (r := some g) C dX3_remove_2 rfl (lv_at hl 1 rfl) ?_
  refine g_Row_cells C hV hL_g hK_g (Or.inr ⟨_, wd_75⟩) dX3_remove_3 ?_
  refine q_cq hV (q_rV (b := q) (As := [.int (S.I 4 g)]) (rest := [va_rf (some q)]) C hV (c_Tree_parentFor l E S q (S.I 4 g) _ ht) wd_183 wd_180 wd_182 wd_5 wd_42 ok_X3_parentFor ⟨rfl, rfl, Nat.le_of_ble_eq_true rfl, Nat.le_of_ble_eq_true rfl⟩ (q_rc3 hV hL_q hK_q) rfl hl.1 rfl (q_sm (q_1c (q_cat _) q_1n) (Nat.le_of_ble_eq_true rfl)) dX3_remove_6 ⟨Nat.le_of_ble_eq_true rfl, Nat.le_of_ble_eq_true rfl⟩) (fun r6 S6 H locs hp6 hV => ?_)
  obtain ⟨eS6, hp6⟩ := hp6
  rw [eS6] at hV
  have hpo6 := fun a ha => q_place_ok (a := a) ht hp6 ha
  obtain ⟨pre1, l1, l2, post1, kd, rfl, rfl, hcx, hb1, hb2⟩ := q_found ht hp6
  have hnd14 : (l1 ++ g :: l2).Nodup := by
    have h := q_so_nodup ht.2.2.2.2
    have e0 : (pre1 ++ l1) ++ g :: (l2 ++ post1) = pre1 ++ (l1 ++ g :: l2) ++ post1 := by simp [List.append_assoc]
    rw [e0] at h
    exact (List.nodup_append.mp (List.nodup_append.mp h).1).2.1
  refine q_aload_n (r := some g) C dX3_remove_9 rfl (lv_at hl 1 rfl) ?_
  refine g_Row_cells C hV hL_g hK_g (Or.inr ⟨_, wd_75⟩) dX3_remove_10 ?_
  refine q_aload_n (r := some g) C dX3_remove_13 rfl (lv_at hl 1 rfl) ?_
  refine q_cq hV (q_rS (As := [va_rf (some g)]) (rest := [.int (S.I 4 g), va_rf (r6), va_rf (some q)]) C hV (c_Tree_heirOf l E S g l1 l2 kd hL_g hK_g hb1 hb2 (fun a ha => ht.2.2.2.1 a (by simp [ha])) hnd14) wd_232 wd_230 wd_231 wd_42 ok_X3_heirOf ⟨rfl, rfl, Nat.le_of_ble_eq_true rfl, Nat.le_of_ble_eq_true rfl⟩ rfl hl.1 rfl (q_sm (q_1c rfl (q_1c (q_cat _) (q_1c (q_cat _) q_1n))) (Nat.le_of_ble_eq_true rfl)) dX3_remove_14 ⟨Nat.le_of_ble_eq_true rfl, Nat.le_of_ble_eq_true rfl⟩) (fun r14 S14 H locs hp14 hV => ?_)
  have hLK : S14.L = S.L ∧ S14.K = S.K := by rcases hp14.1 with h | ⟨x, -, h⟩ <;> subst h <;> exact ⟨rfl, rfl⟩
  have hL_q1 : q ∈ S14.L := by rw [hLK.1]; exact hL_q
  have hK_q1 : S14.K q = 3 := by rw [hLK.2]; exact hK_q
  have hpar : ∀ a, r6 = some a → a ∈ S14.L ∧ S14.K a = 1 := fun a ha => by rw [hLK.1, hLK.2]; exact hpo6 a ha
  refine q_cv hV (q_rV (b := q) (As := [va_rf (r6), .int (S.I 4 g), va_rf (r14)]) (rest := []) C hV (c_Tree_hang l E S14 q r6 (S.I 4 g) r14 hL_q1 hK_q1 hpar) wd_187 wd_184 wd_186 wd_6 wd_42 ok_X3_hang ⟨rfl, rfl, Nat.le_of_ble_eq_true rfl, Nat.le_of_ble_eq_true rfl⟩ (q_rc3 hV hL_q1 hK_q1) rfl hl.1 rfl (q_sm q_1n (Nat.le_of_ble_eq_true rfl)) dX3_remove_17 ⟨Nat.le_of_ble_eq_true rfl, Nat.le_of_ble_eq_true rfl⟩) (fun S17 H locs hp17 hV => ?_)
  refine q_vret C hV hr hlk (Nat.le_of_ble_eq_true rfl) (Nat.le_of_ble_eq_true rfl) dX3_remove_20 ?_
  subst hp17
  obtain ⟨hS14, k14, hb14⟩ := hp14
  exact hpost _ (q_removed (n := S.I 4 g) ht rfl hcx hS14 hb14)
theorem c_Tree_remove (l : Launch) (E : qE) (S : qS) (q g : Nat) (pre post_ : List Nat) (ht : q_tree S q (pre ++ g :: post_)) : q_Mv l yX3_remove cX3_remove 2 { frames := 1, cells := 0, slots := 0, locals := 23 } E [.ref q, .ref g] S (fun S1 => q_fr S S1 q_c0 q_cT q_c0 ∧ q_tree S1 q (pre ++ post_)) 0 0 := c0_Tree_remove l E S q g pre post_ ht _ (fun _ h => h)

/-- g taken out of the chain from pp -/
def q_dr (S S1 : qS) (g : Nat) (pp : Option Nat) (rest : List Nat) : Prop := q_fr S S1 q_c0 (fun j x => j = 1 ∧ x ∈ rest) q_c0 ∧ S1.L = S.L ∧ q_ch (S1.R 1) pp (rest.erase g)
theorem q_dr_skip {S S1 : qS} {g x : Nat} {t : List Nat} (hx : x ∈ S.L) (hxt : x ∉ t) (hg : x ≠ g) (h : q_dr S S1 g (S.R 1 x) t) : q_dr S S1 g (some x) (x :: t) := by
  obtain ⟨h1, h2, h3⟩ := h
  refine ⟨q_fr_mo h1 (fun _ _ z => z) (fun j a z => ⟨z.1, List.mem_cons_of_mem _ z.2⟩) (fun _ _ z => z), h2, ?_⟩
  rw [List.erase_cons_tail (by simpa using hg)]
  refine ⟨rfl, ?_⟩
  rw [h1.2.2.1 x hx 1 (fun z => hxt z.2)]
  exact h3
theorem q_dr_cut {S S1 : qS} {g x : Nat} {t : List Nat} (hx : x ∈ S.L) (hxt : x ∉ g :: t) (hgt : g ∉ t) (h : q_dr (S.sR 1 x (S.R 1 g)) S1 g (S.R 1 g) t) : q_dr S S1 g (some x) (x :: g :: t) := by
  obtain ⟨h1, h2, h3⟩ := h
  have hxg : x ≠ g := fun e => hxt (by rw [e]; exact List.mem_cons_self)
  refine ⟨q_fr_tr (q_fr_sR ⟨rfl, List.mem_cons_self⟩) (q_fr_mo h1 (fun _ _ z => z) (fun j a z => ⟨z.1, List.mem_cons_of_mem _ (List.mem_cons_of_mem _ z.2)⟩) (fun _ _ z => z)), h2, ?_⟩
  rw [List.erase_cons_tail (by simpa using hxg), List.erase_cons_head]
  rw [List.erase_of_not_mem hgt] at h3
  refine ⟨rfl, ?_⟩
  have e : S1.R 1 x = S.R 1 g := (h1.2.2.1 x hx 1 (fun z => hxt (List.mem_cons_of_mem _ z.2))).trans (qR_self _ _ _ _)
  rw [e]
  exact h3
set_option maxHeartbeats 4000000 in
set_option maxRecDepth 100000 in
theorem c0_Row_drop (l : Launch) (E : qE) (S : qS) (r g : Nat) (l9 : List Nat) (hL_r : r ∈ S.L) (hK_r : S.K r = 1) (hL_g : g ∈ S.L) (hK_g : S.K g = 0) (hc : q_ch (S.R 1) (S.R 2 r) l9) (hok : ∀ a ∈ l9, a ∈ S.L ∧ S.K a = 0) (post : qS → Prop) (hpost : ∀ S1, (q_fr S S1 q_c0 (fun j x => (j = 1 ∧ x ∈ l9) ∨ (j = 2 ∧ x = r)) q_c0 ∧ S1.L = S.L ∧ q_ch (S1.R 1) (S1.R 2 r) (l9.erase g)) → post S1) : q_Mv l yX1_drop cX1_drop 3 { frames := 0, cells := 0, slots := 0, locals := 0 } E [.ref r, .ref g] S (post) 0 0 := by
  refine q_ofW1 (by decide) (q_1c rfl (q_1c rfl q_1n)) (Nat.le_of_ble_eq_true rfl) (fun p e s m below meth c C hV hr hlk hnm ls hl => ?_)
  have hl : lv_has ls 3 [(0, va_rf (some r)), (1, va_rf (some g))] := hl
  have loop : ∀ (k : Nat) (pp : Option Nat) (rest : List Nat) (S' : qS) (H : Heap) (locs : List Loc) (ls : Array Slot), rest.length < k → q_V E s S' H locs → lv_has ls 3 [(2, va_rf (pp)), (0, va_rf (some r)), (1, va_rf (some g))] → q_ch (S'.R 1) pp rest → rest.head? ≠ some g → (∀ a ∈ rest, a ∈ S'.L ∧ S'.K a = 0) → (g ∈ S'.L ∧ S'.K g = 0) → (∀ S1, q_dr S' S1 g pp rest → post S1) → W p l e ({ frames := 0, cells := 0, slots := 0, locals := 0 } : Room) s m [.ref r, .ref g].toArray below meth c H locs (0) (0) (MQ below (va_Qv (post) (q_B E) E.A) [.ref r, .ref g].toArray s (0) (0) E.A) (F0 m 21 ls []) := by
    intro k
    induction k with
    | zero => intro pp rest S' H locs ls hk; exact absurd hk (Nat.not_lt_zero _)
    | succ k ih =>
      intro pp rest S' H locs ls hk hV hl hch hhd hok9 hg9 hpost9
      refine q_aload_n (r := pp) C dX1_drop_21 rfl (lv_at hl 0 rfl) ?_
      refine q_ifnull (r := pp) (tgt := 49) C dX1_drop_22 (by decide) (fun c22 => ?_) (fun x22 c22 => ?_)
      · subst c22
        refine q_vret C hV hr hlk (Nat.le_of_ble_eq_true rfl) (Nat.le_of_ble_eq_true rfl) dX1_drop_49 ?_
        cases rest with
        | nil => exact hpost9 _ ⟨q_fr_rf, rfl, rfl⟩
        | cons a t => exact nomatch hch.1
      · subst c22
        obtain ⟨t, rfl, hch2⟩ : ∃ t, rest = x22 :: t ∧ q_ch (S'.R 1) (S'.R 1 x22) t := by
          cases rest with
          | nil => exact nomatch (show some x22 = none from hch)
          | cons a t => cases hch.1; exact ⟨t, rfl, hch.2⟩
        obtain ⟨hL_x22, hK_x22⟩ := hok9 x22 List.mem_cons_self
        have hxt : x22 ∉ t := (List.nodup_cons.mp (q_ch_nodup hch)).1
        obtain ⟨hL_g, hK_g⟩ := hg9
        have hg9 : g ∈ S'.L ∧ S'.K g = 0 := ⟨hL_g, hK_g⟩
        refine q_aload_n (r := some x22) C dX1_drop_25 rfl (lv_at hl 0 rfl) ?_
        refine g_Piece_older C hV hL_x22 hK_x22 (Or.inr ⟨_, wd_147⟩) dX1_drop_26 ?_
        refine q_nr (fun r26 h26 => ?_)
        refine q_aload_n (r := some g) C dX1_drop_29 rfl (lv_at hl 2 rfl) ?_
        refine lv_acmp_ne (rx := r26) (ry := some g) (tgt := 41) C.1 C.2.1 dX1_drop_30 (by decide) (fun c30 => ?_) (fun c30 => ?_)
        · refine q_aload_n (r := some x22) C dX1_drop_41 rfl (lv_at hl 0 rfl) ?_
          refine g_Piece_older C hV hL_x22 hK_x22 (Or.inr ⟨_, wd_147⟩) dX1_drop_42 ?_
          refine q_nr (fun r42 h42 => ?_)
          refine q_astore_n (r := r42) (lv' := [(2, va_rf (r42)), (0, va_rf (some r)), (1, va_rf (some g))]) C dX1_drop_45 rfl hl (by decide) (q_k0 (q_kN 1 rfl (by decide) (by decide) (q_kC 2 rfl (by decide) (q_cat _) q_kz))) (fun ls hl => ?_)
          refine lv_goto (tgt := 21) C.1 C.2.1 dX1_drop_46 (by decide) ?_
          subst h42
          exact ih (S'.R 1 x22) t S' H locs ls (by simp at hk; omega) hV hl hch2 (fun hh => c30 (by rw [h26, q_ch_head hch2, hh])) (fun a ha => hok9 a (List.mem_cons_of_mem _ ha)) hg9 (fun S1 h1 => hpost9 S1 (q_dr_skip hL_x22 hxt (fun e => hhd (by rw [e]; rfl)) h1))
        · rw [c30] at h26
          obtain ⟨t2, rfl⟩ : ∃ t2, t = g :: t2 := by
            rw [← h26] at hch2
            cases t with
            | nil => exact nomatch (show some g = none from hch2)
            | cons a t2 => cases hch2.1; exact ⟨t2, rfl⟩
          have hgt : g ∉ t2 := (List.nodup_cons.mp (List.nodup_cons.mp (q_ch_nodup hch)).2).1
          refine q_aload_n (r := some x22) C dX1_drop_33 rfl (lv_at hl 0 rfl) ?_
          refine q_aload_n (r := some g) C dX1_drop_34 rfl (lv_at hl 2 rfl) ?_
          refine g_Piece_older C hV hL_g hK_g (Or.inr ⟨_, wd_147⟩) dX1_drop_35 ?_
          refine q_nr (fun r35 h35 => ?_)
          refine p_Piece_older (v := r35) C hV hL_x22 hK_x22 (Or.inr ⟨_, wd_147⟩) dX1_drop_38 (fun H locs hV => ?_)
          refine q_aload_n (r := some x22) C dX1_drop_41 rfl (lv_at hl 0 rfl) ?_
          refine g_Piece_older C hV hL_x22 hK_x22 (Or.inr ⟨_, wd_147⟩) dX1_drop_42 ?_
          refine q_nr (fun r42 h42 => ?_)
          refine q_astore_n (r := r42) (lv' := [(2, va_rf (r42)), (0, va_rf (some r)), (1, va_rf (some g))]) C dX1_drop_45 rfl hl (by decide) (q_k0 (q_kN 1 rfl (by decide) (by decide) (q_kC 2 rfl (by decide) (q_cat _) q_kz))) (fun ls hl => ?_)
          refine lv_goto (tgt := 21) C.1 C.2.1 dX1_drop_46 (by decide) ?_
          have e42 : r42 = S'.R 1 g := h42.trans ((qR_self _ _ _ _).trans h35)
          subst e42
          have hch3 : q_ch (S'.R 1) (S'.R 1 g) t2 := by rw [← h26] at hch2; exact hch2.2
          subst h35
          exact ih (S'.R 1 g) t2 (S'.sR 1 x22 (S'.R 1 g)) H locs ls (by simp at hk ⊢; omega) hV hl (q_ch_congr (fun a ha => qR_ne _ _ _ _ (fun e : a = x22 => hxt (by rw [← e]; exact List.mem_cons_of_mem _ ha)) 1) hch3) (fun hh => hgt (List.mem_of_mem_head? hh)) (fun a ha => hok9 a (List.mem_cons_of_mem _ (List.mem_cons_of_mem _ ha))) hg9 (fun S1 h1 => hpost9 S1 (q_dr_cut hL_x22 hxt hgt h1))
  refine q_aload_n (r := some r) C dX1_drop_0 rfl (lv_at hl 0 rfl) ?_
  refine g_Row_latest C hV hL_r hK_r (Or.inl wd_77) dX1_drop_1 ?_
  refine q_nr (fun r1 h1 => ?_)
  refine q_aload_n (r := some g) C dX1_drop_4 rfl (lv_at hl 1 rfl) ?_
  refine lv_acmp_ne (rx := r1) (ry := some g) (tgt := 16) C.1 C.2.1 dX1_drop_5 (by decide) (fun c5 => ?_) (fun c5 => ?_)
  · refine q_aload_n (r := some r) C dX1_drop_16 rfl (lv_at hl 0 rfl) ?_
    refine g_Row_latest C hV hL_r hK_r (Or.inl wd_77) dX1_drop_17 ?_
    refine q_nr (fun r17 h17 => ?_)
    refine q_astore_n (r := r17) (lv' := [(2, va_rf (r17)), (0, va_rf (some r)), (1, va_rf (some g))]) C dX1_drop_20 rfl hl (by decide) (q_k0 (q_kN 0 rfl (by decide) (by decide) (q_kC 1 rfl (by decide) (q_cat _) q_kz))) (fun ls hl => ?_)
    subst h17
    exact loop (l9.length + 1) (S.R 2 r) l9 S s.heap [] ls (Nat.lt_succ_self _) hV hl hc (fun hh => c5 (by rw [h1, q_ch_head hc, hh])) hok ⟨hL_g, hK_g⟩ (fun S1 h1 => hpost S1 ⟨q_fr_mo h1.1 (fun _ _ z => z) (fun j x z => Or.inl z) (fun _ _ z => z), h1.2.1, by rw [h1.1.2.2.1 r hL_r 2 (fun z => absurd z.1 (by decide))]; exact h1.2.2⟩)
  · refine q_aload_n (r := some r) C dX1_drop_8 rfl (lv_at hl 0 rfl) ?_
    refine q_aload_n (r := some g) C dX1_drop_9 rfl (lv_at hl 1 rfl) ?_
    refine g_Piece_older C hV hL_g hK_g (Or.inr ⟨_, wd_147⟩) dX1_drop_10 ?_
    refine q_nr (fun r10 h10 => ?_)
    refine p_Row_latest (v := r10) C hV hL_r hK_r (Or.inl wd_77) dX1_drop_13 (fun H locs hV => ?_)
    refine q_aload_n (r := some r) C dX1_drop_16 rfl (lv_at hl 0 rfl) ?_
    refine g_Row_latest C hV hL_r hK_r (Or.inl wd_77) dX1_drop_17 ?_
    refine q_nr (fun r17 h17 => ?_)
    refine q_astore_n (r := r17) (lv' := [(2, va_rf (r17)), (0, va_rf (some r)), (1, va_rf (some g))]) C dX1_drop_20 rfl hl (by decide) (q_k0 (q_kN 0 rfl (by decide) (by decide) (q_kC 1 rfl (by decide) (q_cat _) q_kz))) (fun ls hl => ?_)
    have e17 : r17 = S.R 1 g := h17.trans ((qR_self _ _ _ _).trans h10)
    subst e17
    subst h10
    cases l9 with
    | nil => exact absurd (h1.symm.trans c5) (by rw [show S.R 2 r = none from hc]; exact fun z => nomatch z)
    | cons a t9 =>
      have ea : a = g := Option.some.inj (hc.1.symm.trans (h1.symm.trans c5))
      subst ea
      have hnd := List.nodup_cons.mp (q_ch_nodup hc)
      exact loop (t9.length + 1) (S.R 1 a) t9 (S.sR 2 r (S.R 1 a)) H locs ls (Nat.lt_succ_self _) hV hl hc.2 (fun hh => hnd.1 (List.mem_of_mem_head? hh)) (fun b hb => hok b (List.mem_cons_of_mem _ hb)) ⟨hL_g, hK_g⟩ (fun S1 h1 => hpost S1 ⟨q_fr_tr (q_fr_sR (Or.inr ⟨rfl, rfl⟩)) (q_fr_mo h1.1 (fun _ _ z => z) (fun j x z => Or.inl ⟨z.1, List.mem_cons_of_mem _ z.2⟩) (fun _ _ z => z)), h1.2.1, by
        rw [List.erase_cons_head, h1.1.2.2.1 r hL_r 2 (fun z => absurd z.1 (by decide)), qR_self]
        have h3 := h1.2.2
        rw [List.erase_of_not_mem hnd.1] at h3
        exact h3⟩)
theorem c_Row_drop (l : Launch) (E : qE) (S : qS) (r g : Nat) (l9 : List Nat) (hL_r : r ∈ S.L) (hK_r : S.K r = 1) (hL_g : g ∈ S.L) (hK_g : S.K g = 0) (hc : q_ch (S.R 1) (S.R 2 r) l9) (hok : ∀ a ∈ l9, a ∈ S.L ∧ S.K a = 0) : q_Mv l yX1_drop cX1_drop 3 { frames := 0, cells := 0, slots := 0, locals := 0 } E [.ref r, .ref g] S (fun S1 => q_fr S S1 q_c0 (fun j x => (j = 1 ∧ x ∈ l9) ∨ (j = 2 ∧ x = r)) q_c0 ∧ S1.L = S.L ∧ q_ch (S1.R 1) (S1.R 2 r) (l9.erase g)) 0 0 := c0_Row_drop l E S r g l9 hL_r hK_r hL_g hK_g hc hok _ (fun _ h => h)

set_option maxHeartbeats 4000000 in
set_option maxRecDepth 100000 in
theorem c0_Row_kthLatest (l : Launch) (E : qE) (S : qS) (r : Nat) (k9 : Nat) (l9 : List Nat) (hL_r : r ∈ S.L) (hK_r : S.K r = 1) (hk9 : k9 < 2 ^ 31) (hc : q_ch (S.R 1) (S.R 2 r) l9) (hok : ∀ a ∈ l9, a ∈ S.L ∧ S.K a = 0) (post : Option Nat → qS → Prop) (hpost : ∀ r1 S1, (S1 = S ∧ r1 = l9[k9]?) → post r1 S1) : q_Mq l yX1_kthLatest cX1_kthLatest 4 (.object "ChunkShelf$Piece") { frames := 0, cells := 0, slots := 0, locals := 0 } E [.ref r, .int (nI k9)] S (post) 0 0 := by
  refine q_ofW1 (by decide) (q_1c rfl (q_1c rfl q_1n)) (Nat.le_of_ble_eq_true rfl) (fun p e s m below meth c C hV hr hlk hnm ls hl => ?_)
  have hl : lv_has ls 4 [(0, va_rf (some r)), (1, .int (nI k9))] := hl
  have loop : ∀ (k : Nat) (pp : Option Nat) (i : Int32) (rest : List Nat) (j : Nat) (ls : Array Slot), rest.length < k → lv_has ls 4 [(3, .int (i)), (2, va_rf (pp)), (0, va_rf (some r)), (1, .int (nI k9))] → q_ch (S.R 1) pp rest → i = nI j → j ≤ k9 → l9.drop j = rest → W p l e ({ frames := 0, cells := 0, slots := 0, locals := 0 } : Room) s m [.ref r, .int (nI k9)].toArray below meth c s.heap [] (0) (0) (MQ below (va_Qq (post) (q_B E) E.A) [.ref r, .int (nI k9)].toArray s (0) (0) E.A) (F0 m 7 ls []) := by
    intro k
    induction k with
    | zero => intro pp i rest j ls hk; exact absurd hk (Nat.not_lt_zero _)
    | succ k ih =>
      intro pp i rest j ls hk hl hch hi hj hd
      refine q_aload_n (r := pp) C dX1_kthLatest_7 rfl (lv_at hl 1 rfl) ?_
      refine q_ifnull (r := pp) (tgt := 27) C dX1_kthLatest_8 (by decide) (fun c8 => ?_) (fun x8 c8 => ?_)
      · subst c8
        refine q_aload_n (r := none) C dX1_kthLatest_27 rfl (lv_at hl 1 rfl) ?_
        refine q_aret (r := none) C hV hr hlk (Nat.le_of_ble_eq_true rfl) (Nat.le_of_ble_eq_true rfl) dX1_kthLatest_28 ?_
        have hr0 : rest = [] := by cases rest with | nil => rfl | cons a t => exact nomatch hch.1
        refine hpost _ _ ⟨rfl, ?_⟩
        have h9 : l9.length ≤ j := by rw [hr0] at hd; exact List.drop_eq_nil_iff.mp hd
        rw [List.getElem?_eq_none (by omega)]
      · subst c8
        obtain ⟨t, hrest, hch2⟩ : ∃ t, rest = x8 :: t ∧ q_ch (S.R 1) (S.R 1 x8) t := by
          cases rest with
          | nil => exact nomatch (show some x8 = none from hch)
          | cons a t => cases hch.1; exact ⟨t, rfl, hch.2⟩
        have hx8m : x8 ∈ l9 := List.mem_of_mem_drop (i := j) (by rw [hd, hrest]; exact List.mem_cons_self)
        obtain ⟨hL_x8, hK_x8⟩ := hok x8 hx8m
        refine lv_iload_n C.1 C.2.1 dX1_kthLatest_11 rfl (lv_at hl 0 rfl) ?_
        refine lv_iload_n C.1 C.2.1 dX1_kthLatest_12 rfl (lv_at hl 3 rfl) ?_
        refine lv_icmp_ge (tgt := 27) C.1 C.2.1 dX1_kthLatest_13 (by decide) (fun c13 => ?_) (fun c13 => ?_)
        · refine q_aload_n (r := some x8) C dX1_kthLatest_27 rfl (lv_at hl 1 rfl) ?_
          refine q_aret (r := some x8) C hV hr hlk (Nat.le_of_ble_eq_true rfl) (Nat.le_of_ble_eq_true rfl) dX1_kthLatest_28 ?_
          refine hpost _ _ ⟨rfl, ?_⟩
          have hjk : j = k9 := by
            rcases Nat.lt_or_ge j k9 with h | h
            · exact absurd (by rw [hi] at c13; exact c13) (nI_ge h (by omega))
            · omega
          subst hjk
          have h9 : (l9.drop j)[0]? = some x8 := by rw [hd, hrest]; rfl
          rw [List.getElem?_drop] at h9
          simpa using h9.symm
        · refine q_aload_n (r := some x8) C dX1_kthLatest_16 rfl (lv_at hl 1 rfl) ?_
          refine g_Piece_older C hV hL_x8 hK_x8 (Or.inr ⟨_, wd_147⟩) dX1_kthLatest_17 ?_
          refine q_nr (fun r17 h17 => ?_)
          refine q_astore_n (r := r17) (lv' := [(2, va_rf (r17)), (3, .int (i)), (0, va_rf (some r)), (1, .int (nI k9))]) C dX1_kthLatest_20 rfl hl (by decide) (q_k0 (q_kN 0 rfl (by decide) (by decide) (q_kN 2 rfl (by decide) (by decide) (q_kC 3 rfl (by decide) rfl q_kz)))) (fun ls hl => ?_)
          obtain ⟨i21, e21⟩ : ∃ y : Int32, y = i + 1 := ⟨_, rfl⟩
          refine q_iinc (v := i21) (k := 1) (lv' := [(3, .int (i21)), (2, va_rf (r17)), (0, va_rf (some r)), (1, .int (nI k9))]) C dX1_kthLatest_21 hl rfl (by rw [e21]; rfl) (by decide) (q_k0 (q_kC 0 rfl (by decide) (q_cat _) (q_kN 2 rfl (by decide) (by decide) (q_kN 3 rfl (by decide) (by decide) q_kz)))) (fun ls hl => ?_)
          refine lv_goto (tgt := 7) C.1 C.2.1 dX1_kthLatest_24 (by decide) ?_
          subst h17
          have hjk : j < k9 := by
            rcases Nat.lt_or_ge j k9 with h | h
            · exact h
            · exact absurd (by rw [hi]; exact nI_le h (by omega)) c13
          have h9 : (l9.drop j).drop 1 = t := by rw [hd, hrest]; rfl
          rw [List.drop_drop] at h9
          exact ih (S.R 1 x8) i21 t (j + 1) ls (by rw [hrest] at hk; simp at hk; omega) hl hch2 (by rw [e21, hi]; exact nI_1 j) hjk h9
  refine q_aload_n (r := some r) C dX1_kthLatest_0 rfl (lv_at hl 0 rfl) ?_
  refine g_Row_latest C hV hL_r hK_r (Or.inl wd_77) dX1_kthLatest_1 ?_
  refine q_nr (fun r1 h1 => ?_)
  refine q_astore_n (r := r1) (lv' := [(2, va_rf (r1)), (0, va_rf (some r)), (1, .int (nI k9))]) C dX1_kthLatest_4 rfl hl (by decide) (q_k0 (q_kN 0 rfl (by decide) (by decide) (q_kC 1 rfl (by decide) rfl q_kz))) (fun ls hl => ?_)
  refine lv_iconst (v := 0) C.1 C.2.1 dX1_kthLatest_5 (by decide) ?_
  refine q_istore_n (x := 0) (lv' := [(3, .int (0)), (2, va_rf (r1)), (0, va_rf (some r)), (1, .int (nI k9))]) C dX1_kthLatest_6 rfl hl (by decide) (q_k0 (q_kC 0 rfl (by decide) (q_cat _) (q_kN 1 rfl (by decide) (by decide) (q_kN 2 rfl (by decide) (by decide) q_kz)))) (fun ls hl => ?_)
  exact loop (l9.length + 1) r1 0 l9 0 ls (Nat.lt_succ_self _) hl (by rw [h1]; exact hc) nI_0.symm (Nat.zero_le _) rfl
theorem c_Row_kthLatest (l : Launch) (E : qE) (S : qS) (r : Nat) (k9 : Nat) (l9 : List Nat) (hL_r : r ∈ S.L) (hK_r : S.K r = 1) (hk9 : k9 < 2 ^ 31) (hc : q_ch (S.R 1) (S.R 2 r) l9) (hok : ∀ a ∈ l9, a ∈ S.L ∧ S.K a = 0) : q_Mq l yX1_kthLatest cX1_kthLatest 4 (.object "ChunkShelf$Piece") { frames := 0, cells := 0, slots := 0, locals := 0 } E [.ref r, .int (nI k9)] S (fun r1 S1 => S1 = S ∧ r1 = l9[k9]?) 0 0 := c0_Row_kthLatest l E S r k9 l9 hL_r hK_r hk9 hc hok _ (fun _ _ h => h)

