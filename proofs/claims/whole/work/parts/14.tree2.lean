/-! WHAT A CALL LEAVES AS IT WAS: old cells keep their kind; fields change only where cI, cR, cJ say -/
def q_fr (S S1 : qS) (cI cR cJ : Nat → Nat → Prop) : Prop := (∀ a ∈ S.L, a ∈ S1.L ∧ S1.K a = S.K a ∧ S1.N a = S.N a ∧ S1.A a = S.A a ∧ S1.B a = S.B a) ∧ (∀ a ∈ S.L, ∀ j, ¬ cI j a → S1.I j a = S.I j a) ∧ (∀ a ∈ S.L, ∀ j, ¬ cR j a → S1.R j a = S.R j a) ∧ ∀ a ∈ S.L, ∀ j, ¬ cJ j a → S1.J j a = S.J j a
theorem q_fr_rf {S : qS} {cI cR cJ : Nat → Nat → Prop} : q_fr S S cI cR cJ := ⟨fun _ h => ⟨h, rfl, rfl, rfl, rfl⟩, fun _ _ _ _ => rfl, fun _ _ _ _ => rfl, fun _ _ _ _ => rfl⟩
theorem q_fr_tr {S S1 S2 : qS} {cI cR cJ : Nat → Nat → Prop} (h : q_fr S S1 cI cR cJ) (h' : q_fr S1 S2 cI cR cJ) : q_fr S S2 cI cR cJ :=
  ⟨fun a ha => by
    obtain ⟨h1, h2, h3, h4, h5⟩ := h.1 a ha
    obtain ⟨g1, g2, g3, g4, g5⟩ := h'.1 a h1
    exact ⟨g1, g2.trans h2, g3.trans h3, g4.trans h4, g5.trans h5⟩, fun a ha j hj => (h'.2.1 a (h.1 a ha).1 j hj).trans (h.2.1 a ha j hj), fun a ha j hj => (h'.2.2.1 a (h.1 a ha).1 j hj).trans (h.2.2.1 a ha j hj), fun a ha j hj => (h'.2.2.2 a (h.1 a ha).1 j hj).trans (h.2.2.2 a ha j hj)⟩
theorem q_fr_mo {S S1 : qS} {cI cR cJ cI' cR' cJ' : Nat → Nat → Prop} (h : q_fr S S1 cI cR cJ) (h1 : ∀ j a, cI j a → cI' j a) (h2 : ∀ j a, cR j a → cR' j a) (h3 : ∀ j a, cJ j a → cJ' j a) : q_fr S S1 cI' cR' cJ' :=
  ⟨h.1, fun a ha j hj => h.2.1 a ha j (fun z => hj (h1 j a z)), fun a ha j hj => h.2.2.1 a ha j (fun z => hj (h2 j a z)), fun a ha j hj => h.2.2.2 a ha j (fun z => hj (h3 j a z))⟩
theorem q_fr_sR {S : qS} {k x : Nat} {v : Option Nat} {cI cR cJ : Nat → Nat → Prop} (h : cR k x) : q_fr S (S.sR k x v) cI cR cJ :=
  ⟨fun _ h => ⟨h, rfl, rfl, rfl, rfl⟩, fun _ _ _ _ => rfl, fun a _ j hj => by
    by_cases e : a = x
    · subst e
      have : j ≠ k := fun z => hj (z ▸ h)
      rw [qR_of _ _ _ _ this]
    · rw [qR_ne _ _ _ _ e], fun _ _ _ _ => rfl⟩
theorem q_fr_sI {S : qS} {k x : Nat} {v : Int32} {cI cR cJ : Nat → Nat → Prop} (h : cI k x) : q_fr S (S.sI k x v) cI cR cJ :=
  ⟨fun _ h => ⟨h, rfl, rfl, rfl, rfl⟩, fun a _ j hj => by
    by_cases e : a = x
    · subst e
      have : j ≠ k := fun z => hj (z ▸ h)
      rw [qI_of _ _ _ _ this]
    · rw [qI_ne _ _ _ _ e], fun _ _ _ _ => rfl, fun _ _ _ _ => rfl⟩
theorem q_fr_sJ {S : qS} {k x : Nat} {v : Int64} {cI cR cJ : Nat → Nat → Prop} (h : cJ k x) : q_fr S (S.sJ k x v) cI cR cJ :=
  ⟨fun _ h => ⟨h, rfl, rfl, rfl, rfl⟩, fun _ _ _ _ => rfl, fun _ _ _ _ => rfl, fun a _ j hj => by
    by_cases e : a = x
    · subst e
      have : j ≠ k := fun z => hj (z ▸ h)
      rw [qJ_of _ _ _ _ this]
    · rw [qJ_ne _ _ _ _ e]⟩
theorem q_fr_nO {S : qS} {q k : Nat} {cI cR cJ : Nat → Nat → Prop} (h : q ∉ S.L) : q_fr S (S.nO q k) cI cR cJ :=
  ⟨fun a ha => ⟨List.mem_append_left _ ha, va_up_ne _ _ (fun e => h (e ▸ ha)), rfl, rfl, rfl⟩, fun a ha j _ => va_up_ne _ _ (fun e => h (e ▸ ha)), fun a ha j _ => va_up_ne _ _ (fun e => h (e ▸ ha)), fun a ha j _ => va_up_ne _ _ (fun e => h (e ▸ ha))⟩
theorem q_nO_in (S : qS) (q k : Nat) : q ∈ (S.nO q k).L := List.mem_append_right _ (List.mem_singleton.mpr rfl)
theorem q_nO_K (S : qS) (q k : Nat) : (S.nO q k).K q = k := va_up_self _ _ _
/-- a tree's own fields -/
abbrev q_cT : Nat → Nat → Prop := fun j _ => j = 3 ∨ j = 4 ∨ j = 7
abbrev q_c0 : Nat → Nat → Prop := fun _ _ => False
theorem q_hang_fr {S : qS} {q : Nat} {par o : Option Nat} {n : Int32} {cI cJ : Nat → Nat → Prop} : q_fr S (q_hang S q par n o) cI q_cT cJ := by
  cases par with
  | none => exact q_fr_sR (Or.inr (Or.inr rfl))
  | some a =>
    show q_fr S (if n < S.I 4 a then S.sR 3 a o else S.sR 4 a o) _ _ _
    split
    · exact q_fr_sR (Or.inl rfl)
    · exact q_fr_sR (Or.inr (Or.inl rfl))
theorem q_hang_L {S : qS} {q : Nat} {par o : Option Nat} {n : Int32} : (q_hang S q par n o).L = S.L ∧ (q_hang S q par n o).K = S.K ∧ (q_hang S q par n o).I = S.I := by
  cases par with
  | none => exact ⟨rfl, rfl, rfl⟩
  | some a =>
    show (if n < S.I 4 a then S.sR 3 a o else S.sR 4 a o).L = _ ∧ (if n < S.I 4 a then S.sR 3 a o else S.sR 4 a o).K = _ ∧ (if n < S.I 4 a then S.sR 3 a o else S.sR 4 a o).I = _
    split <;> exact ⟨rfl, rfl, rfl⟩
theorem q_hang_R {S : qS} {q : Nat} {par o : Option Nat} {n : Int32} {j : Nat} (h : j ≠ 3 ∧ j ≠ 4 ∧ j ≠ 7) : (q_hang S q par n o).R j = S.R j := by
  cases par with
  | none => exact qR_of _ _ _ _ h.2.2
  | some a =>
    show (if n < S.I 4 a then S.sR 3 a o else S.sR 4 a o).R j = _
    split
    · exact qR_of _ _ _ _ h.1
    · exact qR_of _ _ _ _ h.2.1
/-- hung in its place, it is a tree again -/
theorem q_hung {S S' : qS} {q : Nat} {par o : Option Nat} {n : Int32} {pre ms post_ : List Nat} {k : Nat} (hcx : q_cx (S.R 3) (S.R 4) (q_z S) n.toInt (S.R 7 q) par pre post_) (hsame : ∀ x ∈ pre ++ post_, S'.R 3 x = S.R 3 x ∧ S'.R 4 x = S.R 4 x ∧ S'.I 4 x = S.I 4 x) (hroot : S'.R 7 q = S.R 7 q)
    (hap : ∀ x ∈ ms, x ∉ pre ++ post_) (hb : q_bt (S'.R 3) (S'.R 4) k o ms) : ∃ k', q_bt ((q_hang S' q par n o).R 3) ((q_hang S' q par n o).R 4) k' ((q_hang S' q par n o).R 7 q) (pre ++ ms ++ post_) := by
  cases par with
  | none =>
    refine hcx.2 _ _ _ k o ms (fun x hx _ => ?_) (fun a h => nomatch h) (fun _ => ?_) ?_
    · exact ⟨(hsame x hx).1, (hsame x hx).2.1⟩
    · exact qR_self S' 7 q o
    · exact hb
  | some a =>
    have ham := hcx.1 a rfl
    have ha := hsame a ham
    show ∃ k', q_bt ((if n < S'.I 4 a then S'.sR 3 a o else S'.sR 4 a o).R 3) ((if n < S'.I 4 a then S'.sR 3 a o else S'.sR 4 a o).R 4) k' ((if n < S'.I 4 a then S'.sR 3 a o else S'.sR 4 a o).R 7 q) (pre ++ ms ++ post_)
    by_cases hc : n < S'.I 4 a
    · have hz : n.toInt < q_z S a := by have h1 := q_i_lt.mp hc; rw [ha.2.2] at h1; exact h1
      rw [if_pos hc]
      refine hcx.2 _ _ _ k o ms (fun x hx hne => ?_) (fun b hb9 => ?_) (fun h => nomatch h) ?_
      · have hxa : x ≠ a := fun e => hne (by rw [e])
        exact ⟨(qR_ne _ _ _ _ hxa 3).trans (hsame x hx).1, (hsame x hx).2.1⟩
      · cases hb9
        rw [if_pos hz]
        exact ⟨⟨qR_self _ _ _ _, ha.2.1⟩, hroot⟩
      · exact q_bt_congr (fun x hx => ⟨qR_ne _ _ _ _ (fun e : x = a => hap x hx (by rw [e]; exact ham)) 3, rfl⟩) hb
    · have hz : ¬ n.toInt < q_z S a := fun h => hc (q_i_lt.mpr (by rw [ha.2.2]; exact h))
      rw [if_neg hc]
      refine hcx.2 _ _ _ k o ms (fun x hx hne => ?_) (fun b hb9 => ?_) (fun h => nomatch h) ?_
      · have hxa : x ≠ a := fun e => hne (by rw [e])
        exact ⟨(hsame x hx).1, (qR_ne _ _ _ _ hxa 4).trans (hsame x hx).2.1⟩
      · cases hb9
        rw [if_neg hz]
        exact ⟨⟨ha.1, qR_self _ _ _ _⟩, hroot⟩
      · exact q_bt_congr (fun x hx => ⟨rfl, qR_ne _ _ _ _ (fun e : x = a => hap x hx (by rw [e]; exact ham)) 4⟩) hb
set_option maxHeartbeats 4000000 in
set_option maxRecDepth 100000 in
theorem c0_Tree_heirOf (l : Launch) (E : qE) (S : qS) (g : Nat) (l1 l2 : List Nat) (kd0 : Nat) (hL_g : g ∈ S.L) (hK_g : S.K g = 1) (hb1 : q_bt (S.R 3) (S.R 4) kd0 (S.R 3 g) l1) (hb2 : q_bt (S.R 3) (S.R 4) kd0 (S.R 4 g) l2) (hok : ∀ a ∈ l2, a ∈ S.L ∧ S.K a = 1) (hnd : (l1 ++ g :: l2).Nodup) (post : Option Nat → qS → Prop) (hpost : ∀ r S1, ((S1 = S ∨ ∃ x ∈ l2, S1 = S.sR 3 x (S.R 3 g)) ∧ ∃ k, q_bt (S1.R 3) (S1.R 4) k r (l1 ++ l2)) → post r S1) : q_Mq l yX3_heirOf cX3_heirOf 2 (.object "ChunkShelf$Row") { frames := 0, cells := 0, slots := 0, locals := 0 } E [.ref g] S (post) 0 0 := by
  refine q_ofW1 (by decide) (q_1c rfl q_1n) (Nat.le_of_ble_eq_true rfl) (fun p e s m below meth c C hV hr hlk hnm ls hl => ?_)
  have hl : lv_has ls 2 [(0, va_rf (some g))] := hl
  refine q_aload_n (r := some g) C dX3_heirOf_0 rfl (lv_at hl 0 rfl) ?_
  refine g_Row_more C hV hL_g hK_g (Or.inr ⟨_, wd_81⟩) dX3_heirOf_1 ?_
  refine q_nr (fun r1 h1 => ?_)
  refine q_ifnonnull (r := r1) (tgt := 12) C dX3_heirOf_4 (by decide) (fun x4 c4 => ?_) (fun c4 => ?_)
  · subst c4
    have loop : ∀ (k : Nat) (kd : Nat) (a : Nat) (ms : List Nat) (ls : Array Slot), kd < k → lv_has ls 2 [(1, va_rf (some a)), (0, va_rf (some g))] → q_bt (S.R 3) (S.R 4) kd (some a) ms → ms.head? = l2.head? → (∀ x ∈ ms, x ∈ l2) → W p l e ({ frames := 0, cells := 0, slots := 0, locals := 0 } : Room) s m [.ref g].toArray below meth c s.heap [] (0) (0) (MQ below (va_Qq (post) (q_B E) E.A) [.ref g].toArray s (0) (0) E.A) (F0 m 17 ls []) := by
      intro k
      induction k with
      | zero => intro kd a ms ls hk; exact absurd hk (Nat.not_lt_zero _)
      | succ k ih =>
        intro kd a ms ls hk hl hb hhd hsub
        obtain ⟨hL_a, hK_a⟩ := hok a (hsub a (by obtain ⟨z1, z2, hz, -⟩ := q_bt_some hb; rw [hz]; simp))
        refine q_aload_n (r := some a) C dX3_heirOf_17 rfl (lv_at hl 0 rfl) ?_
        refine g_Row_less C hV hL_a hK_a (Or.inr ⟨_, wd_79⟩) dX3_heirOf_18 ?_
        refine q_nr (fun r18 h18 => ?_)
        refine q_ifnull (r := r18) (tgt := 32) C dX3_heirOf_21 (by decide) (fun c21 => ?_) (fun x21 c21 => ?_)
        · subst c21
          obtain ⟨kd', u1, u2, hkd, hu, hv1, hv2⟩ := q_bt_dec hb
          have hu0 : u1 = [] := by rw [← h18] at hv1; exact q_bt_nil hv1
          refine q_aload_n (r := some a) C dX3_heirOf_32 rfl (lv_at hl 0 rfl) ?_
          refine q_aload_n (r := some g) C dX3_heirOf_33 rfl (lv_at hl 1 rfl) ?_
          refine g_Row_less C hV hL_g hK_g (Or.inr ⟨_, wd_79⟩) dX3_heirOf_34 ?_
          refine q_tr (v' := S.R 3 g) (rfl) ?_
          refine p_Row_less (v := S.R 3 g) C hV hL_a hK_a (Or.inr ⟨_, wd_79⟩) dX3_heirOf_37 (fun H locs hV => ?_)
          refine q_aload_n (r := some g) C dX3_heirOf_40 rfl (lv_at hl 1 rfl) ?_
          refine g_Row_more C hV hL_g hK_g (Or.inr ⟨_, wd_81⟩) dX3_heirOf_41 ?_
          refine q_tr (v' := S.R 4 g) (rfl) ?_
          refine q_aret (r := S.R 4 g) C hV hr hlk (Nat.le_of_ble_eq_true rfl) (Nat.le_of_ble_eq_true rfl) dX3_heirOf_44 ?_
          have hsa : l2.head? = some a := hhd ▸ (by rw [hu, hu0]; rfl)
          refine hpost _ _ ⟨Or.inr ⟨a, hsub a (by rw [hu]; simp), rfl⟩, ?_⟩
          have hnd1 := List.nodup_append.mp hnd
          have hnd2 := List.nodup_cons.mp hnd1.2.1
          have ham : a ∈ l2 := hsub a (by rw [hu]; simp)
          have hag : a ∉ l1 := fun h => hnd1.2.2 a h a (List.mem_cons_of_mem _ ham) rfl
          have hdis : ∀ y ∈ l1, y ∉ l2 := fun y hy h => hnd1.2.2 y hy y (List.mem_cons_of_mem _ h) rfl
          obtain ⟨k', hk'⟩ := q_bt_low (x := a) (o := S.R 3 g) (l0 := l1) (k0 := kd0) (k := kd0) (a := x4) (ms := l2) (by rw [h1]; exact hb2) hsa hnd2.2 hag hdis h18.symm hb1
          refine ⟨k', ?_⟩
          have e3 : (S.sR 3 a (S.R 3 g)).R 3 = va_up (S.R 3) a (S.R 3 g) := qR_is _ _ _ _
          rw [e3]
          rw [h1] at hk'
          exact hk'
        · subst c21
          obtain ⟨kd', u1, u2, hkd, hu, hv1, hv2⟩ := q_bt_dec hb
          have hu1 : u1.head? = l2.head? := by
            cases u1 with
            | nil => rw [← h18] at hv1; obtain ⟨z1, z2, hz, -⟩ := q_bt_some hv1; simp at hz
            | cons y t => rw [← hhd, hu]; rfl
          refine q_aload_n (r := some a) C dX3_heirOf_24 rfl (lv_at hl 0 rfl) ?_
          refine g_Row_less C hV hL_a hK_a (Or.inr ⟨_, wd_79⟩) dX3_heirOf_25 ?_
          refine q_tr (v' := some x21) (h18.symm) ?_
          refine q_astore_n (r := some x21) (lv' := [(1, va_rf (some x21)), (0, va_rf (some g))]) C dX3_heirOf_28 rfl hl (by decide) (q_k0 (q_kC 1 rfl (by decide) (q_cat _) q_kz)) (fun ls hl => ?_)
          refine lv_goto (tgt := 17) C.1 C.2.1 dX3_heirOf_29 (by decide) ?_
          exact ih kd' x21 u1 ls (by omega) hl (by rw [h18]; exact hv1) hu1 (fun x hx => hsub x (by rw [hu]; simp [hx]))
    refine q_aload_n (r := some g) C dX3_heirOf_12 rfl (lv_at hl 0 rfl) ?_
    refine g_Row_more C hV hL_g hK_g (Or.inr ⟨_, wd_81⟩) dX3_heirOf_13 ?_
    refine q_tr (v' := some x4) (h1.symm) ?_
    refine q_astore_n (r := some x4) (lv' := [(1, va_rf (some x4)), (0, va_rf (some g))]) C dX3_heirOf_16 rfl hl (by decide) (q_k0 (q_kC 0 rfl (by decide) (q_cat _) q_kz)) (fun ls hl => ?_)
    exact loop (kd0 + 1) kd0 x4 l2 ls (Nat.lt_succ_self _) hl (by rw [h1]; exact hb2) rfl (fun _ h => h)
  · subst c4
    refine q_aload_n (r := some g) C dX3_heirOf_7 rfl (lv_at hl 0 rfl) ?_
    refine g_Row_less C hV hL_g hK_g (Or.inr ⟨_, wd_79⟩) dX3_heirOf_8 ?_
    refine q_nr (fun r8 h8 => ?_)
    refine q_aret (r := r8) C hV hr hlk (Nat.le_of_ble_eq_true rfl) (Nat.le_of_ble_eq_true rfl) dX3_heirOf_11 ?_
    have e2 : l2 = [] := by rw [← h1] at hb2; exact q_bt_nil hb2
    refine hpost _ _ ⟨Or.inl rfl, kd0, ?_⟩
    rw [e2, List.append_nil, h8]
    exact hb1
theorem c_Tree_heirOf (l : Launch) (E : qE) (S : qS) (g : Nat) (l1 l2 : List Nat) (kd0 : Nat) (hL_g : g ∈ S.L) (hK_g : S.K g = 1) (hb1 : q_bt (S.R 3) (S.R 4) kd0 (S.R 3 g) l1) (hb2 : q_bt (S.R 3) (S.R 4) kd0 (S.R 4 g) l2) (hok : ∀ a ∈ l2, a ∈ S.L ∧ S.K a = 1) (hnd : (l1 ++ g :: l2).Nodup) : q_Mq l yX3_heirOf cX3_heirOf 2 (.object "ChunkShelf$Row") { frames := 0, cells := 0, slots := 0, locals := 0 } E [.ref g] S (fun r S1 => (S1 = S ∨ ∃ x ∈ l2, S1 = S.sR 3 x (S.R 3 g)) ∧ ∃ k, q_bt (S1.R 3) (S1.R 4) k r (l1 ++ l2)) 0 0 := c0_Tree_heirOf l E S g l1 l2 kd0 hL_g hK_g hb1 hb2 hok hnd _ (fun _ _ h => h)

theorem q_tree_new {S : qS} {t q : Nat} {n : Int32} {ns : List Nat} (h : q_tree S t ns) (hq : q ∉ S.L) : q_tree ((S.nO q 1).sI 4 q n) t ns := by
  obtain ⟨h1, h2, ⟨k, h3⟩, h4, h5⟩ := h
  have ne : ∀ a ∈ S.L, a ≠ q := fun a ha e => hq (e ▸ ha)
  have eR : ∀ j, ∀ a ∈ S.L, ((S.nO q 1).sI 4 q n).R j a = S.R j a := fun j a ha => va_up_ne _ _ (ne a ha)
  have eI : ∀ a ∈ S.L, ((S.nO q 1).sI 4 q n).I 4 a = S.I 4 a := fun a ha => (qI_ne _ _ _ _ (ne a ha) 4).trans (va_up_ne _ _ (ne a ha))
  refine ⟨List.mem_append_left _ h1, (va_up_ne _ _ (ne t h1)).trans h2, ⟨k, ?_⟩, fun a ha => ⟨List.mem_append_left _ (h4 a ha).1, (va_up_ne _ _ (ne a (h4 a ha).1)).trans (h4 a ha).2⟩, ?_⟩
  · rw [eR 7 t h1]
    exact q_bt_congr (fun a ha => ⟨eR 3 a (h4 a ha).1, eR 4 a (h4 a ha).1⟩) h3
  · refine List.Pairwise.imp_of_mem ?_ h5
    intro a b ha hb hab
    show (((S.nO q 1).sI 4 q n).I 4 a).toInt < (((S.nO q 1).sI 4 q n).I 4 b).toInt
    rw [eI a (h4 a ha).1, eI b (h4 b hb).1]
    exact hab
theorem q_place_ok {S : qS} {t a : Nat} {c : Int} {ns : List Nat} {par : Option Nat} (h : q_tree S t ns) (hp : q_place S t c ns par) (ha : par = some a) : a ∈ S.L ∧ S.K a = 1 := by
  obtain ⟨row, pre, ms, post_, kd, hns, -, -, hcx, -⟩ := hp
  have := hcx.1 a ha
  exact h.2.2.2.1 a (by rw [hns]; simp only [List.mem_append] at this ⊢; rcases this with h | h <;> simp [h])
theorem q_made {S : qS} {t q : Nat} {n : Int32} {ns : List Nat} {par : Option Nat} (h : q_tree S t ns) (hno : ∀ b ∈ ns, q_z S b ≠ n.toInt) (hq : q ∉ S.L) (hp : q_place ((S.nO q 1).sI 4 q n) t n.toInt ns par) :
    q ∉ S.L ∧ q_fr S (q_hang ((S.nO q 1).sI 4 q n) t par n (some q)) q_c0 q_cT q_c0 ∧ q ∈ (q_hang ((S.nO q 1).sI 4 q n) t par n (some q)).L ∧ (q_hang ((S.nO q 1).sI 4 q n) t par n (some q)).K q = 1 ∧ (q_hang ((S.nO q 1).sI 4 q n) t par n (some q)).I 4 q = n ∧ (q_hang ((S.nO q 1).sI 4 q n) t par n (some q)).R 2 q = none ∧
      ∃ pre post_, ns = pre ++ post_ ∧ q_tree (q_hang ((S.nO q 1).sI 4 q n) t par n (some q)) t (pre ++ q :: post_) := by
  have h0 := q_tree_new (n := n) h hq
  have ne : ∀ a ∈ S.L, a ≠ q := fun a ha e => hq (e ▸ ha)
  generalize hS' : (S.nO q 1).sI 4 q n = S' at h0 hp ⊢
  have eL := (q_hang_L (S := S') (q := t) (par := par) (o := some q) (n := n)).1
  have eK := (q_hang_L (S := S') (q := t) (par := par) (o := some q) (n := n)).2.1
  have eI := (q_hang_L (S := S') (q := t) (par := par) (o := some q) (n := n)).2.2
  have hqL : q ∈ S'.L := by rw [← hS']; exact q_nO_in S q 1
  have hqK : S'.K q = 1 := by rw [← hS']; exact q_nO_K S q 1
  have hqI : S'.I 4 q = n := by rw [← hS']; exact qI_self _ _ _ _
  have hqR : ∀ j, S'.R j q = none := fun j => by rw [← hS']; exact va_up_self _ _ _
  have hfr : q_fr S S' q_c0 q_cT q_c0 := by
    rw [← hS']
    refine ⟨fun a ha => ⟨List.mem_append_left _ ha, va_up_ne _ _ (ne a ha), rfl, rfl, rfl⟩, fun a ha j _ => (qI_ne _ _ _ _ (ne a ha) j).trans (va_up_ne _ _ (ne a ha)), fun a ha j _ => va_up_ne _ _ (ne a ha), fun a ha j _ => va_up_ne _ _ (ne a ha)⟩
  have ez : ∀ a ∈ S.L, q_z S' a = q_z S a := fun a ha => by show (S'.I 4 a).toInt = (S.I 4 a).toInt; rw [hfr.2.1 a ha 4 (fun z => z)]
  obtain ⟨row, pre, ms, post_, kd, hns, hpre, hpo, hcx, hsd, hb, hrow⟩ := hp
  have hms : ms = [] := by
    rcases hrow with hr | ⟨a, hr, hz⟩
    · rw [hr] at hb; exact q_bt_nil hb
    · exfalso
      rw [hr] at hb
      obtain ⟨z1, z2, hm, -⟩ := q_bt_some hb
      have ham : a ∈ ns := by rw [hns, hm]; simp
      exact hno a ham (by rw [← ez a (h.2.2.2.1 a ham).1]; exact hz)
  subst hms
  have hqn : ∀ x ∈ ns, x ≠ q := fun x hx => ne x (h.2.2.2.1 x hx).1
  have hbq : q_bt (S'.R 3) (S'.R 4) 1 (some q) [q] := Or.inr ⟨q, [], [], rfl, rfl, ⟨hqR 3, rfl⟩, ⟨hqR 4, rfl⟩⟩
  obtain ⟨k', hk'⟩ := q_hung (S := S') (S' := S') (q := t) (n := n) (o := some q) (ms := [q]) hcx (fun x _ => ⟨rfl, rfl, rfl⟩) rfl (fun x hx hm => by
    rw [List.mem_singleton.mp hx] at hm
    exact hqn q (by rw [hns]; simpa using hm) rfl) hbq
  refine ⟨hq, q_fr_tr hfr q_hang_fr, by rw [eL]; exact hqL, by rw [eK]; exact hqK, by rw [eI]; exact hqI, (congrFun (q_hang_R ⟨by decide, by decide, by decide⟩) q).trans (hqR 2), pre, post_, by simpa using hns, ?_, ?_, ⟨k', by simpa [List.append_assoc] using hk'⟩, ?_, ?_⟩
  · rw [eL]; exact h0.1
  · rw [eK]; exact h0.2.1
  · intro a ha
    rw [eL, eK]
    simp only [List.mem_append, List.mem_cons] at ha
    rcases ha with ha | rfl | ha
    · exact h0.2.2.2.1 a (by rw [hns]; simp [ha])
    · exact ⟨hqL, hqK⟩
    · exact h0.2.2.2.1 a (by rw [hns]; simp [ha])
  · have e2 : q_z (q_hang S' t par n (some q)) = q_z S' := funext fun a => by show ((q_hang S' t par n (some q)).I 4 a).toInt = _; rw [eI]; rfl
    rw [e2]
    have hso := h0.2.2.2.2
    rw [hns, List.append_nil] at hso
    have hso2 := List.pairwise_append.mp hso
    have hzq : q_z S' q = n.toInt := by show (S'.I 4 q).toInt = _; rw [hqI]
    refine List.pairwise_append.mpr ⟨hso2.1, List.pairwise_cons.mpr ⟨fun b hb => by rw [hzq]; exact hpo b hb, hso2.2.1⟩, fun a ha b hb => ?_⟩
    rcases List.mem_cons.mp hb with rfl | hb
    · rw [hzq]; exact hpre a ha
    · exact hso2.2.2 a ha b hb
set_option maxHeartbeats 4000000 in
set_option maxRecDepth 100000 in
theorem c0_Tree_rowMadeFor (l : Launch) (E : qE) (S : qS) (q : Nat) (n : Int32) (ns : List Nat) (ht : q_tree S q ns) (post : Option Nat → qS → Prop) (hpost : ∀ r S1, (∃ a, r = some a ∧ ((S1 = S ∧ a ∈ ns ∧ q_z S a = n.toInt) ∨ (a ∉ S.L ∧ q_fr S S1 q_c0 q_cT q_c0 ∧ a ∈ S1.L ∧ S1.K a = 1 ∧ S1.I 4 a = n ∧ S1.R 2 a = none ∧ ∃ pre post_, ns = pre ++ post_ ∧ q_tree S1 q (pre ++ a :: post_)))) → post r S1) : q_Mq l yX3_rowMadeFor cX3_rowMadeFor 3 (.object "ChunkShelf$Row") { frames := 2, cells := 1, slots := 7, locals := 33 } E [.ref q, .int n] S (post) 1 7 := by
  refine q_ofW1 (by decide) (q_1c rfl (q_1c rfl q_1n)) (Nat.le_of_ble_eq_true rfl) (fun p e s m below meth c C hV hr hlk hnm ls hl => ?_)
  have hl : lv_has ls 3 [(0, va_rf (some q)), (1, .int (n))] := hl
  have ht0 := ht
  obtain ⟨hL_q, hK_q, hb0, hok, hso⟩ := ht
  refine q_aload_n (r := some q) C dX3_rowMadeFor_0 rfl (lv_at hl 0 rfl) ?_
  refine lv_iload_n C.1 C.2.1 dX3_rowMadeFor_1 rfl (lv_at hl 1 rfl) ?_
  refine q_cq hV (q_rV (b := q) (As := [.int (n)]) (rest := []) C hV (c_Tree_rowOf l E S q n ns ht0) wd_177 wd_174 wd_176 wd_4 wd_42 ok_X3_rowOf ⟨rfl, rfl, Nat.le_of_ble_eq_true rfl, Nat.le_of_ble_eq_true rfl⟩ (q_rc3 hV hL_q hK_q) rfl hl.1 rfl (q_sm q_1n (Nat.le_of_ble_eq_true rfl)) dX3_rowMadeFor_2 ⟨Nat.le_of_ble_eq_true rfl, Nat.le_of_ble_eq_true rfl⟩) (fun r2 S2 H locs hp2 hV => ?_)
  obtain ⟨eS2, hp2⟩ := hp2
  rw [eS2] at hV
  refine q_astore_n (r := r2) (lv' := [(2, va_rf (r2)), (0, va_rf (some q)), (1, .int (n))]) C dX3_rowMadeFor_5 rfl hl (by decide) (q_k0 (q_kN 0 rfl (by decide) (by decide) (q_kC 1 rfl (by decide) rfl q_kz))) (fun ls hl => ?_)
  refine q_aload_n (r := r2) C dX3_rowMadeFor_6 rfl (lv_at hl 0 rfl) ?_
  refine q_ifnonnull (r := r2) (tgt := 30) C dX3_rowMadeFor_7 (by decide) (fun x7 c7 => ?_) (fun c7 => ?_)
  · subst c7
    refine q_aload_n (r := some x7) C dX3_rowMadeFor_30 rfl (lv_at hl 0 rfl) ?_
    refine q_aret (r := some x7) C hV hr hlk (Nat.le_of_ble_eq_true rfl) (Nat.le_of_ble_eq_true rfl) dX3_rowMadeFor_31 ?_
    obtain ⟨hm1, hm2⟩ := (List.find?_eq_some_iff_append.mp hp2.symm)
    exact hpost _ _ ⟨x7, rfl, Or.inl ⟨rfl, List.mem_of_find?_eq_some hp2.symm, by simpa using hm1⟩⟩
  · subst c7
    refine n_Row C hV wd_178 (Nat.le_of_ble_eq_true rfl) (Nat.le_of_ble_eq_true rfl) dX3_rowMadeFor_10 (fun q10 H hq10 hV => ?_)
    have hL_q1 : q ∈ ((S.nO q10 1).sI 4 q10 n).L := List.mem_append_left _ hL_q
    have hK_q1 : ((S.nO q10 1).sI 4 q10 n).K q = 3 := (va_up_ne _ _ (fun e : q = q10 => hq10 (by rw [← e]; exact hL_q))).trans hK_q
    refine lv_dup C.1 C.2.1 dX3_rowMadeFor_13 rfl ?_
    refine lv_iload_n C.1 C.2.1 dX3_rowMadeFor_14 rfl (lv_at hl 2 rfl) ?_
    refine q_cv hV (q_rI (b := q10) (As := [.int (n)]) (rest := [va_rf (some q10)]) C hV (c_Row_init l E (S.nO q10 1) q10 n (q_nO_in _ _ _) (q_nO_K _ _ _)) wd_71 (Or.inr ⟨_, wd_179⟩) wd_70 wd_41 rfl ok_X1_init ⟨rfl, rfl, Nat.le_of_ble_eq_true rfl, Nat.le_of_ble_eq_true rfl⟩ rfl hl.1 rfl (q_sm (q_1c (q_cat _) q_1n) (Nat.le_of_ble_eq_true rfl)) dX3_rowMadeFor_15 ⟨Nat.le_of_ble_eq_true rfl, Nat.le_of_ble_eq_true rfl⟩) (fun S15 H locs hp15 hV => ?_)
    subst hp15
    refine q_astore_n (r := some q10) (lv' := [(2, va_rf (some q10)), (0, va_rf (some q)), (1, .int (n))]) C dX3_rowMadeFor_18 rfl hl (by decide) (q_k0 (q_kN 1 rfl (by decide) (by decide) (q_kC 2 rfl (by decide) rfl q_kz))) (fun ls hl => ?_)
    refine q_aload_n (r := some q) C dX3_rowMadeFor_19 rfl (lv_at hl 1 rfl) ?_
    refine q_aload_n (r := some q) C dX3_rowMadeFor_20 rfl (lv_at hl 1 rfl) ?_
    refine lv_iload_n C.1 C.2.1 dX3_rowMadeFor_21 rfl (lv_at hl 2 rfl) ?_
    refine q_cq hV (q_rV (b := q) (As := [.int (n)]) (rest := [va_rf (some q)]) C hV (c_Tree_parentFor l E _ q n ns (q_tree_new ht0 hq10)) wd_183 wd_180 wd_182 wd_5 wd_42 ok_X3_parentFor ⟨rfl, rfl, Nat.le_of_ble_eq_true rfl, Nat.le_of_ble_eq_true rfl⟩ (q_rc3 hV hL_q1 hK_q1) rfl hl.1 rfl (q_sm (q_1c (q_cat _) q_1n) (Nat.le_of_ble_eq_true rfl)) dX3_rowMadeFor_22 ⟨Nat.le_of_ble_eq_true rfl, Nat.le_of_ble_eq_true rfl⟩) (fun r22 S22 H locs hp22 hV => ?_)
    obtain ⟨eS22, hp22⟩ := hp22
    rw [eS22] at hV
    refine lv_iload_n C.1 C.2.1 dX3_rowMadeFor_25 rfl (lv_at hl 2 rfl) ?_
    refine q_aload_n (r := some q10) C dX3_rowMadeFor_26 rfl (lv_at hl 0 rfl) ?_
    refine q_cv hV (q_rV (b := q) (As := [va_rf (r22), .int (n), va_rf (some q10)]) (rest := []) C hV (c_Tree_hang l E _ q r22 n (some q10) hL_q1 hK_q1 (fun a ha => q_place_ok (q_tree_new ht0 hq10) hp22 ha)) wd_187 wd_184 wd_186 wd_6 wd_42 ok_X3_hang ⟨rfl, rfl, Nat.le_of_ble_eq_true rfl, Nat.le_of_ble_eq_true rfl⟩ (q_rc3 hV hL_q1 hK_q1) rfl hl.1 rfl (q_sm q_1n (Nat.le_of_ble_eq_true rfl)) dX3_rowMadeFor_27 ⟨Nat.le_of_ble_eq_true rfl, Nat.le_of_ble_eq_true rfl⟩) (fun S27 H locs hp27 hV => ?_)
    refine q_aload_n (r := some q10) C dX3_rowMadeFor_30 rfl (lv_at hl 0 rfl) ?_
    refine q_aret (r := some q10) C hV hr hlk (Nat.le_of_ble_eq_true rfl) (Nat.le_of_ble_eq_true rfl) dX3_rowMadeFor_31 ?_
    subst hp27
    exact hpost _ _ ⟨q10, rfl, Or.inr (q_made ht0 (fun b hb => by simpa using List.find?_eq_none.mp hp2.symm b hb) hq10 hp22)⟩
theorem c_Tree_rowMadeFor (l : Launch) (E : qE) (S : qS) (q : Nat) (n : Int32) (ns : List Nat) (ht : q_tree S q ns) : q_Mq l yX3_rowMadeFor cX3_rowMadeFor 3 (.object "ChunkShelf$Row") { frames := 2, cells := 1, slots := 7, locals := 33 } E [.ref q, .int n] S (fun r S1 => ∃ a, r = some a ∧ ((S1 = S ∧ a ∈ ns ∧ q_z S a = n.toInt) ∨ (a ∉ S.L ∧ q_fr S S1 q_c0 q_cT q_c0 ∧ a ∈ S1.L ∧ S1.K a = 1 ∧ S1.I 4 a = n ∧ S1.R 2 a = none ∧ ∃ pre post_, ns = pre ++ post_ ∧ q_tree S1 q (pre ++ a :: post_)))) 1 7 := c0_Tree_rowMadeFor l E S q n ns ht _ (fun _ _ h => h)

