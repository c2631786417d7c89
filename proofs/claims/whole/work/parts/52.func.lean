/-! THE ANSWERS ARE FUNCTIONS of the values -/
theorem v_split2 {V A B A1 B1 : v_V} {x x1 : Nat × Bool × Nat} (h : V = A ++ x :: B) (h1 : V = A1 ++ x1 :: B1) : (A = A1 ∧ x = x1 ∧ B = B1) ∨ (x1 ∈ A ++ B ∧ x ∈ A1 ++ B1) := by
  subst h
  induction A generalizing A1 with
  | nil =>
    cases A1 with
    | nil => simp at h1; exact Or.inl ⟨rfl, h1.1, h1.2⟩
    | cons y t => simp at h1; obtain ⟨rfl, h2⟩ := h1; exact Or.inr ⟨by simp [h2], by simp⟩
  | cons z A ih =>
    cases A1 with
    | nil => simp at h1; obtain ⟨rfl, h2⟩ := h1; exact Or.inr ⟨by simp, by simp [← h2]⟩
    | cons y t =>
      simp at h1
      obtain ⟨rfl, h2⟩ := h1
      rcases ih h2 with ⟨e1, e2, e3⟩ | ⟨e1, e2⟩
      · exact Or.inl ⟨by rw [e1], e2, e3⟩
      · exact Or.inr ⟨List.mem_cons_of_mem _ e1, List.mem_cons_of_mem _ e2⟩
theorem v_isb_one {z : Nat} {V A B A1 B1 : v_V} {x x1 : Nat × Bool × Nat} (h : V = A ++ x :: B) (h1 : V = A1 ++ x1 :: B1) (hb : v_isb z A x B) (hb1 : v_isb z A1 x1 B1) : A = A1 ∧ x = x1 ∧ B = B1 := by
  rcases v_split2 h h1 with e | ⟨e1, e2⟩
  · exact e
  · have g1 := hb.2.2 x1 e1 hb1.1 hb1.2.1
    have g2 := hb1.2.2 x e2 hb.1 hb.2.1
    omega
theorem v_non_isb {z : Nat} {V A B : v_V} {x : Nat × Bool × Nat} (hn : v_non z V) (h : V = A ++ x :: B) (hb : v_isb z A x B) : False := by
  have := hn x (by rw [h]; simp) hb.1
  have := hb.2.1
  omega
theorem v_suf_fn {z : Nat} {V : v_V} {r r' : Int32} (h : v_suf z V r) (h' : v_suf z V r') : r = r' := by
  rcases h with ⟨h1, h2⟩ | ⟨A, x, B, hV, hb, hr⟩ <;> rcases h' with ⟨g1, g2⟩ | ⟨A1, x1, B1, hV1, hb1, hr1⟩
  · rw [h1, g1]
  · exact (v_non_isb h2 hV1 hb1).elim
  · exact (v_non_isb g2 hV hb).elim
  · rw [hr, hr1, (v_isb_one hV hV1 hb hb1).1]
theorem v_take_fn {V V1 V2 : v_V} {f tm z f1 f2 t1 t2 : Nat} {r r' : Int32} (h : v_take V f tm z V1 f1 t1 r) (h' : v_take V f tm z V2 f2 t2 r') : r = r' ∧ V1 = V2 ∧ f1 = f2 ∧ t1 = t2 := by
  rcases h with ⟨h1, h2, h3, h4, h5⟩ | ⟨A, x, B, hV, hb, hr, hf, hc⟩ <;> rcases h' with ⟨g1, g2, g3, g4, g5⟩ | ⟨A1, x1, B1, hV1, hb1, hr1, hf1, hc1⟩
  · exact ⟨by rw [h1, g1], by rw [h3, g3], by rw [h4, g4], by rw [h5, g5]⟩
  · exact (v_non_isb h2 hV1 hb1).elim
  · exact (v_non_isb g2 hV hb).elim
  · obtain ⟨rfl, rfl, rfl⟩ := v_isb_one hV hV1 hb hb1
    refine ⟨by rw [hr, hr1], ?_, by rw [hf, hf1], ?_⟩
    · rcases hc with ⟨a1, a2, a3⟩ | ⟨a1, a2, a3⟩ <;> rcases hc1 with ⟨b1, b2, b3⟩ | ⟨b1, b2, b3⟩
      · rw [a2, b2]
      · omega
      · omega
      · rw [a2, b2]
    · rcases hc with ⟨a1, a2, a3⟩ | ⟨a1, a2, a3⟩ <;> rcases hc1 with ⟨b1, b2, b3⟩ | ⟨b1, b2, b3⟩
      · rw [a3, b3]
      · omega
      · omega
      · rw [a3, b3]
theorem v_give_fn {n tm : Nat} {V V1 V2 : v_V} (hok : v_ok n tm V) {a : Int} {t1 t2 : Nat} {r r' : Int32} (h : v_give V tm a V1 t1 r) (h' : v_give V tm a V2 t2 r') : r = r' ∧ V1 = V2 ∧ t1 = t2 := by
  obtain ⟨A, x, B, hV, hf, ha, hr, hV1, ht⟩ := h
  obtain ⟨A1, x1, B1, hV', hf1, ha1, hr1, hV1', ht1⟩ := h'
  obtain ⟨rfl, rfl, rfl⟩ := v_at_one hok hV hV' (by omega)
  exact ⟨by rw [hr, hr1], by rw [hV1, hV1'], by rw [ht, ht1]⟩
theorem v_join_fn {n tm : Nat} {V V1 V2 : v_V} (hok : v_ok n tm V) {a : Int} {t1 t2 : Nat} {r r' : Int32} (h : v_join V tm a V1 t1 r) (h' : v_join V tm a V2 t2 r') : r = r' ∧ V1 = V2 ∧ t1 = t2 := by
  obtain ⟨A, x, B, hV, hf, ha, hr, hV1, ht⟩ := h
  obtain ⟨A1, x1, B1, hV', hf1, ha1, hr1, hV1', ht1⟩ := h'
  obtain ⟨rfl, rfl, rfl⟩ := v_at_one hok hV hV' (by omega)
  exact ⟨by rw [hr, hr1], by rw [hV1, hV1'], by rw [ht, ht1]⟩
theorem v_give_all {V V1 : v_V} {tm t1 : Nat} {a : Int} {r : Int32} (h : v_give V tm a V1 t1 r) (h' : v_all V a true) : False := by
  obtain ⟨A, x, B, hV, hf, ha, -⟩ := h
  have := h' A x B hV ha
  rw [hf] at this; exact nomatch this
theorem v_join_all {V V1 : v_V} {tm t1 : Nat} {a : Int} {r : Int32} (h : v_join V tm a V1 t1 r) (h' : v_all V a false) : False := by
  obtain ⟨A, x, B, hV, hf, ha, -⟩ := h
  have := h' A x B hV ha
  rw [hf] at this; exact nomatch this
theorem v_piece_fn {n tm : Nat} {V : v_V} (hok : v_ok n tm V) {a : Int} {r r' : Int32} (h : v_piece V a r) (h' : v_piece V a r') : r = r' := by
  rcases h with ⟨h1, h2⟩ | ⟨A, x, B, hV, ha, hr⟩ <;> rcases h' with ⟨g1, g2⟩ | ⟨A1, x1, B1, hV1, ha1, hr1⟩
  · rw [h1, g1]
  · exact absurd ha1 (h2 A1 x1 B1 hV1)
  · exact absurd ha (g2 A x B hV)
  · obtain ⟨rfl, rfl, rfl⟩ := v_at_one hok hV hV1 (by omega)
    rw [hr, hr1]
theorem v_cover_fn {V : v_V} {a : Int} {r r' : Int32} (h : v_cover V a r) (h' : v_cover V a r') : r = r' := by
  have hin : ∀ {A B : v_V} {x : Nat × Bool × Nat}, V = A ++ x :: B → a < 1 + v_sz A + x.1 → a ≤ v_sz V := fun {A B x} hV h => by
    rw [hV, v_sz_app]; simp only [v_sz]; omega
  rcases h with ⟨h1, h2⟩ | ⟨A, x, B, hV, ha, hb, hr⟩ <;> rcases h' with ⟨g1, g2⟩ | ⟨A1, x1, B1, hV1, ha1, hb1, hr1⟩
  · rw [h1, g1]
  · have := hin hV1 hb1; omega
  · have := hin hV hb; omega
  · obtain ⟨rfl, rfl, rfl⟩ := v_in_uniq (v := a.toNat - 1) (hV.symm.trans hV1) (by omega) (by omega) (by omega) (by omega)
    rw [hr, hr1]
theorem q_cn_mono {f g : Nat × Bool × Nat → Nat} : ∀ {V : v_V}, (∀ v ∈ V, f v ≤ g v) → q_cn f V ≤ q_cn g V := by
  intro V
  induction V with
  | nil => intro _; exact Nat.le_refl _
  | cons v V ih =>
    intro h
    have h1 := h v List.mem_cons_self
    have h2 := ih (fun x hx => h x (List.mem_cons_of_mem _ hx))
    simp only [q_cn]; omega
/-- a later piece has fewer later ones -/
theorem v_later_lt {V : v_V} {x y : Nat × Bool × Nat} {z : Nat} (hy : y ∈ V) (hf : y.2.1 = true) (hz : y.1 = z) (h : x.2.2 < y.2.2) : q_cn (v_later z y.2.2) V < q_cn (v_later z x.2.2) V := by
  obtain ⟨A, B, rfl⟩ := List.append_of_mem hy
  have hm : ∀ v, v_later z y.2.2 v ≤ v_later z x.2.2 v := fun v => by
    unfold v_later
    by_cases hc : v.2.1 = true ∧ v.1 = z ∧ y.2.2 < v.2.2
    · rw [if_pos hc, if_pos ⟨hc.1, hc.2.1, by omega⟩]; exact Nat.le_refl _
    · rw [if_neg hc]; exact Nat.zero_le _
  have h1 := q_cn_mono (f := v_later z y.2.2) (g := v_later z x.2.2) (V := A) (fun v _ => hm v)
  have h2 := q_cn_mono (f := v_later z y.2.2) (g := v_later z x.2.2) (V := B) (fun v _ => hm v)
  rw [q_cn_app, q_cn_app]
  simp only [q_cn]
  have h3 : v_later z y.2.2 y = 0 := by unfold v_later; rw [if_neg (fun h => by omega)]
  have h4 : v_later z x.2.2 y = 1 := by unfold v_later; rw [if_pos ⟨hf, hz, h⟩]
  omega
theorem v_dt_ne {V A B : v_V} {x y : Nat × Bool × Nat} (hd : v_dt V) (hV : V = A ++ x :: B) (hy : y ∈ A ++ B) (h1 : x.2.1 = true) (h2 : y.2.1 = true) (h3 : x.1 = y.1) (h4 : 3 ≤ x.1) : x.2.2 ≠ y.2.2 := by
  subst hV
  have hp := List.pairwise_append.mp hd
  rcases List.mem_append.mp hy with h | h
  · exact (hp.2.2 y h x List.mem_cons_self h2 h1 h3.symm (by omega)).symm
  · exact (List.pairwise_cons.mp hp.2.1).1 y h h1 h2 h3 h4
theorem v_free_fn {V : v_V} (hd : v_dt V) {a k : Int} {r r' : Int32} (h : v_free V a k r) (h' : v_free V a k r') : r = r' := by
  rcases h with ⟨h1, h2⟩ | ⟨h1, h2⟩ <;> rcases h' with ⟨g1, g2⟩ | ⟨g1, g2⟩
  · rw [h2, g2]
  · omega
  · omega
  · rcases h2 with ⟨a1, a2⟩ | ⟨A, x, B, hV, hf, hz, hc, hr⟩ <;> rcases g2 with ⟨b1, b2⟩ | ⟨A1, x1, B1, hV1, hf1, hz1, hc1, hr1⟩
    · rw [a1, b1]
    · exact absurd hc1 (a2 A1 x1 B1 hV1 hf1 hz1)
    · exact absurd hc (b2 A x B hV hf hz)
    · rcases v_split2 hV hV1 with ⟨e1, -, -⟩ | ⟨e1, -⟩
      · rw [hr, hr1, e1]
      · exfalso
        have hne := v_dt_ne hd hV e1 hf hf1 (by omega) (by omega)
        rcases Nat.lt_trichotomy x.2.2 x1.2.2 with h9 | h9 | h9
        · have := v_later_lt (V := V) (z := a.toNat) (x := x) (y := x1) (by rw [hV1]; simp) hf1 hz1 h9; omega
        · exact hne h9
        · have := v_later_lt (V := V) (z := a.toNat) (x := x1) (y := x) (by rw [hV]; simp) hf hz h9; omega
/-- the class's pieces have it -/
theorem q_C_dt {S : qS} {c n fails tm : Nat} {P : List q_X} {h ar t : Nat} {ns : List Nat} {rows : Nat → List Nat} (hC : q_C S c n fails tm P h ar t ns rows) : v_dt (q_vl P) := by
  have hnd := q_line_nd hC.1
  have c7 := hC.2.2.2.2.2.2.1
  have key : ∀ x ∈ P, ∀ y ∈ P, x.1 ≠ y.1 → x.2.2.1 = true → y.2.2.1 = true → x.2.1 = y.2.1 → 3 ≤ x.2.1 → x.2.2.2 ≠ y.2.2.2 := by
    intro x hx y hy hne h1 h2 h3 h4 e
    have i1 := (c7.1 x.2.1 x.1).mpr ⟨h4, x, hx, rfl, rfl, h1⟩
    have i2 := (c7.1 x.2.1 y.1).mpr ⟨h4, y, hy, rfl, h3.symm, h2⟩
    have j1 := q_C_J hC hx h1
    have j2 := q_C_J hC hy h2
    obtain ⟨L, U, hr⟩ := List.append_of_mem i1
    have hp := c7.2 x.2.1
    rw [hr] at hp i2
    have hp2 := List.pairwise_append.mp hp
    rcases List.mem_append.mp i2 with h | h
    · have := hp2.2.2 y.1 h x.1 List.mem_cons_self; omega
    · rcases List.mem_cons.mp h with h | h
      · exact hne h.symm
      · have := (List.pairwise_cons.mp hp2.2.1).1 y.1 h; omega
  have : P.Pairwise (fun x y => x.2.2.1 = true → y.2.2.1 = true → x.2.1 = y.2.1 → 3 ≤ x.2.1 → x.2.2.2 ≠ y.2.2.2) := by
    have h1 : P.Pairwise (fun x y => x.1 ≠ y.1) := List.pairwise_map.mp hnd
    exact List.Pairwise.imp_of_mem (fun {x y} hx hy hne => key x hx y hy hne) h1
  exact List.pairwise_map.mpr this
