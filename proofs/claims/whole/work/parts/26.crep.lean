/-! THE CLASS: pieces, shelves, and how they belong together -/
def q_rws (S : qS) (P : List q_X) (rows : Nat → List Nat) : Prop := (∀ z a, a ∈ rows z ↔ 3 ≤ z ∧ ∃ x ∈ P, x.1 = a ∧ x.2.1 = z ∧ x.2.2.1 = true) ∧ ∀ z, (rows z).Pairwise (fun a b => (S.J 0 b).toInt < (S.J 0 a).toInt)
def q_C (S : qS) (c n fails now : Nat) (P : List q_X) (h ar t : Nat) (ns : List Nat) (rows : Nat → List Nat) : Prop :=
  q_line S c n P ∧ S.R 8 c = some h ∧ S.I 6 c = nI fails ∧ q_sh S h ar t ns rows ∧ q_ne S ns rows ∧ S.J 1 h = lN now ∧ q_rws S P rows ∧ (∀ x ∈ P, x.2.2.1 = true → x.2.2.2 < now) ∧ now < 2 ^ 40 ∧ 1 ≤ n
theorem q_ad_app (A B : List q_X) (x : q_X) : q_ad (A ++ x :: B) = q_ad A ++ x.1 :: q_ad B := by simp [q_ad]
theorem q_line_nd {S : qS} {c n : Nat} {P : List q_X} (h : q_line S c n P) : (q_ad P).Nodup := q_ch_nodup h.2.2.2.1
theorem q_nd_mid {A B : List q_X} {x : q_X} (h : (q_ad (A ++ x :: B)).Nodup) : ∀ y ∈ A ++ B, y.1 ≠ x.1 := by
  rw [q_ad_app] at h
  have h1 := List.nodup_append.mp h
  intro y hy e
  rcases List.mem_append.mp hy with hy | hy
  · exact h1.2.2 y.1 (List.mem_map.mpr ⟨y, hy, rfl⟩) x.1 List.mem_cons_self e
  · exact (List.nodup_cons.mp h1.2.1).1 (by rw [← e]; exact List.mem_map.mpr ⟨y, hy, rfl⟩)
theorem q_pok_fr {S S' : qS} {a : Nat} {y : q_X} {cI cR cJ : Nat → Nat → Prop} (h : q_pok S a y) (hf : q_fr S S' cI cR cJ) (h0 : ¬ cI 0 y.1) (h1 : ¬ cI 1 y.1) (h2 : ¬ cI 2 y.1) (h3 : ¬ cJ 0 y.1) : q_pok S' a y := by
  obtain ⟨g1, g2, g3, g4, g5, g6⟩ := h
  exact ⟨(hf.1 y.1 g1).1, (hf.1 y.1 g1).2.1.trans g2, (hf.2.1 y.1 g1 0 h0).trans g3, (hf.2.1 y.1 g1 1 h1).trans g4, (hf.2.1 y.1 g1 2 h2).trans g5, fun e => (hf.2.2.2 y.1 g1 0 h3).trans (g6 e)⟩
theorem q_pcs_fr {S S' : qS} {cI cR cJ : Nat → Nat → Prop} (hf : q_fr S S' cI cR cJ) : ∀ {P : List q_X} {a : Nat}, q_pcs S a P → (∀ y ∈ P, ¬ cI 0 y.1 ∧ ¬ cI 1 y.1 ∧ ¬ cI 2 y.1 ∧ ¬ cJ 0 y.1) → q_pcs S' a P := by
  intro P
  induction P with
  | nil => intro a _ _; trivial
  | cons y P ih =>
    intro a h hn
    have h1 := hn y List.mem_cons_self
    exact ⟨q_pok_fr h.1 hf h1.1 h1.2.1 h1.2.2.1 h1.2.2.2, ih h.2 (fun z hz => hn z (List.mem_cons_of_mem _ hz))⟩
theorem q_sz_mid (A B : List q_X) (x x' : q_X) (h : x'.2.1 = x.2.1) : q_sz (A ++ x' :: B) = q_sz (A ++ x :: B) := by
  rw [q_sz_app, q_sz_app]; simp only [q_sz]; rw [h]
/-- one piece changes its flag and its time -/
theorem q_line_flag {S S' : qS} {c n : Nat} {A B : List q_X} {x : q_X} {b : Bool} {tm : Nat} {cI cR cJ : Nat → Nat → Prop} (h : q_line S c n (A ++ x :: B)) (hf : q_fr S S' cI cR cJ) (hI : ∀ j a, cI j a → j = 2 ∧ a = x.1) (hR : ∀ j a, cR j a → j ≠ 0 ∧ j ≠ 9) (hJ : ∀ a, cJ 0 a → a = x.1)
    (hfl : S'.I 2 x.1 = q_fl b) (hti : b = true → S'.J 0 x.1 = lN (tm + 1)) : q_line S' c n (A ++ (x.1, x.2.1, b, tm) :: B) := by
  have hnd := q_nd_mid (q_line_nd h)
  obtain ⟨h1, h2, h3, h4, h5, h6, h7, h8⟩ := h
  have hadd : q_ad (A ++ (x.1, x.2.1, b, tm) :: B) = q_ad (A ++ x :: B) := by rw [q_ad_app, q_ad_app]
  have hmem : ∀ y ∈ A ++ x :: B, y.1 ∈ S.L := fun y hy => by obtain ⟨a, ha⟩ := q_pcs_mem h5 hy; exact ha.1
  have hn : ∀ y ∈ A ++ B, ¬ cI 0 y.1 ∧ ¬ cI 1 y.1 ∧ ¬ cI 2 y.1 ∧ ¬ cJ 0 y.1 := fun y hy => ⟨fun z => absurd (hI 0 y.1 z).1 (by decide), fun z => absurd (hI 1 y.1 z).1 (by decide), fun z => hnd y hy (hI 2 y.1 z).2, fun z => hnd y hy (hJ y.1 z)⟩
  obtain ⟨hA, hx, hB⟩ := q_pcs_app.mp h5
  refine ⟨(hf.1 c h1).1, (hf.1 c h1).2.1.trans h2, (hf.2.1 c h1 5 (fun z => absurd (hI 5 c z).1 (by decide))).trans h3, ?_, q_pcs_app.mpr ⟨q_pcs_fr hf hA (fun y hy => hn y (List.mem_append_left _ hy)), ?_, q_pcs_fr hf hB (fun y hy => hn y (List.mem_append_right _ hy))⟩, ?_, h7, fun y hy => ?_⟩
  · rw [hadd, hf.2.2.1 c h1 9 (fun z => (hR 9 c z).2 rfl)]
    refine q_ch_congr (fun a ha => ?_) h4
    obtain ⟨y, hy, rfl⟩ := List.mem_map.mp ha
    exact hf.2.2.1 y.1 (hmem y hy) 0 (fun z => (hR 0 y.1 z).1 rfl)
  · obtain ⟨g1, g2, g3, g4, -, -⟩ := hx
    exact ⟨(hf.1 x.1 g1).1, (hf.1 x.1 g1).2.1.trans g2, (hf.2.1 x.1 g1 0 (fun z => absurd (hI 0 x.1 z).1 (by decide))).trans g3, (hf.2.1 x.1 g1 1 (fun z => absurd (hI 1 x.1 z).1 (by decide))).trans g4, hfl, hti⟩
  · rw [q_sz_mid A B x (x.1, x.2.1, b, tm) rfl]; exact h6
  · simp only [List.mem_append, List.mem_cons] at hy
    rcases hy with hy | rfl | hy
    · exact h8 y (by simp [hy])
    · exact h8 x (by simp)
    · exact h8 y (by simp [hy])
theorem q_mem_mid {A B : List q_X} {x x' : q_X} : ∀ y, y ∈ A ++ x' :: B ↔ y = x' ∨ y ∈ A ++ B := by
  intro y
  simp only [List.mem_append, List.mem_cons]
  constructor
  · rintro (h | h | h) <;> simp [h]
  · rintro (h | h | h) <;> simp [h]
theorem q_rws_nd {S : qS} {P : List q_X} {rows : Nat → List Nat} (h : q_rws S P rows) (z : Nat) : (rows z).Nodup := by
  refine List.Pairwise.imp ?_ (h.2 z)
  intro a b hab e
  subst e
  omega
theorem q_lI {t : Nat} (h : t < 2 ^ 60) : (lN t).toInt = (t : Int) := pk_lT (by omega)
/-- what pullOut leaves -/
theorem q_C_pull {S S1 : qS} {c n fails now : Nat} {A B : List q_X} {x : q_X} {h ar t : Nat} {ns ns1 : List Nat} {rows : Nat → List Nat} (hC : q_C S c n fails now (A ++ x :: B) h ar t ns rows) (hx : x.2.2.1 = true)
    (h1 : q_sh S1 h ar t ns1 (if 3 ≤ x.2.1 then va_up rows x.2.1 ((rows x.2.1).erase x.1) else rows)) (h2 : q_ne S1 ns1 (if 3 ≤ x.2.1 then va_up rows x.2.1 ((rows x.2.1).erase x.1) else rows)) (hf : q_fr S S1 (q_cPI x.1) (q_cOR (rows x.2.1)) q_c0) (h3 : S1.I 2 x.1 = 0) :
    ∃ rows1, q_C S1 c n fails now (A ++ (x.1, x.2.1, false, x.2.2.2) :: B) h ar t ns1 rows1 := by
  obtain ⟨c1, c2, c3, c4, c5, c6, c7, c8, c9, c10⟩ := hC
  have hnd := q_nd_mid (q_line_nd c1)
  have hR : ∀ j a, q_cOR (rows x.2.1) j a → j ≠ 0 ∧ j ≠ 9 ∧ j ≠ 8 := by
    intro j a z
    rcases z with ⟨z, -⟩ | z | z | z | z <;> subst z <;> decide
  have hx3 : 3 ≤ x.2.1 → x.1 ∈ rows x.2.1 := fun h9 => (c7.1 x.2.1 x.1).mpr ⟨h9, x, by simp, rfl, rfl, hx⟩
  refine ⟨_, q_line_flag c1 hf (fun j a z => z) (fun j a z => ⟨(hR j a z).1, (hR j a z).2.1⟩) (fun a z => z.elim) h3 (fun e => nomatch e), (hf.2.2.1 c c1.1 8 (fun z => (hR 8 c z).2.2 rfl)).trans c2, (hf.2.1 c c1.1 6 (fun z => absurd z.1 (by decide))).trans c3, h1, h2, (hf.2.2.2 h c4.1.1 1 (fun z => z)).trans c6, ?_, ?_, c9, c10⟩
  · constructor
    · intro z a
      have key : (∃ y ∈ A ++ (x.1, x.2.1, false, x.2.2.2) :: B, y.1 = a ∧ y.2.1 = z ∧ y.2.2.1 = true) ↔ (∃ y ∈ A ++ x :: B, y.1 = a ∧ y.2.1 = z ∧ y.2.2.1 = true) ∧ a ≠ x.1 := by
        constructor
        · rintro ⟨y, hy, e1, e2, e3⟩
          rcases (q_mem_mid (x := x) y).mp hy with rfl | hy
          · exact nomatch e3
          · exact ⟨⟨y, (q_mem_mid (x := x) y).mpr (Or.inr hy), e1, e2, e3⟩, by rw [← e1]; exact hnd y hy⟩
        · rintro ⟨⟨y, hy, e1, e2, e3⟩, hne⟩
          rcases (q_mem_mid (x := x) y).mp hy with rfl | hy
          · exact absurd e1.symm hne
          · exact ⟨y, (q_mem_mid (x := x) y).mpr (Or.inr hy), e1, e2, e3⟩
      rw [key]
      by_cases h9 : 3 ≤ x.2.1
      · rw [if_pos h9]
        by_cases hz : z = x.2.1
        · subst hz
          rw [va_up_self, (q_rws_nd c7 _).mem_erase_iff, c7.1]
          exact ⟨fun ⟨e1, e2, e3⟩ => ⟨e2, e3, e1⟩, fun ⟨e1, e2, e3⟩ => ⟨e3, e1, e2⟩⟩
        · rw [va_up_ne _ _ hz, c7.1]
          refine ⟨fun ⟨e1, e2⟩ => ⟨e1, e2, fun e => ?_⟩, fun ⟨e1, e2, _⟩ => ⟨e1, e2⟩⟩
          obtain ⟨y, hy, f1, f2, -⟩ := e2
          rcases (q_mem_mid (x := x) y).mp hy with rfl | hy
          · exact hz f2.symm
          · exact hnd y hy (f1.trans e)
      · rw [if_neg h9, c7.1]
        refine ⟨fun ⟨e1, e2⟩ => ⟨e1, e2, fun e => ?_⟩, fun ⟨e1, e2, _⟩ => ⟨e1, e2⟩⟩
        obtain ⟨y, hy, f1, f2, -⟩ := e2
        rcases (q_mem_mid (x := x) y).mp hy with rfl | hy
        · exact h9 (by omega)
        · exact hnd y hy (f1.trans e)
    · intro z
      have hJ : ∀ a ∈ rows z, S1.J 0 a = S.J 0 a := fun a ha => hf.2.2.2 a (c4.2.2.2.2.2.2 z a ha).1 0 (fun z => z)
      have hp : (rows z).Pairwise (fun a b => (S1.J 0 b).toInt < (S1.J 0 a).toInt) := by
        refine List.Pairwise.imp_of_mem ?_ (c7.2 z)
        intro a b ha hb hab
        rw [hJ a ha, hJ b hb]; exact hab
      by_cases h9 : 3 ≤ x.2.1
      · rw [if_pos h9]
        by_cases hz : z = x.2.1
        · subst hz
          rw [va_up_self]
          exact List.Pairwise.sublist List.erase_sublist hp
        · rw [va_up_ne _ _ hz]; exact hp
      · rw [if_neg h9]; exact hp
  · intro y hy
    rcases (q_mem_mid (x := x) y).mp hy with rfl | hy
    · intro e; exact nomatch e
    · exact c8 y ((q_mem_mid (x := x) y).mpr (Or.inr hy))
/-- what putIn leaves -/
theorem q_C_put {S S1 : qS} {c n fails now : Nat} {A B : List q_X} {x : q_X} {h ar t : Nat} {ns ns1 : List Nat} {rows : Nat → List Nat} (hC : q_C S c n fails now (A ++ x :: B) h ar t ns rows) (hx : x.2.2.1 = false) (hnow : now + 1 < 2 ^ 40)
    (h1 : q_sh S1 h ar t ns1 (if 3 ≤ x.2.1 then va_up rows x.2.1 (x.1 :: rows x.2.1) else rows)) (h2 : q_ne S1 ns1 (if 3 ≤ x.2.1 then va_up rows x.2.1 (x.1 :: rows x.2.1) else rows)) (hf : q_fr S S1 (q_cPI x.1) (q_cPR x.1) (q_cPJ h x.1)) (h3 : S1.I 2 x.1 = 1) (h4 : S1.J 0 x.1 = lN (now + 1)) (h5 : S1.J 1 h = lN (now + 1)) :
    ∃ rows1, q_C S1 c n fails (now + 1) (A ++ (x.1, x.2.1, true, now) :: B) h ar t ns1 rows1 := by
  obtain ⟨c1, c2, c3, c4, c5, c6, c7, c8, c9, c10⟩ := hC
  have hnd := q_nd_mid (q_line_nd c1)
  have hR : ∀ j a, q_cPR x.1 j a → j ≠ 0 ∧ j ≠ 9 ∧ j ≠ 8 := by
    intro j a z
    rcases z with ⟨z, -⟩ | z | z | z | z <;> subst z <;> decide
  have hnot : ∀ z, x.1 ∉ rows z := by
    intro z hz
    obtain ⟨-, y, hy, e1, -, e3⟩ := (c7.1 z x.1).mp hz
    rcases (q_mem_mid (x := x) y).mp hy with rfl | hy
    · rw [hx] at e3; exact nomatch e3
    · exact hnd y hy e1
  refine ⟨_, q_line_flag c1 hf (fun j a z => z) (fun j a z => ⟨(hR j a z).1, (hR j a z).2.1⟩) (fun a z => ?_) h3 (fun _ => h4), (hf.2.2.1 c c1.1 8 (fun z => (hR 8 c z).2.2 rfl)).trans c2, (hf.2.1 c c1.1 6 (fun z => absurd z.1 (by decide))).trans c3, h1, h2, h5, ?_, ?_, hnow, c10⟩
  · rcases z with ⟨z, -⟩ | ⟨-, z⟩
    · exact absurd z (by decide)
    · exact z
  · constructor
    · intro z a
      have key : (∃ y ∈ A ++ (x.1, x.2.1, true, now) :: B, y.1 = a ∧ y.2.1 = z ∧ y.2.2.1 = true) ↔ (a = x.1 ∧ z = x.2.1) ∨ (∃ y ∈ A ++ x :: B, y.1 = a ∧ y.2.1 = z ∧ y.2.2.1 = true) := by
        constructor
        · rintro ⟨y, hy, e1, e2, e3⟩
          rcases (q_mem_mid (x := x) y).mp hy with rfl | hy
          · exact Or.inl ⟨e1.symm, e2.symm⟩
          · exact Or.inr ⟨y, (q_mem_mid (x := x) y).mpr (Or.inr hy), e1, e2, e3⟩
        · rintro (⟨e1, e2⟩ | ⟨y, hy, e1, e2, e3⟩)
          · exact ⟨(x.1, x.2.1, true, now), (q_mem_mid (x := x) _).mpr (Or.inl rfl), e1.symm, e2.symm, rfl⟩
          · rcases (q_mem_mid (x := x) y).mp hy with rfl | hy
            · rw [hx] at e3; exact nomatch e3
            · exact ⟨y, (q_mem_mid (x := x) y).mpr (Or.inr hy), e1, e2, e3⟩
      rw [key]
      by_cases h9 : 3 ≤ x.2.1
      · rw [if_pos h9]
        by_cases hz : z = x.2.1
        · subst hz
          rw [va_up_self, List.mem_cons, c7.1]
          constructor
          · rintro (e | ⟨e1, e2⟩)
            · exact ⟨h9, Or.inl ⟨e, rfl⟩⟩
            · exact ⟨h9, Or.inr e2⟩
          · rintro ⟨e1, ⟨e2, -⟩ | e2⟩
            · exact Or.inl e2
            · exact Or.inr ⟨e1, e2⟩
        · rw [va_up_ne _ _ hz, c7.1]
          constructor
          · rintro ⟨e1, e2⟩; exact ⟨e1, Or.inr e2⟩
          · rintro ⟨e1, ⟨-, e2⟩ | e2⟩
            · exact absurd e2 hz
            · exact ⟨e1, e2⟩
      · rw [if_neg h9, c7.1]
        constructor
        · rintro ⟨e1, e2⟩; exact ⟨e1, Or.inr e2⟩
        · rintro ⟨e1, ⟨-, e2⟩ | e2⟩
          · exact absurd e1 (by omega)
          · exact ⟨e1, e2⟩
    · intro z
      have hJ : ∀ a ∈ rows z, S1.J 0 a = S.J 0 a := fun a ha => hf.2.2.2 a (c4.2.2.2.2.2.2 z a ha).1 0 (fun w => by
        rcases w with ⟨w, -⟩ | ⟨-, w⟩
        · exact absurd w (by decide)
        · exact hnot z (w ▸ ha))
      have hp : (rows z).Pairwise (fun a b => (S1.J 0 b).toInt < (S1.J 0 a).toInt) := by
        refine List.Pairwise.imp_of_mem ?_ (c7.2 z)
        intro a b ha hb hab
        rw [hJ a ha, hJ b hb]; exact hab
      by_cases h9 : 3 ≤ x.2.1
      · rw [if_pos h9]
        by_cases hz : z = x.2.1
        · subst hz
          rw [va_up_self]
          refine List.pairwise_cons.mpr ⟨fun a ha => ?_, hp⟩
          obtain ⟨-, y, hy, e1, -, e3⟩ := (c7.1 _ a).mp ha
          obtain ⟨q, hq⟩ := q_pcs_mem c1.2.2.2.2.1 hy
          have e4 := hq.2.2.2.2.2 e3
          have e5 := c8 y hy e3
          rw [hJ a ha, ← e1, e4, h4, q_lI (by omega), q_lI (by omega)]
          omega
        · rw [va_up_ne _ _ hz]; exact hp
      · rw [if_neg h9]; exact hp
  · intro y hy
    rcases (q_mem_mid (x := x) y).mp hy with rfl | hy
    · intro _; exact Nat.lt_succ_self _
    · intro e; exact Nat.lt_succ_of_lt (c8 y ((q_mem_mid (x := x) y).mpr (Or.inr hy)) e)
