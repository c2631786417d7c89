/-! THE SHELVES: rows z: the free pieces of z cells, the latest first -/
def q_row (S : qS) (rows : Nat → List Nat) (z r : Nat) : Prop := r ∈ S.L ∧ S.K r = 1 ∧ S.I 4 r = nI z ∧ z < 2 ^ 31 ∧ q_ch (S.R 1) (S.R 2 r) (rows z)
def q_sh (S : qS) (h ar t : Nat) (ns : List Nat) (rows : Nat → List Nat) : Prop :=
  (h ∈ S.L ∧ S.K h = 2 ∧ S.R 5 h = some ar ∧ S.R 6 h = some t) ∧ (ar ∈ S.L ∧ S.K ar = 7 ∧ S.N ar = 61) ∧ (∀ i, i < 61 → ∃ r, S.B ar i = some r ∧ q_row S rows (i + 3) r) ∧ q_tree S t ns ∧
  (∀ r ∈ ns, ∃ z, 64 ≤ z ∧ q_row S rows z r) ∧ (∀ z, 64 ≤ z → rows z ≠ [] → ∃ r ∈ ns, q_row S rows z r) ∧ (∀ z, ∀ p ∈ rows z, p ∈ S.L ∧ S.K p = 0 ∧ S.I 1 p = nI z ∧ z < 2 ^ 31)
theorem q_so_inj {z : Nat → Int} : ∀ {ns : List Nat} {a b : Nat}, q_so z ns → a ∈ ns → b ∈ ns → z a = z b → a = b := by
  intro ns
  induction ns with
  | nil => intro a b _ h; cases h
  | cons c t ih =>
    intro a b h ha hb e
    have h1 := List.pairwise_cons.mp h
    rcases List.mem_cons.mp ha with ea | ha2
    · rcases List.mem_cons.mp hb with eb | hb2
      · rw [ea, eb]
      · have := h1.1 b hb2; rw [ea] at e; omega
    · rcases List.mem_cons.mp hb with eb | hb2
      · have := h1.1 a ha2; rw [eb] at e; omega
      · exact ih h1.2 ha2 hb2 e
theorem q_row_one {S : qS} {rows rows' : Nat → List Nat} {z z' r : Nat} (h : q_row S rows z r) (h' : q_row S rows' z' r) : z = z' := (nI_eq h.2.2.2.1 h'.2.2.2.1).mp (h.2.2.1.symm.trans h'.2.2.1)
theorem q_row_z {S : qS} {rows : Nat → List Nat} {z r : Nat} (h : q_row S rows z r) : q_z S r = z := by
  show (S.I 4 r).toInt = _
  rw [h.2.2.1]
  exact nI_toInt h.2.2.2.1
theorem q_tree_fr {S S' : qS} {t : Nat} {ns : List Nat} {cI cR cJ : Nat → Nat → Prop} (h : q_tree S t ns) (hf : q_fr S S' cI cR cJ) (hI : ∀ a, ¬ cI 4 a) (hR : ∀ a, ¬ cR 3 a ∧ ¬ cR 4 a ∧ ¬ cR 7 a) : q_tree S' t ns := by
  obtain ⟨h1, h2, ⟨k, h3⟩, h4, h5⟩ := h
  refine ⟨(hf.1 t h1).1, (hf.1 t h1).2.1.trans h2, ⟨k, ?_⟩, fun a ha => ⟨(hf.1 a (h4 a ha).1).1, (hf.1 a (h4 a ha).1).2.1.trans (h4 a ha).2⟩, ?_⟩
  · rw [hf.2.2.1 t h1 7 (hR t).2.2]
    exact q_bt_congr (fun a ha => ⟨hf.2.2.1 a (h4 a ha).1 3 (hR a).1, hf.2.2.1 a (h4 a ha).1 4 (hR a).2.1⟩) h3
  · refine List.Pairwise.imp_of_mem ?_ h5
    intro a b ha hb hab
    show (S'.I 4 a).toInt < (S'.I 4 b).toInt
    rw [hf.2.1 a (h4 a ha).1 4 (hI a), hf.2.1 b (h4 b hb).1 4 (hI b)]
    exact hab
theorem q_row_fr {S S' : qS} {rows rows' : Nat → List Nat} {z r : Nat} {cI cR cJ : Nat → Nat → Prop} (h : q_row S rows z r) (hf : q_fr S S' cI cR cJ) (hI : ¬ cI 4 r) (hR2 : ¬ cR 2 r) (hR1 : ∀ p ∈ rows z, p ∈ S.L ∧ ¬ cR 1 p) (hrw : rows' z = rows z) : q_row S' rows' z r := by
  obtain ⟨h1, h2, h3, h4, h5⟩ := h
  refine ⟨(hf.1 r h1).1, (hf.1 r h1).2.1.trans h2, (hf.2.1 r h1 4 hI).trans h3, h4, ?_⟩
  rw [hrw, hf.2.2.1 r h1 2 hR2]
  exact q_ch_congr (fun p hp => hf.2.2.1 p (hR1 p hp).1 1 (hR1 p hp).2) h5
/-- nothing of the shelves was touched -/
theorem q_sh_fr {S S' : qS} {h ar t : Nat} {ns : List Nat} {rows : Nat → List Nat} {cI cR cJ : Nat → Nat → Prop} (hs : q_sh S h ar t ns rows) (hf : q_fr S S' cI cR cJ) (hI4 : ∀ a, ¬ cI 4 a) (hI1 : ∀ z, ∀ p ∈ rows z, ¬ cI 1 p)
    (hR : ∀ a, ¬ cR 5 a ∧ ¬ cR 6 a ∧ ¬ cR 3 a ∧ ¬ cR 4 a ∧ ¬ cR 7 a ∧ ¬ cR 2 a) (hR1 : ∀ z, ∀ p ∈ rows z, ¬ cR 1 p) : q_sh S' h ar t ns rows := by
  obtain ⟨⟨a1, a2, a3, a4⟩, ⟨b1, b2, b3⟩, c1, d1, e1, f1, g1⟩ := hs
  have rw1 : ∀ z r, q_row S rows z r → q_row S' rows z r := fun z r hr => q_row_fr hr hf (hI4 r) (hR r).2.2.2.2.2 (fun p hp => ⟨(g1 z p hp).1, hR1 z p hp⟩) rfl
  refine ⟨⟨(hf.1 h a1).1, (hf.1 h a1).2.1.trans a2, (hf.2.2.1 h a1 5 (hR h).1).trans a3, (hf.2.2.1 h a1 6 (hR h).2.1).trans a4⟩, ⟨(hf.1 ar b1).1, (hf.1 ar b1).2.1.trans b2, (hf.1 ar b1).2.2.1.trans b3⟩, fun i hi => ?_, q_tree_fr d1 hf hI4 (fun a => ⟨(hR a).2.2.1, (hR a).2.2.2.1, (hR a).2.2.2.2.1⟩), fun r hr => ?_, fun z hz hne => ?_, fun z p hp => ?_⟩
  · obtain ⟨r, h1, h2⟩ := c1 i hi
    exact ⟨r, by rw [(hf.1 ar b1).2.2.2.2]; exact h1, rw1 _ r h2⟩
  · obtain ⟨z, h1, h2⟩ := e1 r hr
    exact ⟨z, h1, rw1 z r h2⟩
  · obtain ⟨r, h1, h2⟩ := f1 z hz hne
    exact ⟨r, h1, rw1 z r h2⟩
  · obtain ⟨h1, h2, h3, h4⟩ := g1 z p hp
    exact ⟨(hf.1 p h1).1, (hf.1 p h1).2.1.trans h2, (hf.2.1 p h1 1 (hI1 z p hp)).trans h3, h4⟩
/-- one row was changed -/
theorem q_sh_up {S S' : qS} {h ar t : Nat} {ns : List Nat} {rows : Nat → List Nat} {cI cR cJ : Nat → Nat → Prop} (hs : q_sh S h ar t ns rows) (hf : q_fr S S' cI cR cJ) {z0 r0 : Nat} {new : List Nat} (hr0 : q_row S rows z0 r0) (hI4 : ∀ a, ¬ cI 4 a) (hI1 : ∀ z, z ≠ z0 → ∀ p ∈ rows z, ¬ cI 1 p)
    (hR : ∀ a, ¬ cR 5 a ∧ ¬ cR 6 a ∧ ¬ cR 3 a ∧ ¬ cR 4 a ∧ ¬ cR 7 a) (hR2 : ∀ a, cR 2 a → a = r0) (hR1 : ∀ z, z ≠ z0 → ∀ p ∈ rows z, ¬ cR 1 p) (hch : q_ch (S'.R 1) (S'.R 2 r0) new) (hnew : ∀ p ∈ new, p ∈ S'.L ∧ S'.K p = 0 ∧ S'.I 1 p = nI z0) (hlo : z0 < 64 → S.B ar (z0 - 3) = some r0) (hhi : 64 ≤ z0 → r0 ∈ ns) : q_sh S' h ar t ns (va_up rows z0 new) := by
  obtain ⟨⟨a1, a2, a3, a4⟩, ⟨b1, b2, b3⟩, c1, d1, e1, f1, g1⟩ := hs
  have hr0' : q_row S' (va_up rows z0 new) z0 r0 := ⟨(hf.1 r0 hr0.1).1, (hf.1 r0 hr0.1).2.1.trans hr0.2.1, (hf.2.1 r0 hr0.1 4 (hI4 r0)).trans hr0.2.2.1, hr0.2.2.2.1, by rw [va_up_self]; exact hch⟩
  have rw1 : ∀ z r, z ≠ z0 → q_row S rows z r → q_row S' (va_up rows z0 new) z r := fun z r hz hr => q_row_fr hr hf (hI4 r) (fun hc => hz (by have e := hR2 r hc; subst e; exact q_row_one hr hr0)) (fun p hp => ⟨(g1 z p hp).1, hR1 z hz p hp⟩) (va_up_ne _ _ hz)
  refine ⟨⟨(hf.1 h a1).1, (hf.1 h a1).2.1.trans a2, (hf.2.2.1 h a1 5 (hR h).1).trans a3, (hf.2.2.1 h a1 6 (hR h).2.1).trans a4⟩, ⟨(hf.1 ar b1).1, (hf.1 ar b1).2.1.trans b2, (hf.1 ar b1).2.2.1.trans b3⟩, fun i hi => ?_, q_tree_fr d1 hf hI4 (fun a => ⟨(hR a).2.2.1, (hR a).2.2.2.1, (hR a).2.2.2.2⟩), fun r hr => ?_, fun z hz hne => ?_, fun z p hp => ?_⟩
  · obtain ⟨r, h1, h2⟩ := c1 i hi
    refine ⟨r, by rw [(hf.1 ar b1).2.2.2.2]; exact h1, ?_⟩
    by_cases hz : i + 3 = z0
    · have hrr : r = r0 := by
        have h3 := hlo (by omega)
        rw [← hz, Nat.add_sub_cancel] at h3
        exact Option.some.inj (h1.symm.trans h3)
      rw [hz, hrr]; exact hr0'
    · exact rw1 _ r hz h2
  · obtain ⟨z, h1, h2⟩ := e1 r hr
    by_cases hz : z = z0
    · have hrr : r = r0 := q_so_inj d1.2.2.2.2 hr (hhi (hz ▸ h1)) (by rw [q_row_z h2, q_row_z hr0, hz])
      exact ⟨z0, hz ▸ h1, by rw [hrr]; exact hr0'⟩
    · exact ⟨z, h1, rw1 z r hz h2⟩
  · by_cases hz0 : z = z0
    · subst hz0
      rw [va_up_self] at hne
      exact ⟨r0, hhi hz, hr0'⟩
    · rw [va_up_ne _ _ hz0] at hne
      obtain ⟨r, h1, h2⟩ := f1 z hz hne
      exact ⟨r, h1, rw1 z r hz0 h2⟩
  · by_cases hz0 : z = z0
    · subst hz0
      rw [va_up_self] at hp
      obtain ⟨h1, h2, h3⟩ := hnew p hp
      exact ⟨h1, h2, h3, hr0.2.2.2.1⟩
    · rw [va_up_ne _ _ hz0] at hp
      obtain ⟨h1, h2, h3, h4⟩ := g1 z p hp
      exact ⟨(hf.1 p h1).1, (hf.1 p h1).2.1.trans h2, (hf.2.1 p h1 1 (hI1 z hz0 p hp)).trans h3, h4⟩
/-- the tree was changed -/
theorem q_sh_tree {S S' : qS} {h ar t : Nat} {ns ns' : List Nat} {rows : Nat → List Nat} (hs : q_sh S h ar t ns rows) (hf : q_fr S S' q_c0 q_cT q_c0) (ht : q_tree S' t ns') (h1 : ∀ r ∈ ns', ∃ z, 64 ≤ z ∧ q_row S' rows z r) (h2 : ∀ z, 64 ≤ z → rows z ≠ [] → ∃ r ∈ ns', q_row S' rows z r) : q_sh S' h ar t ns' rows := by
  obtain ⟨⟨a1, a2, a3, a4⟩, ⟨b1, b2, b3⟩, c1, d1, e1, f1, g1⟩ := hs
  have nT : ∀ j a, j ≠ 3 → j ≠ 4 → j ≠ 7 → ¬ q_cT j a := fun j a h3 h4 h7 hc => by rcases hc with h | h | h; exact h3 h; exact h4 h; exact h7 h
  refine ⟨⟨(hf.1 h a1).1, (hf.1 h a1).2.1.trans a2, (hf.2.2.1 h a1 5 (nT 5 h (by decide) (by decide) (by decide))).trans a3, (hf.2.2.1 h a1 6 (nT 6 h (by decide) (by decide) (by decide))).trans a4⟩, ⟨(hf.1 ar b1).1, (hf.1 ar b1).2.1.trans b2, (hf.1 ar b1).2.2.1.trans b3⟩, fun i hi => ?_, ht, h1, h2, fun z p hp => ?_⟩
  · obtain ⟨r, g2, g3⟩ := c1 i hi
    exact ⟨r, by rw [(hf.1 ar b1).2.2.2.2]; exact g2, q_row_fr g3 hf (fun z => z) (nT 2 r (by decide) (by decide) (by decide)) (fun p hp => ⟨(g1 _ p hp).1, nT 1 p (by decide) (by decide) (by decide)⟩) rfl⟩
  · obtain ⟨g2, g3, g4, g5⟩ := g1 z p hp
    exact ⟨(hf.1 p g2).1, (hf.1 p g2).2.1.trans g3, (hf.2.1 p g2 1 (fun z => z)).trans g4, g5⟩
