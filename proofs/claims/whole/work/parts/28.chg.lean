theorem q_IR (S : qS) (k a : Nat) (v : Option Nat) : (S.sR k a v).I = S.I := rfl
theorem q_RI (S : qS) (k a : Nat) (v : Int32) : (S.sI k a v).R = S.R := rfl
theorem q_LR (S : qS) (k a : Nat) (v : Option Nat) : (S.sR k a v).L = S.L := rfl
theorem q_LI (S : qS) (k a : Nat) (v : Int32) : (S.sI k a v).L = S.L := rfl
theorem q_KR (S : qS) (k a : Nat) (v : Option Nat) : (S.sR k a v).K = S.K := rfl
theorem q_KI (S : qS) (k a : Nat) (v : Int32) : (S.sI k a v).K = S.K := rfl
theorem q_ch_ins {f f' : Nat → Option Nat} {p q : Nat} {lB : List Nat} : ∀ {lA : List Nat} {o : Option Nat}, q_ch f o (lA ++ p :: lB) → (∀ a ∈ lA ++ lB, f' a = f a) → f' p = some q → f' q = f p → q_ch f' o (lA ++ p :: q :: lB) := by
  intro lA
  induction lA with
  | nil =>
    intro o h hs h1 h2
    exact ⟨h.1, h1, by rw [h2]; exact q_ch_congr (fun a ha => hs a (by simpa using ha)) h.2⟩
  | cons b t ih =>
    intro o h hs h1 h2
    refine ⟨h.1, ?_⟩
    rw [hs b (by simp)]
    exact ih h.2 (fun a ha => hs a (by simp only [List.cons_append, List.mem_cons]; exact Or.inr ha)) h1 h2
theorem q_ch_del {f f' : Nat → Option Nat} {p q : Nat} {lB : List Nat} : ∀ {lA : List Nat} {o : Option Nat}, q_ch f o (lA ++ p :: q :: lB) → (∀ a ∈ lA ++ lB, f' a = f a) → f' p = f q → q_ch f' o (lA ++ p :: lB) := by
  intro lA
  induction lA with
  | nil =>
    intro o h hs h1
    exact ⟨h.1, by rw [h1]; exact q_ch_congr (fun a ha => hs a (by simpa using ha)) h.2.2⟩
  | cons b t ih =>
    intro o h hs h1
    refine ⟨h.1, ?_⟩
    rw [hs b (by simp)]
    exact ih h.2 (fun a ha => hs a (by simp only [List.cons_append, List.mem_cons]; exact Or.inr ha)) h1
theorem q_ch_at {f : Nat → Option Nat} {p : Nat} {lB : List Nat} : ∀ {lA : List Nat} {o : Option Nat}, q_ch f o (lA ++ p :: lB) → q_ch f (f p) lB := by
  intro lA
  induction lA with
  | nil => intro o h; exact h.2
  | cons b t ih => intro o h; exact ih h.2
/-- rows hold free pieces alone -/
theorem q_C_used {S : qS} {c n fails now : Nat} {A B : List q_X} {x : q_X} {h ar t : Nat} {ns : List Nat} {rows : Nat → List Nat} (hC : q_C S c n fails now (A ++ x :: B) h ar t ns rows) (hx : x.2.2.1 = false) : ∀ z, x.1 ∉ rows z := by
  obtain ⟨c1, -, -, -, -, -, c7, -⟩ := hC
  have hnd := q_nd_mid (q_line_nd c1)
  intro z hz
  obtain ⟨-, y, hy, e1, -, e3⟩ := (c7.1 z x.1).mp hz
  rcases (q_mem_mid (x := x) y).mp hy with rfl | hy
  · rw [hx] at e3; exact nomatch e3
  · exact hnd y hy e1
theorem q_C_cut {S S6 : qS} {c n fails now : Nat} {A B : List q_X} {p q z s t9 : Nat} {h ar t : Nat} {ns : List Nat} {rows : Nat → List Nat} (hC : q_C S c n fails now (A ++ (p, z, false, t9) :: B) h ar t ns rows) (hs1 : 1 ≤ s) (hs2 : s < z) (hq : q ∉ S.L)
    (hS6 : S6 = ((q_pcn S q (nI (1 + q_sz A) + nI s) (nI z - nI s) (S.R 0 p)).sI 1 p (nI s)).sR 0 p (some q)) : q_C S6 c n fails now (A ++ (p, s, false, t9) :: (q, z - s, false, 0) :: B) h ar t ns rows ∧ q_fr S S6 (fun j x => j = 1 ∧ x = p) (fun j x => j = 0 ∧ x = p) q_c0 := by
  have hnot := q_C_used hC rfl
  obtain ⟨c1, c2, c3, c4, c5, c6, c7, c8, c9, c10⟩ := hC
  have hnd := q_nd_mid (q_line_nd c1)
  obtain ⟨h1, h2, h3, h4, h5, h6, h7, h8⟩ := c1
  obtain ⟨hfq, hq1, hq2, hq3, hq4, hq5, hq6⟩ := q_fresh (A := S) (q := q) (a := nI (1 + q_sz A) + nI s) (n := nI z - nI s) (b := S.R 0 p) hq
  obtain ⟨hA, hx, hB⟩ := q_pcs_app.mp h5
  obtain ⟨g1, g2, g3, g4, g5, -⟩ := hx
  have hqp : q ≠ p := fun e => hq (e ▸ g1)
  have hf : q_fr S S6 (fun j x => j = 1 ∧ x = p) (fun j x => j = 0 ∧ x = p) q_c0 := by
    rw [hS6]
    exact q_fr_R (q_fr_I (q_fr_mo hfq (fun _ _ z => z.elim) (fun _ _ z => z.elim) (fun _ _ z => z)) (Or.inl ⟨rfl, rfl⟩)) (Or.inl ⟨rfl, rfl⟩)
  have hmem : ∀ y ∈ A ++ (p, z, false, t9) :: B, y.1 ∈ S.L := fun y hy => by obtain ⟨a, ha⟩ := q_pcs_mem h5 hy; exact ha.1
  have k1 : S6.I 1 p = nI s := by rw [hS6, q_IR]; exact qI_self _ _ _ _
  have k2 : S6.R 0 p = some q := by rw [hS6]; exact qR_self _ _ _ _
  have k3 : S6.R 0 q = S.R 0 p := by rw [hS6, qR_ne _ _ _ _ hqp, q_RI]; exact hq6
  have k4 : S6.I 0 q = nI (1 + q_sz A + s) := by rw [hS6, q_IR, qI_ne _ _ _ _ hqp, hq3, nI_add]
  have k5 : S6.I 1 q = nI (z - s) := by rw [hS6, q_IR, qI_ne _ _ _ _ hqp, hq4, pk_sub (by omega)]
  have k6 : S6.I 2 q = 0 := by rw [hS6, q_IR, qI_ne _ _ _ _ hqp, hq5]
  have k7 : q ∈ S6.L ∧ S6.K q = 0 := by rw [hS6, q_LR, q_LI, q_KR, q_KI]; exact ⟨hq1, hq2⟩
  have hn : ∀ y ∈ A ++ B, ¬ (0 = 1 ∧ y.1 = p) ∧ ¬ (1 = 1 ∧ y.1 = p) ∧ ¬ (2 = 1 ∧ y.1 = p) ∧ ¬ False := fun y hy => ⟨fun e => absurd e.1 (by decide), fun e => hnd y hy e.2, fun e => absurd e.1 (by decide), id⟩
  have hsz0 : q_sz A + (z + q_sz B) = n := by rw [← h6, q_sz_app]; rfl
  refine ⟨⟨⟨(hf.1 c h1).1, (hf.1 c h1).2.1.trans h2, (hf.2.1 c h1 5 (fun e => absurd e.1 (by decide))).trans h3, ?_, q_pcs_app.mpr ⟨q_pcs_fr hf hA (fun y hy => hn y (List.mem_append_left _ hy)), ⟨(hf.1 p g1).1, (hf.1 p g1).2.1.trans g2, (hf.2.1 p g1 0 (fun e => absurd e.1 (by decide))).trans g3, k1, (hf.2.1 p g1 2 (fun e => absurd e.1 (by decide))).trans g5, fun e => nomatch e⟩, ⟨k7.1, k7.2, k4, k5, k6, fun e => nomatch e⟩, ?_⟩, ?_, h7, fun y hy => ?_⟩, (hf.2.2.1 c h1 8 (fun e => absurd e.1 (by decide))).trans c2, (hf.2.1 c h1 6 (fun e => absurd e.1 (by decide))).trans c3, q_sh_fr c4 hf (fun a e => absurd e.1 (by decide)) (fun y x hx e => hnot y (e.2 ▸ hx)) (fun a => ⟨fun e => absurd e.1 (by decide), fun e => absurd e.1 (by decide), fun e => absurd e.1 (by decide), fun e => absurd e.1 (by decide), fun e => absurd e.1 (by decide), fun e => absurd e.1 (by decide)⟩) (fun y x hx e => absurd e.1 (by decide)), fun r hr => ?_, (hf.2.2.2 h c4.1.1 1 (fun e => e)).trans c6, ⟨fun y a => ?_, fun y => ?_⟩, fun y hy => ?_, c9, c10⟩, hf⟩
  · rw [q_ad_app, hf.2.2.1 c h1 9 (fun e => absurd e.1 (by decide))]
    rw [q_ad_app] at h4
    refine q_ch_ins h4 (fun a ha => ?_) k2 k3
    have : ∃ y ∈ A ++ B, y.1 = a := by
      rcases List.mem_append.mp ha with ha | ha <;> obtain ⟨y, hy, e⟩ := List.mem_map.mp ha
      · exact ⟨y, List.mem_append_left _ hy, e⟩
      · exact ⟨y, List.mem_append_right _ hy, e⟩
    obtain ⟨y, hy, rfl⟩ := this
    exact hf.2.2.1 y.1 (hmem y ((q_mem_mid (x := (p, z, false, t9)) y).mpr (Or.inr hy))) 0 (fun e => hnd y hy e.2)
  · have e9 : 1 + q_sz A + s + (z - s) = 1 + q_sz A + z := by omega
    show q_pcs S6 (1 + q_sz A + s + (z - s)) B
    rw [e9]
    exact q_pcs_fr hf hB (fun y hy => hn y (List.mem_append_right _ hy))
  · rw [q_sz_app]; simp only [q_sz]; omega
  · simp only [List.mem_append, List.mem_cons] at hy
    rcases hy with hy | rfl | rfl | hy
    · exact h8 y (by simp [hy])
    · exact hs1
    · show 1 ≤ z - s; omega
    · exact h8 y (by simp [hy])
  · have := c5 r hr
    have e9 : q_z S6 r = q_z S r := by show (S6.I 4 r).toInt = _; rw [hf.2.1 r (c4.2.2.2.1.2.2.2.1 r hr).1 4 (fun e => absurd e.1 (by decide))]; rfl
    rw [e9]; exact this
  · rw [c7.1]
    have key : (∃ w ∈ A ++ (p, s, false, t9) :: (q, z - s, false, 0) :: B, w.1 = a ∧ w.2.1 = y ∧ w.2.2.1 = true) ↔ (∃ w ∈ A ++ (p, z, false, t9) :: B, w.1 = a ∧ w.2.1 = y ∧ w.2.2.1 = true) := by
      constructor
      · rintro ⟨w, hw, e1, e2, e3⟩
        simp only [List.mem_append, List.mem_cons] at hw
        rcases hw with hw | rfl | rfl | hw
        · exact ⟨w, by simp [hw], e1, e2, e3⟩
        · exact nomatch e3
        · exact nomatch e3
        · exact ⟨w, by simp [hw], e1, e2, e3⟩
      · rintro ⟨w, hw, e1, e2, e3⟩
        simp only [List.mem_append, List.mem_cons] at hw
        rcases hw with hw | rfl | hw
        · exact ⟨w, by simp [hw], e1, e2, e3⟩
        · exact nomatch e3
        · exact ⟨w, by simp [hw], e1, e2, e3⟩
    rw [key]
  · refine List.Pairwise.imp_of_mem ?_ (c7.2 y)
    intro a b ha hb hab
    rw [hf.2.2.2 a (c4.2.2.2.2.2.2 y a ha).1 0 (fun e => e), hf.2.2.2 b (c4.2.2.2.2.2.2 y b hb).1 0 (fun e => e)]
    exact hab
  · simp only [List.mem_append, List.mem_cons] at hy
    rcases hy with hy | rfl | rfl | hy
    · exact c8 y (by simp [hy])
    · intro e; exact nomatch e
    · intro e; exact nomatch e
    · exact c8 y (by simp [hy])
/-- two used neighbours become one -/
theorem q_C_merge {S S6 : qS} {c n fails now : Nat} {A B : List q_X} {p q z s t9 t8 : Nat} {h ar t : Nat} {ns : List Nat} {rows : Nat → List Nat} (hC : q_C S c n fails now (A ++ (p, z, false, t9) :: (q, s, false, t8) :: B) h ar t ns rows)
    (hS6 : S6 = (S.sI 1 p (nI z + nI s)).sR 0 p (S.R 0 q)) : q_C S6 c n fails now (A ++ (p, z + s, false, t9) :: B) h ar t ns rows ∧ q_fr S S6 (fun j x => j = 1 ∧ x = p) (fun j x => j = 0 ∧ x = p) q_c0 := by
  have hnot := q_C_used hC rfl
  obtain ⟨c1, c2, c3, c4, c5, c6, c7, c8, c9, c10⟩ := hC
  have hnd := q_nd_mid (q_line_nd c1)
  obtain ⟨h1, h2, h3, h4, h5, h6, h7, h8⟩ := c1
  obtain ⟨hA, hx, hx2, hB⟩ := q_pcs_app.mp h5
  obtain ⟨g1, g2, g3, g4, g5, -⟩ := hx
  have hf : q_fr S S6 (fun j x => j = 1 ∧ x = p) (fun j x => j = 0 ∧ x = p) q_c0 := by
    rw [hS6]
    exact q_fr_R (q_fr_sI ⟨rfl, rfl⟩) (Or.inl ⟨rfl, rfl⟩)
  have hmem : ∀ y ∈ A ++ (p, z, false, t9) :: (q, s, false, t8) :: B, y.1 ∈ S.L := fun y hy => by obtain ⟨a, ha⟩ := q_pcs_mem h5 hy; exact ha.1
  have k1 : S6.I 1 p = nI (z + s) := by rw [hS6, q_IR]; exact (qI_self S 1 p _).trans (nI_add z s)
  have k2 : S6.R 0 p = S.R 0 q := by rw [hS6]; exact qR_self _ _ _ _
  have hn : ∀ y ∈ A ++ (q, s, false, t8) :: B, ¬ (0 = 1 ∧ y.1 = p) ∧ ¬ (1 = 1 ∧ y.1 = p) ∧ ¬ (2 = 1 ∧ y.1 = p) ∧ ¬ False := fun y hy => ⟨fun e => absurd e.1 (by decide), fun e => hnd y hy e.2, fun e => absurd e.1 (by decide), id⟩
  have hsz0 : q_sz A + (z + (s + q_sz B)) = n := by rw [← h6, q_sz_app]; rfl
  have hz1 : 1 ≤ z := h8 (p, z, false, t9) (by simp)
  refine ⟨⟨⟨(hf.1 c h1).1, (hf.1 c h1).2.1.trans h2, (hf.2.1 c h1 5 (fun e => absurd e.1 (by decide))).trans h3, ?_, q_pcs_app.mpr ⟨q_pcs_fr hf hA (fun y hy => hn y (List.mem_append_left _ hy)), ⟨(hf.1 p g1).1, (hf.1 p g1).2.1.trans g2, (hf.2.1 p g1 0 (fun e => absurd e.1 (by decide))).trans g3, k1, (hf.2.1 p g1 2 (fun e => absurd e.1 (by decide))).trans g5, fun e => nomatch e⟩, ?_⟩, ?_, h7, fun y hy => ?_⟩, (hf.2.2.1 c h1 8 (fun e => absurd e.1 (by decide))).trans c2, (hf.2.1 c h1 6 (fun e => absurd e.1 (by decide))).trans c3, q_sh_fr c4 hf (fun a e => absurd e.1 (by decide)) (fun y x hx e => hnot y (e.2 ▸ hx)) (fun a => ⟨fun e => absurd e.1 (by decide), fun e => absurd e.1 (by decide), fun e => absurd e.1 (by decide), fun e => absurd e.1 (by decide), fun e => absurd e.1 (by decide), fun e => absurd e.1 (by decide)⟩) (fun y x hx e => absurd e.1 (by decide)), fun r hr => ?_, (hf.2.2.2 h c4.1.1 1 (fun e => e)).trans c6, ⟨fun y a => ?_, fun y => ?_⟩, fun y hy => ?_, c9, c10⟩, hf⟩
  · rw [q_ad_app, hf.2.2.1 c h1 9 (fun e => absurd e.1 (by decide))]
    rw [q_ad_app] at h4
    refine q_ch_del (q := q) h4 (fun a ha => ?_) k2
    have : ∃ y ∈ A ++ (q, s, false, t8) :: B, y.1 = a := by
      rcases List.mem_append.mp ha with ha | ha <;> obtain ⟨y, hy, e⟩ := List.mem_map.mp ha
      · exact ⟨y, List.mem_append_left _ hy, e⟩
      · exact ⟨y, List.mem_append_right _ (List.mem_cons_of_mem _ hy), e⟩
    obtain ⟨y, hy, rfl⟩ := this
    exact hf.2.2.1 y.1 (hmem y ((q_mem_mid (x := (p, z, false, t9)) y).mpr (Or.inr hy))) 0 (fun e => hnd y hy e.2)
  · have e9 : 1 + q_sz A + (z + s) = 1 + q_sz A + z + s := by omega
    show q_pcs S6 (1 + q_sz A + (z + s)) B
    rw [e9]
    exact q_pcs_fr hf hB (fun y hy => hn y (List.mem_append_right _ (List.mem_cons_of_mem _ hy)))
  · rw [q_sz_app]; simp only [q_sz]; omega
  · simp only [List.mem_append, List.mem_cons] at hy
    rcases hy with hy | rfl | hy
    · exact h8 y (by simp [hy])
    · show 1 ≤ z + s; omega
    · exact h8 y (by simp [hy])
  · have := c5 r hr
    have e9 : q_z S6 r = q_z S r := by show (S6.I 4 r).toInt = _; rw [hf.2.1 r (c4.2.2.2.1.2.2.2.1 r hr).1 4 (fun e => absurd e.1 (by decide))]; rfl
    rw [e9]; exact this
  · rw [c7.1]
    have key : (∃ w ∈ A ++ (p, z + s, false, t9) :: B, w.1 = a ∧ w.2.1 = y ∧ w.2.2.1 = true) ↔ (∃ w ∈ A ++ (p, z, false, t9) :: (q, s, false, t8) :: B, w.1 = a ∧ w.2.1 = y ∧ w.2.2.1 = true) := by
      constructor
      · rintro ⟨w, hw, e1, e2, e3⟩
        simp only [List.mem_append, List.mem_cons] at hw
        rcases hw with hw | rfl | hw
        · exact ⟨w, by simp [hw], e1, e2, e3⟩
        · exact nomatch e3
        · exact ⟨w, by simp [hw], e1, e2, e3⟩
      · rintro ⟨w, hw, e1, e2, e3⟩
        simp only [List.mem_append, List.mem_cons] at hw
        rcases hw with hw | rfl | rfl | hw
        · exact ⟨w, by simp [hw], e1, e2, e3⟩
        · exact nomatch e3
        · exact nomatch e3
        · exact ⟨w, by simp [hw], e1, e2, e3⟩
    rw [key]
  · refine List.Pairwise.imp_of_mem ?_ (c7.2 y)
    intro a b ha hb hab
    rw [hf.2.2.2 a (c4.2.2.2.2.2.2 y a ha).1 0 (fun e => e), hf.2.2.2 b (c4.2.2.2.2.2.2 y b hb).1 0 (fun e => e)]
    exact hab
  · simp only [List.mem_append, List.mem_cons] at hy
    rcases hy with hy | rfl | hy
    · exact c8 y (by simp [hy])
    · intro e; exact nomatch e
    · exact c8 y (by simp [hy])
