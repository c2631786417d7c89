/-! the class's picture under changes that it doesn't speak of; the misses -/
theorem q_C_fr {S S1 : qS} {c n fails f1 tm : Nat} {P : List q_X} {h ar t : Nat} {ns : List Nat} {rows : Nat → List Nat} {cI cR cJ : Nat → Nat → Prop} (hC : q_C S c n fails tm P h ar t ns rows) (hf : q_fr S S1 cI cR cJ) (hI : ∀ j x, cI j x → j = 3 ∨ (j = 6 ∧ x = c) ∨ 7 ≤ j) (hR : ∀ j x, cR j x → 10 ≤ j) (hJ : ∀ j x, ¬ cJ j x) (h6 : S1.I 6 c = nI f1) : q_C S1 c n f1 tm P h ar t ns rows := by
  obtain ⟨⟨h1, h2, h3, h4, h5, h6', h7, h8⟩, c2, c3, c4, c5, c6, c7, c8, c9, c10⟩ := hC
  have nI : ∀ j, j ≤ 5 → j ≠ 3 → ∀ x, ¬ cI j x := fun j h9 h8 x z => by rcases hI j x z with e | e | e <;> omega
  have nR : ∀ j, j ≤ 9 → ∀ x, ¬ cR j x := fun j h9 x z => absurd (hR j x z) (by omega)
  have hmem : ∀ y ∈ P, y.1 ∈ S.L := fun y hy => by obtain ⟨a, ha⟩ := q_pcs_mem h5 hy; exact ha.1
  refine ⟨⟨(hf.1 c h1).1, (hf.1 c h1).2.1.trans h2, (hf.2.1 c h1 5 (nI 5 (by decide) (by decide) c)).trans h3, ?_, q_pcs_fr hf h5 (fun y _ => ⟨nI 0 (by decide) (by decide) _, nI 1 (by decide) (by decide) _, nI 2 (by decide) (by decide) _, hJ _ _⟩), h6', h7, h8⟩,
    (hf.2.2.1 c h1 8 (nR 8 (by decide) _)).trans c2, h6, q_sh_fr c4 hf (fun a => nI 4 (by decide) (by decide) a) (fun _ p _ => nI 1 (by decide) (by decide) p) (fun a => ⟨nR 5 (by decide) _, nR 6 (by decide) _, nR 3 (by decide) _, nR 4 (by decide) _, nR 7 (by decide) _, nR 2 (by decide) _⟩) (fun _ p _ => nR 1 (by decide) p), fun r hr => ?_, (hf.2.2.2 h c4.1.1 1 (hJ _ _)).trans c6, ⟨c7.1, fun z => ?_⟩, c8, c9, c10⟩
  · rw [hf.2.2.1 c h1 9 (nR 9 (by decide) _)]
    refine q_ch_congr (fun a ha => ?_) h4
    obtain ⟨y, hy, rfl⟩ := List.mem_map.mp ha
    exact hf.2.2.1 y.1 (hmem y hy) 0 (nR 0 (by decide) _)
  · have := c5 r hr
    have e9 : q_z S1 r = q_z S r := by show (S1.I 4 r).toInt = _; rw [hf.2.1 r (c4.2.2.2.1.2.2.2.1 r hr).1 4 (nI 4 (by decide) (by decide) r)]; rfl
    rw [e9]; exact this
  · refine List.Pairwise.imp_of_mem ?_ (c7.2 z)
    intro a b ha hb hab
    rw [hf.2.2.2 a (c4.2.2.2.2.2.2 z a ha).1 0 (hJ _ _), hf.2.2.2 b (c4.2.2.2.2.2.2 z b hb).1 0 (hJ _ _)]
    exact hab
theorem q_C_miss {S : qS} {c n fails tm : Nat} {P : List q_X} {h ar t : Nat} {ns : List Nat} {rows : Nat → List Nat} (hC : q_C S c n fails tm P h ar t ns rows) : q_C (S.sI 6 c (nI fails + 1)) c n (fails + 1) tm P h ar t ns rows ∧ q_fk S (S.sI 6 c (nI fails + 1)) := by
  refine ⟨q_C_fr (cI := fun j x => j = 6 ∧ x = c) (cR := q_c0) (cJ := q_c0) hC (q_fr_sI ⟨rfl, rfl⟩) (fun j x z => Or.inr (Or.inl z)) (fun _ _ z => z.elim) (fun _ _ z => z) ((qI_self _ _ _ _).trans (nI_1 fails)), q_fr_sI (Nat.le_of_ble_eq_true rfl)⟩
/-! THE BEST PIECE: the smallest that suffices, the latest among those -/
def v_isb (z : Nat) (A : v_V) (x : Nat × Bool × Nat) (B : v_V) : Prop := x.2.1 = true ∧ z ≤ x.1 ∧ ∀ y ∈ A ++ B, y.2.1 = true → z ≤ y.1 → x.1 < y.1 ∨ (x.1 = y.1 ∧ y.2.2 < x.2.2)
def v_non (z : Nat) (V : v_V) : Prop := ∀ y ∈ V, y.2.1 = true → y.1 < z
theorem q_C_J {S : qS} {c n fails tm : Nat} {P : List q_X} {h ar t : Nat} {ns : List Nat} {rows : Nat → List Nat} (hC : q_C S c n fails tm P h ar t ns rows) {x : q_X} (hx : x ∈ P) (hfr : x.2.2.1 = true) : (S.J 0 x.1).toInt = x.2.2.2 + 1 := by
  obtain ⟨⟨-, -, -, -, h5, -⟩, -, -, -, -, -, -, c8, c9, -⟩ := hC
  obtain ⟨a, -, -, -, -, -, ha⟩ := q_pcs_mem h5 hx
  have := c8 x hx hfr
  rw [ha hfr, q_lI (by omega)]
  omega
theorem q_nd_eq {P : List q_X} (h : (q_ad P).Nodup) {x y : q_X} (hx : x ∈ P) (hy : y ∈ P) (e : x.1 = y.1) : x = y := by
  obtain ⟨A, B, rfl⟩ := List.append_of_mem hx
  rcases (q_mem_mid (x := x) y).mp hy with h1 | h1
  · exact h1.symm
  · exact absurd e.symm (q_nd_mid h y h1)
theorem q_best {S : qS} {c n fails tm : Nat} {P : List q_X} {h ar t : Nat} {ns : List Nat} {rows : Nat → List Nat} (hC : q_C S c n fails tm P h ar t ns rows) {z z1 a : Nat} {u : List Nat} (hz : 3 ≤ z) (h1 : z ≤ z1) (hr : rows z1 = a :: u) (hno : ∀ y, z ≤ y → y < z1 → rows y = []) :
    ∃ A x B, P = A ++ x :: B ∧ x.1 = a ∧ x.2.2.1 = true ∧ x.2.1 = z1 ∧ v_isb z (q_vl A) x.2 (q_vl B) := by
  have c7 := hC.2.2.2.2.2.2.1
  have hnd := q_line_nd hC.1
  obtain ⟨-, x, hx, e1, e2, e3⟩ := (c7.1 z1 a).mp (by rw [hr]; exact List.mem_cons_self)
  obtain ⟨A, B, rfl⟩ := List.append_of_mem hx
  refine ⟨A, x, B, rfl, e1, e3, e2, e3, by rw [e2]; exact h1, ?_⟩
  intro y9 hy9 hf hs
  obtain ⟨y, hy, rfl⟩ : ∃ y ∈ A ++ B, y.2 = y9 := by
    rcases List.mem_append.mp hy9 with hy9 | hy9 <;> obtain ⟨y, hy, e⟩ := List.mem_map.mp hy9
    · exact ⟨y, List.mem_append_left _ hy, e⟩
    · exact ⟨y, List.mem_append_right _ hy, e⟩
  have hyP : y ∈ A ++ x :: B := (q_mem_mid (x := x) y).mpr (Or.inr hy)
  have hin : y.1 ∈ rows y.2.1 := (c7.1 _ _).mpr ⟨by omega, y, hyP, rfl, rfl, hf⟩
  rcases Nat.lt_trichotomy y.2.1 z1 with h2 | h2 | h2
  · rw [hno _ hs h2] at hin; cases hin
  · refine Or.inr ⟨by rw [e2]; exact h2.symm, ?_⟩
    rw [h2, hr] at hin
    have hne : y.1 ≠ a := fun e => q_nd_mid hnd y hy (e.trans e1.symm)
    have hu : y.1 ∈ u := by
      rcases List.mem_cons.mp hin with e | e
      · exact absurd e hne
      · exact e
    have hp := c7.2 z1
    rw [hr] at hp
    have := (List.pairwise_cons.mp hp).1 y.1 hu
    rw [q_C_J hC hyP hf, ← e1, q_C_J hC hx e3] at this
    omega
  · exact Or.inl (by rw [e2]; exact h2)
theorem q_none {S : qS} {c n fails tm : Nat} {P : List q_X} {h ar t : Nat} {ns : List Nat} {rows : Nat → List Nat} (hC : q_C S c n fails tm P h ar t ns rows) {z : Nat} (hz : 3 ≤ z) (hno : ∀ y, z ≤ y → rows y = []) : v_non z (q_vl P) := by
  intro y9 hy9 hf
  obtain ⟨y, hy, rfl⟩ := List.mem_map.mp hy9
  rcases Nat.lt_or_ge y.2.1 z with h1 | h1
  · exact h1
  · have := (hC.2.2.2.2.2.2.1.1 y.2.1 y.1).mpr ⟨by omega, y, hy, rfl, rfl, hf⟩
    rw [hno _ h1] at this
    cases this
