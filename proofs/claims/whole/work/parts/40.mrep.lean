/-! THE REFERENCE: its two arrays say the same values -/
theorem q_upd_eq (f : Nat → Int32) (k : Nat) (x : Int32) : upd f k x k = x := if_pos rfl
theorem q_upd_ne (f : Nat → Int32) (k : Nat) (x : Int32) {j : Nat} (h : j ≠ k) : upd f k x j = f j := if_neg h
def v_sg (v : Nat × Bool × Nat) : Int32 := if v.2.1 = true then -nI v.1 else nI v.1
def q_ms (f g : Nat → Int32) : Nat → v_V → Prop
  | _, [] => True
  | a, v :: V => f a = v_sg v ∧ (∀ i, a < i → i < a + v.1 → f i = 0) ∧ (v.2.1 = true → g a = nI v.2.2) ∧ q_ms f g (a + v.1) V
theorem q_ms_app {f g : Nat → Int32} : ∀ {A B : v_V} {a : Nat}, q_ms f g a (A ++ B) ↔ q_ms f g a A ∧ q_ms f g (a + v_sz A) B := by
  intro A
  induction A with
  | nil => intro B a; simp [q_ms, v_sz]
  | cons x A ih => intro B a; simp only [List.cons_append, q_ms, v_sz, ih, and_assoc, Nat.add_assoc]
theorem q_ms_congr {f g f' g' : Nat → Int32} : ∀ {V : v_V} {a : Nat}, (∀ i, a ≤ i → i < a + v_sz V → f' i = f i ∧ g' i = g i) → (∀ v ∈ V, 1 ≤ v.1) → q_ms f g a V → q_ms f' g' a V := by
  intro V
  induction V with
  | nil => intro a _ _ _; trivial
  | cons v V ih =>
    intro a h hp hm
    simp only [v_sz] at h
    have hv := hp v List.mem_cons_self
    refine ⟨by rw [(h a (Nat.le_refl _) (by omega)).1]; exact hm.1, fun i h1 h2 => by rw [(h i (by omega) (by omega)).1]; exact hm.2.1 i h1 h2, fun e => by rw [(h a (Nat.le_refl _) (by omega)).2]; exact hm.2.2.1 e, ih (fun i h1 h2 => h i (by omega) (by omega)) (fun x hx => hp x (List.mem_cons_of_mem _ hx)) hm.2.2.2⟩
/-- the reference's object and arrays -/
def q_Mb (S : qS) (m sz ti n : Nat) : Prop := (m ∈ S.L ∧ S.K m = 5 ∧ S.R 10 m = some sz ∧ S.R 11 m = some ti) ∧ (sz ∈ S.L ∧ S.K sz = 6 ∧ S.N sz = 16385) ∧ (ti ∈ S.L ∧ S.K ti = 6 ∧ S.N ti = 16385) ∧ sz ≠ ti ∧ S.I 8 m = nI n
def v_ok (n tm : Nat) (V : v_V) : Prop := v_sz V = n ∧ 1 ≤ n ∧ n ≤ 16384 ∧ (∀ v ∈ V, 1 ≤ v.1) ∧ (∀ v ∈ V, v.2.1 = true → v.2.2 < tm) ∧ 1 ≤ tm ∧ tm < 2 ^ 30
def q_M (S : qS) (m sz ti n fails tm : Nat) (V : v_V) : Prop := q_Mb S m sz ti n ∧ S.I 9 m = nI (tm - 1) ∧ S.I 10 m = nI fails ∧ v_ok n tm V ∧ q_ms (S.A sz) (S.A ti) 1 V
/-- what the reference may change -/
def q_gr (S S1 : qS) : Prop := S1.L = S.L ∧ S1.K = S.K ∧ S1.R = S.R ∧ S1.J = S.J ∧ S1.N = S.N ∧ S1.B = S.B ∧ ∀ j, j ≤ 6 → S1.I j = S.I j
theorem q_gr_rf {S : qS} : q_gr S S := ⟨rfl, rfl, rfl, rfl, rfl, rfl, fun _ _ => rfl⟩
theorem q_gr_tr {S S1 S2 : qS} (h : q_gr S S1) (h' : q_gr S1 S2) : q_gr S S2 := ⟨h'.1.trans h.1, h'.2.1.trans h.2.1, h'.2.2.1.trans h.2.2.1, h'.2.2.2.1.trans h.2.2.2.1, h'.2.2.2.2.1.trans h.2.2.2.2.1, h'.2.2.2.2.2.1.trans h.2.2.2.2.2.1, fun j hj => (h'.2.2.2.2.2.2 j hj).trans (h.2.2.2.2.2.2 j hj)⟩
theorem q_gr_sI {S S1 : qS} {k a : Nat} {v : Int32} (h : q_gr S S1) (hk : 7 ≤ k) : q_gr S (S1.sI k a v) := q_gr_tr h ⟨rfl, rfl, rfl, rfl, rfl, rfl, fun j hj => qI_of _ _ _ _ (by omega)⟩
theorem q_gr_sA {S S1 : qS} {a i : Nat} {v : Int32} (h : q_gr S S1) : q_gr S (S1.sA a i v) := q_gr_tr h ⟨rfl, rfl, rfl, rfl, rfl, rfl, fun _ _ => rfl⟩
theorem q_pcs_gr {S S1 : qS} (h : q_gr S S1) : ∀ {P : List q_X} {a : Nat}, q_pcs S a P → q_pcs S1 a P := by
  obtain ⟨h1, h2, h3, h4, h5, h6, h7⟩ := h
  intro P
  induction P with
  | nil => intro a _; trivial
  | cons x P ih =>
    intro a hp
    refine ⟨?_, ih hp.2⟩
    have h9 := hp.1
    unfold q_pok at h9 ⊢
    rw [h1, h2, h4, h7 0 (by decide), h7 1 (by decide), h7 2 (by decide)]
    exact h9
theorem q_C_gr {S S1 : qS} {c n fails tm : Nat} {P : List q_X} {h ar t : Nat} {ns : List Nat} {rows : Nat → List Nat} (hC : q_C S c n fails tm P h ar t ns rows) (hg : q_gr S S1) : q_C S1 c n fails tm P h ar t ns rows := by
  have hp := q_pcs_gr (P := P) (a := 1) hg
  obtain ⟨h1, h2, h3, h4, h5, h6, h7⟩ := hg
  have e4 := h7 4 (by decide)
  have ez : q_z S1 = q_z S := by funext a; show (S1.I 4 a).toInt = (S.I 4 a).toInt; rw [e4]
  unfold q_C q_line q_sh q_tree q_ne q_rws q_row at hC ⊢
  rw [h1, h2, h3, h4, h5, h6, h7 5 (by decide), h7 6 (by decide), e4, h7 1 (by decide), ez]
  obtain ⟨⟨c1, c2, c3, c4, c5, c6⟩, c7⟩ := hC
  exact ⟨⟨c1, c2, c3, c4, hp c5, c6⟩, c7⟩
theorem q_CC_gr {S S1 : qS} {c n fails tm : Nat} {P : List q_X} {h ar t : Nat} (hC : q_CC S c n fails tm P h ar t) (hg : q_gr S S1) : q_CC S1 c n fails tm P h ar t := by
  obtain ⟨ns, rows, hC⟩ := hC
  exact ⟨ns, rows, q_C_gr hC hg⟩
theorem q_Mb_gr {S S1 : qS} {m sz ti n : Nat} (hM : q_Mb S m sz ti n) (hg : q_gr S S1) (h8 : S1.I 8 m = S.I 8 m) : q_Mb S1 m sz ti n := by
  obtain ⟨h1, h2, h3, h4, h5, h6, h7⟩ := hg
  unfold q_Mb at hM ⊢
  rw [h1, h2, h3, h5, h8]
  exact hM
theorem q_nkR {j x : Nat} (h : 10 ≤ j) : ¬ q_kR j x := fun z => absurd (show j ≤ 9 from z) (by omega)
theorem q_nkI {j x : Nat} (h : 7 ≤ j) : ¬ q_kI j x := fun z => absurd (show j ≤ 6 from z) (by omega)
/-- the class's calls leave the reference as it was -/
theorem q_Mb_fk {S S1 : qS} {m sz ti n : Nat} (hM : q_Mb S m sz ti n) (hf : q_fk S S1) : q_Mb S1 m sz ti n := by
  obtain ⟨⟨a1, a2, a3, a4⟩, ⟨b1, b2, b3⟩, ⟨c1, c2, c3⟩, d, e⟩ := hM
  exact ⟨⟨(hf.1 m a1).1, (hf.1 m a1).2.1.trans a2, (hf.2.2.1 m a1 10 (q_nkR (by decide))).trans a3, (hf.2.2.1 m a1 11 (q_nkR (by decide))).trans a4⟩, ⟨(hf.1 sz b1).1, (hf.1 sz b1).2.1.trans b2, (hf.1 sz b1).2.2.1.trans b3⟩, ⟨(hf.1 ti c1).1, (hf.1 ti c1).2.1.trans c2, (hf.1 ti c1).2.2.1.trans c3⟩, d, (hf.2.1 m a1 8 (q_nkI (by decide))).trans e⟩
theorem q_M_fk {S S1 : qS} {m sz ti n fails tm : Nat} {V : v_V} (hM : q_M S m sz ti n fails tm V) (hf : q_fk S S1) : q_M S1 m sz ti n fails tm V := by
  obtain ⟨hb, h1, h2, h3, h4⟩ := hM
  refine ⟨q_Mb_fk hb hf, (hf.2.1 m hb.1.1 9 (q_nkI (by decide))).trans h1, (hf.2.1 m hb.1.1 10 (q_nkI (by decide))).trans h2, h3, ?_⟩
  rw [(hf.1 sz hb.2.1.1).2.2.2.1, (hf.1 ti hb.2.2.1.1).2.2.2.1]
  exact h4
theorem q_Mb_ft {S S1 : qS} {m sz ti n : Nat} (hM : q_Mb S m sz ti n) (hf : q_ft S S1) : q_Mb S1 m sz ti n := by
  obtain ⟨⟨a1, a2, a3, a4⟩, ⟨b1, b2, b3⟩, ⟨c1, c2, c3⟩, d, e⟩ := hM
  exact ⟨⟨(hf.1 m a1).1, (hf.1 m a1).2.1.trans a2, (hf.2.2.1 m a1 10 (fun z => absurd (show 12 ≤ 10 from z) (by decide))).trans a3, (hf.2.2.1 m a1 11 (fun z => absurd (show 12 ≤ 11 from z) (by decide))).trans a4⟩, ⟨(hf.1 sz b1).1, (hf.1 sz b1).2.1.trans b2, (hf.1 sz b1).2.2.1.trans b3⟩, ⟨(hf.1 ti c1).1, (hf.1 ti c1).2.1.trans c2, (hf.1 ti c1).2.2.1.trans c3⟩, d, (hf.2.1 m a1 8 (fun z => absurd (show 8 = 3 ∨ 11 ≤ 8 from z) (by decide))).trans e⟩
theorem q_M_ft {S S1 : qS} {m sz ti n fails tm : Nat} {V : v_V} (hM : q_M S m sz ti n fails tm V) (hf : q_ft S S1) : q_M S1 m sz ti n fails tm V := by
  obtain ⟨hb, h1, h2, h3, h4⟩ := hM
  refine ⟨q_Mb_ft hb hf, (hf.2.1 m hb.1.1 9 (fun z => absurd (show 9 = 3 ∨ 11 ≤ 9 from z) (by decide))).trans h1, (hf.2.1 m hb.1.1 10 (fun z => absurd (show 10 = 3 ∨ 11 ≤ 10 from z) (by decide))).trans h2, h3, ?_⟩
  rw [(hf.1 sz hb.2.1.1).2.2.2.1, (hf.1 ti hb.2.2.1.1).2.2.2.1]
  exact h4
theorem q_M_thr {S : qS} {m sz ti n fails tm : Nat} {V : v_V} (hM : q_M S m sz ti n fails tm V) (v : Int32) : q_M (S.sI 7 m v) m sz ti n fails tm V := by
  obtain ⟨hb, h1, h2, h3, h4⟩ := hM
  exact ⟨q_Mb_gr hb (q_gr_sI q_gr_rf (by decide)) (congrFun (qI_of _ _ _ _ (by decide)) m), (congrFun (qI_of _ _ _ _ (by decide)) m).trans h1, (congrFun (qI_of _ _ _ _ (by decide)) m).trans h2, h3, h4⟩
/-- one piece's place in the arrays -/
theorem q_M_at {S : qS} {m sz ti n fails tm : Nat} {A B : v_V} {v : Nat × Bool × Nat} (hM : q_M S m sz ti n fails tm (A ++ v :: B)) : S.A sz (1 + v_sz A) = v_sg v ∧ (∀ i, 1 + v_sz A < i → i < 1 + v_sz A + v.1 → S.A sz i = 0) ∧ (v.2.1 = true → S.A ti (1 + v_sz A) = nI v.2.2) ∧ 1 ≤ v.1 ∧ v_sz A + v.1 + v_sz B = n ∧ n ≤ 16384 := by
  obtain ⟨hb, h1, h2, ⟨h3, h4, h5, h6, -⟩, h7⟩ := hM
  obtain ⟨-, g1, g2, g3, -⟩ := q_ms_app.mp h7
  refine ⟨g1, g2, g3, h6 v (by simp), ?_, h5⟩
  rw [← h3, v_sz_app]; simp only [v_sz]; omega
def v_ln (x : Int32) : Int32 := if 0 ≤ x then x else 0 - x
theorem nI_neg {k : Nat} (h : k < 2 ^ 31) : (-nI k).toInt = -(k : Int) := by
  rw [Int32.toInt_neg, nI_toInt h]
  have : (-(k : Int)).bmod (2 ^ 32) = -(k : Int) := by
    rw [Int.bmod_eq_of_le] <;> omega
  exact this
theorem v_sg_t {v : Nat × Bool × Nat} (h : v.2.1 = true) (hz : v.1 < 2 ^ 31) : (v_sg v).toInt = -(v.1 : Int) := by
  unfold v_sg; rw [if_pos h]; exact nI_neg hz
theorem v_sg_f {v : Nat × Bool × Nat} (h : v.2.1 = false) (hz : v.1 < 2 ^ 31) : (v_sg v).toInt = (v.1 : Int) := by
  unfold v_sg; rw [if_neg (by rw [h]; decide)]; exact nI_toInt hz
theorem v_ln_sg {v : Nat × Bool × Nat} (h1 : 1 ≤ v.1) (hz : v.1 < 2 ^ 31) : v_ln (v_sg v) = nI v.1 := by
  unfold v_ln
  cases hf : v.2.1 with
  | true =>
    rw [if_neg (fun z => by have := q_i_le.mp z; rw [v_sg_t hf hz, q_i0] at this; omega)]
    unfold v_sg; rw [if_pos hf]
    apply Int32.toInt_inj.mp
    rw [Int32.zero_sub, Int32.neg_neg]
  | false =>
    rw [if_pos (q_i_le.mpr (by rw [v_sg_f hf hz, q_i0]; omega))]
    unfold v_sg; rw [if_neg (by rw [hf]; decide)]
