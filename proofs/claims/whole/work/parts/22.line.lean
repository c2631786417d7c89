/-! THE PIECES in their order: address of the object, cells, free or not, the time -/
abbrev q_X : Type := Nat × Nat × Bool × Nat
def q_sz : List q_X → Nat
  | [] => 0
  | x :: P => x.2.1 + q_sz P
def q_fl (b : Bool) : Int32 := if b then 1 else 0
def q_pok (S : qS) (a : Nat) (x : q_X) : Prop := x.1 ∈ S.L ∧ S.K x.1 = 0 ∧ S.I 0 x.1 = nI a ∧ S.I 1 x.1 = nI x.2.1 ∧ S.I 2 x.1 = q_fl x.2.2.1 ∧ (x.2.2.1 = true → S.J 0 x.1 = lN (x.2.2.2 + 1))
def q_pcs (S : qS) : Nat → List q_X → Prop
  | _, [] => True
  | a, x :: P => q_pok S a x ∧ q_pcs S (a + x.2.1) P
abbrev q_ad (P : List q_X) : List Nat := P.map (fun x => x.1)
abbrev q_vl (P : List q_X) : List (Nat × Bool × Nat) := P.map (fun x => x.2)
def q_line (S : qS) (c n : Nat) (P : List q_X) : Prop := c ∈ S.L ∧ S.K c = 4 ∧ S.I 5 c = nI n ∧ q_ch (S.R 0) (S.R 9 c) (q_ad P) ∧ q_pcs S 1 P ∧ q_sz P = n ∧ n ≤ 16384 ∧ (∀ x ∈ P, 1 ≤ x.2.1)
theorem q_sz_app (A B : List q_X) : q_sz (A ++ B) = q_sz A + q_sz B := by
  induction A with
  | nil => simp [q_sz]
  | cons x A ih => simp only [List.cons_append, q_sz, ih]; omega
theorem q_pcs_app {S : qS} : ∀ {A B : List q_X} {a : Nat}, q_pcs S a (A ++ B) ↔ q_pcs S a A ∧ q_pcs S (a + q_sz A) B := by
  intro A
  induction A with
  | nil => intro B a; simp [q_pcs, q_sz]
  | cons x A ih =>
    intro B a
    simp only [List.cons_append, q_pcs, q_sz, ih, and_assoc, Nat.add_assoc]
theorem q_pcs_mem {S : qS} : ∀ {P : List q_X} {a : Nat} {x : q_X}, q_pcs S a P → x ∈ P → ∃ b, q_pok S b x := by
  intro P
  induction P with
  | nil => intro a x _ h; cases h
  | cons y P ih =>
    intro a x h hx
    rcases List.mem_cons.mp hx with e | hx
    · subst e; exact ⟨a, h.1⟩
    · exact ih h.2 hx
theorem q_sz_mem : ∀ {P : List q_X} {x : q_X}, x ∈ P → x.2.1 ≤ q_sz P := by
  intro P
  induction P with
  | nil => intro x h; cases h
  | cons y P ih =>
    intro x hx
    rcases List.mem_cons.mp hx with e | hx
    · subst e; simp only [q_sz]; omega
    · have := ih hx; simp only [q_sz]; omega
theorem q_line_len {S : qS} {c n : Nat} {P : List q_X} (h : q_line S c n P) : P.length ≤ n := by
  obtain ⟨-, -, -, -, -, h1, -, h2⟩ := h
  rw [← h1]
  clear h1
  induction P with
  | nil => simp
  | cons x P ih =>
    have h3 := h2 x List.mem_cons_self
    have h4 := ih (fun y hy => h2 y (List.mem_cons_of_mem _ hy))
    simp only [List.length_cons, q_sz]
    omega
theorem q_fl0 {b : Bool} : q_fl b = 0 ↔ b = false := by cases b <;> simp [q_fl]
/-! counting over the values -/
def q_cn (f : Nat × Bool × Nat → Nat) : List (Nat × Bool × Nat) → Nat
  | [] => 0
  | v :: V => f v + q_cn f V
theorem q_cn_le {f : Nat × Bool × Nat → Nat} : ∀ {P : List q_X}, (∀ x ∈ P, f x.2 ≤ x.2.1) → q_cn f (q_vl P) ≤ q_sz P := by
  intro P
  induction P with
  | nil => intro _; simp [q_cn, q_sz]
  | cons x P ih =>
    intro h
    have h1 := h x List.mem_cons_self
    have h2 := ih (fun y hy => h y (List.mem_cons_of_mem _ hy))
    simp only [q_vl, List.map_cons, q_cn, q_sz] at h2 ⊢
    omega
def q_mx : List (Nat × Bool × Nat) → Nat
  | [] => 0
  | v :: V => max (if v.2.1 then v.1 else 0) (q_mx V)
def q_f0 (v : Nat × Bool × Nat) : Nat := if v.2.1 = true then v.1 else 0
def q_f1 (v : Nat × Bool × Nat) : Nat := if v.2.1 = true ∧ v.1 < 3 then v.1 else 0
def q_f2 (v : Nat × Bool × Nat) : Nat := if v.2.1 = true then 0 else 1
def q_f3 (v : Nat × Bool × Nat) : Nat := if v.2.1 = true ∧ 3 ≤ v.1 then 1 else 0
def q_f4 (v : Nat × Bool × Nat) : Nat := if v.2.1 = true ∧ v.1 < 3 then 1 else 0
