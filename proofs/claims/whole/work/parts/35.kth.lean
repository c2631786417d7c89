/-! THE K-TH LATEST of a size, over the values -/
def v_later (z t : Nat) (v : Nat × Bool × Nat) : Nat := if v.2.1 = true ∧ v.1 = z ∧ t < v.2.2 then 1 else 0
def v_kth (V : v_V) (z k : Nat) (r : Int32) : Prop := (r = 0 ∧ ∀ A x B, V = A ++ x :: B → x.2.1 = true → x.1 = z → q_cn (v_later z x.2.2) V ≠ k) ∨ ∃ A x B, V = A ++ x :: B ∧ x.2.1 = true ∧ x.1 = z ∧ q_cn (v_later z x.2.2) V = k ∧ r = nI (1 + v_sz A)
def v_free (V : v_V) (a k : Int) (r : Int32) : Prop := (a < 3 ∧ r = 0) ∨ (3 ≤ a ∧ v_kth V a.toNat k.toNat r)
def q_ca (L : List Nat) : List q_X → Nat
  | [] => 0
  | y :: P => (if y.1 ∈ L then 1 else 0) + q_ca L P
theorem q_ca_congr {L L' : List Nat} : ∀ {P : List q_X}, (∀ y ∈ P, y.1 ∈ L ↔ y.1 ∈ L') → q_ca L P = q_ca L' P := by
  intro P
  induction P with
  | nil => intro _; rfl
  | cons y P ih =>
    intro h
    have h1 := h y List.mem_cons_self
    simp only [q_ca, h1, ih (fun x hx => h x (List.mem_cons_of_mem _ hx))]
theorem q_ca_len : ∀ {P : List q_X} {L : List Nat}, (q_ad P).Nodup → L.Nodup → (∀ a ∈ L, ∃ y ∈ P, y.1 = a) → q_ca L P = L.length := by
  intro P
  induction P with
  | nil =>
    intro L _ _ h
    cases L with
    | nil => rfl
    | cons a L => obtain ⟨y, hy, -⟩ := h a List.mem_cons_self; cases hy
  | cons y P ih =>
    intro L hP hL h
    have hP' : y.1 ∉ q_ad P ∧ (q_ad P).Nodup := List.nodup_cons.mp hP
    by_cases hy : y.1 ∈ L
    · have e1 : q_ca L P = q_ca (L.erase y.1) P := q_ca_congr (fun x hx => by
        have hne : x.1 ≠ y.1 := fun e => hP'.1 (by rw [← e]; exact List.mem_map.mpr ⟨x, hx, rfl⟩)
        exact (List.mem_erase_of_ne hne).symm)
      have e2 := ih (L := L.erase y.1) hP'.2 (hL.erase _) (fun a ha => by
        obtain ⟨x, hx, e⟩ := h a (List.mem_of_mem_erase ha)
        rcases List.mem_cons.mp hx with rfl | hx
        · rw [← e] at ha; exact absurd ha (hL.not_mem_erase)
        · exact ⟨x, hx, e⟩)
      simp only [q_ca, if_pos hy, e1, e2, List.length_erase_of_mem hy]
      have : 0 < L.length := List.length_pos_of_mem hy
      omega
    · simp only [q_ca, if_neg hy]
      rw [ih hP'.2 hL (fun a ha => by
        obtain ⟨x, hx, e⟩ := h a ha
        rcases List.mem_cons.mp hx with rfl | hx
        · rw [e] at hy; exact absurd ha hy
        · exact ⟨x, hx, e⟩)]
      omega
theorem q_cn_ca {f : Nat × Bool × Nat → Nat} {L : List Nat} : ∀ {P : List q_X}, (∀ y ∈ P, f y.2 = if y.1 ∈ L then 1 else 0) → q_cn f (q_vl P) = q_ca L P := by
  intro P
  induction P with
  | nil => intro _; rfl
  | cons y P ih =>
    intro h
    show f y.2 + q_cn f (q_vl P) = _
    rw [h y List.mem_cons_self, ih (fun x hx => h x (List.mem_cons_of_mem _ hx))]; rfl
theorem q_rank {S : qS} {c n fails tm : Nat} {P : List q_X} {h ar t : Nat} {ns : List Nat} {rows : Nat → List Nat} (hC : q_C S c n fails tm P h ar t ns rows) {z : Nat} {x : q_X} {L U : List Nat} (hx : x ∈ P) (hf : x.2.2.1 = true) (hsz : x.2.1 = z) (hr : rows z = L ++ x.1 :: U) : q_cn (v_later z x.2.2.2) (q_vl P) = L.length := by
  have c7 := hC.2.2.2.2.2.2.1
  have hnd := q_line_nd hC.1
  have hrn : (rows z).Nodup := q_rws_nd c7 z
  have hpw := c7.2 z
  rw [hr] at hrn hpw
  have hLn : L.Nodup := (List.nodup_append.mp hrn).1
  have hmem : ∀ a ∈ rows z, 3 ≤ z ∧ ∃ y ∈ P, y.1 = a ∧ y.2.1 = z ∧ y.2.2.1 = true := fun a ha => (c7.1 z a).mp ha
  have hz3 : 3 ≤ z := (hmem x.1 (by rw [hr]; simp)).1
  rw [← q_ca_len hnd hLn (fun a ha => by obtain ⟨-, y, hy, e, -⟩ := hmem a (by rw [hr]; simp [ha]); exact ⟨y, hy, e⟩)]
  apply q_cn_ca
  intro y hy
  have hp2 := List.pairwise_append.mp hpw
  by_cases hyL : y.1 ∈ L
  · rw [if_pos hyL]
    obtain ⟨-, y', hy', e1, e2, e3⟩ := hmem y.1 (by rw [hr]; simp [hyL])
    have e := q_nd_eq hnd hy' hy e1
    subst e
    have h9 := hp2.2.2 y'.1 hyL x.1 List.mem_cons_self
    rw [q_C_J hC hy e3, q_C_J hC hx hf] at h9
    unfold v_later
    rw [if_pos ⟨e3, e2, by omega⟩]
  · rw [if_neg hyL]
    unfold v_later
    rw [if_neg]
    rintro ⟨e1, e2, e3⟩
    have hin : y.1 ∈ rows z := (c7.1 z y.1).mpr ⟨hz3, y, hy, rfl, e2, e1⟩
    rw [hr] at hin
    rcases List.mem_append.mp hin with h1 | h1
    · exact hyL h1
    · rcases List.mem_cons.mp h1 with h1 | h1
      · rw [q_nd_eq hnd hy hx h1] at e3; omega
      · have h9 := (List.pairwise_cons.mp hp2.2.1).1 y.1 h1
        rw [q_C_J hC hy e1, q_C_J hC hx hf] at h9
        omega
theorem q_kth_some {S : qS} {c n fails tm : Nat} {P : List q_X} {h ar t : Nat} {ns : List Nat} {rows : Nat → List Nat} (hC : q_C S c n fails tm P h ar t ns rows) {z k a : Nat} (hk : (rows z)[k]? = some a) : ∃ A x B, P = A ++ x :: B ∧ x.1 = a ∧ x.2.2.1 = true ∧ x.2.1 = z ∧ q_cn (v_later z x.2.2.2) (q_vl P) = k := by
  obtain ⟨hlt, hget⟩ := List.getElem?_eq_some_iff.mp hk
  obtain ⟨-, x, hx, e1, e2, e3⟩ := (hC.2.2.2.2.2.2.1.1 z a).mp (List.mem_of_getElem? hk)
  obtain ⟨A, B, hP⟩ := List.append_of_mem hx
  refine ⟨A, x, B, hP, e1, e3, e2, ?_⟩
  have hs : rows z = (rows z).take k ++ x.1 :: (rows z).drop (k + 1) := by
    rw [e1, ← hget, ← List.drop_eq_getElem_cons hlt, List.take_append_drop]
  rw [q_rank hC hx e3 e2 hs, List.length_take]
  omega
theorem q_kth_none {S : qS} {c n fails tm : Nat} {P : List q_X} {h ar t : Nat} {ns : List Nat} {rows : Nat → List Nat} (hC : q_C S c n fails tm P h ar t ns rows) {z k : Nat} (hz : 3 ≤ z) (hk : (rows z)[k]? = none) : ∀ A x B, q_vl P = A ++ x :: B → x.2.1 = true → x.1 = z → q_cn (v_later z x.2.2) (q_vl P) ≠ k := by
  intro A x B hV hf hs e
  obtain ⟨A1, x1, B1, rfl, -, rfl, -⟩ := q_vl_split hV
  have hx : x1 ∈ A1 ++ x1 :: B1 := by simp
  have hin : x1.1 ∈ rows z := (hC.2.2.2.2.2.2.1.1 z x1.1).mpr ⟨hz, x1, hx, rfl, hs, hf⟩
  obtain ⟨L, U, hr⟩ := List.append_of_mem hin
  rw [q_rank hC hx hf hs hr] at e
  rw [hr, ← e] at hk
  simp at hk
/-! the counts -/
def v_cnt (w : Int) (V : v_V) (n f : Nat) : Nat := if w = 0 then q_cn q_f0 V else if w = 1 then q_cn q_f1 V else if w = 2 then q_cn q_f2 V else if w = 3 then q_cn q_f3 V else if w = 4 then q_cn q_f4 V else if w = 5 then q_mx V else if w = 6 then f else n
