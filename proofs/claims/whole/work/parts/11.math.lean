/-! CHAINS: from o along f the list l, to its end -/
def q_ch (f : Nat → Option Nat) : Option Nat → List Nat → Prop
  | o, [] => o = none
  | o, a :: l => o = some a ∧ q_ch f (f a) l
theorem q_ch_congr {f g : Nat → Option Nat} : ∀ {l : List Nat} {o : Option Nat}, (∀ a ∈ l, g a = f a) → q_ch f o l → q_ch g o l := by
  intro l
  induction l with
  | nil => intro o _ h; exact h
  | cons a l ih =>
    intro o hg h
    refine ⟨h.1, ?_⟩
    rw [hg a List.mem_cons_self]
    exact ih (fun b hb => hg b (List.mem_cons_of_mem _ hb)) h.2
theorem q_ch_uniq {f : Nat → Option Nat} : ∀ {l l' : List Nat} {o : Option Nat}, q_ch f o l → q_ch f o l' → l = l' := by
  intro l
  induction l with
  | nil =>
    intro l' o h h'
    cases l' with
    | nil => rfl
    | cons b t => have h1 : o = none := h; rw [h1] at h'; cases h'.1
  | cons a l ih =>
    intro l' o h h'
    cases l' with
    | nil => have h1 : o = none := h'; rw [h1] at h; cases h.1
    | cons b t =>
      have e : a = b := Option.some.inj (h.1.symm.trans h'.1)
      subst e
      rw [ih h.2 h'.2]
theorem q_ch_drop {f : Nat → Option Nat} : ∀ {l1 l2 : List Nat} {a : Nat} {o : Option Nat}, q_ch f o (l1 ++ a :: l2) → q_ch f (some a) (a :: l2) := by
  intro l1
  induction l1 with
  | nil => intro l2 a o h; exact ⟨rfl, h.2⟩
  | cons b t ih => intro l2 a o h; exact ih h.2
theorem q_ch_nodup {f : Nat → Option Nat} : ∀ {l : List Nat} {o : Option Nat}, q_ch f o l → l.Nodup := by
  intro l
  induction l with
  | nil => intro o _; exact List.nodup_nil
  | cons a l ih =>
    intro o h
    refine List.nodup_cons.mpr ⟨fun hm => ?_, ih h.2⟩
    obtain ⟨l1, l2, e⟩ := List.append_of_mem hm
    have h1 := h.2
    rw [e] at h1
    have h2 := q_ch_drop h1
    have h3 : q_ch f (f a) l2 := h2.2
    have h4 := q_ch_uniq h.2 h3
    have h5 := congrArg List.length (e.symm.trans h4)
    simp at h5
    omega
theorem q_ch_append {f : Nat → Option Nat} : ∀ {l1 l2 : List Nat} {o : Option Nat}, q_ch f o (l1 ++ l2) → ∃ o', q_ch f o' l2 := by
  intro l1
  induction l1 with
  | nil => intro l2 o h; exact ⟨o, h⟩
  | cons b t ih => intro l2 o h; exact ih h.2
theorem q_ch_head {f : Nat → Option Nat} {l : List Nat} {o : Option Nat} (h : q_ch f o l) : o = l.head? := by
  cases l with
  | nil => exact h
  | cons a t => exact h.1
/-! TREES: from o along le and mo, in order the list ns; k bounds the depth -/
def q_bt (le mo : Nat → Option Nat) : Nat → Option Nat → List Nat → Prop
  | 0, o, ns => o = none ∧ ns = []
  | k + 1, o, ns => (o = none ∧ ns = []) ∨ ∃ (a : Nat) (l1 l2 : List Nat), o = some a ∧ ns = l1 ++ a :: l2 ∧ q_bt le mo k (le a) l1 ∧ q_bt le mo k (mo a) l2
theorem q_bt_none {le mo : Nat → Option Nat} : ∀ (k : Nat), q_bt le mo k none []
  | 0 => ⟨rfl, rfl⟩
  | _ + 1 => Or.inl ⟨rfl, rfl⟩
theorem q_bt_mono {le mo : Nat → Option Nat} : ∀ {k : Nat} {o : Option Nat} {ns : List Nat}, q_bt le mo k o ns → q_bt le mo (k + 1) o ns := by
  intro k
  induction k with
  | zero => intro o ns h; exact Or.inl h
  | succ k ih =>
    intro o ns h
    rcases h with h | ⟨a, l1, l2, h1, h2, h3, h4⟩
    · exact Or.inl h
    · exact Or.inr ⟨a, l1, l2, h1, h2, ih h3, ih h4⟩
theorem q_bt_le {le mo : Nat → Option Nat} {k k' : Nat} (hk : k ≤ k') {o : Option Nat} {ns : List Nat} (h : q_bt le mo k o ns) : q_bt le mo k' o ns := by
  obtain ⟨d, rfl⟩ := Nat.exists_eq_add_of_le hk
  clear hk
  induction d with
  | zero => exact h
  | succ n ih => exact q_bt_mono ih
theorem q_bt_nil {le mo : Nat → Option Nat} {k : Nat} {ns : List Nat} (h : q_bt le mo k none ns) : ns = [] := by
  cases k with
  | zero => exact h.2
  | succ k =>
    rcases h with h | ⟨a, l1, l2, h1, _⟩
    · exact h.2
    · cases h1
theorem q_bt_some {le mo : Nat → Option Nat} {k a : Nat} {ns : List Nat} (h : q_bt le mo k (some a) ns) : ∃ (l1 l2 : List Nat), ns = l1 ++ a :: l2 ∧ q_bt le mo k (le a) l1 ∧ q_bt le mo k (mo a) l2 := by
  cases k with
  | zero => cases h.1
  | succ k =>
    rcases h with h | ⟨b, l1, l2, h1, h2, h3, h4⟩
    · cases h.1
    · have e : a = b := Option.some.inj h1
      subst e
      exact ⟨l1, l2, h2, q_bt_mono h3, q_bt_mono h4⟩
theorem q_bt_congr {le mo le' mo' : Nat → Option Nat} : ∀ {k : Nat} {o : Option Nat} {ns : List Nat}, (∀ a ∈ ns, le' a = le a ∧ mo' a = mo a) → q_bt le mo k o ns → q_bt le' mo' k o ns := by
  intro k
  induction k with
  | zero => intro o ns _ h; exact h
  | succ k ih =>
    intro o ns hg h
    rcases h with h | ⟨a, l1, l2, h1, h2, h3, h4⟩
    · exact Or.inl h
    · subst h2
      have ha := hg a (by simp)
      refine Or.inr ⟨a, l1, l2, h1, rfl, ?_, ?_⟩
      · rw [ha.1]; exact ih (fun b hb => hg b (by simp [hb])) h3
      · rw [ha.2]; exact ih (fun b hb => hg b (by simp [hb])) h4
theorem q_bt_mk {le mo : Nat → Option Nat} {k1 k2 a : Nat} {l1 l2 : List Nat} (h1 : q_bt le mo k1 (le a) l1) (h2 : q_bt le mo k2 (mo a) l2) : ∃ k, q_bt le mo k (some a) (l1 ++ a :: l2) :=
  ⟨max k1 k2 + 1, Or.inr ⟨a, l1, l2, rfl, rfl, q_bt_le (Nat.le_max_left _ _) h1, q_bt_le (Nat.le_max_right _ _) h2⟩⟩
/-- in order: the sizes grow -/
def q_so (z : Nat → Int) (ns : List Nat) : Prop := ns.Pairwise (fun a b => z a < z b)
theorem q_so_mid {z : Nat → Int} {l1 l2 : List Nat} {a : Nat} (h : q_so z (l1 ++ a :: l2)) : (∀ b ∈ l1, z b < z a) ∧ (∀ b ∈ l2, z a < z b) := by
  have h1 := List.pairwise_append.mp h
  exact ⟨fun b hb => h1.2.2 b hb a List.mem_cons_self, fun b hb => (List.pairwise_cons.mp h1.2.1).1 b hb⟩
theorem q_so_nodup {z : Nat → Int} {ns : List Nat} (h : q_so z ns) : ns.Nodup := by
  refine List.Pairwise.imp ?_ h
  intro a b hab e
  subst e
  omega
theorem q_find_eq {z : Nat → Int} {c : Int} : ∀ {pre post : List Nat} {a : Nat}, (∀ b ∈ pre, z b ≠ c) → z a = c → (pre ++ a :: post).find? (fun b => decide (z b = c)) = some a := by
  intro pre
  induction pre with
  | nil => intro post a _ h; simp [h]
  | cons b t ih =>
    intro post a hp h
    have hb := hp b List.mem_cons_self
    rw [List.cons_append, List.find?_cons_of_neg (by simpa using hb)]
    exact ih (fun x hx => hp x (List.mem_cons_of_mem _ hx)) h
theorem q_find_ge {z : Nat → Int} {c : Int} : ∀ {pre post : List Nat}, (∀ b ∈ pre, z b < c) → (∀ b ∈ post, c ≤ z b) → (pre ++ post).find? (fun b => decide (c ≤ z b)) = post.head? := by
  intro pre
  induction pre with
  | nil =>
    intro post _ h
    cases post with
    | nil => rfl
    | cons a t => simp [h a List.mem_cons_self]
  | cons b t ih =>
    intro post hp h
    have hb := hp b List.mem_cons_self
    rw [List.cons_append, List.find?_cons_of_neg (by simp; omega)]
    exact ih (fun x hx => hp x (List.mem_cons_of_mem _ hx)) h
/-! THE PLACE in a tree where a size hangs or would hang: under par, to the side of c, hangs o; behind and before it lie pre and post -/
def q_side (le mo : Nat → Option Nat) (z : Nat → Int) (c : Int) (root : Option Nat) : Option Nat → Option Nat
  | none => root
  | some a => if c < z a then le a else mo a
/-- whatever tree is hung there in its place, all is a tree -/
def q_cx (le mo : Nat → Option Nat) (z : Nat → Int) (c : Int) (root par : Option Nat) (pre post : List Nat) : Prop :=
  (∀ a, par = some a → a ∈ pre ++ post) ∧
  ∀ (le' mo' : Nat → Option Nat) (root' : Option Nat) (k : Nat) (o : Option Nat) (ms : List Nat), (∀ x ∈ pre ++ post, par ≠ some x → le' x = le x ∧ mo' x = mo x) →
    (∀ a, par = some a → (if c < z a then le' a = o ∧ mo' a = mo a else le' a = le a ∧ mo' a = o) ∧ root' = root) → (par = none → root' = o) → q_bt le' mo' k o ms → ∃ k', q_bt le' mo' k' root' (pre ++ ms ++ post)
theorem q_cx_0 {le mo : Nat → Option Nat} {z : Nat → Int} {c : Int} {root : Option Nat} : q_cx le mo z c root none [] [] :=
  ⟨fun a h => (nomatch h), fun le' mo' root' k o ms _ _ h1 h2 => ⟨k, by rw [h1 rfl]; simpa using h2⟩⟩
/-- all apart -/
theorem q_nd3 {pre post l1 l2 : List Nat} {a : Nat} (h : (pre ++ (l1 ++ a :: l2) ++ post).Nodup) : a ∉ l1 ∧ a ∉ l2 ∧ ∀ x ∈ pre ++ post, x ≠ a ∧ x ∉ l1 ∧ x ∉ l2 := by
  obtain ⟨h1, h2, h3⟩ := List.nodup_append.mp h
  obtain ⟨h4, h5, h6⟩ := List.nodup_append.mp h1
  obtain ⟨h7, h8, h9⟩ := List.nodup_append.mp h5
  have hm : ∀ y ∈ l1 ++ a :: l2, ∀ x ∈ pre ++ post, x ≠ y := by
    intro y hy x hx
    rcases List.mem_append.mp hx with hx | hx
    · exact h6 x hx y hy
    · exact (h3 y (List.mem_append_right _ hy) x hx).symm
  exact ⟨fun hx => h9 a hx a List.mem_cons_self rfl, (List.nodup_cons.mp h8).1, fun x hx => ⟨hm a (by simp) x hx, fun z => hm x (by simp [z]) x hx rfl, fun z => hm x (by simp [z]) x hx rfl⟩⟩
theorem q_cx_le {le mo : Nat → Option Nat} {z : Nat → Int} {c : Int} {root par : Option Nat} {pre post l1 l2 : List Nat} {k a : Nat} (h : q_cx le mo z c root par pre post) (hs : q_side le mo z c root par = some a) (hc : c < z a) (h2 : q_bt le mo k (mo a) l2)
    (hnd : (pre ++ (l1 ++ a :: l2) ++ post).Nodup) : q_cx le mo z c root (some a) pre (a :: l2 ++ post) := by
  obtain ⟨-, hal2, hap0⟩ := q_nd3 hnd
  have hap : ∀ x, x ∈ pre ++ post → x ≠ a ∧ x ∉ l2 := fun x hx => ⟨(hap0 x hx).1, (hap0 x hx).2.2⟩
  refine ⟨fun b hb => by cases hb; simp, fun le' mo' root' k' o ms hsame hside hroot hb => ?_⟩
  obtain ⟨hside1, hr⟩ := hside a rfl
  rw [if_pos hc] at hside1
  have hb2 : q_bt le' mo' k (mo' a) l2 := by
    rw [hside1.2]
    refine q_bt_congr (fun x hx => hsame x (by simp [hx]) (fun e => ?_)) h2
    cases e
    exact hal2 hx
  obtain ⟨k2, hb3⟩ := q_bt_mk (a := a) (by rw [hside1.1]; exact hb) hb2
  have hpa : ∀ x, par = some x → x ≠ a := fun x hx => (hap x (h.1 x hx)).1
  obtain ⟨k3, hb4⟩ := h.2 le' mo' root' k2 (some a) (ms ++ a :: l2) (fun x hx hpx => hsame x (by simp only [List.mem_append, List.mem_cons] at hx ⊢; rcases hx with hx | hx; exact Or.inl hx; exact Or.inr (Or.inr hx)) (fun e => by cases e; exact (hap a hx).1 rfl))
    (fun b hb => by
      have hbm := h.1 b hb
      have hne := hpa b hb
      have hs2 := hsame b (by simp only [List.mem_append, List.mem_cons] at hbm ⊢; rcases hbm with hx | hx; exact Or.inl hx; exact Or.inr (Or.inr hx)) (fun e => hne (Option.some.inj e).symm)
      subst hb
      simp only [q_side] at hs
      refine ⟨?_, hr⟩
      by_cases hcb : c < z b
      · rw [if_pos hcb] at hs ⊢
        exact ⟨hs2.1.trans hs, hs2.2⟩
      · rw [if_neg hcb] at hs ⊢
        exact ⟨hs2.1, hs2.2.trans hs⟩)
    (fun e => by subst e; rw [hr]; exact hs) hb3
  exact ⟨k3, by simpa [List.append_assoc] using hb4⟩
theorem q_cx_mo {le mo : Nat → Option Nat} {z : Nat → Int} {c : Int} {root par : Option Nat} {pre post l1 l2 : List Nat} {k a : Nat} (h : q_cx le mo z c root par pre post) (hs : q_side le mo z c root par = some a) (hc : ¬ c < z a) (h1 : q_bt le mo k (le a) l1)
    (hnd : (pre ++ (l1 ++ a :: l2) ++ post).Nodup) : q_cx le mo z c root (some a) (pre ++ (l1 ++ [a])) post := by
  obtain ⟨hal1, -, hap0⟩ := q_nd3 hnd
  have hap : ∀ x, x ∈ pre ++ post → x ≠ a ∧ x ∉ l1 := fun x hx => ⟨(hap0 x hx).1, (hap0 x hx).2.1⟩
  refine ⟨fun b hb => by cases hb; simp, fun le' mo' root' k' o ms hsame hside hroot hb => ?_⟩
  obtain ⟨hside1, hr⟩ := hside a rfl
  rw [if_neg hc] at hside1
  have hb2 : q_bt le' mo' k (le' a) l1 := by
    rw [hside1.1]
    refine q_bt_congr (fun x hx => hsame x (by simp [hx]) (fun e => ?_)) h1
    cases e
    exact hal1 hx
  obtain ⟨k2, hb3⟩ := q_bt_mk (a := a) hb2 (by rw [hside1.2]; exact hb)
  have hpa : ∀ x, par = some x → x ≠ a := fun x hx => (hap x (h.1 x hx)).1
  obtain ⟨k3, hb4⟩ := h.2 le' mo' root' k2 (some a) (l1 ++ a :: ms) (fun x hx hpx => hsame x (by simp only [List.mem_append, List.mem_cons] at hx ⊢; rcases hx with hx | hx; exact Or.inl (Or.inl hx); exact Or.inr hx) (fun e => by cases e; exact (hap a hx).1 rfl))
    (fun b hb => by
      have hbm := h.1 b hb
      have hne := hpa b hb
      have hs2 := hsame b (by simp only [List.mem_append, List.mem_cons] at hbm ⊢; rcases hbm with hx | hx; exact Or.inl (Or.inl hx); exact Or.inr hx) (fun e => hne (Option.some.inj e).symm)
      subst hb
      simp only [q_side] at hs
      refine ⟨?_, hr⟩
      by_cases hcb : c < z b
      · rw [if_pos hcb] at hs ⊢
        exact ⟨hs2.1.trans hs, hs2.2⟩
      · rw [if_neg hcb] at hs ⊢
        exact ⟨hs2.1, hs2.2.trans hs⟩)
    (fun e => by subst e; rw [hr]; exact hs) hb3
  exact ⟨k3, by simpa [List.append_assoc] using hb4⟩
/-- the lesser branch hung below the least of the greater one -/
theorem q_bt_low {le mo : Nat → Option Nat} {x : Nat} {o : Option Nat} {l0 : List Nat} {k0 : Nat} : ∀ {k a : Nat} {ms : List Nat}, q_bt le mo k (some a) ms → ms.head? = some x → ms.Nodup → x ∉ l0 → (∀ y ∈ l0, y ∉ ms) → le x = none → q_bt le mo k0 o l0 → ∃ k', q_bt (va_up le x o) mo k' (some a) (l0 ++ ms) := by
  intro k
  induction k with
  | zero => intro a ms h; cases h.1
  | succ k ih =>
    intro a ms h hx hnd hx0 hdis hlx ho
    rcases h with h | ⟨b, l1, l2, h1, h2, h3, h4⟩
    · cases h.1
    · have e : a = b := Option.some.inj h1
      subst e
      subst h2
      have hnd2 := List.nodup_append.mp hnd
      have ha2 : a ∉ l2 := (List.nodup_cons.mp hnd2.2.1).1
      have hx2 : x ∉ l2 := by
        intro hm
        cases l1 with
        | nil => simp at hx; subst hx; exact ha2 hm
        | cons y t => simp at hx; subst hx; exact hnd2.2.2 y List.mem_cons_self y (List.mem_cons_of_mem _ hm) rfl
      have h4' : q_bt (va_up le x o) mo k (mo a) l2 := q_bt_congr (fun y hy => ⟨va_up_ne _ _ (fun e => hx2 (e ▸ hy)), rfl⟩) h4
      have ho' : q_bt (va_up le x o) mo k0 o l0 := q_bt_congr (fun y hy => ⟨va_up_ne _ _ (fun e => hx0 (e ▸ hy)), rfl⟩) ho
      by_cases hl : le a = none
      · have e1 : l1 = [] := by rw [hl] at h3; exact q_bt_nil h3
        subst e1
        simp at hx
        subst hx
        obtain ⟨k', hk⟩ := q_bt_mk (le := va_up le a o) (a := a) (by rw [va_up_self]; exact ho') h4'
        exact ⟨k', hk⟩
      · cases hla : le a with
        | none => exact absurd hla hl
        | some y =>
          rw [hla] at h3
          have hl1 : l1.head? = some x := by
            cases l1 with
            | nil =>
              obtain ⟨u, v, hu, -⟩ := q_bt_some h3
              simp at hu
            | cons z t => simpa using hx
          have hax : a ≠ x := fun e => hl (e ▸ hlx)
          obtain ⟨k1, hk1⟩ := ih h3 hl1 hnd2.1 hx0 (fun z hz hm => hdis z hz (List.mem_append_left _ hm)) hlx ho
          obtain ⟨k', hk⟩ := q_bt_mk (le := va_up le x o) (a := a) (by rw [va_up_ne _ _ hax, hla]; exact hk1) h4'
          exact ⟨k', by simpa [List.append_assoc] using hk⟩
