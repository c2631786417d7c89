/-! CLASS AND REFERENCE TOGETHER, after k calls -/
def v_use (V : v_V) : Prop := ∀ v ∈ V, v.2.1 = false → 3 ≤ v.1
def q_ALL (S : qS) (c m h ar t sz ti n f tm : Nat) (P : List q_X) (k : Nat) : Prop := q_CC S c n f tm P h ar t ∧ q_M S m sz ti n f tm (q_vl P) ∧ v_use (q_vl P) ∧ P.length ≤ 1 + k ∧ tm ≤ 1 + 600 * k
def q_INV (S : qS) (c m h ar t sz ti k : Nat) : Prop := ∃ n f tm P, q_ALL S c m h ar t sz ti n f tm P k
theorem v_sw_fr {tm : Nat} {x : Nat × Bool × Nat} {F : v_V} (h : x.2.1 = true) : (v_sw tm x F).2.1 = true := by
  unfold v_sw; split
  · exact h
  · rfl
theorem v_ja_len : ∀ (k : Nat) (V : v_V) (tm : Nat), (v_ja k V tm).1.length ≤ V.length ∧ tm ≤ (v_ja k V tm).2.1 ∧ (v_ja k V tm).2.1 ≤ tm + V.length ∧ (v_use V → v_use (v_ja k V tm).1) := by
  intro k
  induction k with
  | zero => intro V tm; exact ⟨Nat.le_refl _, Nat.le_refl _, Nat.le_add_right _ _, id⟩
  | succ k ih =>
    intro V tm
    cases V with
    | nil => exact ⟨Nat.le_refl _, Nat.le_refl _, Nat.le_add_right _ _, id⟩
    | cons x R =>
      rw [v_ja]
      by_cases hx : x.2.1 = true
      · rw [if_pos hx]
        have hl := v_dr_len R
        have hst : tm ≤ v_st tm (v_tk R) ∧ v_st tm (v_tk R) ≤ tm + 1 := by unfold v_st; split <;> omega
        obtain ⟨h1, h2, h3, h4⟩ := ih (v_dr R) (v_st tm (v_tk R))
        refine ⟨?_, ?_, ?_, fun hu v hv hf => ?_⟩
        · show (v_sw tm x (v_tk R) :: (v_ja k (v_dr R) (v_st tm (v_tk R))).1).length ≤ _
          simp only [List.length_cons]; omega
        · show tm ≤ (v_ja k (v_dr R) (v_st tm (v_tk R))).2.1; omega
        · show (v_ja k (v_dr R) (v_st tm (v_tk R))).2.1 ≤ _
          simp only [List.length_cons]; omega
        · rcases List.mem_cons.mp hv with e | hv
          · rw [e, v_sw_fr hx] at hf; exact nomatch hf
          · exact h4 (fun y hy hfy => hu y (List.mem_cons_of_mem _ (List.Sublist.mem hy (List.dropWhile_sublist _))) hfy) v hv hf
      · rw [if_neg hx]
        obtain ⟨h1, h2, h3, h4⟩ := ih R tm
        refine ⟨?_, h2, ?_, fun hu v hv hf => ?_⟩
        · show (x :: (v_ja k R tm).1).length ≤ _
          simp only [List.length_cons]; omega
        · show (v_ja k R tm).2.1 ≤ _
          simp only [List.length_cons]; omega
        · rcases List.mem_cons.mp hv with e | hv
          · rw [e] at hf ⊢; exact hu x List.mem_cons_self hf
          · exact h4 (fun y hy hfy => hu y (List.mem_cons_of_mem _ hy) hfy) v hv hf
theorem v_tk_vl (R : List q_X) : v_tk (q_vl R) = q_vl (q_tk R) := q_tk_vl R
theorem v_dr_vl (R : List q_X) : v_dr (q_vl R) = q_vl (q_dr9 R) := q_dr_vl R
section OPS
variable {S S1 S2 : qS} {c m h ar t sz ti n f tm : Nat} {P : List q_X} {k : Nat}
theorem q_vlen {P P' : List q_X} (h : q_vl P' = q_vl P) : P'.length = P.length := by
  have := congrArg List.length h
  simpa using this
/-- both sides have come to the same values -/
theorem q_ALL_mk {n' f' tm' : Nat} {P' : List q_X} {V' : v_V} (hC : q_CC S1 c n' f' tm' P' h ar t) (hg : q_gr S1 S2) (hM : q_M S2 m sz ti n' f' tm' V') (e : q_vl P' = V') (hu : v_use V') (hl : V'.length ≤ 1 + k) (ht : tm' ≤ 1 + 600 * k) : q_INV S2 c m h ar t sz ti k := by
  subst e
  exact ⟨n', f', tm', P', q_CC_gr hC hg, hM, hu, by simpa using hl, ht⟩
theorem q_ALL_same (hA : q_ALL S c m h ar t sz ti n f tm P k) (hC : q_CC S1 c n f tm P h ar t) (hg : q_gr S1 S2) (hM : q_M S2 m sz ti n f tm (q_vl P)) : q_INV S2 c m h ar t sz ti (k + 1) :=
  q_ALL_mk hC hg hM rfl hA.2.2.1 (by have := hA.2.2.2.1; simp; omega) (by have := hA.2.2.2.2; omega)
theorem q_ALL_thr (hA : q_ALL S c m h ar t sz ti n f tm P k) (v : Int32) : q_INV (S.sI 7 m v) c m h ar t sz ti (k + 1) :=
  q_ALL_same hA hA.1 (q_gr_sI q_gr_rf (by decide)) (q_M_thr hA.2.1 v)
/-- what a helper of the law leaves -/
abbrev q_hp (post : Int32 → qS → Prop) (px : qS → Prop) (v : Int64) (k9 : Int32) (v1 : Int64) (S1 : qS) : Prop := (k9 = 0 ∧ ∃ r, v1 = Int32.toInt64 r ∧ post r S1) ∨ (k9 = 1 ∧ v1 = v ∧ px S1)
abbrev q_cl (S2 : qS) (c m h ar t sz ti k : Nat) (k9 : Int32) (v1 : Int64) (i : Int32) : Prop := S2.I 7 m = k9 ∧ (k9 = 0 → v1 = i.toInt64) ∧ q_INV S2 c m h ar t sz ti (k + 1)
theorem op_space {a k9 i : Int32} {v v1 : Int64} (hA : q_ALL S c m h ar t sz ti n f tm P k)
    (hc : q_hp (fun r S1 => r = nI n ∧ (16 ≤ a.toInt ∧ a.toInt ≤ 16384) ∧ ∃ q, q_CC S1 c a.toInt.toNat 0 (tm + 1) [(q, a.toInt.toNat, true, tm)] h ar t ∧ q_fk S S1) (fun S1 => S1 = S ∧ ¬ (16 ≤ a.toInt ∧ a.toInt ≤ 16384)) v k9 v1 S1)
    (hm : ((16 ≤ a.toInt ∧ a.toInt ≤ 16384) ∧ i = nI n ∧ S2.I 7 m = 0 ∧ q_M S2 m sz ti a.toInt.toNat 0 (tm + 1) [(a.toInt.toNat, true, tm)] ∧ q_gr S1 S2) ∨ (¬ (16 ≤ a.toInt ∧ a.toInt ≤ 16384) ∧ S2 = S1.sI 7 m 1 ∧ i = 0)) : q_cl S2 c m h ar t sz ti k k9 v1 i := by
  rcases hc with ⟨rfl, r, hv, hr, hb, q, hC, -⟩ | ⟨rfl, hv, rfl, hb⟩ <;> rcases hm with ⟨hb', hi, h7, hM, hg⟩ | ⟨hb', rfl, hi⟩
  · refine ⟨h7, fun _ => by rw [hv, hr, hi], q_ALL_mk hC hg hM rfl (fun v hv => ?_) (by simp) (by have := hA.2.2.2.2; omega)⟩
    rw [List.mem_singleton.mp hv]; exact fun e => nomatch e
  · exact absurd hb hb'
  · exact absurd hb' hb
  · exact ⟨qI_self _ _ _ _, fun e => absurd e (by decide), q_ALL_thr hA 1⟩
theorem op_take {a k9 i : Int32} {v v1 : Int64} (hA : q_ALL S c m h ar t sz ti n f tm P k)
    (hc : q_hp (fun r S1 => v_szok a.toInt ∧ q_fk S S1 ∧ ((r = 0 ∧ v_non a.toInt.toNat (q_vl P) ∧ q_CC S1 c n (f + 1) tm P h ar t) ∨ ∃ A x B, P = A ++ x :: B ∧ v_isb a.toInt.toNat (q_vl A) x.2 (q_vl B) ∧ r = nI (1 + q_sz A) ∧ ((x.2.1 = a.toInt.toNat ∧ q_CC S1 c n f tm (A ++ (x.1, a.toInt.toNat, false, x.2.2.2) :: B) h ar t) ∨ (a.toInt.toNat < x.2.1 ∧ ∃ q, q_CC S1 c n f (tm + 1) (A ++ (x.1, a.toInt.toNat, false, x.2.2.2) :: (q, x.2.1 - a.toInt.toNat, true, tm) :: B) h ar t)))) (fun S1 => S1 = S ∧ ¬ v_szok a.toInt) v k9 v1 S1)
    (hm : (v_szok a.toInt ∧ ∃ V' f' tm', v_take (q_vl P) f tm a.toInt.toNat V' f' tm' i ∧ S2.I 7 m = 0 ∧ q_M S2 m sz ti n f' tm' V' ∧ q_gr S1 S2) ∨ (¬ v_szok a.toInt ∧ S2 = S1.sI 7 m 1 ∧ i = 0)) : q_cl S2 c m h ar t sz ti k k9 v1 i := by
  rcases hc with ⟨rfl, r, hv, hb, -, hC⟩ | ⟨rfl, hv, rfl, hb⟩ <;> rcases hm with ⟨hb', V', f', tm', hT, h7, hM, hg⟩ | ⟨hb', rfl, hi⟩
  · have hz3 : 3 ≤ a.toInt.toNat := by omega
    obtain ⟨P', f1, t1, hT1, hC1⟩ : ∃ P' f1 t1, v_take (q_vl P) f tm a.toInt.toNat (q_vl P') f1 t1 r ∧ q_CC S1 c n f1 t1 P' h ar t := by
      rcases hC with ⟨h1, h2, h3⟩ | ⟨A, x, B, rfl, hb1, hr, hcc⟩
      · exact ⟨P, f + 1, tm, Or.inl ⟨h1, h2, rfl, rfl, rfl⟩, h3⟩
      · rcases hcc with ⟨e, hC9⟩ | ⟨e, q, hC9⟩
        · exact ⟨_, f, tm, Or.inr ⟨q_vl A, x.2, q_vl B, q_vl_app A B x, hb1, by rw [hr, v_sz_vl], rfl, Or.inl ⟨e, q_vl_app A B _, rfl⟩⟩, hC9⟩
        · exact ⟨_, f, tm + 1, Or.inr ⟨q_vl A, x.2, q_vl B, q_vl_app A B x, hb1, by rw [hr, v_sz_vl], rfl, Or.inr ⟨e, by simp [q_vl], rfl⟩⟩, hC9⟩
    obtain ⟨e1, e2, e3, e4⟩ := v_take_fn hT1 hT
    subst e1; subst e3; subst e4
    have hlen := hA.2.2.2.1
    have htm := hA.2.2.2.2
    have hu := hA.2.2.1
    refine ⟨h7, fun _ => hv, q_ALL_mk hC1 hg hM e2 ?_ ?_ ?_⟩
    · rcases hT with ⟨-, -, e, -⟩ | ⟨A, x, B, hV, -, -, -, ⟨-, e, -⟩ | ⟨-, e, -⟩⟩
      · rw [e]; exact hu
      · rw [e]; intro w hw hf
        simp only [List.mem_append, List.mem_cons] at hw
        rcases hw with hw | rfl | hw
        · exact hu w (by rw [hV]; simp [hw]) hf
        · exact hz3
        · exact hu w (by rw [hV]; simp [hw]) hf
      · rw [e]; intro w hw hf
        simp only [List.mem_append, List.mem_cons] at hw
        rcases hw with hw | rfl | rfl | hw
        · exact hu w (by rw [hV]; simp [hw]) hf
        · exact hz3
        · exact nomatch hf
        · exact hu w (by rw [hV]; simp [hw]) hf
    · have hl : (q_vl P).length ≤ 1 + k := by simpa using hlen
      rcases hT with ⟨-, -, e, -⟩ | ⟨A, x, B, hV, -, -, -, ⟨-, e, -⟩ | ⟨-, e, -⟩⟩ <;> rw [e]
      · omega
      · rw [hV] at hl; simp at hl ⊢; omega
      · rw [hV] at hl; simp at hl ⊢; omega
    · rcases hT with ⟨-, -, -, -, e⟩ | ⟨A, x, B, hV, -, -, -, ⟨-, -, e⟩ | ⟨-, -, e⟩⟩ <;> omega
  · exact absurd hb hb'
  · exact absurd hb' hb
  · exact ⟨qI_self _ _ _ _, fun e => absurd e (by decide), q_ALL_thr hA 1⟩
theorem op_give {a k9 i : Int32} {v v1 : Int64} (hA : q_ALL S c m h ar t sz ti n f tm P k)
    (hc : q_hp (fun r S1 => ∃ A x B, P = A ++ x :: B ∧ x.2.2.1 = false ∧ a.toInt = 1 + q_sz A ∧ r = nI x.2.1 ∧ q_CC S1 c n f (tm + 1) (A ++ (x.1, x.2.1, true, tm) :: B) h ar t ∧ q_fk S S1) (fun S1 => S1 = S ∧ ∀ A x B, P = A ++ x :: B → a.toInt = 1 + q_sz A → x.2.2.1 = true) v k9 v1 S1)
    (hm : (∃ V' tm', v_give (q_vl P) tm a.toInt V' tm' i ∧ S2.I 7 m = 0 ∧ q_M S2 m sz ti n f tm' V' ∧ q_gr S1 S2) ∨ (v_all (q_vl P) a.toInt true ∧ S2 = S1.sI 7 m 1 ∧ i = 0)) : q_cl S2 c m h ar t sz ti k k9 v1 i := by
  have hok := hA.2.1.2.2.2.1
  rcases hc with ⟨rfl, r, hv, A, x, B, hP, hf, ha, hr, hC, -⟩ | ⟨rfl, hv, rfl, hb⟩ <;> rcases hm with ⟨V', tm', hT, h7, hM, hg⟩ | ⟨hb', rfl, hi⟩
  · have hT1 : v_give (q_vl P) tm a.toInt (q_vl (A ++ (x.1, x.2.1, true, tm) :: B)) (tm + 1) r := ⟨q_vl A, x.2, q_vl B, by rw [hP]; exact q_vl_app A B x, hf, by rw [v_sz_vl]; exact ha, hr, q_vl_app A B _, rfl⟩
    obtain ⟨e1, e2, e3⟩ := v_give_fn hok hT1 hT
    subst e1; subst e3
    refine ⟨h7, fun _ => hv, q_ALL_mk hC hg hM e2 ?_ ?_ (by have := hA.2.2.2.2; omega)⟩
    · rw [← e2]; intro w hw hfw
      rw [q_vl_app] at hw
      simp only [List.mem_append, List.mem_cons] at hw
      have hu := hA.2.2.1
      rw [hP, q_vl_app] at hu
      rcases hw with hw | rfl | hw
      · exact hu w (by simp only [List.mem_append, List.mem_cons]; exact Or.inl hw) hfw
      · exact nomatch hfw
      · exact hu w (by simp only [List.mem_append, List.mem_cons]; exact Or.inr (Or.inr hw)) hfw
    · have hlen := hA.2.2.2.1
      rw [← e2]; rw [hP] at hlen; simp at hlen ⊢; omega
  · exact (v_give_all (t1 := tm + 1) (r := r) ⟨q_vl A, x.2, q_vl B, by rw [hP]; exact q_vl_app A B x, hf, by rw [v_sz_vl]; exact ha, hr, rfl, rfl⟩ hb').elim
  · exfalso
    obtain ⟨A, x, B, hV, hf, ha, -⟩ := hT
    obtain ⟨A1, x1, B1, rfl, rfl, rfl, rfl⟩ := q_vl_split hV
    have := hb A1 x1 B1 rfl (by rw [← v_sz_vl]; exact ha)
    rw [hf] at this; exact nomatch this
  · exact ⟨qI_self _ _ _ _, fun e => absurd e (by decide), q_ALL_thr hA 1⟩
theorem op_join {a k9 i : Int32} {v v1 : Int64} (hA : q_ALL S c m h ar t sz ti n f tm P k)
    (hc : q_hp (fun r S1 => ∃ A x B, P = A ++ x :: B ∧ x.2.2.1 = true ∧ a.toInt = 1 + q_sz A ∧ r = nI (q_sw tm x (q_tk B)).2.1 ∧ q_CC S1 c n f (q_st tm (q_tk B)) (A ++ q_sw tm x (q_tk B) :: q_dr9 B) h ar t ∧ q_fk S S1) (fun S1 => S1 = S ∧ ∀ A x B, P = A ++ x :: B → a.toInt = 1 + q_sz A → x.2.2.1 = false) v k9 v1 S1)
    (hm : (∃ V' tm', v_join (q_vl P) tm a.toInt V' tm' i ∧ S2.I 7 m = 0 ∧ q_M S2 m sz ti n f tm' V' ∧ q_gr S1 S2) ∨ (v_all (q_vl P) a.toInt false ∧ S2 = S1.sI 7 m 1 ∧ i = 0)) : q_cl S2 c m h ar t sz ti k k9 v1 i := by
  have hok := hA.2.1.2.2.2.1
  have mk : ∀ {A B : List q_X} {x : q_X} {r : Int32}, P = A ++ x :: B → x.2.2.1 = true → a.toInt = 1 + q_sz A → r = nI (q_sw tm x (q_tk B)).2.1 → v_join (q_vl P) tm a.toInt (q_vl (A ++ q_sw tm x (q_tk B) :: q_dr9 B)) (q_st tm (q_tk B)) r := fun {A B x r} hP hf ha hr =>
    ⟨q_vl A, x.2, q_vl B, by rw [hP]; exact q_vl_app A B x, hf, by rw [v_sz_vl]; exact ha, by rw [hr, q_sw_vl, v_tk_vl], by rw [q_vl_app, q_sw_vl, v_tk_vl, v_dr_vl], by rw [q_st_vl, v_tk_vl]⟩
  rcases hc with ⟨rfl, r, hv, A, x, B, hP, hf, ha, hr, hC, -⟩ | ⟨rfl, hv, rfl, hb⟩ <;> rcases hm with ⟨V', tm', hT, h7, hM, hg⟩ | ⟨hb', rfl, hi⟩
  · obtain ⟨e1, e2, e3⟩ := v_join_fn hok (mk hP hf ha hr) hT
    subst e1; subst e3
    have htm := hA.2.2.2.2
    refine ⟨h7, fun _ => hv, q_ALL_mk hC hg hM e2 ?_ ?_ (by rw [q_st]; split <;> omega)⟩
    · rw [← e2]; intro w hw hfw
      rw [q_vl_app] at hw
      simp only [List.mem_append, List.mem_cons] at hw
      have hu := hA.2.2.1
      rw [hP, q_vl_app] at hu
      rcases hw with hw | rfl | hw
      · exact hu w (by simp only [List.mem_append, List.mem_cons]; exact Or.inl hw) hfw
      · rw [q_sw_vl, v_sw_fr hf] at hfw; exact nomatch hfw
      · rw [← v_dr_vl] at hw
        exact hu w (by simp only [List.mem_append, List.mem_cons]; exact Or.inr (Or.inr (List.Sublist.mem hw (List.dropWhile_sublist _)))) hfw
    · have hlen := hA.2.2.2.1
      have h9 := q_dr_len B
      rw [← e2]; rw [hP] at hlen; simp at hlen ⊢; omega
  · exact (v_join_all (mk hP hf ha hr) hb').elim
  · exfalso
    obtain ⟨A, x, B, hV, hf, ha, -⟩ := hT
    obtain ⟨A1, x1, B1, rfl, rfl, rfl, rfl⟩ := q_vl_split hV
    have := hb A1 x1 B1 rfl (by rw [← v_sz_vl]; exact ha)
    rw [hf] at this; exact nomatch this
  · exact ⟨qI_self _ _ _ _, fun e => absurd e (by decide), q_ALL_thr hA 1⟩
theorem op_suffices {a k9 i : Int32} {v v1 : Int64} (hA : q_ALL S c m h ar t sz ti n f tm P k)
    (hc : q_hp (fun r S1 => S1 = S ∧ v_szok a.toInt ∧ ((r = 0 ∧ v_non a.toInt.toNat (q_vl P)) ∨ ∃ A x B, P = A ++ x :: B ∧ v_isb a.toInt.toNat (q_vl A) x.2 (q_vl B) ∧ r = nI (1 + q_sz A))) (fun S1 => S1 = S ∧ ¬ v_szok a.toInt) v k9 v1 S1)
    (hm : (v_szok a.toInt ∧ S2 = S1.sI 7 m 0 ∧ v_suf a.toInt.toNat (q_vl P) i) ∨ (¬ v_szok a.toInt ∧ S2 = S1.sI 7 m 1 ∧ i = 0)) : q_cl S2 c m h ar t sz ti k k9 v1 i := by
  rcases hc with ⟨rfl, r, hv, rfl, hb, hC⟩ | ⟨rfl, hv, rfl, hb⟩ <;> rcases hm with ⟨hb', rfl, hs⟩ | ⟨hb', rfl, hi⟩
  · have h1 : v_suf a.toInt.toNat (q_vl P) r := by
      rcases hC with h | ⟨A, x, B, hP, hb1, hr⟩
      · exact Or.inl h
      · exact Or.inr ⟨q_vl A, x.2, q_vl B, by rw [hP]; exact q_vl_app A B x, hb1, by rw [hr, v_sz_vl]⟩
    exact ⟨qI_self _ _ _ _, fun _ => by rw [hv, v_suf_fn h1 hs], q_ALL_thr hA 0⟩
  · exact absurd hb hb'
  · exact absurd hb' hb
  · exact ⟨qI_self _ _ _ _, fun e => absurd e (by decide), q_ALL_thr hA 1⟩
theorem q_ALL_dt (hA : q_ALL S c m h ar t sz ti n f tm P k) : v_dt (q_vl P) := by
  obtain ⟨⟨ns, rows, hC⟩, -⟩ := hA
  exact q_C_dt hC
theorem op_free {a b k9 i : Int32} {v v1 : Int64} (hA : q_ALL S c m h ar t sz ti n f tm P k)
    (hc : q_hp (fun r S1 => S1 = S ∧ 0 ≤ b.toInt ∧ v_free (q_vl P) a.toInt b.toInt r) (fun S1 => S1 = S ∧ b.toInt < 0) v k9 v1 S1)
    (hm : (0 ≤ b.toInt ∧ S2 = S1.sI 7 m 0 ∧ v_free (q_vl P) a.toInt b.toInt i) ∨ (b.toInt < 0 ∧ S2 = S1.sI 7 m 1 ∧ i = 0)) : q_cl S2 c m h ar t sz ti k k9 v1 i := by
  rcases hc with ⟨rfl, r, hv, rfl, hb, hC⟩ | ⟨rfl, hv, rfl, hb⟩ <;> rcases hm with ⟨hb', rfl, hs⟩ | ⟨hb', rfl, hi⟩
  · exact ⟨qI_self _ _ _ _, fun _ => by rw [hv, v_free_fn (q_ALL_dt hA) hC hs], q_ALL_thr hA 0⟩
  · omega
  · omega
  · exact ⟨qI_self _ _ _ _, fun e => absurd e (by decide), q_ALL_thr hA 1⟩
theorem op_count {a k9 i : Int32} {v v1 : Int64} (hA : q_ALL S c m h ar t sz ti n f tm P k)
    (hc : q_hp (fun r S1 => S1 = S ∧ (0 ≤ a.toInt ∧ a.toInt ≤ 7) ∧ r = nI (v_cnt a.toInt (q_vl P) n f)) (fun S1 => S1 = S ∧ ¬ (0 ≤ a.toInt ∧ a.toInt ≤ 7)) v k9 v1 S1)
    (hm : ((0 ≤ a.toInt ∧ a.toInt ≤ 7) ∧ S2 = S1.sI 7 m 0 ∧ i = nI (v_cnt a.toInt (q_vl P) n f)) ∨ (¬ (0 ≤ a.toInt ∧ a.toInt ≤ 7) ∧ S2 = S1.sI 7 m 1 ∧ i = 0)) : q_cl S2 c m h ar t sz ti k k9 v1 i := by
  rcases hc with ⟨rfl, r, hv, rfl, hb, hC⟩ | ⟨rfl, hv, rfl, hb⟩ <;> rcases hm with ⟨hb', rfl, hs⟩ | ⟨hb', rfl, hi⟩
  · exact ⟨qI_self _ _ _ _, fun _ => by rw [hv, hC, hs], q_ALL_thr hA 0⟩
  · exact absurd hb hb'
  · exact absurd hb' hb
  · exact ⟨qI_self _ _ _ _, fun e => absurd e (by decide), q_ALL_thr hA 1⟩
theorem op_joinAll {i1 i2 : Int32} (hA : q_ALL S c m h ar t sz ti n f tm P k) (hk : k < 512)
    (hc : i1 = nI (v_ja P.length (q_vl P) tm).2.2 ∧ ∃ P1, q_vl P1 = (v_ja P.length (q_vl P) tm).1 ∧ q_CC S1 c n f (v_ja P.length (q_vl P) tm).2.1 P1 h ar t ∧ q_fk S S1)
    (hm : i2 = nI (v_ja (q_vl P).length (q_vl P) tm).2.2 ∧ S2.I 7 m = 0 ∧ q_M S2 m sz ti n f (v_ja (q_vl P).length (q_vl P) tm).2.1 (v_ja (q_vl P).length (q_vl P) tm).1 ∧ q_gr S1 S2) : i1 = i2 ∧ q_INV S2 c m h ar t sz ti (k + 1) := by
  have el : (q_vl P).length = P.length := by simp
  rw [el] at hm
  obtain ⟨hi, P1, hP1, hC, -⟩ := hc
  obtain ⟨hi2, -, hM, hg⟩ := hm
  obtain ⟨h1, h2, h3, h4⟩ := v_ja_len P.length (q_vl P) tm
  have hl := hA.2.2.2.1
  have ht := hA.2.2.2.2
  exact ⟨by rw [hi, hi2], q_ALL_mk hC hg hM hP1 (h4 hA.2.2.1) (by omega) (by omega)⟩
theorem op_piece {a i1 i2 : Int32} (hA : q_ALL S c m h ar t sz ti n f tm P k) (hc : v_piece (q_vl P) a.toInt i1) (hm : S2 = S.sI 7 m 0 ∧ v_piece (q_vl P) a.toInt i2) : i1 = i2 ∧ q_INV S2 c m h ar t sz ti (k + 1) := by
  obtain ⟨rfl, hm⟩ := hm
  exact ⟨v_piece_fn hA.2.1.2.2.2.1 hc hm, q_ALL_thr hA 0⟩
theorem op_cover {a i1 i2 : Int32} (hA : q_ALL S c m h ar t sz ti n f tm P k) (hc : v_cover (q_vl P) a.toInt i1) (hm : S2 = S.sI 7 m 0 ∧ v_cover (q_vl P) a.toInt i2) : i1 = i2 ∧ q_INV S2 c m h ar t sz ti (k + 1) := by
  obtain ⟨rfl, hm⟩ := hm
  exact ⟨v_cover_fn hc hm, q_ALL_thr hA 0⟩
theorem op_faults {i1 i2 : Int32} (hA : q_ALL S c m h ar t sz ti n f tm P k) (hc : i1 = 0 ∧ q_CC S1 c n f tm P h ar t ∧ q_ft S S1) (hm : S2 = S1.sI 7 m 0 ∧ i2 = 0) : i1 = i2 ∧ q_INV S2 c m h ar t sz ti (k + 1) := by
  obtain ⟨rfl, hm⟩ := hm
  exact ⟨by rw [hc.1, hm], q_ALL_same hA hc.2.1 (q_gr_sI q_gr_rf (by decide)) (q_M_thr (q_M_ft hA.2.1 hc.2.2) 0)⟩
end OPS
