/-! what the reference's changes leave -/
def q_rel (S : qS) (m sz ti j : Nat) (x : Int32) : qS := ((S.sI 9 m (S.I 9 m + 1)).sA sz j (0 - x)).sA ti j (S.I 9 m + 1)
theorem q_rel_gr (S : qS) (m sz ti j : Nat) (x : Int32) : q_gr S (q_rel S m sz ti j x) := q_gr_sA (q_gr_sA (q_gr_sI q_gr_rf (by decide)))
theorem q_M_rel {S : qS} {m sz ti n fails tm z : Nat} {A B : v_V} (hb : q_Mb S m sz ti n) (h9 : S.I 9 m = nI (tm - 1)) (h10 : S.I 10 m = nI fails) (hA : q_ms (S.A sz) (S.A ti) 1 A) (hz : ∀ i, 1 + v_sz A < i → i < 1 + v_sz A + z → S.A sz i = 0) (hB : q_ms (S.A sz) (S.A ti) (1 + v_sz A + z) B) (ht : 1 ≤ tm) (hok : v_ok n (tm + 1) (A ++ (z, true, tm) :: B)) :
    q_M (q_rel S m sz ti (1 + v_sz A) (nI z)) m sz ti n fails (tm + 1) (A ++ (z, true, tm) :: B) := by
  have e9 : S.I 9 m + 1 = nI tm := by rw [h9, nI_1]; exact congrArg nI (by omega)
  have hne := hb.2.2.2.1
  have eS : (q_rel S m sz ti (1 + v_sz A) (nI z)).A sz = upd (S.A sz) (1 + v_sz A) (0 - nI z) := by
    unfold q_rel; rw [qA_ne _ _ _ _ hne, qA_is]; rfl
  have eT : (q_rel S m sz ti (1 + v_sz A) (nI z)).A ti = upd (S.A ti) (1 + v_sz A) (nI tm) := by
    unfold q_rel; rw [qA_is, qA_ne _ _ _ _ hne.symm, e9]; rfl
  have hpos := hok.2.2.2.1
  have hz1 : 1 ≤ z := hpos (z, true, tm) (by simp)
  refine ⟨q_Mb_gr hb (q_rel_gr S m sz ti _ _) (congrFun (qI_of S 9 m (S.I 9 m + 1) (j := 8) (by decide)) m), ?_, ?_, hok, ?_⟩
  · show (S.sI 9 m (S.I 9 m + 1)).I 9 m = _
    rw [qI_self, e9]; rfl
  · exact (congrFun (qI_of S 9 m (S.I 9 m + 1) (by decide)) m).trans h10
  · rw [eS, eT]
    refine q_ms_app.mpr ⟨q_ms_congr (fun i h1 h2 => ⟨q_upd_ne _ _ _ (by omega), q_upd_ne _ _ _ (by omega)⟩) (fun v hv => hpos v (by simp [hv])) hA, ?_, fun i h1 h2 => ?_, fun _ => q_upd_eq _ _ _, q_ms_congr (fun i h1 h2 => ⟨q_upd_ne _ _ _ (by show i ≠ _; have : (1 + v_sz A) + z ≤ i := h1; omega), q_upd_ne _ _ _ (by show i ≠ _; have : (1 + v_sz A) + z ≤ i := h1; omega)⟩) (fun v hv => hpos v (by simp [hv])) hB⟩
    · rw [q_upd_eq]; show _ = -nI z; exact Int32.zero_sub _
    · rw [q_upd_ne _ _ _ (by omega)]; exact hz i h1 h2
theorem q_M_parts {S : qS} {m sz ti n fails tm : Nat} {A B : v_V} {x : Nat × Bool × Nat} (hM : q_M S m sz ti n fails tm (A ++ x :: B)) : q_ms (S.A sz) (S.A ti) 1 A ∧ q_ms (S.A sz) (S.A ti) (1 + v_sz A + x.1) B := by
  obtain ⟨h1, -, -, -, h2⟩ := q_ms_app.mp hM.2.2.2.2
  exact ⟨h1, h2⟩
theorem v_ok_set {n tm tm' : Nat} {A B : v_V} {x y : Nat × Bool × Nat} (hok : v_ok n tm (A ++ x :: B)) (he : y.1 = x.1) (ht : tm ≤ tm') (hy : y.2.1 = true → y.2.2 < tm') (hb : tm' < 2 ^ 30) : v_ok n tm' (A ++ y :: B) := by
  obtain ⟨h1, h2, h3, h4, h5, h6, h7⟩ := hok
  refine ⟨?_, h2, h3, fun v hv => ?_, fun v hv hf => ?_, by omega, hb⟩
  · rw [← h1, v_sz_app, v_sz_app]; simp only [v_sz]; rw [he]
  · simp only [List.mem_append, List.mem_cons] at hv
    rcases hv with hv | rfl | hv
    · exact h4 v (by simp [hv])
    · rw [he]; exact h4 x (by simp)
    · exact h4 v (by simp [hv])
  · simp only [List.mem_append, List.mem_cons] at hv
    rcases hv with hv | rfl | hv
    · have := h5 v (by simp [hv]) hf; omega
    · exact hy hf
    · have := h5 v (by simp [hv]) hf; omega
theorem v_ok_split {n tm tm' s t : Nat} {A B : v_V} {x : Nat × Bool × Nat} (hok : v_ok n tm (A ++ x :: B)) (h1 : 1 ≤ s) (h2 : s < x.1) (hb : tm + 1 < 2 ^ 30) : v_ok n (tm + 1) ((A ++ [(s, false, t)]) ++ (x.1 - s, true, tm) :: B) := by
  obtain ⟨g1, g2, g3, g4, g5, g6, g7⟩ := hok
  refine ⟨?_, g2, g3, fun v hv => ?_, fun v hv hf => ?_, by omega, hb⟩
  · rw [← g1, v_sz_app, v_sz_app, v_sz_app]; simp only [v_sz]; omega
  · simp only [List.mem_append, List.mem_cons, List.not_mem_nil, or_false] at hv
    rcases hv with (hv | rfl) | rfl | hv
    · exact g4 v (by simp [hv])
    · exact h1
    · show 1 ≤ x.1 - s; omega
    · exact g4 v (by simp [hv])
  · simp only [List.mem_append, List.mem_cons, List.not_mem_nil, or_false] at hv
    rcases hv with (hv | rfl) | rfl | hv
    · have := g5 v (by simp [hv]) hf; omega
    · exact (nomatch hf)
    · show tm < tm + 1; omega
    · have := g5 v (by simp [hv]) hf; omega
theorem v_ok_join {n tm : Nat} {A F B : v_V} {x : Nat × Bool × Nat} (hok : v_ok n tm (A ++ x :: (F ++ B))) (hb : tm + 1 < 2 ^ 30) : v_ok n (tm + 1) (A ++ (x.1 + v_sz F, true, tm) :: B) := by
  obtain ⟨g1, g2, g3, g4, g5, g6, g7⟩ := hok
  refine ⟨?_, g2, g3, fun v hv => ?_, fun v hv hf => ?_, by omega, hb⟩
  · rw [← g1, v_sz_app, v_sz_app]; simp only [v_sz, v_sz_app]; omega
  · simp only [List.mem_append, List.mem_cons] at hv
    rcases hv with hv | rfl | hv
    · exact g4 v (by simp [hv])
    · have := g4 x (by simp); show 1 ≤ x.1 + v_sz F; omega
    · exact g4 v (by simp [hv])
  · simp only [List.mem_append, List.mem_cons] at hv
    rcases hv with hv | rfl | hv
    · have := g5 v (by simp [hv]) hf; omega
    · show tm < tm + 1; omega
    · have := g5 v (by simp [hv]) hf; omega
theorem q_M_give {S : qS} {m sz ti n fails tm : Nat} {A B : v_V} {x : Nat × Bool × Nat} (hM : q_M S m sz ti n fails tm (A ++ x :: B)) (hb : tm + 1 < 2 ^ 30) : q_M (q_rel S m sz ti (1 + v_sz A) (nI x.1)) m sz ti n fails (tm + 1) (A ++ (x.1, true, tm) :: B) := by
  obtain ⟨hA, hB⟩ := q_M_parts hM
  have hat := q_M_at hM
  exact q_M_rel hM.1 hM.2.1 hM.2.2.1 hA hat.2.1 hB hM.2.2.2.1.2.2.2.2.2.1 (v_ok_set hM.2.2.2.1 rfl (by omega) (fun _ => by show tm < tm + 1; omega) hb)
/-- a piece is marked as used, with the size s: it is all of it, or the rest is free -/
theorem q_M_use {S : qS} {m sz ti n fails tm s : Nat} {A B : v_V} {x : Nat × Bool × Nat} (hM : q_M S m sz ti n fails tm (A ++ x :: B)) (he : x.1 = s) : q_M (S.sA sz (1 + v_sz A) (nI s)) m sz ti n fails tm (A ++ (s, false, x.2.2) :: B) := by
  obtain ⟨hA, hB⟩ := q_M_parts hM
  have hat := q_M_at hM
  have hne := hM.1.2.2.2.1
  have hok := v_ok_set (y := (s, false, x.2.2)) hM.2.2.2.1 he.symm (Nat.le_refl _) (fun h => (nomatch h)) hM.2.2.2.1.2.2.2.2.2.2
  refine ⟨q_Mb_gr hM.1 (q_gr_sA q_gr_rf) rfl, hM.2.1, hM.2.2.1, hok, ?_⟩
  rw [qA_is, qA_ne _ _ _ _ hne.symm]
  have hx1 : 1 ≤ s := he ▸ hat.2.2.2.1
  refine q_ms_app.mpr ⟨q_ms_congr (fun i h1 h2 => ⟨q_upd_ne _ _ _ (by omega), rfl⟩) (fun v hv => hok.2.2.2.1 v (by simp [hv])) hA, ?_, fun i h1 h2 => ?_, fun h => (nomatch h), ?_⟩
  · rw [q_upd_eq]; rfl
  · rw [q_upd_ne _ _ _ (by omega)]; exact hat.2.1 i h1 (by rw [he]; exact h2)
  · rw [he] at hB
    exact q_ms_congr (fun i h1 h2 => ⟨q_upd_ne _ _ _ (by show i ≠ _; have : (1 + v_sz A) + s ≤ i := h1; omega), rfl⟩) (fun v hv => hok.2.2.2.1 v (by simp [hv])) hB
theorem q_M_cut {S : qS} {m sz ti n fails tm s : Nat} {A B : v_V} {x : Nat × Bool × Nat} (hM : q_M S m sz ti n fails tm (A ++ x :: B)) (h1 : 1 ≤ s) (h2 : s < x.1) (hb : tm + 1 < 2 ^ 30) : q_M (q_rel (S.sA sz (1 + v_sz A) (nI s)) m sz ti (1 + v_sz A + s) (nI (x.1 - s))) m sz ti n fails (tm + 1) (A ++ (s, false, x.2.2) :: (x.1 - s, true, tm) :: B) := by
  obtain ⟨hA, hB⟩ := q_M_parts hM
  have hat := q_M_at hM
  have hne := hM.1.2.2.2.1
  have hok := v_ok_split (t := x.2.2) (tm' := tm) hM.2.2.2.1 h1 h2 hb
  have esz : 1 + v_sz (A ++ [(s, false, x.2.2)]) = 1 + v_sz A + s := by rw [v_sz_app]; simp only [v_sz]; omega
  have h := q_M_rel (S := S.sA sz (1 + v_sz A) (nI s)) (fails := fails) (z := x.1 - s) (A := A ++ [(s, false, x.2.2)]) (B := B) (q_Mb_gr hM.1 (q_gr_sA q_gr_rf) rfl) hM.2.1 hM.2.2.1 ?_ ?_ ?_ hM.2.2.2.1.2.2.2.2.2.1 hok
  · rw [esz] at h
    rw [show A ++ (s, false, x.2.2) :: (x.1 - s, true, tm) :: B = (A ++ [(s, false, x.2.2)]) ++ (x.1 - s, true, tm) :: B from by simp]
    exact h
  · rw [qA_is, qA_ne _ _ _ _ hne.symm]
    refine q_ms_app.mpr ⟨q_ms_congr (fun i h1 h2 => ⟨q_upd_ne _ _ _ (by omega), rfl⟩) (fun v hv => hok.2.2.2.1 v (by simp [hv])) hA, ?_, fun i h3 h4 => ?_, fun h => (nomatch h), trivial⟩
    · rw [q_upd_eq]; rfl
    · rw [q_upd_ne _ _ _ (by omega)]; exact hat.2.1 i h3 (by have : i < 1 + v_sz A + s := h4; omega)
  · rw [esz, qA_is]
    intro i h3 h4
    rw [q_upd_ne _ _ _ (by omega)]
    exact hat.2.1 i (by omega) (by omega)
  · rw [esz, qA_is, qA_ne _ _ _ _ hne.symm, show 1 + v_sz A + s + (x.1 - s) = 1 + v_sz A + x.1 from by omega]
    exact q_ms_congr (fun i h3 h4 => ⟨q_upd_ne _ _ _ (by omega), rfl⟩) (fun v hv => hok.2.2.2.1 v (by simp [hv])) hB
/-- while pieces are swallowed: F0 gone, R still there -/
def q_Mj (S : qS) (m sz ti n fails tm : Nat) (A : v_V) (x : Nat × Bool × Nat) (z : Nat) (R : v_V) : Prop := q_Mb S m sz ti n ∧ S.I 9 m = nI (tm - 1) ∧ S.I 10 m = nI fails ∧ q_ms (S.A sz) (S.A ti) 1 A ∧ S.A sz (1 + v_sz A) = v_sg x ∧ (∀ i, 1 + v_sz A < i → i < 1 + v_sz A + z → S.A sz i = 0) ∧ q_ms (S.A sz) (S.A ti) (1 + v_sz A + z) R ∧ v_sz A + z + v_sz R = n ∧ (∀ v ∈ A ++ R, 1 ≤ v.1) ∧ 1 ≤ z ∧ n ≤ 16384
theorem q_Mj_of {S : qS} {m sz ti n fails tm : Nat} {A R : v_V} {x : Nat × Bool × Nat} (hM : q_M S m sz ti n fails tm (A ++ x :: R)) : q_Mj S m sz ti n fails tm A x x.1 R := by
  obtain ⟨hA, hB⟩ := q_M_parts hM
  obtain ⟨h1, h2, -, h4, h5, h6⟩ := q_M_at hM
  exact ⟨hM.1, hM.2.1, hM.2.2.1, hA, h1, h2, hB, h5, fun v hv => hM.2.2.2.1.2.2.2.1 v (by rcases List.mem_append.mp hv with h | h <;> simp [h]), h4, h6⟩
theorem q_Mj_step {S : qS} {m sz ti n fails tm z : Nat} {A R : v_V} {x w : Nat × Bool × Nat} (hM : q_Mj S m sz ti n fails tm A x z (w :: R)) : q_Mj (S.sA sz (1 + v_sz A + z) 0) m sz ti n fails tm A x (z + w.1) R := by
  obtain ⟨hb, h9, h10, hA, hx, hz, hR, hs, hp, hz1, hn⟩ := hM
  have hne := hb.2.2.2.1
  obtain ⟨-, r2, -, r4⟩ := hR
  have hw1 := hp w (by simp)
  refine ⟨q_Mb_gr hb (q_gr_sA q_gr_rf) rfl, h9, h10, ?_, ?_, fun i h1 h2 => ?_, ?_, by simp only [v_sz] at hs; omega, fun v hv => hp v (by rcases List.mem_append.mp hv with h | h <;> simp [h]), by omega, hn⟩
  · rw [qA_is, qA_ne _ _ _ _ hne.symm]
    exact q_ms_congr (fun i h1 h2 => ⟨q_upd_ne _ _ _ (by omega), rfl⟩) (fun v hv => hp v (by simp [hv])) hA
  · rw [qA_is, q_upd_ne _ _ _ (by omega)]; exact hx
  · rw [qA_is]
    by_cases e : i = 1 + v_sz A + z
    · rw [e, q_upd_eq]
    · rw [q_upd_ne _ _ _ e]
      rcases Nat.lt_or_ge i (1 + v_sz A + z) with h | h
      · exact hz i h1 h
      · exact r2 i (by omega) (by omega)
  · rw [qA_is, qA_ne _ _ _ _ hne.symm, show 1 + v_sz A + (z + w.1) = 1 + v_sz A + z + w.1 from by omega]
    exact q_ms_congr (fun i h1 h2 => ⟨q_upd_ne _ _ _ (by omega), rfl⟩) (fun v hv => hp v (by simp [hv])) r4
