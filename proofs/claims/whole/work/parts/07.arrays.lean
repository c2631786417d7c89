section QA
theorem qF_6 (cI cR : ClassId) (S : qS) {a : Nat} (h : S.K a = 6) : qF cI cR S a = .inl (cI, S.N a, .inl (S.A a)) := by unfold qF; rw [h]; rfl
theorem qF_7 (cI cR : ClassId) (S : qS) {a : Nat} (h : S.K a = 7) : qF cI cR S a = .inl (cR, S.N a, .inr (.inr (.inr (.inr (S.B a))))) := by unfold qF; rw [h]; rfl
theorem q_g6 (E : qE) (S : qS) {a : Nat} (hL : a ∈ S.L) (h : S.K a = 6) : ∃ i : Nat, (q_w E S)[i]? = some (a, qF E.cI E.cR S a) ∧ (q_w E S)[i]? = some (a, .inl (E.cI, S.N a, .inl (S.A a))) := by
  obtain ⟨i, hi⟩ := va_pl_get (X := E.X) (f := qF E.cI E.cR S) hL
  exact ⟨i, hi, hi.trans (congrArg (fun e => some (a, e)) (qF_6 E.cI E.cR S h))⟩
theorem q_g7 (E : qE) (S : qS) {a : Nat} (hL : a ∈ S.L) (h : S.K a = 7) : ∃ i : Nat, (q_w E S)[i]? = some (a, qF E.cI E.cR S a) ∧ (q_w E S)[i]? = some (a, .inl (E.cR, S.N a, .inr (.inr (.inr (.inr (S.B a)))))) := by
  obtain ⟨i, hi⟩ := va_pl_get (X := E.X) (f := qF E.cI E.cR S) hL
  exact ⟨i, hi, hi.trans (congrArg (fun e => some (a, e)) (qF_7 E.cI E.cR S h))⟩
theorem qA_ne (S : qS) (a i : Nat) (v : Int32) {b : Nat} (hb : b ≠ a) : (S.sA a i v).A b = S.A b := va_up_ne _ _ hb
theorem qB_ne (S : qS) (a i : Nat) (v : Option Nat) {b : Nat} (hb : b ≠ a) : (S.sB a i v).B b = S.B b := va_up_ne _ _ hb
theorem qA_is (S : qS) (a i : Nat) (v : Int32) : (S.sA a i v).A a = upd (S.A a) i v := va_up_self _ _ _
theorem qB_is (S : qS) (a i : Nat) (v : Option Nat) : (S.sB a i v).B a = va_up (S.B a) i v := va_up_self _ _ _
theorem qF_sA_ne (cI cR : ClassId) (S : qS) (a i : Nat) (v : Int32) {b : Nat} (hb : b ≠ a) : qF cI cR (S.sA a i v) b = qF cI cR S b := by
  unfold qF; rw [qA_ne S a i v hb]; rfl
theorem qF_sB_ne (cI cR : ClassId) (S : qS) (a i : Nat) (v : Option Nat) {b : Nat} (hb : b ≠ a) : qF cI cR (S.sB a i v) b = qF cI cR S b := by
  unfold qF; rw [qB_ne S a i v hb]; rfl
theorem qF_nA_ne (cI cR : ClassId) (S : qS) (q n : Nat) {b : Nat} (hb : b ≠ q) : qF cI cR (S.nA q n) b = qF cI cR S b := by
  have h1 : (S.nA q n).K b = S.K b := va_up_ne _ _ hb
  have h2 : (S.nA q n).N b = S.N b := va_up_ne _ _ hb
  have h3 : (S.nA q n).A b = S.A b := va_up_ne _ _ hb
  unfold qF; simp only [h1, h2, h3]; rfl
theorem qF_nB_ne (cI cR : ClassId) (S : qS) (q n : Nat) {b : Nat} (hb : b ≠ q) : qF cI cR (S.nB q n) b = qF cI cR S b := by
  have h1 : (S.nB q n).K b = S.K b := va_up_ne _ _ hb
  have h2 : (S.nB q n).N b = S.N b := va_up_ne _ _ hb
  have h3 : (S.nB q n).B b = S.B b := va_up_ne _ _ hb
  unfold qF; simp only [h1, h2, h3]; rfl
variable {p : Program} {l : Launch} {e : Env} {R : Room} {s : State} {m : MethodId} {args : Array Value} {below : List Frame} {meth : Method} {c : Code} {H : Heap} {locs : List Loc} {cells slots : Nat} {Q : State → Prop}
variable {cc : ByteArray} {nL pc : Nat} {ls : Array Slot} {rest st0 : List Value} {own : String} {E : qE} {S : qS} {a : Nat} {Ts : List Cond}
theorem q_iald (C : CallFix p m c cc nL s args q_T own) (hV : q_V E s S H locs) (hL : a ∈ S.L) (hK : S.K a = 6) {i : Int32} {j : Nat} (hi : i = nI j) (hj : j < S.N a) (hN : S.N a < 2 ^ 31) (hdg : decode cc pc = .ok (.iaload, 1))
    (kk : W p l e R s m args below meth c H locs cells slots Q (F0 m (pc + 1) ls (.int (S.A a j) :: rest))) : W p l e R s m args below meth c H locs cells slots Q (F0 m pc ls (.int i :: .ref a :: rest)) := by
  obtain ⟨k, -, h⟩ := q_g6 E S hL hK
  subst hi
  refine va_iald C.1 C.2.1 hV.1.1 hV.2.2.1 k 0 h rfl (vp_in_nI hj hN) hdg ?_
  rw [nI_clamp (Nat.lt_trans hj hN)]
  exact kk
theorem q_aald (C : CallFix p m c cc nL s args q_T own) (hV : q_V E s S H locs) (hL : a ∈ S.L) (hK : S.K a = 7) {i : Int32} {j : Nat} (hi : i = nI j) (hj : j < S.N a) (hN : S.N a < 2 ^ 31) (hdg : decode cc pc = .ok (.aaload, 1))
    (kk : W p l e R s m args below meth c H locs cells slots Q (F0 m (pc + 1) ls (va_rf (S.B a j) :: rest))) : W p l e R s m args below meth c H locs cells slots Q (F0 m pc ls (.int i :: .ref a :: rest)) := by
  obtain ⟨k, -, h⟩ := q_g7 E S hL hK
  subst hi
  refine va_aldq C.1 C.2.1 hV.1.1 hV.2.2.1 k 1 h rfl (vp_in_nI hj hN) hdg ?_
  rw [nI_clamp (Nat.lt_trans hj hN)]
  exact kk
theorem q_iast (C : CallFix p m c cc nL s args q_T own) (hV : q_V E s S H locs) (hL : a ∈ S.L) (hK : S.K a = 6) {i x : Int32} {j : Nat} (hi : i = nI j) (hj : j < S.N a) (hN : S.N a < 2 ^ 31) (hdg : decode cc pc = .ok (.iastore, 1))
    (kk : ∀ (H1 : Heap) (locs1 : List Loc), q_V E s (S.sA a j x) H1 locs1 → W p l e R s m args below meth c H1 locs1 cells slots Q (F0 m (pc + 1) ls rest)) : W p l e R s m args below meth c H locs cells slots Q (F0 m pc ls (.int x :: .int i :: .ref a :: rest)) := by
  obtain ⟨k, h0, h⟩ := q_g6 E S hL hK
  subst hi
  obtain ⟨vK, vZ, hP, hD, hS, hA⟩ := hV
  refine va_iast C.1 C.2.1 vK.1 hP hD hS k 0 h rfl (vp_in_nI hj hN) hdg fun H1 locs1 g1 g2 g3 => ?_
  have e1 : (q_w E S).set k (a, .inl (E.cI, S.N a, .inl (upd (S.A a) j x))) = q_w E (S.sA a j x) := q_set E rfl hD hL h0 (by rw [qF_6 _ _ _ (show (S.sA a j x).K a = 6 from hK), qA_is]; rfl) (fun b hb => qF_sA_ne _ _ _ _ _ _ hb)
  rw [nI_clamp (Nat.lt_trans hj hN), e1] at g1 g2
  exact kk H1 locs1 ⟨vK, vZ, g1, g2, g3, hA⟩
theorem q_aast (C : CallFix p m c cc nL s args q_T own) (hV : q_V E s S H locs) (hL : a ∈ S.L) (hK : S.K a = 7) {v : Nat} (hLv : v ∈ S.L) (hKv : S.K v = 1) {i : Int32} {j : Nat} (hi : i = nI j) (hj : j < S.N a) (hN : S.N a < 2 ^ 31) (hdg : decode cc pc = .ok (.aastore, 1))
    (kk : ∀ (H1 : Heap) (locs1 : List Loc), q_V E s (S.sB a j (some v)) H1 locs1 → W p l e R s m args below meth c H1 locs1 cells slots Q (F0 m (pc + 1) ls rest)) : W p l e R s m args below meth c H locs cells slots Q (F0 m pc ls (.ref v :: .int i :: .ref a :: rest)) := by
  obtain ⟨k, h0, h⟩ := q_g7 E S hL hK
  obtain ⟨k2, -, h2⟩ := q_g1 E S hLv hKv
  subst hi
  obtain ⟨vK, vZ, hP, hD, hS, hA⟩ := hV
  refine va_astq (r := (RX1, TX1, 7)) C.1 C.2.1 vK.1 hP hD hS k 1 k2 1 h rfl h2 rfl (vp_in_nI hj hN) hdg fun H1 locs1 g1 g2 g3 => ?_
  have e1 : (q_w E S).set k (a, .inl (E.cR, S.N a, .inr (.inr (.inr (.inr (va_up (S.B a) j (some v))))))) = q_w E (S.sB a j (some v)) := q_set E rfl hD hL h0 (by rw [qF_7 _ _ _ (show (S.sB a j (some v)).K a = 7 from hK), qB_is]; rfl) (fun b hb => qF_sB_ne _ _ _ _ _ _ hb)
  rw [nI_clamp (Nat.lt_trans hj hN), e1] at g1 g2
  exact kk H1 locs1 ⟨vK, vZ, g1, g2, g3, hA⟩
theorem q_len6 (C : CallFix p m c cc nL s args q_T own) (hV : q_V E s S H locs) (hL : a ∈ S.L) (hK : S.K a = 6) (hdg : decode cc pc = .ok (.arraylength, 1))
    (kk : W p l e R s m args below meth c H locs cells slots Q (F0 m (pc + 1) ls (.int (nI (S.N a)) :: rest))) : W p l e R s m args below meth c H locs cells slots Q (F0 m pc ls (.ref a :: rest)) := by
  obtain ⟨k, -, h⟩ := q_g6 E S hL hK
  exact va_alen C.1 C.2.1 hV.1.1 hV.2.2.1 k 0 h rfl rfl hdg kk
theorem q_len7 (C : CallFix p m c cc nL s args q_T own) (hV : q_V E s S H locs) (hL : a ∈ S.L) (hK : S.K a = 7) (hdg : decode cc pc = .ok (.arraylength, 1))
    (kk : W p l e R s m args below meth c H locs cells slots Q (F0 m (pc + 1) ls (.int (nI (S.N a)) :: rest))) : W p l e R s m args below meth c H locs cells slots Q (F0 m pc ls (.ref a :: rest)) := by
  obtain ⟨k, -, h⟩ := q_g7 E S hL hK
  exact va_alen C.1 C.2.1 hV.1.1 hV.2.2.1 k 1 h rfl rfl hdg kk
theorem q_newI (C : CallFix p m c cc nL s args q_T own) (hV : q_V E s S H locs) {n : Int32} {k : Nat} (hn : n = nI k) (hk : k < 2 ^ 24) (hcells : cells + 1 ≤ R.cells) (hslots : slots + k ≤ R.slots) (hdg : decode cc pc = .ok (.newarray .int, 2))
    (kk : ∀ (q : Nat) (H1 : Heap), q ∉ S.L → q_V E s (S.nA q k) H1 locs → W p l e R s m args below meth c H1 locs (cells + 1) (slots + k) Q (F0 m (pc + 2) ls (.ref q :: rest))) : W p l e R s m args below meth c H locs cells slots Q (F0 m pc ls (.int n :: rest)) := by
  obtain ⟨vK, vZ, hP, hD, hS, hA⟩ := hV
  subst hn
  have b1 : k * componentBytes .int ≤ 536870912 := by
    have : componentBytes .int = 4 := rfl
    rw [this]
    omega
  have b2 : k < 2 ^ 31 := by omega
  have b3 : ¬ nI k < 0 := nI_pos b2
  have b4 : (nI k).toNatClampNeg = k := nI_clamp b2
  have b5 : ∀ cA : ClassId, vp_cell cA (k, .inl (fun _ => 0)) = arrV cA k (fun _ => defaultValue .int) := fun cA => vp_cell_i cA k _
  refine va_newa (atype := .int) (a0 := (k, .inl (fun _ => 0))) (N' := k) C.1 C.2.1 (vK.2.2.2.2.1 args) (ty := .int) rfl vK.1 hP hD hS hA b5 b3 b4 b1 hcells hslots hdg fun q cA H1 g0 g1 g2 g3 => ?_
  have hq : q ∉ S.L := va_pl_fresh2 g2
  have hcA : cA = E.cI := by
    have h1 : s.vm.findClass ("[" ++ FieldType.int.toString) = some cA := (g0.2 3 (cA, .int) rfl).2
    have h2 : s.vm.findClass ("[" ++ FieldType.int.toString) = some E.cI := (vK.1.2 0 (E.cI, .int) rfl).2
    exact Option.some.inj (h1.symm.trans h2)
  subst hcA
  have e1 : q_w E S ++ [(q, .inl (E.cI, k, .inl (fun _ => 0)))] = q_w E (S.nA q k) := q_add E rfl hq (by
    have hK1 : (S.nA q k).K q = 6 := va_up_self _ _ _
    have h2 : (S.nA q k).N q = k := va_up_self _ _ _
    have h3 : (S.nA q k).A q = fun _ => 0 := va_up_self _ _ _
    rw [qF_6 _ _ _ hK1, h2, h3]) (fun b hb => qF_nA_ne _ _ _ _ _ hb)
  rw [e1] at g1 g2
  exact kk q H1 hq ⟨vK, vZ, g1, g2, g3, hA⟩
theorem q_newB (C : CallFix p m c cc nL s args q_T own) (hV : q_V E s S H locs) {index : Nat} (hcl : Cond.classLink own index RX1 ∈ q_T) {n : Int32} {k : Nat} (hn : n = nI k) (hk : k < 2 ^ 24) (hcells : cells + 1 ≤ R.cells) (hslots : slots + k ≤ R.slots) (hdg : decode cc pc = .ok (.anewarray index, 3))
    (kk : ∀ (q : Nat) (H1 : Heap), q ∉ S.L → q_V E s (S.nB q k) H1 locs → W p l e R s m args below meth c H1 locs (cells + 1) (slots + k) Q (F0 m (pc + 3) ls (.ref q :: rest))) : W p l e R s m args below meth c H locs cells slots Q (F0 m pc ls (.int n :: rest)) := by
  obtain ⟨vK, vZ, hP, hD, hS, hA⟩ := hV
  subst hn
  refine va_newq (N' := k) C.1 C.2.1 C.2.2.2.1 (C.2.2.2.2 _ hcl) vK.2.2.1 vK.1 hP hD hS hA (nI_pos (by omega)) (nI_clamp (by omega)) (by omega) hcells hslots hdg fun q cA H1 g0 g1 g2 g3 => ?_
  have hq : q ∉ S.L := va_pl_fresh2 g2
  have hcA : cA = E.cR := by
    obtain ⟨_, _, _, _, _, h1⟩ := (g0.2 3 (cA, .object RX1) rfl).2
    obtain ⟨_, _, _, _, _, h2⟩ := (vK.1.2 1 (E.cR, .object RX1) rfl).2
    exact Option.some.inj (h1.symm.trans h2)
  subst hcA
  have e1 : q_w E S ++ [(q, .inl (E.cR, k, .inr (.inr (.inr (.inr (fun _ => none))))))] = q_w E (S.nB q k) := q_add E rfl hq (by
    have hK1 : (S.nB q k).K q = 7 := va_up_self _ _ _
    have h2 : (S.nB q k).N q = k := va_up_self _ _ _
    have h3 : (S.nB q k).B q = fun _ => none := va_up_self _ _ _
    rw [qF_7 _ _ _ hK1, h2, h3]) (fun b hb => qF_nB_ne _ _ _ _ _ hb)
  rw [e1] at g1 g2
  exact kk q H1 hq ⟨vK, vZ, g1, g2, g3, hA⟩
end QA
