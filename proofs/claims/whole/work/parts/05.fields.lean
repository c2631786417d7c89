section QF
theorem qI_self (S : qS) (k a : Nat) (v : Int32) : (S.sI k a v).I k a = v := by show va_up S.I k (va_up (S.I k) a v) k a = v; rw [va_up_self, va_up_self]
theorem qR_self (S : qS) (k a : Nat) (v : Option Nat) : (S.sR k a v).R k a = v := by show va_up S.R k (va_up (S.R k) a v) k a = v; rw [va_up_self, va_up_self]
theorem qJ_self (S : qS) (k a : Nat) (v : Int64) : (S.sJ k a v).J k a = v := by show va_up S.J k (va_up (S.J k) a v) k a = v; rw [va_up_self, va_up_self]
theorem qI_of (S : qS) (k a : Nat) (v : Int32) {j : Nat} (h : j ≠ k) : (S.sI k a v).I j = S.I j := by show va_up S.I k (va_up (S.I k) a v) j = _; rw [va_up_ne _ _ h]
theorem qR_of (S : qS) (k a : Nat) (v : Option Nat) {j : Nat} (h : j ≠ k) : (S.sR k a v).R j = S.R j := by show va_up S.R k (va_up (S.R k) a v) j = _; rw [va_up_ne _ _ h]
theorem qJ_of (S : qS) (k a : Nat) (v : Int64) {j : Nat} (h : j ≠ k) : (S.sJ k a v).J j = S.J j := by show va_up S.J k (va_up (S.J k) a v) j = _; rw [va_up_ne _ _ h]
theorem qI_is (S : qS) (k a : Nat) (v : Int32) : (S.sI k a v).I k = va_up (S.I k) a v := by show va_up S.I k (va_up (S.I k) a v) k = _; rw [va_up_self]
theorem qR_is (S : qS) (k a : Nat) (v : Option Nat) : (S.sR k a v).R k = va_up (S.R k) a v := by show va_up S.R k (va_up (S.R k) a v) k = _; rw [va_up_self]
theorem qJ_is (S : qS) (k a : Nat) (v : Int64) : (S.sJ k a v).J k = va_up (S.J k) a v := by show va_up S.J k (va_up (S.J k) a v) k = _; rw [va_up_self]
theorem qI_ne (S : qS) (k a : Nat) (v : Int32) {b : Nat} (hb : b ≠ a) (j : Nat) : (S.sI k a v).I j b = S.I j b := by
  by_cases hj : j = k
  · subst hj; rw [qI_is, va_up_ne _ _ hb]
  · rw [qI_of _ _ _ _ hj]
theorem qR_ne (S : qS) (k a : Nat) (v : Option Nat) {b : Nat} (hb : b ≠ a) (j : Nat) : (S.sR k a v).R j b = S.R j b := by
  by_cases hj : j = k
  · subst hj; rw [qR_is, va_up_ne _ _ hb]
  · rw [qR_of _ _ _ _ hj]
theorem qJ_ne (S : qS) (k a : Nat) (v : Int64) {b : Nat} (hb : b ≠ a) (j : Nat) : (S.sJ k a v).J j b = S.J j b := by
  by_cases hj : j = k
  · subst hj; rw [qJ_is, va_up_ne _ _ hb]
  · rw [qJ_of _ _ _ _ hj]
theorem qF_sI_ne (cI cR : ClassId) (S : qS) (k a : Nat) (v : Int32) {b : Nat} (hb : b ≠ a) : qF cI cR (S.sI k a v) b = qF cI cR S b := by
  unfold qF; simp only [qI_ne S k a v hb]; rfl
theorem qF_sR_ne (cI cR : ClassId) (S : qS) (k a : Nat) (v : Option Nat) {b : Nat} (hb : b ≠ a) : qF cI cR (S.sR k a v) b = qF cI cR S b := by
  unfold qF; simp only [qR_ne S k a v hb]; rfl
theorem qF_sJ_ne (cI cR : ClassId) (S : qS) (k a : Nat) (v : Int64) {b : Nat} (hb : b ≠ a) : qF cI cR (S.sJ k a v) b = qF cI cR S b := by
  unfold qF; simp only [qJ_ne S k a v hb]; rfl
theorem qF_nO_ne (cI cR : ClassId) (S : qS) (q k : Nat) {b : Nat} (hb : b ≠ q) : qF cI cR (S.nO q k) b = qF cI cR S b := by
  have h1 : (S.nO q k).K b = S.K b := va_up_ne _ _ hb
  have h2 : ∀ j, (S.nO q k).I j b = S.I j b := fun j => va_up_ne _ _ hb
  have h3 : ∀ j, (S.nO q k).R j b = S.R j b := fun j => va_up_ne _ _ hb
  have h4 : ∀ j, (S.nO q k).J j b = S.J j b := fun j => va_up_ne _ _ hb
  unfold qF; simp only [h1, h2, h3, h4]; rfl
theorem q_set {A : Nat → Prop} (E : qE) {S S1 : qS} {a i : Nat} {x : va_E} (hL : S1.L = S.L) (hD : va_D A (q_w E S)) (h : a ∈ S.L) (hi : (q_w E S)[i]? = some (a, qF E.cI E.cR S a)) (hx : qF E.cI E.cR S1 a = x) (ho : ∀ b, b ≠ a → qF E.cI E.cR S1 b = qF E.cI E.cR S b) : (q_w E S).set i (a, x) = q_w E S1 := by
  have h1 := va_pl_set (e := x) hD h hi
  refine h1.trans ?_
  show E.X ++ va_pl S.L _ = E.X ++ va_pl S1.L _
  rw [hL]
  refine congrArg (fun l => E.X ++ l) (va_pl_congr fun b => ?_)
  by_cases hb : b = a
  · subst hb; rw [va_up_self, hx]
  · rw [va_up_ne _ _ hb, ho b hb]
theorem q_add (E : qE) {S S1 : qS} {q : Nat} {x : va_E} (hL : S1.L = S.L ++ [q]) (hq : q ∉ S.L) (hx : qF E.cI E.cR S1 q = x) (ho : ∀ b, b ≠ q → qF E.cI E.cR S1 b = qF E.cI E.cR S b) : q_w E S ++ [(q, x)] = q_w E S1 := by
  show (E.X ++ va_pl S.L _) ++ [(q, x)] = E.X ++ va_pl S1.L _
  rw [List.append_assoc, va_pl_push hq, hL]
  refine congrArg (fun l => E.X ++ l) (va_pl_congr fun b => ?_)
  by_cases hb : b = q
  · subst hb; rw [va_up_self, hx]
  · rw [va_up_ne _ _ hb, ho b hb]
theorem qF_0 (cI cR : ClassId) (S : qS) {a : Nat} (h : S.K a = 0) : qF cI cR S a = .inr (0, [.int (S.I 0 a), .int (S.I 1 a), .int (S.I 2 a), .long (S.J 0 a), va_rf (S.R 0 a), va_rf (S.R 1 a), .int (S.I 3 a)]) := by unfold qF; rw [h]; rfl
theorem q_g0 (E : qE) (S : qS) {a : Nat} (hL : a ∈ S.L) (h : S.K a = 0) : ∃ i : Nat, (q_w E S)[i]? = some (a, qF E.cI E.cR S a) ∧ (q_w E S)[i]? = some (a, .inr (0, [.int (S.I 0 a), .int (S.I 1 a), .int (S.I 2 a), .long (S.J 0 a), va_rf (S.R 0 a), va_rf (S.R 1 a), .int (S.I 3 a)])) := by
  obtain ⟨i, hi⟩ := va_pl_get (X := E.X) (f := qF E.cI E.cR S) hL
  exact ⟨i, hi, hi.trans (congrArg (fun e => some (a, e)) (qF_0 E.cI E.cR S h))⟩
theorem q_u0 : ∀ w ∈ u_ws RX0 TX0 7, w ∈ q_T := by decide +kernel
theorem qF_1 (cI cR : ClassId) (S : qS) {a : Nat} (h : S.K a = 1) : qF cI cR S a = .inr (1, [.int (S.I 4 a), va_rf (S.R 2 a), va_rf (S.R 3 a), va_rf (S.R 4 a), .int (S.I 11 a), .int (S.I 12 a), va_rf (S.R 12 a)]) := by unfold qF; rw [h]; rfl
theorem q_g1 (E : qE) (S : qS) {a : Nat} (hL : a ∈ S.L) (h : S.K a = 1) : ∃ i : Nat, (q_w E S)[i]? = some (a, qF E.cI E.cR S a) ∧ (q_w E S)[i]? = some (a, .inr (1, [.int (S.I 4 a), va_rf (S.R 2 a), va_rf (S.R 3 a), va_rf (S.R 4 a), .int (S.I 11 a), .int (S.I 12 a), va_rf (S.R 12 a)])) := by
  obtain ⟨i, hi⟩ := va_pl_get (X := E.X) (f := qF E.cI E.cR S) hL
  exact ⟨i, hi, hi.trans (congrArg (fun e => some (a, e)) (qF_1 E.cI E.cR S h))⟩
theorem q_u1 : ∀ w ∈ u_ws RX1 TX1 7, w ∈ q_T := by decide +kernel
theorem qF_2 (cI cR : ClassId) (S : qS) {a : Nat} (h : S.K a = 2) : qF cI cR S a = .inr (2, [va_rf (S.R 5 a), va_rf (S.R 6 a), .long (S.J 1 a)]) := by unfold qF; rw [h]; rfl
theorem q_g2 (E : qE) (S : qS) {a : Nat} (hL : a ∈ S.L) (h : S.K a = 2) : ∃ i : Nat, (q_w E S)[i]? = some (a, qF E.cI E.cR S a) ∧ (q_w E S)[i]? = some (a, .inr (2, [va_rf (S.R 5 a), va_rf (S.R 6 a), .long (S.J 1 a)])) := by
  obtain ⟨i, hi⟩ := va_pl_get (X := E.X) (f := qF E.cI E.cR S) hL
  exact ⟨i, hi, hi.trans (congrArg (fun e => some (a, e)) (qF_2 E.cI E.cR S h))⟩
theorem q_u2 : ∀ w ∈ u_ws RX2 TX2 3, w ∈ q_T := by decide +kernel
theorem qF_3 (cI cR : ClassId) (S : qS) {a : Nat} (h : S.K a = 3) : qF cI cR S a = .inr (3, [va_rf (S.R 7 a)]) := by unfold qF; rw [h]; rfl
theorem q_g3 (E : qE) (S : qS) {a : Nat} (hL : a ∈ S.L) (h : S.K a = 3) : ∃ i : Nat, (q_w E S)[i]? = some (a, qF E.cI E.cR S a) ∧ (q_w E S)[i]? = some (a, .inr (3, [va_rf (S.R 7 a)])) := by
  obtain ⟨i, hi⟩ := va_pl_get (X := E.X) (f := qF E.cI E.cR S) hL
  exact ⟨i, hi, hi.trans (congrArg (fun e => some (a, e)) (qF_3 E.cI E.cR S h))⟩
theorem q_u3 : ∀ w ∈ u_ws RX3 TX3 1, w ∈ q_T := by decide +kernel
theorem qF_4 (cI cR : ClassId) (S : qS) {a : Nat} (h : S.K a = 4) : qF cI cR S a = .inr (5, [va_rf (S.R 8 a), va_rf (S.R 9 a), .int (S.I 5 a), .int (S.I 6 a)]) := by unfold qF; rw [h]; rfl
theorem q_g4 (E : qE) (S : qS) {a : Nat} (hL : a ∈ S.L) (h : S.K a = 4) : ∃ i : Nat, (q_w E S)[i]? = some (a, qF E.cI E.cR S a) ∧ (q_w E S)[i]? = some (a, .inr (5, [va_rf (S.R 8 a), va_rf (S.R 9 a), .int (S.I 5 a), .int (S.I 6 a)])) := by
  obtain ⟨i, hi⟩ := va_pl_get (X := E.X) (f := qF E.cI E.cR S) hL
  exact ⟨i, hi, hi.trans (congrArg (fun e => some (a, e)) (qF_4 E.cI E.cR S h))⟩
theorem q_u4 : ∀ w ∈ u_ws RX5 TX5 4, w ∈ q_T := by decide +kernel
theorem qF_5 (cI cR : ClassId) (S : qS) {a : Nat} (h : S.K a = 5) : qF cI cR S a = .inr (6, [.int (S.I 7 a), .int (S.I 8 a), va_rf (S.R 10 a), va_rf (S.R 11 a), .int (S.I 9 a), .int (S.I 10 a)]) := by unfold qF; rw [h]; rfl
theorem q_g5 (E : qE) (S : qS) {a : Nat} (hL : a ∈ S.L) (h : S.K a = 5) : ∃ i : Nat, (q_w E S)[i]? = some (a, qF E.cI E.cR S a) ∧ (q_w E S)[i]? = some (a, .inr (6, [.int (S.I 7 a), .int (S.I 8 a), va_rf (S.R 10 a), va_rf (S.R 11 a), .int (S.I 9 a), .int (S.I 10 a)])) := by
  obtain ⟨i, hi⟩ := va_pl_get (X := E.X) (f := qF E.cI E.cR S) hL
  exact ⟨i, hi, hi.trans (congrArg (fun e => some (a, e)) (qF_5 E.cI E.cR S h))⟩
theorem q_u5 : ∀ w ∈ u_ws RX6 TX6 6, w ∈ q_T := by decide +kernel
theorem qF_8 (cI cR : ClassId) (S : qS) {a : Nat} (h : S.K a = 8) : qF cI cR S a = .inr (4, [va_rf (S.R 13 a), .int (S.I 13 a)]) := by unfold qF; rw [h]; rfl
theorem q_g8 (E : qE) (S : qS) {a : Nat} (hL : a ∈ S.L) (h : S.K a = 8) : ∃ i : Nat, (q_w E S)[i]? = some (a, qF E.cI E.cR S a) ∧ (q_w E S)[i]? = some (a, .inr (4, [va_rf (S.R 13 a), .int (S.I 13 a)])) := by
  obtain ⟨i, hi⟩ := va_pl_get (X := E.X) (f := qF E.cI E.cR S) hL
  exact ⟨i, hi, hi.trans (congrArg (fun e => some (a, e)) (qF_8 E.cI E.cR S h))⟩
theorem q_u8 : ∀ w ∈ u_ws RX4 TX4 2, w ∈ q_T := by decide +kernel
variable {p : Program} {l : Launch} {e : Env} {R : Room} {s : State} {m : MethodId} {args : Array Value} {below : List Frame} {meth : Method} {c : Code} {H : Heap} {locs : List Loc} {cells slots : Nat} {Q : State → Prop}
variable {cc : ByteArray} {nL pc : Nat} {ls : Array Slot} {rest : List Value} {own : String} {E : qE} {S : qS} {a : Nat}
theorem q_get (C : CallFix p m c cc nL s args q_T own) (hV : q_V E s S H locs) {Cn : String} {T : u_T} {N ci k index : Nat} {fs : List Value} {v : Value} (hin : ∀ w ∈ u_ws Cn T N, w ∈ q_T) (he : ∃ i : Nat, (q_w E S)[i]? = some (a, .inr (ci, fs))) (hc : vwCl[ci]? = some (Cn, T, N)) (hk : k < N)
    (hl : Cond.fieldLink own index (T k).1 (T k).2.1 (T k).2.2.1 ∈ q_T ∨ ∃ host, Cond.fieldLinkNest own index (T k).1 (T k).2.1 (T k).2.2.1 host ∈ q_T) (hv : fs[k]? = some v) (hdg : decode cc pc = .ok (.getfield index, 3))
    (kk : W p l e R s m args below meth c H locs cells slots Q (F0 m (pc + 3) ls (v :: rest))) : W p l e R s m args below meth c H locs cells slots Q (F0 m pc ls (.ref a :: rest)) := by
  obtain ⟨hx, hb, -, hown, hts⟩ := C
  obtain ⟨hK, -, hP, -⟩ := hV
  obtain ⟨i, he⟩ := he
  rcases hl with hl | ⟨host, hl⟩
  · exact va_get hx hb hts hin hown hK.1 hP i he hc k hk (hts _ hl) (fun _ h => h) hv hdg kk
  · exact va_getN hx hb hts hin hown hK.1 hP i he hc k hk (hts _ hl) (fun _ h => h) hv hdg kk
theorem q_put (C : CallFix p m c cc nL s args q_T own) (hV : q_V E s S H locs) {Cn : String} {T : u_T} {N ci k index i : Nat} {fs : List Value} {v : Value} {S1 : qS} (hin : ∀ w ∈ u_ws Cn T N, w ∈ q_T) (ty0 : Nat → FieldType) (hty : ∀ k, k < N → parseFieldDescriptor (T k).2.2.1 = some (ty0 k)) (hnm : ∀ a, a < N → ∀ b, b < N → a ≠ b → (T a).2.1 ≠ (T b).2.1) (he : (q_w E S)[i]? = some (a, .inr (ci, fs))) (hc : vwCl[ci]? = some (Cn, T, N)) (hk : k < N)
    (hl : Cond.fieldLink own index (T k).1 (T k).2.1 (T k).2.2.1 ∈ q_T ∨ ∃ host, Cond.fieldLinkNest own index (T k).1 (T k).2.1 (T k).2.2.1 host ∈ q_T) (hfin : (T k).2.2.2 = false) (hn : narrow (ty0 k) v = v) (hfit : fits (ty0 k) v = true) (hlen : k < fs.length) (hS1 : (q_w E S).set i (a, .inr (ci, fs.set k v)) = q_w E S1) (hdg : decode cc pc = .ok (.putfield index, 3))
    (kk : ∀ (H1 : Heap) (locs1 : List Loc), q_V E s S1 H1 locs1 → W p l e R s m args below meth c H1 locs1 cells slots Q (F0 m (pc + 3) ls rest)) : W p l e R s m args below meth c H locs cells slots Q (F0 m pc ls (v :: .ref a :: rest)) := by
  obtain ⟨hx, hb, -, hown, hts⟩ := C
  obtain ⟨hK, hZ, hP, hD, hS, hA⟩ := hV
  rcases hl with hl | ⟨host, hl⟩
  · exact va_put hx hb hts hin ty0 hty hnm hown hK.1 hP hD hS i he hc k hk (hts _ hl) (fun _ h => h) hfin (hty k hk) hn hfit hlen hdg fun H1 locs1 g1 g2 g3 => kk H1 locs1 (by rw [hS1] at g1 g2; exact ⟨hK, hZ, g1, g2, g3, hA⟩)
  · exact va_putN hx hb hts hin ty0 hty hnm hown hK.1 hP hD hS i he hc k hk (hts _ hl) (fun _ h => h) hfin (hty k hk) hn hfit hlen hdg fun H1 locs1 g1 g2 g3 => kk H1 locs1 (by rw [hS1] at g1 g2; exact ⟨hK, hZ, g1, g2, g3, hA⟩)
theorem q_putF (C : CallFix p m c cc nL s args q_T own) (hV : q_V E s S H locs) (hin2 : meth.name = "<init>") {Cn : String} {T : u_T} {N ci k index i : Nat} {fs : List Value} {v : Value} {S1 : qS} (hin : ∀ w ∈ u_ws Cn T N, w ∈ q_T) (ty0 : Nat → FieldType) (hty : ∀ k, k < N → parseFieldDescriptor (T k).2.2.1 = some (ty0 k)) (hnm : ∀ a, a < N → ∀ b, b < N → a ≠ b → (T a).2.1 ≠ (T b).2.1) (he : (q_w E S)[i]? = some (a, .inr (ci, fs))) (hc : vwCl[ci]? = some (Cn, T, N)) (hk : k < N)
    (hl : Cond.fieldLink own index (T k).1 (T k).2.1 (T k).2.2.1 ∈ q_T) (hfin : (T k).2.2.2 = true) (hdecl : (T k).1 = own) (hn : narrow (ty0 k) v = v) (hfit : fits (ty0 k) v = true) (hlen : k < fs.length) (hS1 : (q_w E S).set i (a, .inr (ci, fs.set k v)) = q_w E S1) (hdg : decode cc pc = .ok (.putfield index, 3))
    (kk : ∀ (H1 : Heap) (locs1 : List Loc), q_V E s S1 H1 locs1 → W p l e R s m args below meth c H1 locs1 cells slots Q (F0 m (pc + 3) ls rest)) : W p l e R s m args below meth c H locs cells slots Q (F0 m pc ls (v :: .ref a :: rest)) := by
  obtain ⟨hx, hb, -, hown, hts⟩ := C
  obtain ⟨hK, hZ, hP, hD, hS, hA⟩ := hV
  exact va_putF hx hb hts hin ty0 hty hnm hown hK.1 hP hD hS i he hc k hk (hts _ hl) (fun _ h => h) hfin hin2 hdecl (hty k hk) hn hfit hlen hdg fun H1 locs1 g1 g2 g3 => kk H1 locs1 (by rw [hS1] at g1 g2; exact ⟨hK, hZ, g1, g2, g3, hA⟩)
theorem q_new (C : CallFix p m c cc nL s args q_T own) (hV : q_V E s S H locs) {Cn : String} {T : u_T} {N ci kd index : Nat} {fs : List Value} (hin : ∀ w ∈ u_ws Cn T N, w ∈ q_T) (ty0 : Nat → FieldType) (hty : ∀ k, k < N → parseFieldDescriptor (T k).2.2.1 = some (ty0 k)) (hcl : Cond.classLink own index Cn ∈ q_T) (hins : Cond.instantiable Cn N ∈ q_T) (hini : Cond.initialized Cn ∈ q_T) (hc : vwCl[ci]? = some (Cn, T, N)) (hfs : ∀ j, j < N → defaultValue (ty0 j) = vp_V fs j)
    (hw : ∀ q, q ∉ S.L → q_w E S ++ [(q, .inr (ci, fs))] = q_w E (S.nO q kd)) (hcells : cells + 1 ≤ R.cells) (hslots : slots + N ≤ R.slots) (hdg : decode cc pc = .ok (.new index, 3))
    (kk : ∀ (q : Nat) (H1 : Heap), q ∉ S.L → q_V E s (S.nO q kd) H1 locs → W p l e R s m args below meth c H1 locs (cells + 1) (slots + N) Q (F0 m (pc + 3) ls (.ref q :: rest))) : W p l e R s m args below meth c H locs cells slots Q (F0 m pc ls rest) := by
  obtain ⟨hx, hb, -, hown, hts⟩ := C
  obtain ⟨hK, hZ, hP, hD, hS, hA⟩ := hV
  refine va_new hx hb hts hin ty0 hty hown (hts _ hcl) (hts _ hins) (hts _ hini) hK.1 hP hD hS hA hc hfs hcells hslots hdg fun q H1 g1 g2 g3 => ?_
  have hq : q ∉ S.L := va_pl_fresh2 g2
  rw [hw q hq] at g1 g2
  exact kk q H1 hq ⟨hK, hZ, g1, g2, g3, hA⟩
theorem g_Piece_at (C : CallFix p m c cc nL s args q_T own) (hV : q_V E s S H locs) (hL : a ∈ S.L) (hK : S.K a = 0) {index : Nat} (hl : Cond.fieldLink own index (TX0 0).1 (TX0 0).2.1 (TX0 0).2.2.1 ∈ q_T ∨ ∃ host, Cond.fieldLinkNest own index (TX0 0).1 (TX0 0).2.1 (TX0 0).2.2.1 host ∈ q_T) (hdg : decode cc pc = .ok (.getfield index, 3))
    (kk : W p l e R s m args below meth c H locs cells slots Q (F0 m (pc + 3) ls (.int (S.I 0 a) :: rest))) : W p l e R s m args below meth c H locs cells slots Q (F0 m pc ls (.ref a :: rest)) := by
  obtain ⟨i, -, hi⟩ := q_g0 E S hL hK
  exact q_get (T := TX0) (k := 0) C hV q_u0 ⟨i, hi⟩ rfl (by decide) hl rfl hdg kk
theorem p_Piece_at (C : CallFix p m c cc nL s args q_T own) (hV : q_V E s S H locs) (hin2 : meth.name = "<init>") (hL : a ∈ S.L) (hK : S.K a = 0) {v : Int32} {index : Nat} (hl : Cond.fieldLink own index (TX0 0).1 (TX0 0).2.1 (TX0 0).2.2.1 ∈ q_T) (hdecl : (TX0 0).1 = own) (hdg : decode cc pc = .ok (.putfield index, 3))
    (kk : ∀ (H1 : Heap) (locs1 : List Loc), q_V E s (S.sI 0 a v) H1 locs1 → W p l e R s m args below meth c H1 locs1 cells slots Q (F0 m (pc + 3) ls rest)) : W p l e R s m args below meth c H locs cells slots Q (F0 m pc ls (.int v :: .ref a :: rest)) := by
  obtain ⟨i, hi0, hi⟩ := q_g0 E S hL hK
  have hK1 : (S.sI 0 a v).K a = 0 := hK
  refine q_putF (T := TX0) (k := 0) (S1 := S.sI 0 a v) C hV hin2 q_u0 tyX0 tyX0_ok nmX0 hi rfl (by decide) hl rfl hdecl (rfl) (rfl) (Nat.le_of_ble_eq_true rfl) (q_set E rfl hV.2.2.2.1 hL hi0 ?_ (fun b hb => qF_sI_ne _ _ _ _ _ _ hb)) hdg kk
  rw [qF_0 _ _ _ hK1]
  simp only [qI_self]
  rfl
theorem g_Piece_cells (C : CallFix p m c cc nL s args q_T own) (hV : q_V E s S H locs) (hL : a ∈ S.L) (hK : S.K a = 0) {index : Nat} (hl : Cond.fieldLink own index (TX0 1).1 (TX0 1).2.1 (TX0 1).2.2.1 ∈ q_T ∨ ∃ host, Cond.fieldLinkNest own index (TX0 1).1 (TX0 1).2.1 (TX0 1).2.2.1 host ∈ q_T) (hdg : decode cc pc = .ok (.getfield index, 3))
    (kk : W p l e R s m args below meth c H locs cells slots Q (F0 m (pc + 3) ls (.int (S.I 1 a) :: rest))) : W p l e R s m args below meth c H locs cells slots Q (F0 m pc ls (.ref a :: rest)) := by
  obtain ⟨i, -, hi⟩ := q_g0 E S hL hK
  exact q_get (T := TX0) (k := 1) C hV q_u0 ⟨i, hi⟩ rfl (by decide) hl rfl hdg kk
theorem p_Piece_cells (C : CallFix p m c cc nL s args q_T own) (hV : q_V E s S H locs) (hL : a ∈ S.L) (hK : S.K a = 0) {v : Int32} {index : Nat} (hl : Cond.fieldLink own index (TX0 1).1 (TX0 1).2.1 (TX0 1).2.2.1 ∈ q_T ∨ ∃ host, Cond.fieldLinkNest own index (TX0 1).1 (TX0 1).2.1 (TX0 1).2.2.1 host ∈ q_T) (hdg : decode cc pc = .ok (.putfield index, 3))
    (kk : ∀ (H1 : Heap) (locs1 : List Loc), q_V E s (S.sI 1 a v) H1 locs1 → W p l e R s m args below meth c H1 locs1 cells slots Q (F0 m (pc + 3) ls rest)) : W p l e R s m args below meth c H locs cells slots Q (F0 m pc ls (.int v :: .ref a :: rest)) := by
  obtain ⟨i, hi0, hi⟩ := q_g0 E S hL hK
  have hK1 : (S.sI 1 a v).K a = 0 := hK
  refine q_put (T := TX0) (k := 1) (S1 := S.sI 1 a v) C hV q_u0 tyX0 tyX0_ok nmX0 hi rfl (by decide) hl rfl (rfl) (rfl) (Nat.le_of_ble_eq_true rfl) (q_set E rfl hV.2.2.2.1 hL hi0 ?_ (fun b hb => qF_sI_ne _ _ _ _ _ _ hb)) hdg kk
  rw [qF_0 _ _ _ hK1]
  simp only [qI_self]
  rfl
theorem g_Piece_isFree (C : CallFix p m c cc nL s args q_T own) (hV : q_V E s S H locs) (hL : a ∈ S.L) (hK : S.K a = 0) {index : Nat} (hl : Cond.fieldLink own index (TX0 2).1 (TX0 2).2.1 (TX0 2).2.2.1 ∈ q_T ∨ ∃ host, Cond.fieldLinkNest own index (TX0 2).1 (TX0 2).2.1 (TX0 2).2.2.1 host ∈ q_T) (hdg : decode cc pc = .ok (.getfield index, 3))
    (kk : W p l e R s m args below meth c H locs cells slots Q (F0 m (pc + 3) ls (.int (S.I 2 a) :: rest))) : W p l e R s m args below meth c H locs cells slots Q (F0 m pc ls (.ref a :: rest)) := by
  obtain ⟨i, -, hi⟩ := q_g0 E S hL hK
  exact q_get (T := TX0) (k := 2) C hV q_u0 ⟨i, hi⟩ rfl (by decide) hl rfl hdg kk
theorem p_Piece_isFree (C : CallFix p m c cc nL s args q_T own) (hV : q_V E s S H locs) (hL : a ∈ S.L) (hK : S.K a = 0) {v : Int32} (hbool : v = 0 ∨ v = 1) {index : Nat} (hl : Cond.fieldLink own index (TX0 2).1 (TX0 2).2.1 (TX0 2).2.2.1 ∈ q_T ∨ ∃ host, Cond.fieldLinkNest own index (TX0 2).1 (TX0 2).2.1 (TX0 2).2.2.1 host ∈ q_T) (hdg : decode cc pc = .ok (.putfield index, 3))
    (kk : ∀ (H1 : Heap) (locs1 : List Loc), q_V E s (S.sI 2 a v) H1 locs1 → W p l e R s m args below meth c H1 locs1 cells slots Q (F0 m (pc + 3) ls rest)) : W p l e R s m args below meth c H locs cells slots Q (F0 m pc ls (.int v :: .ref a :: rest)) := by
  obtain ⟨i, hi0, hi⟩ := q_g0 E S hL hK
  have hK1 : (S.sI 2 a v).K a = 0 := hK
  refine q_put (T := TX0) (k := 2) (S1 := S.sI 2 a v) C hV q_u0 tyX0 tyX0_ok nmX0 hi rfl (by decide) hl rfl (by rcases hbool with h | h <;> subst h <;> rfl) (by rcases hbool with h | h <;> subst h <;> rfl) (Nat.le_of_ble_eq_true rfl) (q_set E rfl hV.2.2.2.1 hL hi0 ?_ (fun b hb => qF_sI_ne _ _ _ _ _ _ hb)) hdg kk
  rw [qF_0 _ _ _ hK1]
  simp only [qI_self]
  rfl
theorem g_Piece_since (C : CallFix p m c cc nL s args q_T own) (hV : q_V E s S H locs) (hL : a ∈ S.L) (hK : S.K a = 0) {index : Nat} (hl : Cond.fieldLink own index (TX0 3).1 (TX0 3).2.1 (TX0 3).2.2.1 ∈ q_T ∨ ∃ host, Cond.fieldLinkNest own index (TX0 3).1 (TX0 3).2.1 (TX0 3).2.2.1 host ∈ q_T) (hdg : decode cc pc = .ok (.getfield index, 3))
    (kk : W p l e R s m args below meth c H locs cells slots Q (F0 m (pc + 3) ls (.long (S.J 0 a) :: rest))) : W p l e R s m args below meth c H locs cells slots Q (F0 m pc ls (.ref a :: rest)) := by
  obtain ⟨i, -, hi⟩ := q_g0 E S hL hK
  exact q_get (T := TX0) (k := 3) C hV q_u0 ⟨i, hi⟩ rfl (by decide) hl rfl hdg kk
theorem p_Piece_since (C : CallFix p m c cc nL s args q_T own) (hV : q_V E s S H locs) (hL : a ∈ S.L) (hK : S.K a = 0) {v : Int64} {index : Nat} (hl : Cond.fieldLink own index (TX0 3).1 (TX0 3).2.1 (TX0 3).2.2.1 ∈ q_T ∨ ∃ host, Cond.fieldLinkNest own index (TX0 3).1 (TX0 3).2.1 (TX0 3).2.2.1 host ∈ q_T) (hdg : decode cc pc = .ok (.putfield index, 3))
    (kk : ∀ (H1 : Heap) (locs1 : List Loc), q_V E s (S.sJ 0 a v) H1 locs1 → W p l e R s m args below meth c H1 locs1 cells slots Q (F0 m (pc + 3) ls rest)) : W p l e R s m args below meth c H locs cells slots Q (F0 m pc ls (.long v :: .ref a :: rest)) := by
  obtain ⟨i, hi0, hi⟩ := q_g0 E S hL hK
  have hK1 : (S.sJ 0 a v).K a = 0 := hK
  refine q_put (T := TX0) (k := 3) (S1 := S.sJ 0 a v) C hV q_u0 tyX0 tyX0_ok nmX0 hi rfl (by decide) hl rfl (rfl) (rfl) (Nat.le_of_ble_eq_true rfl) (q_set E rfl hV.2.2.2.1 hL hi0 ?_ (fun b hb => qF_sJ_ne _ _ _ _ _ _ hb)) hdg kk
  rw [qF_0 _ _ _ hK1]
  simp only [qJ_self]
  rfl
theorem g_Piece_behind (C : CallFix p m c cc nL s args q_T own) (hV : q_V E s S H locs) (hL : a ∈ S.L) (hK : S.K a = 0) {index : Nat} (hl : Cond.fieldLink own index (TX0 4).1 (TX0 4).2.1 (TX0 4).2.2.1 ∈ q_T ∨ ∃ host, Cond.fieldLinkNest own index (TX0 4).1 (TX0 4).2.1 (TX0 4).2.2.1 host ∈ q_T) (hdg : decode cc pc = .ok (.getfield index, 3))
    (kk : W p l e R s m args below meth c H locs cells slots Q (F0 m (pc + 3) ls (va_rf (S.R 0 a) :: rest))) : W p l e R s m args below meth c H locs cells slots Q (F0 m pc ls (.ref a :: rest)) := by
  obtain ⟨i, -, hi⟩ := q_g0 E S hL hK
  exact q_get (T := TX0) (k := 4) C hV q_u0 ⟨i, hi⟩ rfl (by decide) hl rfl hdg kk
theorem p_Piece_behind (C : CallFix p m c cc nL s args q_T own) (hV : q_V E s S H locs) (hL : a ∈ S.L) (hK : S.K a = 0) {v : Option Nat} {index : Nat} (hl : Cond.fieldLink own index (TX0 4).1 (TX0 4).2.1 (TX0 4).2.2.1 ∈ q_T ∨ ∃ host, Cond.fieldLinkNest own index (TX0 4).1 (TX0 4).2.1 (TX0 4).2.2.1 host ∈ q_T) (hdg : decode cc pc = .ok (.putfield index, 3))
    (kk : ∀ (H1 : Heap) (locs1 : List Loc), q_V E s (S.sR 0 a v) H1 locs1 → W p l e R s m args below meth c H1 locs1 cells slots Q (F0 m (pc + 3) ls rest)) : W p l e R s m args below meth c H locs cells slots Q (F0 m pc ls (va_rf v :: .ref a :: rest)) := by
  obtain ⟨i, hi0, hi⟩ := q_g0 E S hL hK
  have hK1 : (S.sR 0 a v).K a = 0 := hK
  refine q_put (T := TX0) (k := 4) (S1 := S.sR 0 a v) C hV q_u0 tyX0 tyX0_ok nmX0 hi rfl (by decide) hl rfl (by cases v <;> rfl) (by cases v <;> rfl) (Nat.le_of_ble_eq_true rfl) (q_set E rfl hV.2.2.2.1 hL hi0 ?_ (fun b hb => qF_sR_ne _ _ _ _ _ _ hb)) hdg kk
  rw [qF_0 _ _ _ hK1]
  simp only [qR_self]
  rfl
theorem g_Piece_older (C : CallFix p m c cc nL s args q_T own) (hV : q_V E s S H locs) (hL : a ∈ S.L) (hK : S.K a = 0) {index : Nat} (hl : Cond.fieldLink own index (TX0 5).1 (TX0 5).2.1 (TX0 5).2.2.1 ∈ q_T ∨ ∃ host, Cond.fieldLinkNest own index (TX0 5).1 (TX0 5).2.1 (TX0 5).2.2.1 host ∈ q_T) (hdg : decode cc pc = .ok (.getfield index, 3))
    (kk : W p l e R s m args below meth c H locs cells slots Q (F0 m (pc + 3) ls (va_rf (S.R 1 a) :: rest))) : W p l e R s m args below meth c H locs cells slots Q (F0 m pc ls (.ref a :: rest)) := by
  obtain ⟨i, -, hi⟩ := q_g0 E S hL hK
  exact q_get (T := TX0) (k := 5) C hV q_u0 ⟨i, hi⟩ rfl (by decide) hl rfl hdg kk
theorem p_Piece_older (C : CallFix p m c cc nL s args q_T own) (hV : q_V E s S H locs) (hL : a ∈ S.L) (hK : S.K a = 0) {v : Option Nat} {index : Nat} (hl : Cond.fieldLink own index (TX0 5).1 (TX0 5).2.1 (TX0 5).2.2.1 ∈ q_T ∨ ∃ host, Cond.fieldLinkNest own index (TX0 5).1 (TX0 5).2.1 (TX0 5).2.2.1 host ∈ q_T) (hdg : decode cc pc = .ok (.putfield index, 3))
    (kk : ∀ (H1 : Heap) (locs1 : List Loc), q_V E s (S.sR 1 a v) H1 locs1 → W p l e R s m args below meth c H1 locs1 cells slots Q (F0 m (pc + 3) ls rest)) : W p l e R s m args below meth c H locs cells slots Q (F0 m pc ls (va_rf v :: .ref a :: rest)) := by
  obtain ⟨i, hi0, hi⟩ := q_g0 E S hL hK
  have hK1 : (S.sR 1 a v).K a = 0 := hK
  refine q_put (T := TX0) (k := 5) (S1 := S.sR 1 a v) C hV q_u0 tyX0 tyX0_ok nmX0 hi rfl (by decide) hl rfl (by cases v <;> rfl) (by cases v <;> rfl) (Nat.le_of_ble_eq_true rfl) (q_set E rfl hV.2.2.2.1 hL hi0 ?_ (fun b hb => qF_sR_ne _ _ _ _ _ _ hb)) hdg kk
  rw [qF_0 _ _ _ hK1]
  simp only [qR_self]
  rfl
theorem g_Piece_awaited (C : CallFix p m c cc nL s args q_T own) (hV : q_V E s S H locs) (hL : a ∈ S.L) (hK : S.K a = 0) {index : Nat} (hl : Cond.fieldLink own index (TX0 6).1 (TX0 6).2.1 (TX0 6).2.2.1 ∈ q_T ∨ ∃ host, Cond.fieldLinkNest own index (TX0 6).1 (TX0 6).2.1 (TX0 6).2.2.1 host ∈ q_T) (hdg : decode cc pc = .ok (.getfield index, 3))
    (kk : W p l e R s m args below meth c H locs cells slots Q (F0 m (pc + 3) ls (.int (S.I 3 a) :: rest))) : W p l e R s m args below meth c H locs cells slots Q (F0 m pc ls (.ref a :: rest)) := by
  obtain ⟨i, -, hi⟩ := q_g0 E S hL hK
  exact q_get (T := TX0) (k := 6) C hV q_u0 ⟨i, hi⟩ rfl (by decide) hl rfl hdg kk
theorem p_Piece_awaited (C : CallFix p m c cc nL s args q_T own) (hV : q_V E s S H locs) (hL : a ∈ S.L) (hK : S.K a = 0) {v : Int32} (hbool : v = 0 ∨ v = 1) {index : Nat} (hl : Cond.fieldLink own index (TX0 6).1 (TX0 6).2.1 (TX0 6).2.2.1 ∈ q_T ∨ ∃ host, Cond.fieldLinkNest own index (TX0 6).1 (TX0 6).2.1 (TX0 6).2.2.1 host ∈ q_T) (hdg : decode cc pc = .ok (.putfield index, 3))
    (kk : ∀ (H1 : Heap) (locs1 : List Loc), q_V E s (S.sI 3 a v) H1 locs1 → W p l e R s m args below meth c H1 locs1 cells slots Q (F0 m (pc + 3) ls rest)) : W p l e R s m args below meth c H locs cells slots Q (F0 m pc ls (.int v :: .ref a :: rest)) := by
  obtain ⟨i, hi0, hi⟩ := q_g0 E S hL hK
  have hK1 : (S.sI 3 a v).K a = 0 := hK
  refine q_put (T := TX0) (k := 6) (S1 := S.sI 3 a v) C hV q_u0 tyX0 tyX0_ok nmX0 hi rfl (by decide) hl rfl (by rcases hbool with h | h <;> subst h <;> rfl) (by rcases hbool with h | h <;> subst h <;> rfl) (Nat.le_of_ble_eq_true rfl) (q_set E rfl hV.2.2.2.1 hL hi0 ?_ (fun b hb => qF_sI_ne _ _ _ _ _ _ hb)) hdg kk
  rw [qF_0 _ _ _ hK1]
  simp only [qI_self]
  rfl
theorem n_Piece (C : CallFix p m c cc nL s args q_T own) (hV : q_V E s S H locs) {index : Nat} (hcl : Cond.classLink own index RX0 ∈ q_T) (hcells : cells + 1 ≤ R.cells) (hslots : slots + 7 ≤ R.slots) (hdg : decode cc pc = .ok (.new index, 3))
    (kk : ∀ (q : Nat) (H1 : Heap), q ∉ S.L → q_V E s (S.nO q 0) H1 locs → W p l e R s m args below meth c H1 locs (cells + 1) (slots + 7) Q (F0 m (pc + 3) ls (.ref q :: rest))) : W p l e R s m args below meth c H locs cells slots Q (F0 m pc ls rest) := by
  refine q_new (ci := 0) (kd := 0) (T := TX0) (N := 7) (fs := [.int 0, .int 0, .int 0, .long 0, .null, .null, .int 0]) C hV q_u0 tyX0 tyX0_ok hcl wd_131 wd_43 rfl (fun j hj => ?_) (fun q hq => q_add E rfl hq ?_ (fun b hb => qF_nO_ne _ _ _ _ _ hb)) hcells hslots hdg kk
  · rcases (show j = 0 ∨ j = 1 ∨ j = 2 ∨ j = 3 ∨ j = 4 ∨ j = 5 ∨ j = 6 by omega) with rfl | rfl | rfl | rfl | rfl | rfl | rfl <;> rfl
  · have hK1 : (S.nO q 0).K q = 0 := va_up_self _ _ _
    have h2 : ∀ j, (S.nO q 0).I j q = 0 := fun j => va_up_self _ _ _
    have h3 : ∀ j, (S.nO q 0).R j q = none := fun j => va_up_self _ _ _
    have h4 : ∀ j, (S.nO q 0).J j q = 0 := fun j => va_up_self _ _ _
    rw [qF_0 _ _ _ hK1]
    simp only [h2, h3, h4]
    rfl
theorem g_Row_cells (C : CallFix p m c cc nL s args q_T own) (hV : q_V E s S H locs) (hL : a ∈ S.L) (hK : S.K a = 1) {index : Nat} (hl : Cond.fieldLink own index (TX1 0).1 (TX1 0).2.1 (TX1 0).2.2.1 ∈ q_T ∨ ∃ host, Cond.fieldLinkNest own index (TX1 0).1 (TX1 0).2.1 (TX1 0).2.2.1 host ∈ q_T) (hdg : decode cc pc = .ok (.getfield index, 3))
    (kk : W p l e R s m args below meth c H locs cells slots Q (F0 m (pc + 3) ls (.int (S.I 4 a) :: rest))) : W p l e R s m args below meth c H locs cells slots Q (F0 m pc ls (.ref a :: rest)) := by
  obtain ⟨i, -, hi⟩ := q_g1 E S hL hK
  exact q_get (T := TX1) (k := 0) C hV q_u1 ⟨i, hi⟩ rfl (by decide) hl rfl hdg kk
theorem p_Row_cells (C : CallFix p m c cc nL s args q_T own) (hV : q_V E s S H locs) (hin2 : meth.name = "<init>") (hL : a ∈ S.L) (hK : S.K a = 1) {v : Int32} {index : Nat} (hl : Cond.fieldLink own index (TX1 0).1 (TX1 0).2.1 (TX1 0).2.2.1 ∈ q_T) (hdecl : (TX1 0).1 = own) (hdg : decode cc pc = .ok (.putfield index, 3))
    (kk : ∀ (H1 : Heap) (locs1 : List Loc), q_V E s (S.sI 4 a v) H1 locs1 → W p l e R s m args below meth c H1 locs1 cells slots Q (F0 m (pc + 3) ls rest)) : W p l e R s m args below meth c H locs cells slots Q (F0 m pc ls (.int v :: .ref a :: rest)) := by
  obtain ⟨i, hi0, hi⟩ := q_g1 E S hL hK
  have hK1 : (S.sI 4 a v).K a = 1 := hK
  refine q_putF (T := TX1) (k := 0) (S1 := S.sI 4 a v) C hV hin2 q_u1 tyX1 tyX1_ok nmX1 hi rfl (by decide) hl rfl hdecl (rfl) (rfl) (Nat.le_of_ble_eq_true rfl) (q_set E rfl hV.2.2.2.1 hL hi0 ?_ (fun b hb => qF_sI_ne _ _ _ _ _ _ hb)) hdg kk
  rw [qF_1 _ _ _ hK1]
  simp only [qI_self]
  rfl
theorem g_Row_latest (C : CallFix p m c cc nL s args q_T own) (hV : q_V E s S H locs) (hL : a ∈ S.L) (hK : S.K a = 1) {index : Nat} (hl : Cond.fieldLink own index (TX1 1).1 (TX1 1).2.1 (TX1 1).2.2.1 ∈ q_T ∨ ∃ host, Cond.fieldLinkNest own index (TX1 1).1 (TX1 1).2.1 (TX1 1).2.2.1 host ∈ q_T) (hdg : decode cc pc = .ok (.getfield index, 3))
    (kk : W p l e R s m args below meth c H locs cells slots Q (F0 m (pc + 3) ls (va_rf (S.R 2 a) :: rest))) : W p l e R s m args below meth c H locs cells slots Q (F0 m pc ls (.ref a :: rest)) := by
  obtain ⟨i, -, hi⟩ := q_g1 E S hL hK
  exact q_get (T := TX1) (k := 1) C hV q_u1 ⟨i, hi⟩ rfl (by decide) hl rfl hdg kk
theorem p_Row_latest (C : CallFix p m c cc nL s args q_T own) (hV : q_V E s S H locs) (hL : a ∈ S.L) (hK : S.K a = 1) {v : Option Nat} {index : Nat} (hl : Cond.fieldLink own index (TX1 1).1 (TX1 1).2.1 (TX1 1).2.2.1 ∈ q_T ∨ ∃ host, Cond.fieldLinkNest own index (TX1 1).1 (TX1 1).2.1 (TX1 1).2.2.1 host ∈ q_T) (hdg : decode cc pc = .ok (.putfield index, 3))
    (kk : ∀ (H1 : Heap) (locs1 : List Loc), q_V E s (S.sR 2 a v) H1 locs1 → W p l e R s m args below meth c H1 locs1 cells slots Q (F0 m (pc + 3) ls rest)) : W p l e R s m args below meth c H locs cells slots Q (F0 m pc ls (va_rf v :: .ref a :: rest)) := by
  obtain ⟨i, hi0, hi⟩ := q_g1 E S hL hK
  have hK1 : (S.sR 2 a v).K a = 1 := hK
  refine q_put (T := TX1) (k := 1) (S1 := S.sR 2 a v) C hV q_u1 tyX1 tyX1_ok nmX1 hi rfl (by decide) hl rfl (by cases v <;> rfl) (by cases v <;> rfl) (Nat.le_of_ble_eq_true rfl) (q_set E rfl hV.2.2.2.1 hL hi0 ?_ (fun b hb => qF_sR_ne _ _ _ _ _ _ hb)) hdg kk
  rw [qF_1 _ _ _ hK1]
  simp only [qR_self]
  rfl
theorem g_Row_less (C : CallFix p m c cc nL s args q_T own) (hV : q_V E s S H locs) (hL : a ∈ S.L) (hK : S.K a = 1) {index : Nat} (hl : Cond.fieldLink own index (TX1 2).1 (TX1 2).2.1 (TX1 2).2.2.1 ∈ q_T ∨ ∃ host, Cond.fieldLinkNest own index (TX1 2).1 (TX1 2).2.1 (TX1 2).2.2.1 host ∈ q_T) (hdg : decode cc pc = .ok (.getfield index, 3))
    (kk : W p l e R s m args below meth c H locs cells slots Q (F0 m (pc + 3) ls (va_rf (S.R 3 a) :: rest))) : W p l e R s m args below meth c H locs cells slots Q (F0 m pc ls (.ref a :: rest)) := by
  obtain ⟨i, -, hi⟩ := q_g1 E S hL hK
  exact q_get (T := TX1) (k := 2) C hV q_u1 ⟨i, hi⟩ rfl (by decide) hl rfl hdg kk
theorem p_Row_less (C : CallFix p m c cc nL s args q_T own) (hV : q_V E s S H locs) (hL : a ∈ S.L) (hK : S.K a = 1) {v : Option Nat} {index : Nat} (hl : Cond.fieldLink own index (TX1 2).1 (TX1 2).2.1 (TX1 2).2.2.1 ∈ q_T ∨ ∃ host, Cond.fieldLinkNest own index (TX1 2).1 (TX1 2).2.1 (TX1 2).2.2.1 host ∈ q_T) (hdg : decode cc pc = .ok (.putfield index, 3))
    (kk : ∀ (H1 : Heap) (locs1 : List Loc), q_V E s (S.sR 3 a v) H1 locs1 → W p l e R s m args below meth c H1 locs1 cells slots Q (F0 m (pc + 3) ls rest)) : W p l e R s m args below meth c H locs cells slots Q (F0 m pc ls (va_rf v :: .ref a :: rest)) := by
  obtain ⟨i, hi0, hi⟩ := q_g1 E S hL hK
  have hK1 : (S.sR 3 a v).K a = 1 := hK
  refine q_put (T := TX1) (k := 2) (S1 := S.sR 3 a v) C hV q_u1 tyX1 tyX1_ok nmX1 hi rfl (by decide) hl rfl (by cases v <;> rfl) (by cases v <;> rfl) (Nat.le_of_ble_eq_true rfl) (q_set E rfl hV.2.2.2.1 hL hi0 ?_ (fun b hb => qF_sR_ne _ _ _ _ _ _ hb)) hdg kk
  rw [qF_1 _ _ _ hK1]
  simp only [qR_self]
  rfl
theorem g_Row_more (C : CallFix p m c cc nL s args q_T own) (hV : q_V E s S H locs) (hL : a ∈ S.L) (hK : S.K a = 1) {index : Nat} (hl : Cond.fieldLink own index (TX1 3).1 (TX1 3).2.1 (TX1 3).2.2.1 ∈ q_T ∨ ∃ host, Cond.fieldLinkNest own index (TX1 3).1 (TX1 3).2.1 (TX1 3).2.2.1 host ∈ q_T) (hdg : decode cc pc = .ok (.getfield index, 3))
    (kk : W p l e R s m args below meth c H locs cells slots Q (F0 m (pc + 3) ls (va_rf (S.R 4 a) :: rest))) : W p l e R s m args below meth c H locs cells slots Q (F0 m pc ls (.ref a :: rest)) := by
  obtain ⟨i, -, hi⟩ := q_g1 E S hL hK
  exact q_get (T := TX1) (k := 3) C hV q_u1 ⟨i, hi⟩ rfl (by decide) hl rfl hdg kk
theorem p_Row_more (C : CallFix p m c cc nL s args q_T own) (hV : q_V E s S H locs) (hL : a ∈ S.L) (hK : S.K a = 1) {v : Option Nat} {index : Nat} (hl : Cond.fieldLink own index (TX1 3).1 (TX1 3).2.1 (TX1 3).2.2.1 ∈ q_T ∨ ∃ host, Cond.fieldLinkNest own index (TX1 3).1 (TX1 3).2.1 (TX1 3).2.2.1 host ∈ q_T) (hdg : decode cc pc = .ok (.putfield index, 3))
    (kk : ∀ (H1 : Heap) (locs1 : List Loc), q_V E s (S.sR 4 a v) H1 locs1 → W p l e R s m args below meth c H1 locs1 cells slots Q (F0 m (pc + 3) ls rest)) : W p l e R s m args below meth c H locs cells slots Q (F0 m pc ls (va_rf v :: .ref a :: rest)) := by
  obtain ⟨i, hi0, hi⟩ := q_g1 E S hL hK
  have hK1 : (S.sR 4 a v).K a = 1 := hK
  refine q_put (T := TX1) (k := 3) (S1 := S.sR 4 a v) C hV q_u1 tyX1 tyX1_ok nmX1 hi rfl (by decide) hl rfl (by cases v <;> rfl) (by cases v <;> rfl) (Nat.le_of_ble_eq_true rfl) (q_set E rfl hV.2.2.2.1 hL hi0 ?_ (fun b hb => qF_sR_ne _ _ _ _ _ _ hb)) hdg kk
  rw [qF_1 _ _ _ hK1]
  simp only [qR_self]
  rfl
theorem g_Row_from (C : CallFix p m c cc nL s args q_T own) (hV : q_V E s S H locs) (hL : a ∈ S.L) (hK : S.K a = 1) {index : Nat} (hl : Cond.fieldLink own index (TX1 4).1 (TX1 4).2.1 (TX1 4).2.2.1 ∈ q_T ∨ ∃ host, Cond.fieldLinkNest own index (TX1 4).1 (TX1 4).2.1 (TX1 4).2.2.1 host ∈ q_T) (hdg : decode cc pc = .ok (.getfield index, 3))
    (kk : W p l e R s m args below meth c H locs cells slots Q (F0 m (pc + 3) ls (.int (S.I 11 a) :: rest))) : W p l e R s m args below meth c H locs cells slots Q (F0 m pc ls (.ref a :: rest)) := by
  obtain ⟨i, -, hi⟩ := q_g1 E S hL hK
  exact q_get (T := TX1) (k := 4) C hV q_u1 ⟨i, hi⟩ rfl (by decide) hl rfl hdg kk
theorem p_Row_from (C : CallFix p m c cc nL s args q_T own) (hV : q_V E s S H locs) (hL : a ∈ S.L) (hK : S.K a = 1) {v : Int32} {index : Nat} (hl : Cond.fieldLink own index (TX1 4).1 (TX1 4).2.1 (TX1 4).2.2.1 ∈ q_T ∨ ∃ host, Cond.fieldLinkNest own index (TX1 4).1 (TX1 4).2.1 (TX1 4).2.2.1 host ∈ q_T) (hdg : decode cc pc = .ok (.putfield index, 3))
    (kk : ∀ (H1 : Heap) (locs1 : List Loc), q_V E s (S.sI 11 a v) H1 locs1 → W p l e R s m args below meth c H1 locs1 cells slots Q (F0 m (pc + 3) ls rest)) : W p l e R s m args below meth c H locs cells slots Q (F0 m pc ls (.int v :: .ref a :: rest)) := by
  obtain ⟨i, hi0, hi⟩ := q_g1 E S hL hK
  have hK1 : (S.sI 11 a v).K a = 1 := hK
  refine q_put (T := TX1) (k := 4) (S1 := S.sI 11 a v) C hV q_u1 tyX1 tyX1_ok nmX1 hi rfl (by decide) hl rfl (rfl) (rfl) (Nat.le_of_ble_eq_true rfl) (q_set E rfl hV.2.2.2.1 hL hi0 ?_ (fun b hb => qF_sI_ne _ _ _ _ _ _ hb)) hdg kk
  rw [qF_1 _ _ _ hK1]
  simp only [qI_self]
  rfl
theorem g_Row_to (C : CallFix p m c cc nL s args q_T own) (hV : q_V E s S H locs) (hL : a ∈ S.L) (hK : S.K a = 1) {index : Nat} (hl : Cond.fieldLink own index (TX1 5).1 (TX1 5).2.1 (TX1 5).2.2.1 ∈ q_T ∨ ∃ host, Cond.fieldLinkNest own index (TX1 5).1 (TX1 5).2.1 (TX1 5).2.2.1 host ∈ q_T) (hdg : decode cc pc = .ok (.getfield index, 3))
    (kk : W p l e R s m args below meth c H locs cells slots Q (F0 m (pc + 3) ls (.int (S.I 12 a) :: rest))) : W p l e R s m args below meth c H locs cells slots Q (F0 m pc ls (.ref a :: rest)) := by
  obtain ⟨i, -, hi⟩ := q_g1 E S hL hK
  exact q_get (T := TX1) (k := 5) C hV q_u1 ⟨i, hi⟩ rfl (by decide) hl rfl hdg kk
theorem p_Row_to (C : CallFix p m c cc nL s args q_T own) (hV : q_V E s S H locs) (hL : a ∈ S.L) (hK : S.K a = 1) {v : Int32} {index : Nat} (hl : Cond.fieldLink own index (TX1 5).1 (TX1 5).2.1 (TX1 5).2.2.1 ∈ q_T ∨ ∃ host, Cond.fieldLinkNest own index (TX1 5).1 (TX1 5).2.1 (TX1 5).2.2.1 host ∈ q_T) (hdg : decode cc pc = .ok (.putfield index, 3))
    (kk : ∀ (H1 : Heap) (locs1 : List Loc), q_V E s (S.sI 12 a v) H1 locs1 → W p l e R s m args below meth c H1 locs1 cells slots Q (F0 m (pc + 3) ls rest)) : W p l e R s m args below meth c H locs cells slots Q (F0 m pc ls (.int v :: .ref a :: rest)) := by
  obtain ⟨i, hi0, hi⟩ := q_g1 E S hL hK
  have hK1 : (S.sI 12 a v).K a = 1 := hK
  refine q_put (T := TX1) (k := 5) (S1 := S.sI 12 a v) C hV q_u1 tyX1 tyX1_ok nmX1 hi rfl (by decide) hl rfl (rfl) (rfl) (Nat.le_of_ble_eq_true rfl) (q_set E rfl hV.2.2.2.1 hL hi0 ?_ (fun b hb => qF_sI_ne _ _ _ _ _ _ hb)) hdg kk
  rw [qF_1 _ _ _ hK1]
  simp only [qI_self]
  rfl
theorem g_Row_next (C : CallFix p m c cc nL s args q_T own) (hV : q_V E s S H locs) (hL : a ∈ S.L) (hK : S.K a = 1) {index : Nat} (hl : Cond.fieldLink own index (TX1 6).1 (TX1 6).2.1 (TX1 6).2.2.1 ∈ q_T ∨ ∃ host, Cond.fieldLinkNest own index (TX1 6).1 (TX1 6).2.1 (TX1 6).2.2.1 host ∈ q_T) (hdg : decode cc pc = .ok (.getfield index, 3))
    (kk : W p l e R s m args below meth c H locs cells slots Q (F0 m (pc + 3) ls (va_rf (S.R 12 a) :: rest))) : W p l e R s m args below meth c H locs cells slots Q (F0 m pc ls (.ref a :: rest)) := by
  obtain ⟨i, -, hi⟩ := q_g1 E S hL hK
  exact q_get (T := TX1) (k := 6) C hV q_u1 ⟨i, hi⟩ rfl (by decide) hl rfl hdg kk
theorem p_Row_next (C : CallFix p m c cc nL s args q_T own) (hV : q_V E s S H locs) (hL : a ∈ S.L) (hK : S.K a = 1) {v : Option Nat} {index : Nat} (hl : Cond.fieldLink own index (TX1 6).1 (TX1 6).2.1 (TX1 6).2.2.1 ∈ q_T ∨ ∃ host, Cond.fieldLinkNest own index (TX1 6).1 (TX1 6).2.1 (TX1 6).2.2.1 host ∈ q_T) (hdg : decode cc pc = .ok (.putfield index, 3))
    (kk : ∀ (H1 : Heap) (locs1 : List Loc), q_V E s (S.sR 12 a v) H1 locs1 → W p l e R s m args below meth c H1 locs1 cells slots Q (F0 m (pc + 3) ls rest)) : W p l e R s m args below meth c H locs cells slots Q (F0 m pc ls (va_rf v :: .ref a :: rest)) := by
  obtain ⟨i, hi0, hi⟩ := q_g1 E S hL hK
  have hK1 : (S.sR 12 a v).K a = 1 := hK
  refine q_put (T := TX1) (k := 6) (S1 := S.sR 12 a v) C hV q_u1 tyX1 tyX1_ok nmX1 hi rfl (by decide) hl rfl (by cases v <;> rfl) (by cases v <;> rfl) (Nat.le_of_ble_eq_true rfl) (q_set E rfl hV.2.2.2.1 hL hi0 ?_ (fun b hb => qF_sR_ne _ _ _ _ _ _ hb)) hdg kk
  rw [qF_1 _ _ _ hK1]
  simp only [qR_self]
  rfl
theorem n_Row (C : CallFix p m c cc nL s args q_T own) (hV : q_V E s S H locs) {index : Nat} (hcl : Cond.classLink own index RX1 ∈ q_T) (hcells : cells + 1 ≤ R.cells) (hslots : slots + 7 ≤ R.slots) (hdg : decode cc pc = .ok (.new index, 3))
    (kk : ∀ (q : Nat) (H1 : Heap), q ∉ S.L → q_V E s (S.nO q 1) H1 locs → W p l e R s m args below meth c H1 locs (cells + 1) (slots + 7) Q (F0 m (pc + 3) ls (.ref q :: rest))) : W p l e R s m args below meth c H locs cells slots Q (F0 m pc ls rest) := by
  refine q_new (ci := 1) (kd := 1) (T := TX1) (N := 7) (fs := [.int 0, .null, .null, .null, .int 0, .int 0, .null]) C hV q_u1 tyX1 tyX1_ok hcl wd_68 wd_41 rfl (fun j hj => ?_) (fun q hq => q_add E rfl hq ?_ (fun b hb => qF_nO_ne _ _ _ _ _ hb)) hcells hslots hdg kk
  · rcases (show j = 0 ∨ j = 1 ∨ j = 2 ∨ j = 3 ∨ j = 4 ∨ j = 5 ∨ j = 6 by omega) with rfl | rfl | rfl | rfl | rfl | rfl | rfl <;> rfl
  · have hK1 : (S.nO q 1).K q = 1 := va_up_self _ _ _
    have h2 : ∀ j, (S.nO q 1).I j q = 0 := fun j => va_up_self _ _ _
    have h3 : ∀ j, (S.nO q 1).R j q = none := fun j => va_up_self _ _ _
    have h4 : ∀ j, (S.nO q 1).J j q = 0 := fun j => va_up_self _ _ _
    rw [qF_1 _ _ _ hK1]
    simp only [h2, h3, h4]
    rfl
theorem g_Shelves_small (C : CallFix p m c cc nL s args q_T own) (hV : q_V E s S H locs) (hL : a ∈ S.L) (hK : S.K a = 2) {index : Nat} (hl : Cond.fieldLink own index (TX2 0).1 (TX2 0).2.1 (TX2 0).2.2.1 ∈ q_T ∨ ∃ host, Cond.fieldLinkNest own index (TX2 0).1 (TX2 0).2.1 (TX2 0).2.2.1 host ∈ q_T) (hdg : decode cc pc = .ok (.getfield index, 3))
    (kk : W p l e R s m args below meth c H locs cells slots Q (F0 m (pc + 3) ls (va_rf (S.R 5 a) :: rest))) : W p l e R s m args below meth c H locs cells slots Q (F0 m pc ls (.ref a :: rest)) := by
  obtain ⟨i, -, hi⟩ := q_g2 E S hL hK
  exact q_get (T := TX2) (k := 0) C hV q_u2 ⟨i, hi⟩ rfl (by decide) hl rfl hdg kk
theorem p_Shelves_small (C : CallFix p m c cc nL s args q_T own) (hV : q_V E s S H locs) (hin2 : meth.name = "<init>") (hL : a ∈ S.L) (hK : S.K a = 2) {v : Option Nat} {index : Nat} (hl : Cond.fieldLink own index (TX2 0).1 (TX2 0).2.1 (TX2 0).2.2.1 ∈ q_T) (hdecl : (TX2 0).1 = own) (hdg : decode cc pc = .ok (.putfield index, 3))
    (kk : ∀ (H1 : Heap) (locs1 : List Loc), q_V E s (S.sR 5 a v) H1 locs1 → W p l e R s m args below meth c H1 locs1 cells slots Q (F0 m (pc + 3) ls rest)) : W p l e R s m args below meth c H locs cells slots Q (F0 m pc ls (va_rf v :: .ref a :: rest)) := by
  obtain ⟨i, hi0, hi⟩ := q_g2 E S hL hK
  have hK1 : (S.sR 5 a v).K a = 2 := hK
  refine q_putF (T := TX2) (k := 0) (S1 := S.sR 5 a v) C hV hin2 q_u2 tyX2 tyX2_ok nmX2 hi rfl (by decide) hl rfl hdecl (by cases v <;> rfl) (by cases v <;> rfl) (Nat.le_of_ble_eq_true rfl) (q_set E rfl hV.2.2.2.1 hL hi0 ?_ (fun b hb => qF_sR_ne _ _ _ _ _ _ hb)) hdg kk
  rw [qF_2 _ _ _ hK1]
  simp only [qR_self]
  rfl
theorem g_Shelves_great (C : CallFix p m c cc nL s args q_T own) (hV : q_V E s S H locs) (hL : a ∈ S.L) (hK : S.K a = 2) {index : Nat} (hl : Cond.fieldLink own index (TX2 1).1 (TX2 1).2.1 (TX2 1).2.2.1 ∈ q_T ∨ ∃ host, Cond.fieldLinkNest own index (TX2 1).1 (TX2 1).2.1 (TX2 1).2.2.1 host ∈ q_T) (hdg : decode cc pc = .ok (.getfield index, 3))
    (kk : W p l e R s m args below meth c H locs cells slots Q (F0 m (pc + 3) ls (va_rf (S.R 6 a) :: rest))) : W p l e R s m args below meth c H locs cells slots Q (F0 m pc ls (.ref a :: rest)) := by
  obtain ⟨i, -, hi⟩ := q_g2 E S hL hK
  exact q_get (T := TX2) (k := 1) C hV q_u2 ⟨i, hi⟩ rfl (by decide) hl rfl hdg kk
theorem p_Shelves_great (C : CallFix p m c cc nL s args q_T own) (hV : q_V E s S H locs) (hin2 : meth.name = "<init>") (hL : a ∈ S.L) (hK : S.K a = 2) {v : Option Nat} {index : Nat} (hl : Cond.fieldLink own index (TX2 1).1 (TX2 1).2.1 (TX2 1).2.2.1 ∈ q_T) (hdecl : (TX2 1).1 = own) (hdg : decode cc pc = .ok (.putfield index, 3))
    (kk : ∀ (H1 : Heap) (locs1 : List Loc), q_V E s (S.sR 6 a v) H1 locs1 → W p l e R s m args below meth c H1 locs1 cells slots Q (F0 m (pc + 3) ls rest)) : W p l e R s m args below meth c H locs cells slots Q (F0 m pc ls (va_rf v :: .ref a :: rest)) := by
  obtain ⟨i, hi0, hi⟩ := q_g2 E S hL hK
  have hK1 : (S.sR 6 a v).K a = 2 := hK
  refine q_putF (T := TX2) (k := 1) (S1 := S.sR 6 a v) C hV hin2 q_u2 tyX2 tyX2_ok nmX2 hi rfl (by decide) hl rfl hdecl (by cases v <;> rfl) (by cases v <;> rfl) (Nat.le_of_ble_eq_true rfl) (q_set E rfl hV.2.2.2.1 hL hi0 ?_ (fun b hb => qF_sR_ne _ _ _ _ _ _ hb)) hdg kk
  rw [qF_2 _ _ _ hK1]
  simp only [qR_self]
  rfl
theorem g_Shelves_now (C : CallFix p m c cc nL s args q_T own) (hV : q_V E s S H locs) (hL : a ∈ S.L) (hK : S.K a = 2) {index : Nat} (hl : Cond.fieldLink own index (TX2 2).1 (TX2 2).2.1 (TX2 2).2.2.1 ∈ q_T ∨ ∃ host, Cond.fieldLinkNest own index (TX2 2).1 (TX2 2).2.1 (TX2 2).2.2.1 host ∈ q_T) (hdg : decode cc pc = .ok (.getfield index, 3))
    (kk : W p l e R s m args below meth c H locs cells slots Q (F0 m (pc + 3) ls (.long (S.J 1 a) :: rest))) : W p l e R s m args below meth c H locs cells slots Q (F0 m pc ls (.ref a :: rest)) := by
  obtain ⟨i, -, hi⟩ := q_g2 E S hL hK
  exact q_get (T := TX2) (k := 2) C hV q_u2 ⟨i, hi⟩ rfl (by decide) hl rfl hdg kk
theorem p_Shelves_now (C : CallFix p m c cc nL s args q_T own) (hV : q_V E s S H locs) (hL : a ∈ S.L) (hK : S.K a = 2) {v : Int64} {index : Nat} (hl : Cond.fieldLink own index (TX2 2).1 (TX2 2).2.1 (TX2 2).2.2.1 ∈ q_T ∨ ∃ host, Cond.fieldLinkNest own index (TX2 2).1 (TX2 2).2.1 (TX2 2).2.2.1 host ∈ q_T) (hdg : decode cc pc = .ok (.putfield index, 3))
    (kk : ∀ (H1 : Heap) (locs1 : List Loc), q_V E s (S.sJ 1 a v) H1 locs1 → W p l e R s m args below meth c H1 locs1 cells slots Q (F0 m (pc + 3) ls rest)) : W p l e R s m args below meth c H locs cells slots Q (F0 m pc ls (.long v :: .ref a :: rest)) := by
  obtain ⟨i, hi0, hi⟩ := q_g2 E S hL hK
  have hK1 : (S.sJ 1 a v).K a = 2 := hK
  refine q_put (T := TX2) (k := 2) (S1 := S.sJ 1 a v) C hV q_u2 tyX2 tyX2_ok nmX2 hi rfl (by decide) hl rfl (rfl) (rfl) (Nat.le_of_ble_eq_true rfl) (q_set E rfl hV.2.2.2.1 hL hi0 ?_ (fun b hb => qF_sJ_ne _ _ _ _ _ _ hb)) hdg kk
  rw [qF_2 _ _ _ hK1]
  simp only [qJ_self]
  rfl
theorem n_Shelves (C : CallFix p m c cc nL s args q_T own) (hV : q_V E s S H locs) {index : Nat} (hcl : Cond.classLink own index RX2 ∈ q_T) (hcells : cells + 1 ≤ R.cells) (hslots : slots + 3 ≤ R.slots) (hdg : decode cc pc = .ok (.new index, 3))
    (kk : ∀ (q : Nat) (H1 : Heap), q ∉ S.L → q_V E s (S.nO q 2) H1 locs → W p l e R s m args below meth c H1 locs (cells + 1) (slots + 3) Q (F0 m (pc + 3) ls (.ref q :: rest))) : W p l e R s m args below meth c H locs cells slots Q (F0 m pc ls rest) := by
  refine q_new (ci := 2) (kd := 2) (T := TX2) (N := 3) (fs := [.null, .null, .long 0]) C hV q_u2 tyX2 tyX2_ok hcl wd_61 wd_40 rfl (fun j hj => ?_) (fun q hq => q_add E rfl hq ?_ (fun b hb => qF_nO_ne _ _ _ _ _ hb)) hcells hslots hdg kk
  · rcases (show j = 0 ∨ j = 1 ∨ j = 2 by omega) with rfl | rfl | rfl <;> rfl
  · have hK1 : (S.nO q 2).K q = 2 := va_up_self _ _ _
    have h2 : ∀ j, (S.nO q 2).I j q = 0 := fun j => va_up_self _ _ _
    have h3 : ∀ j, (S.nO q 2).R j q = none := fun j => va_up_self _ _ _
    have h4 : ∀ j, (S.nO q 2).J j q = 0 := fun j => va_up_self _ _ _
    rw [qF_2 _ _ _ hK1]
    simp only [h2, h3, h4]
    rfl
theorem g_Tree_root (C : CallFix p m c cc nL s args q_T own) (hV : q_V E s S H locs) (hL : a ∈ S.L) (hK : S.K a = 3) {index : Nat} (hl : Cond.fieldLink own index (TX3 0).1 (TX3 0).2.1 (TX3 0).2.2.1 ∈ q_T ∨ ∃ host, Cond.fieldLinkNest own index (TX3 0).1 (TX3 0).2.1 (TX3 0).2.2.1 host ∈ q_T) (hdg : decode cc pc = .ok (.getfield index, 3))
    (kk : W p l e R s m args below meth c H locs cells slots Q (F0 m (pc + 3) ls (va_rf (S.R 7 a) :: rest))) : W p l e R s m args below meth c H locs cells slots Q (F0 m pc ls (.ref a :: rest)) := by
  obtain ⟨i, -, hi⟩ := q_g3 E S hL hK
  exact q_get (T := TX3) (k := 0) C hV q_u3 ⟨i, hi⟩ rfl (by decide) hl rfl hdg kk
theorem p_Tree_root (C : CallFix p m c cc nL s args q_T own) (hV : q_V E s S H locs) (hL : a ∈ S.L) (hK : S.K a = 3) {v : Option Nat} {index : Nat} (hl : Cond.fieldLink own index (TX3 0).1 (TX3 0).2.1 (TX3 0).2.2.1 ∈ q_T ∨ ∃ host, Cond.fieldLinkNest own index (TX3 0).1 (TX3 0).2.1 (TX3 0).2.2.1 host ∈ q_T) (hdg : decode cc pc = .ok (.putfield index, 3))
    (kk : ∀ (H1 : Heap) (locs1 : List Loc), q_V E s (S.sR 7 a v) H1 locs1 → W p l e R s m args below meth c H1 locs1 cells slots Q (F0 m (pc + 3) ls rest)) : W p l e R s m args below meth c H locs cells slots Q (F0 m pc ls (va_rf v :: .ref a :: rest)) := by
  obtain ⟨i, hi0, hi⟩ := q_g3 E S hL hK
  have hK1 : (S.sR 7 a v).K a = 3 := hK
  refine q_put (T := TX3) (k := 0) (S1 := S.sR 7 a v) C hV q_u3 tyX3 tyX3_ok nmX3 hi rfl (by decide) hl rfl (by cases v <;> rfl) (by cases v <;> rfl) (Nat.le_of_ble_eq_true rfl) (q_set E rfl hV.2.2.2.1 hL hi0 ?_ (fun b hb => qF_sR_ne _ _ _ _ _ _ hb)) hdg kk
  rw [qF_3 _ _ _ hK1]
  simp only [qR_self]
  rfl
theorem n_Tree (C : CallFix p m c cc nL s args q_T own) (hV : q_V E s S H locs) {index : Nat} (hcl : Cond.classLink own index RX3 ∈ q_T) (hcells : cells + 1 ≤ R.cells) (hslots : slots + 1 ≤ R.slots) (hdg : decode cc pc = .ok (.new index, 3))
    (kk : ∀ (q : Nat) (H1 : Heap), q ∉ S.L → q_V E s (S.nO q 3) H1 locs → W p l e R s m args below meth c H1 locs (cells + 1) (slots + 1) Q (F0 m (pc + 3) ls (.ref q :: rest))) : W p l e R s m args below meth c H locs cells slots Q (F0 m pc ls rest) := by
  refine q_new (ci := 3) (kd := 3) (T := TX3) (N := 1) (fs := [.null]) C hV q_u3 tyX3 tyX3_ok hcl wd_102 wd_42 rfl (fun j hj => ?_) (fun q hq => q_add E rfl hq ?_ (fun b hb => qF_nO_ne _ _ _ _ _ hb)) hcells hslots hdg kk
  · rcases (show j = 0 by omega) with rfl <;> rfl
  · have hK1 : (S.nO q 3).K q = 3 := va_up_self _ _ _
    have h2 : ∀ j, (S.nO q 3).I j q = 0 := fun j => va_up_self _ _ _
    have h3 : ∀ j, (S.nO q 3).R j q = none := fun j => va_up_self _ _ _
    have h4 : ∀ j, (S.nO q 3).J j q = 0 := fun j => va_up_self _ _ _
    rw [qF_3 _ _ _ hK1]
    simp only [h2, h3, h4]
    rfl
theorem g_Shelf_shelves (C : CallFix p m c cc nL s args q_T own) (hV : q_V E s S H locs) (hL : a ∈ S.L) (hK : S.K a = 4) {index : Nat} (hl : Cond.fieldLink own index (TX5 0).1 (TX5 0).2.1 (TX5 0).2.2.1 ∈ q_T ∨ ∃ host, Cond.fieldLinkNest own index (TX5 0).1 (TX5 0).2.1 (TX5 0).2.2.1 host ∈ q_T) (hdg : decode cc pc = .ok (.getfield index, 3))
    (kk : W p l e R s m args below meth c H locs cells slots Q (F0 m (pc + 3) ls (va_rf (S.R 8 a) :: rest))) : W p l e R s m args below meth c H locs cells slots Q (F0 m pc ls (.ref a :: rest)) := by
  obtain ⟨i, -, hi⟩ := q_g4 E S hL hK
  exact q_get (T := TX5) (k := 0) C hV q_u4 ⟨i, hi⟩ rfl (by decide) hl rfl hdg kk
theorem p_Shelf_shelves (C : CallFix p m c cc nL s args q_T own) (hV : q_V E s S H locs) (hin2 : meth.name = "<init>") (hL : a ∈ S.L) (hK : S.K a = 4) {v : Option Nat} {index : Nat} (hl : Cond.fieldLink own index (TX5 0).1 (TX5 0).2.1 (TX5 0).2.2.1 ∈ q_T) (hdecl : (TX5 0).1 = own) (hdg : decode cc pc = .ok (.putfield index, 3))
    (kk : ∀ (H1 : Heap) (locs1 : List Loc), q_V E s (S.sR 8 a v) H1 locs1 → W p l e R s m args below meth c H1 locs1 cells slots Q (F0 m (pc + 3) ls rest)) : W p l e R s m args below meth c H locs cells slots Q (F0 m pc ls (va_rf v :: .ref a :: rest)) := by
  obtain ⟨i, hi0, hi⟩ := q_g4 E S hL hK
  have hK1 : (S.sR 8 a v).K a = 4 := hK
  refine q_putF (T := TX5) (k := 0) (S1 := S.sR 8 a v) C hV hin2 q_u4 tyX5 tyX5_ok nmX5 hi rfl (by decide) hl rfl hdecl (by cases v <;> rfl) (by cases v <;> rfl) (Nat.le_of_ble_eq_true rfl) (q_set E rfl hV.2.2.2.1 hL hi0 ?_ (fun b hb => qF_sR_ne _ _ _ _ _ _ hb)) hdg kk
  rw [qF_4 _ _ _ hK1]
  simp only [qR_self]
  rfl
theorem g_Shelf_lowest (C : CallFix p m c cc nL s args q_T own) (hV : q_V E s S H locs) (hL : a ∈ S.L) (hK : S.K a = 4) {index : Nat} (hl : Cond.fieldLink own index (TX5 1).1 (TX5 1).2.1 (TX5 1).2.2.1 ∈ q_T ∨ ∃ host, Cond.fieldLinkNest own index (TX5 1).1 (TX5 1).2.1 (TX5 1).2.2.1 host ∈ q_T) (hdg : decode cc pc = .ok (.getfield index, 3))
    (kk : W p l e R s m args below meth c H locs cells slots Q (F0 m (pc + 3) ls (va_rf (S.R 9 a) :: rest))) : W p l e R s m args below meth c H locs cells slots Q (F0 m pc ls (.ref a :: rest)) := by
  obtain ⟨i, -, hi⟩ := q_g4 E S hL hK
  exact q_get (T := TX5) (k := 1) C hV q_u4 ⟨i, hi⟩ rfl (by decide) hl rfl hdg kk
theorem p_Shelf_lowest (C : CallFix p m c cc nL s args q_T own) (hV : q_V E s S H locs) (hL : a ∈ S.L) (hK : S.K a = 4) {v : Option Nat} {index : Nat} (hl : Cond.fieldLink own index (TX5 1).1 (TX5 1).2.1 (TX5 1).2.2.1 ∈ q_T ∨ ∃ host, Cond.fieldLinkNest own index (TX5 1).1 (TX5 1).2.1 (TX5 1).2.2.1 host ∈ q_T) (hdg : decode cc pc = .ok (.putfield index, 3))
    (kk : ∀ (H1 : Heap) (locs1 : List Loc), q_V E s (S.sR 9 a v) H1 locs1 → W p l e R s m args below meth c H1 locs1 cells slots Q (F0 m (pc + 3) ls rest)) : W p l e R s m args below meth c H locs cells slots Q (F0 m pc ls (va_rf v :: .ref a :: rest)) := by
  obtain ⟨i, hi0, hi⟩ := q_g4 E S hL hK
  have hK1 : (S.sR 9 a v).K a = 4 := hK
  refine q_put (T := TX5) (k := 1) (S1 := S.sR 9 a v) C hV q_u4 tyX5 tyX5_ok nmX5 hi rfl (by decide) hl rfl (by cases v <;> rfl) (by cases v <;> rfl) (Nat.le_of_ble_eq_true rfl) (q_set E rfl hV.2.2.2.1 hL hi0 ?_ (fun b hb => qF_sR_ne _ _ _ _ _ _ hb)) hdg kk
  rw [qF_4 _ _ _ hK1]
  simp only [qR_self]
  rfl
theorem g_Shelf_cellCount (C : CallFix p m c cc nL s args q_T own) (hV : q_V E s S H locs) (hL : a ∈ S.L) (hK : S.K a = 4) {index : Nat} (hl : Cond.fieldLink own index (TX5 2).1 (TX5 2).2.1 (TX5 2).2.2.1 ∈ q_T ∨ ∃ host, Cond.fieldLinkNest own index (TX5 2).1 (TX5 2).2.1 (TX5 2).2.2.1 host ∈ q_T) (hdg : decode cc pc = .ok (.getfield index, 3))
    (kk : W p l e R s m args below meth c H locs cells slots Q (F0 m (pc + 3) ls (.int (S.I 5 a) :: rest))) : W p l e R s m args below meth c H locs cells slots Q (F0 m pc ls (.ref a :: rest)) := by
  obtain ⟨i, -, hi⟩ := q_g4 E S hL hK
  exact q_get (T := TX5) (k := 2) C hV q_u4 ⟨i, hi⟩ rfl (by decide) hl rfl hdg kk
theorem p_Shelf_cellCount (C : CallFix p m c cc nL s args q_T own) (hV : q_V E s S H locs) (hL : a ∈ S.L) (hK : S.K a = 4) {v : Int32} {index : Nat} (hl : Cond.fieldLink own index (TX5 2).1 (TX5 2).2.1 (TX5 2).2.2.1 ∈ q_T ∨ ∃ host, Cond.fieldLinkNest own index (TX5 2).1 (TX5 2).2.1 (TX5 2).2.2.1 host ∈ q_T) (hdg : decode cc pc = .ok (.putfield index, 3))
    (kk : ∀ (H1 : Heap) (locs1 : List Loc), q_V E s (S.sI 5 a v) H1 locs1 → W p l e R s m args below meth c H1 locs1 cells slots Q (F0 m (pc + 3) ls rest)) : W p l e R s m args below meth c H locs cells slots Q (F0 m pc ls (.int v :: .ref a :: rest)) := by
  obtain ⟨i, hi0, hi⟩ := q_g4 E S hL hK
  have hK1 : (S.sI 5 a v).K a = 4 := hK
  refine q_put (T := TX5) (k := 2) (S1 := S.sI 5 a v) C hV q_u4 tyX5 tyX5_ok nmX5 hi rfl (by decide) hl rfl (rfl) (rfl) (Nat.le_of_ble_eq_true rfl) (q_set E rfl hV.2.2.2.1 hL hi0 ?_ (fun b hb => qF_sI_ne _ _ _ _ _ _ hb)) hdg kk
  rw [qF_4 _ _ _ hK1]
  simp only [qI_self]
  rfl
theorem g_Shelf_misses (C : CallFix p m c cc nL s args q_T own) (hV : q_V E s S H locs) (hL : a ∈ S.L) (hK : S.K a = 4) {index : Nat} (hl : Cond.fieldLink own index (TX5 3).1 (TX5 3).2.1 (TX5 3).2.2.1 ∈ q_T ∨ ∃ host, Cond.fieldLinkNest own index (TX5 3).1 (TX5 3).2.1 (TX5 3).2.2.1 host ∈ q_T) (hdg : decode cc pc = .ok (.getfield index, 3))
    (kk : W p l e R s m args below meth c H locs cells slots Q (F0 m (pc + 3) ls (.int (S.I 6 a) :: rest))) : W p l e R s m args below meth c H locs cells slots Q (F0 m pc ls (.ref a :: rest)) := by
  obtain ⟨i, -, hi⟩ := q_g4 E S hL hK
  exact q_get (T := TX5) (k := 3) C hV q_u4 ⟨i, hi⟩ rfl (by decide) hl rfl hdg kk
theorem p_Shelf_misses (C : CallFix p m c cc nL s args q_T own) (hV : q_V E s S H locs) (hL : a ∈ S.L) (hK : S.K a = 4) {v : Int32} {index : Nat} (hl : Cond.fieldLink own index (TX5 3).1 (TX5 3).2.1 (TX5 3).2.2.1 ∈ q_T ∨ ∃ host, Cond.fieldLinkNest own index (TX5 3).1 (TX5 3).2.1 (TX5 3).2.2.1 host ∈ q_T) (hdg : decode cc pc = .ok (.putfield index, 3))
    (kk : ∀ (H1 : Heap) (locs1 : List Loc), q_V E s (S.sI 6 a v) H1 locs1 → W p l e R s m args below meth c H1 locs1 cells slots Q (F0 m (pc + 3) ls rest)) : W p l e R s m args below meth c H locs cells slots Q (F0 m pc ls (.int v :: .ref a :: rest)) := by
  obtain ⟨i, hi0, hi⟩ := q_g4 E S hL hK
  have hK1 : (S.sI 6 a v).K a = 4 := hK
  refine q_put (T := TX5) (k := 3) (S1 := S.sI 6 a v) C hV q_u4 tyX5 tyX5_ok nmX5 hi rfl (by decide) hl rfl (rfl) (rfl) (Nat.le_of_ble_eq_true rfl) (q_set E rfl hV.2.2.2.1 hL hi0 ?_ (fun b hb => qF_sI_ne _ _ _ _ _ _ hb)) hdg kk
  rw [qF_4 _ _ _ hK1]
  simp only [qI_self]
  rfl
theorem n_Shelf (C : CallFix p m c cc nL s args q_T own) (hV : q_V E s S H locs) {index : Nat} (hcl : Cond.classLink own index RX5 ∈ q_T) (hcells : cells + 1 ≤ R.cells) (hslots : slots + 4 ≤ R.slots) (hdg : decode cc pc = .ok (.new index, 3))
    (kk : ∀ (q : Nat) (H1 : Heap), q ∉ S.L → q_V E s (S.nO q 4) H1 locs → W p l e R s m args below meth c H1 locs (cells + 1) (slots + 4) Q (F0 m (pc + 3) ls (.ref q :: rest))) : W p l e R s m args below meth c H locs cells slots Q (F0 m pc ls rest) := by
  refine q_new (ci := 5) (kd := 4) (T := TX5) (N := 4) (fs := [.null, .null, .int 0, .int 0]) C hV q_u4 tyX5 tyX5_ok hcl wd_53 wd_39 rfl (fun j hj => ?_) (fun q hq => q_add E rfl hq ?_ (fun b hb => qF_nO_ne _ _ _ _ _ hb)) hcells hslots hdg kk
  · rcases (show j = 0 ∨ j = 1 ∨ j = 2 ∨ j = 3 by omega) with rfl | rfl | rfl | rfl <;> rfl
  · have hK1 : (S.nO q 4).K q = 4 := va_up_self _ _ _
    have h2 : ∀ j, (S.nO q 4).I j q = 0 := fun j => va_up_self _ _ _
    have h3 : ∀ j, (S.nO q 4).R j q = none := fun j => va_up_self _ _ _
    have h4 : ∀ j, (S.nO q 4).J j q = 0 := fun j => va_up_self _ _ _
    rw [qF_4 _ _ _ hK1]
    simp only [h2, h3, h4]
    rfl
theorem g_Model_thrown (C : CallFix p m c cc nL s args q_T own) (hV : q_V E s S H locs) (hL : a ∈ S.L) (hK : S.K a = 5) {index : Nat} (hl : Cond.fieldLink own index (TX6 0).1 (TX6 0).2.1 (TX6 0).2.2.1 ∈ q_T ∨ ∃ host, Cond.fieldLinkNest own index (TX6 0).1 (TX6 0).2.1 (TX6 0).2.2.1 host ∈ q_T) (hdg : decode cc pc = .ok (.getfield index, 3))
    (kk : W p l e R s m args below meth c H locs cells slots Q (F0 m (pc + 3) ls (.int (S.I 7 a) :: rest))) : W p l e R s m args below meth c H locs cells slots Q (F0 m pc ls (.ref a :: rest)) := by
  obtain ⟨i, -, hi⟩ := q_g5 E S hL hK
  exact q_get (T := TX6) (k := 0) C hV q_u5 ⟨i, hi⟩ rfl (by decide) hl rfl hdg kk
theorem p_Model_thrown (C : CallFix p m c cc nL s args q_T own) (hV : q_V E s S H locs) (hL : a ∈ S.L) (hK : S.K a = 5) {v : Int32} {index : Nat} (hl : Cond.fieldLink own index (TX6 0).1 (TX6 0).2.1 (TX6 0).2.2.1 ∈ q_T ∨ ∃ host, Cond.fieldLinkNest own index (TX6 0).1 (TX6 0).2.1 (TX6 0).2.2.1 host ∈ q_T) (hdg : decode cc pc = .ok (.putfield index, 3))
    (kk : ∀ (H1 : Heap) (locs1 : List Loc), q_V E s (S.sI 7 a v) H1 locs1 → W p l e R s m args below meth c H1 locs1 cells slots Q (F0 m (pc + 3) ls rest)) : W p l e R s m args below meth c H locs cells slots Q (F0 m pc ls (.int v :: .ref a :: rest)) := by
  obtain ⟨i, hi0, hi⟩ := q_g5 E S hL hK
  have hK1 : (S.sI 7 a v).K a = 5 := hK
  refine q_put (T := TX6) (k := 0) (S1 := S.sI 7 a v) C hV q_u5 tyX6 tyX6_ok nmX6 hi rfl (by decide) hl rfl (rfl) (rfl) (Nat.le_of_ble_eq_true rfl) (q_set E rfl hV.2.2.2.1 hL hi0 ?_ (fun b hb => qF_sI_ne _ _ _ _ _ _ hb)) hdg kk
  rw [qF_5 _ _ _ hK1]
  simp only [qI_self]
  rfl
theorem g_Model_cells (C : CallFix p m c cc nL s args q_T own) (hV : q_V E s S H locs) (hL : a ∈ S.L) (hK : S.K a = 5) {index : Nat} (hl : Cond.fieldLink own index (TX6 1).1 (TX6 1).2.1 (TX6 1).2.2.1 ∈ q_T ∨ ∃ host, Cond.fieldLinkNest own index (TX6 1).1 (TX6 1).2.1 (TX6 1).2.2.1 host ∈ q_T) (hdg : decode cc pc = .ok (.getfield index, 3))
    (kk : W p l e R s m args below meth c H locs cells slots Q (F0 m (pc + 3) ls (.int (S.I 8 a) :: rest))) : W p l e R s m args below meth c H locs cells slots Q (F0 m pc ls (.ref a :: rest)) := by
  obtain ⟨i, -, hi⟩ := q_g5 E S hL hK
  exact q_get (T := TX6) (k := 1) C hV q_u5 ⟨i, hi⟩ rfl (by decide) hl rfl hdg kk
theorem p_Model_cells (C : CallFix p m c cc nL s args q_T own) (hV : q_V E s S H locs) (hL : a ∈ S.L) (hK : S.K a = 5) {v : Int32} {index : Nat} (hl : Cond.fieldLink own index (TX6 1).1 (TX6 1).2.1 (TX6 1).2.2.1 ∈ q_T ∨ ∃ host, Cond.fieldLinkNest own index (TX6 1).1 (TX6 1).2.1 (TX6 1).2.2.1 host ∈ q_T) (hdg : decode cc pc = .ok (.putfield index, 3))
    (kk : ∀ (H1 : Heap) (locs1 : List Loc), q_V E s (S.sI 8 a v) H1 locs1 → W p l e R s m args below meth c H1 locs1 cells slots Q (F0 m (pc + 3) ls rest)) : W p l e R s m args below meth c H locs cells slots Q (F0 m pc ls (.int v :: .ref a :: rest)) := by
  obtain ⟨i, hi0, hi⟩ := q_g5 E S hL hK
  have hK1 : (S.sI 8 a v).K a = 5 := hK
  refine q_put (T := TX6) (k := 1) (S1 := S.sI 8 a v) C hV q_u5 tyX6 tyX6_ok nmX6 hi rfl (by decide) hl rfl (rfl) (rfl) (Nat.le_of_ble_eq_true rfl) (q_set E rfl hV.2.2.2.1 hL hi0 ?_ (fun b hb => qF_sI_ne _ _ _ _ _ _ hb)) hdg kk
  rw [qF_5 _ _ _ hK1]
  simp only [qI_self]
  rfl
theorem g_Model_sizes (C : CallFix p m c cc nL s args q_T own) (hV : q_V E s S H locs) (hL : a ∈ S.L) (hK : S.K a = 5) {index : Nat} (hl : Cond.fieldLink own index (TX6 2).1 (TX6 2).2.1 (TX6 2).2.2.1 ∈ q_T ∨ ∃ host, Cond.fieldLinkNest own index (TX6 2).1 (TX6 2).2.1 (TX6 2).2.2.1 host ∈ q_T) (hdg : decode cc pc = .ok (.getfield index, 3))
    (kk : W p l e R s m args below meth c H locs cells slots Q (F0 m (pc + 3) ls (va_rf (S.R 10 a) :: rest))) : W p l e R s m args below meth c H locs cells slots Q (F0 m pc ls (.ref a :: rest)) := by
  obtain ⟨i, -, hi⟩ := q_g5 E S hL hK
  exact q_get (T := TX6) (k := 2) C hV q_u5 ⟨i, hi⟩ rfl (by decide) hl rfl hdg kk
theorem p_Model_sizes (C : CallFix p m c cc nL s args q_T own) (hV : q_V E s S H locs) (hin2 : meth.name = "<init>") (hL : a ∈ S.L) (hK : S.K a = 5) {v : Option Nat} {index : Nat} (hl : Cond.fieldLink own index (TX6 2).1 (TX6 2).2.1 (TX6 2).2.2.1 ∈ q_T) (hdecl : (TX6 2).1 = own) (hdg : decode cc pc = .ok (.putfield index, 3))
    (kk : ∀ (H1 : Heap) (locs1 : List Loc), q_V E s (S.sR 10 a v) H1 locs1 → W p l e R s m args below meth c H1 locs1 cells slots Q (F0 m (pc + 3) ls rest)) : W p l e R s m args below meth c H locs cells slots Q (F0 m pc ls (va_rf v :: .ref a :: rest)) := by
  obtain ⟨i, hi0, hi⟩ := q_g5 E S hL hK
  have hK1 : (S.sR 10 a v).K a = 5 := hK
  refine q_putF (T := TX6) (k := 2) (S1 := S.sR 10 a v) C hV hin2 q_u5 tyX6 tyX6_ok nmX6 hi rfl (by decide) hl rfl hdecl (by cases v <;> rfl) (by cases v <;> rfl) (Nat.le_of_ble_eq_true rfl) (q_set E rfl hV.2.2.2.1 hL hi0 ?_ (fun b hb => qF_sR_ne _ _ _ _ _ _ hb)) hdg kk
  rw [qF_5 _ _ _ hK1]
  simp only [qR_self]
  rfl
theorem g_Model_times (C : CallFix p m c cc nL s args q_T own) (hV : q_V E s S H locs) (hL : a ∈ S.L) (hK : S.K a = 5) {index : Nat} (hl : Cond.fieldLink own index (TX6 3).1 (TX6 3).2.1 (TX6 3).2.2.1 ∈ q_T ∨ ∃ host, Cond.fieldLinkNest own index (TX6 3).1 (TX6 3).2.1 (TX6 3).2.2.1 host ∈ q_T) (hdg : decode cc pc = .ok (.getfield index, 3))
    (kk : W p l e R s m args below meth c H locs cells slots Q (F0 m (pc + 3) ls (va_rf (S.R 11 a) :: rest))) : W p l e R s m args below meth c H locs cells slots Q (F0 m pc ls (.ref a :: rest)) := by
  obtain ⟨i, -, hi⟩ := q_g5 E S hL hK
  exact q_get (T := TX6) (k := 3) C hV q_u5 ⟨i, hi⟩ rfl (by decide) hl rfl hdg kk
theorem p_Model_times (C : CallFix p m c cc nL s args q_T own) (hV : q_V E s S H locs) (hin2 : meth.name = "<init>") (hL : a ∈ S.L) (hK : S.K a = 5) {v : Option Nat} {index : Nat} (hl : Cond.fieldLink own index (TX6 3).1 (TX6 3).2.1 (TX6 3).2.2.1 ∈ q_T) (hdecl : (TX6 3).1 = own) (hdg : decode cc pc = .ok (.putfield index, 3))
    (kk : ∀ (H1 : Heap) (locs1 : List Loc), q_V E s (S.sR 11 a v) H1 locs1 → W p l e R s m args below meth c H1 locs1 cells slots Q (F0 m (pc + 3) ls rest)) : W p l e R s m args below meth c H locs cells slots Q (F0 m pc ls (va_rf v :: .ref a :: rest)) := by
  obtain ⟨i, hi0, hi⟩ := q_g5 E S hL hK
  have hK1 : (S.sR 11 a v).K a = 5 := hK
  refine q_putF (T := TX6) (k := 3) (S1 := S.sR 11 a v) C hV hin2 q_u5 tyX6 tyX6_ok nmX6 hi rfl (by decide) hl rfl hdecl (by cases v <;> rfl) (by cases v <;> rfl) (Nat.le_of_ble_eq_true rfl) (q_set E rfl hV.2.2.2.1 hL hi0 ?_ (fun b hb => qF_sR_ne _ _ _ _ _ _ hb)) hdg kk
  rw [qF_5 _ _ _ hK1]
  simp only [qR_self]
  rfl
theorem g_Model_now (C : CallFix p m c cc nL s args q_T own) (hV : q_V E s S H locs) (hL : a ∈ S.L) (hK : S.K a = 5) {index : Nat} (hl : Cond.fieldLink own index (TX6 4).1 (TX6 4).2.1 (TX6 4).2.2.1 ∈ q_T ∨ ∃ host, Cond.fieldLinkNest own index (TX6 4).1 (TX6 4).2.1 (TX6 4).2.2.1 host ∈ q_T) (hdg : decode cc pc = .ok (.getfield index, 3))
    (kk : W p l e R s m args below meth c H locs cells slots Q (F0 m (pc + 3) ls (.int (S.I 9 a) :: rest))) : W p l e R s m args below meth c H locs cells slots Q (F0 m pc ls (.ref a :: rest)) := by
  obtain ⟨i, -, hi⟩ := q_g5 E S hL hK
  exact q_get (T := TX6) (k := 4) C hV q_u5 ⟨i, hi⟩ rfl (by decide) hl rfl hdg kk
theorem p_Model_now (C : CallFix p m c cc nL s args q_T own) (hV : q_V E s S H locs) (hL : a ∈ S.L) (hK : S.K a = 5) {v : Int32} {index : Nat} (hl : Cond.fieldLink own index (TX6 4).1 (TX6 4).2.1 (TX6 4).2.2.1 ∈ q_T ∨ ∃ host, Cond.fieldLinkNest own index (TX6 4).1 (TX6 4).2.1 (TX6 4).2.2.1 host ∈ q_T) (hdg : decode cc pc = .ok (.putfield index, 3))
    (kk : ∀ (H1 : Heap) (locs1 : List Loc), q_V E s (S.sI 9 a v) H1 locs1 → W p l e R s m args below meth c H1 locs1 cells slots Q (F0 m (pc + 3) ls rest)) : W p l e R s m args below meth c H locs cells slots Q (F0 m pc ls (.int v :: .ref a :: rest)) := by
  obtain ⟨i, hi0, hi⟩ := q_g5 E S hL hK
  have hK1 : (S.sI 9 a v).K a = 5 := hK
  refine q_put (T := TX6) (k := 4) (S1 := S.sI 9 a v) C hV q_u5 tyX6 tyX6_ok nmX6 hi rfl (by decide) hl rfl (rfl) (rfl) (Nat.le_of_ble_eq_true rfl) (q_set E rfl hV.2.2.2.1 hL hi0 ?_ (fun b hb => qF_sI_ne _ _ _ _ _ _ hb)) hdg kk
  rw [qF_5 _ _ _ hK1]
  simp only [qI_self]
  rfl
theorem g_Model_failures (C : CallFix p m c cc nL s args q_T own) (hV : q_V E s S H locs) (hL : a ∈ S.L) (hK : S.K a = 5) {index : Nat} (hl : Cond.fieldLink own index (TX6 5).1 (TX6 5).2.1 (TX6 5).2.2.1 ∈ q_T ∨ ∃ host, Cond.fieldLinkNest own index (TX6 5).1 (TX6 5).2.1 (TX6 5).2.2.1 host ∈ q_T) (hdg : decode cc pc = .ok (.getfield index, 3))
    (kk : W p l e R s m args below meth c H locs cells slots Q (F0 m (pc + 3) ls (.int (S.I 10 a) :: rest))) : W p l e R s m args below meth c H locs cells slots Q (F0 m pc ls (.ref a :: rest)) := by
  obtain ⟨i, -, hi⟩ := q_g5 E S hL hK
  exact q_get (T := TX6) (k := 5) C hV q_u5 ⟨i, hi⟩ rfl (by decide) hl rfl hdg kk
theorem p_Model_failures (C : CallFix p m c cc nL s args q_T own) (hV : q_V E s S H locs) (hL : a ∈ S.L) (hK : S.K a = 5) {v : Int32} {index : Nat} (hl : Cond.fieldLink own index (TX6 5).1 (TX6 5).2.1 (TX6 5).2.2.1 ∈ q_T ∨ ∃ host, Cond.fieldLinkNest own index (TX6 5).1 (TX6 5).2.1 (TX6 5).2.2.1 host ∈ q_T) (hdg : decode cc pc = .ok (.putfield index, 3))
    (kk : ∀ (H1 : Heap) (locs1 : List Loc), q_V E s (S.sI 10 a v) H1 locs1 → W p l e R s m args below meth c H1 locs1 cells slots Q (F0 m (pc + 3) ls rest)) : W p l e R s m args below meth c H locs cells slots Q (F0 m pc ls (.int v :: .ref a :: rest)) := by
  obtain ⟨i, hi0, hi⟩ := q_g5 E S hL hK
  have hK1 : (S.sI 10 a v).K a = 5 := hK
  refine q_put (T := TX6) (k := 5) (S1 := S.sI 10 a v) C hV q_u5 tyX6 tyX6_ok nmX6 hi rfl (by decide) hl rfl (rfl) (rfl) (Nat.le_of_ble_eq_true rfl) (q_set E rfl hV.2.2.2.1 hL hi0 ?_ (fun b hb => qF_sI_ne _ _ _ _ _ _ hb)) hdg kk
  rw [qF_5 _ _ _ hK1]
  simp only [qI_self]
  rfl
theorem n_Model (C : CallFix p m c cc nL s args q_T own) (hV : q_V E s S H locs) {index : Nat} (hcl : Cond.classLink own index RX6 ∈ q_T) (hcells : cells + 1 ≤ R.cells) (hslots : slots + 6 ≤ R.slots) (hdg : decode cc pc = .ok (.new index, 3))
    (kk : ∀ (q : Nat) (H1 : Heap), q ∉ S.L → q_V E s (S.nO q 5) H1 locs → W p l e R s m args below meth c H1 locs (cells + 1) (slots + 6) Q (F0 m (pc + 3) ls (.ref q :: rest))) : W p l e R s m args below meth c H locs cells slots Q (F0 m pc ls rest) := by
  refine q_new (ci := 6) (kd := 5) (T := TX6) (N := 6) (fs := [.int 0, .int 0, .null, .null, .int 0, .int 0]) C hV q_u5 tyX6 tyX6_ok hcl wd_480 wd_44 rfl (fun j hj => ?_) (fun q hq => q_add E rfl hq ?_ (fun b hb => qF_nO_ne _ _ _ _ _ hb)) hcells hslots hdg kk
  · rcases (show j = 0 ∨ j = 1 ∨ j = 2 ∨ j = 3 ∨ j = 4 ∨ j = 5 by omega) with rfl | rfl | rfl | rfl | rfl | rfl <;> rfl
  · have hK1 : (S.nO q 5).K q = 5 := va_up_self _ _ _
    have h2 : ∀ j, (S.nO q 5).I j q = 0 := fun j => va_up_self _ _ _
    have h3 : ∀ j, (S.nO q 5).R j q = none := fun j => va_up_self _ _ _
    have h4 : ∀ j, (S.nO q 5).J j q = 0 := fun j => va_up_self _ _ _
    rw [qF_5 _ _ _ hK1]
    simp only [h2, h3, h4]
    rfl
theorem g_Walk_open (C : CallFix p m c cc nL s args q_T own) (hV : q_V E s S H locs) (hL : a ∈ S.L) (hK : S.K a = 8) {index : Nat} (hl : Cond.fieldLink own index (TX4 0).1 (TX4 0).2.1 (TX4 0).2.2.1 ∈ q_T ∨ ∃ host, Cond.fieldLinkNest own index (TX4 0).1 (TX4 0).2.1 (TX4 0).2.2.1 host ∈ q_T) (hdg : decode cc pc = .ok (.getfield index, 3))
    (kk : W p l e R s m args below meth c H locs cells slots Q (F0 m (pc + 3) ls (va_rf (S.R 13 a) :: rest))) : W p l e R s m args below meth c H locs cells slots Q (F0 m pc ls (.ref a :: rest)) := by
  obtain ⟨i, -, hi⟩ := q_g8 E S hL hK
  exact q_get (T := TX4) (k := 0) C hV q_u8 ⟨i, hi⟩ rfl (by decide) hl rfl hdg kk
theorem p_Walk_open (C : CallFix p m c cc nL s args q_T own) (hV : q_V E s S H locs) (hL : a ∈ S.L) (hK : S.K a = 8) {v : Option Nat} {index : Nat} (hl : Cond.fieldLink own index (TX4 0).1 (TX4 0).2.1 (TX4 0).2.2.1 ∈ q_T ∨ ∃ host, Cond.fieldLinkNest own index (TX4 0).1 (TX4 0).2.1 (TX4 0).2.2.1 host ∈ q_T) (hdg : decode cc pc = .ok (.putfield index, 3))
    (kk : ∀ (H1 : Heap) (locs1 : List Loc), q_V E s (S.sR 13 a v) H1 locs1 → W p l e R s m args below meth c H1 locs1 cells slots Q (F0 m (pc + 3) ls rest)) : W p l e R s m args below meth c H locs cells slots Q (F0 m pc ls (va_rf v :: .ref a :: rest)) := by
  obtain ⟨i, hi0, hi⟩ := q_g8 E S hL hK
  have hK1 : (S.sR 13 a v).K a = 8 := hK
  refine q_put (T := TX4) (k := 0) (S1 := S.sR 13 a v) C hV q_u8 tyX4 tyX4_ok nmX4 hi rfl (by decide) hl rfl (by cases v <;> rfl) (by cases v <;> rfl) (Nat.le_of_ble_eq_true rfl) (q_set E rfl hV.2.2.2.1 hL hi0 ?_ (fun b hb => qF_sR_ne _ _ _ _ _ _ hb)) hdg kk
  rw [qF_8 _ _ _ hK1]
  simp only [qR_self]
  rfl
theorem g_Walk_wrongLinks (C : CallFix p m c cc nL s args q_T own) (hV : q_V E s S H locs) (hL : a ∈ S.L) (hK : S.K a = 8) {index : Nat} (hl : Cond.fieldLink own index (TX4 1).1 (TX4 1).2.1 (TX4 1).2.2.1 ∈ q_T ∨ ∃ host, Cond.fieldLinkNest own index (TX4 1).1 (TX4 1).2.1 (TX4 1).2.2.1 host ∈ q_T) (hdg : decode cc pc = .ok (.getfield index, 3))
    (kk : W p l e R s m args below meth c H locs cells slots Q (F0 m (pc + 3) ls (.int (S.I 13 a) :: rest))) : W p l e R s m args below meth c H locs cells slots Q (F0 m pc ls (.ref a :: rest)) := by
  obtain ⟨i, -, hi⟩ := q_g8 E S hL hK
  exact q_get (T := TX4) (k := 1) C hV q_u8 ⟨i, hi⟩ rfl (by decide) hl rfl hdg kk
theorem p_Walk_wrongLinks (C : CallFix p m c cc nL s args q_T own) (hV : q_V E s S H locs) (hL : a ∈ S.L) (hK : S.K a = 8) {v : Int32} {index : Nat} (hl : Cond.fieldLink own index (TX4 1).1 (TX4 1).2.1 (TX4 1).2.2.1 ∈ q_T ∨ ∃ host, Cond.fieldLinkNest own index (TX4 1).1 (TX4 1).2.1 (TX4 1).2.2.1 host ∈ q_T) (hdg : decode cc pc = .ok (.putfield index, 3))
    (kk : ∀ (H1 : Heap) (locs1 : List Loc), q_V E s (S.sI 13 a v) H1 locs1 → W p l e R s m args below meth c H1 locs1 cells slots Q (F0 m (pc + 3) ls rest)) : W p l e R s m args below meth c H locs cells slots Q (F0 m pc ls (.int v :: .ref a :: rest)) := by
  obtain ⟨i, hi0, hi⟩ := q_g8 E S hL hK
  have hK1 : (S.sI 13 a v).K a = 8 := hK
  refine q_put (T := TX4) (k := 1) (S1 := S.sI 13 a v) C hV q_u8 tyX4 tyX4_ok nmX4 hi rfl (by decide) hl rfl (rfl) (rfl) (Nat.le_of_ble_eq_true rfl) (q_set E rfl hV.2.2.2.1 hL hi0 ?_ (fun b hb => qF_sI_ne _ _ _ _ _ _ hb)) hdg kk
  rw [qF_8 _ _ _ hK1]
  simp only [qI_self]
  rfl
theorem n_Walk (C : CallFix p m c cc nL s args q_T own) (hV : q_V E s S H locs) {index : Nat} (hcl : Cond.classLink own index RX4 ∈ q_T) (hcells : cells + 1 ≤ R.cells) (hslots : slots + 2 ≤ R.slots) (hdg : decode cc pc = .ok (.new index, 3))
    (kk : ∀ (q : Nat) (H1 : Heap), q ∉ S.L → q_V E s (S.nO q 8) H1 locs → W p l e R s m args below meth c H1 locs (cells + 1) (slots + 2) Q (F0 m (pc + 3) ls (.ref q :: rest))) : W p l e R s m args below meth c H locs cells slots Q (F0 m pc ls rest) := by
  refine q_new (ci := 4) (kd := 8) (T := TX4) (N := 2) (fs := [.null, .int 0]) C hV q_u8 tyX4 tyX4_ok hcl wd_268 wd_51 rfl (fun j hj => ?_) (fun q hq => q_add E rfl hq ?_ (fun b hb => qF_nO_ne _ _ _ _ _ hb)) hcells hslots hdg kk
  · rcases (show j = 0 ∨ j = 1 by omega) with rfl | rfl <;> rfl
  · have hK1 : (S.nO q 8).K q = 8 := va_up_self _ _ _
    have h2 : ∀ j, (S.nO q 8).I j q = 0 := fun j => va_up_self _ _ _
    have h3 : ∀ j, (S.nO q 8).R j q = none := fun j => va_up_self _ _ _
    have h4 : ∀ j, (S.nO q 8).J j q = 0 := fun j => va_up_self _ _ _
    rw [qF_8 _ _ _ hK1]
    simp only [h2, h3, h4]
    rfl
end QF
