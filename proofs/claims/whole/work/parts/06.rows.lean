section QR
/-! locals: what stays when one is written -/
def q_kp (i : Nat) (v : Value) (lv lv' : List (Nat × Value)) : Prop := ∀ q ∈ lv', q = (i, v) ∨ (q ∈ lv ∧ q.1 ≠ i ∧ (q.1 + 1 = i → q.2.category = 1))
theorem q_kz {i : Nat} {v : Value} {lv : List (Nat × Value)} : q_kp i v lv [] := fun q h => nomatch h
theorem q_k0 {i : Nat} {v : Value} {lv t : List (Nat × Value)} (ht : q_kp i v lv t) : q_kp i v lv ((i, v) :: t) := fun q h => (List.mem_cons.mp h).elim (fun e => Or.inl e) (ht q)
theorem q_kN {i j : Nat} {v w : Value} {lv t : List (Nat × Value)} (k : Nat) (hk : lv[k]? = some (j, w)) (h1 : j ≠ i) (h2 : j + 1 ≠ i) (ht : q_kp i v lv t) : q_kp i v lv ((j, w) :: t) := fun q h => (List.mem_cons.mp h).elim (fun e => Or.inr (by subst e; exact ⟨List.mem_of_getElem? hk, h1, fun z => absurd z h2⟩)) (ht q)
theorem q_kC {i j : Nat} {v w : Value} {lv t : List (Nat × Value)} (k : Nat) (hk : lv[k]? = some (j, w)) (h1 : j ≠ i) (hc : w.category = 1) (ht : q_kp i v lv t) : q_kp i v lv ((j, w) :: t) := fun q h => (List.mem_cons.mp h).elim (fun e => Or.inr (by subst e; exact ⟨List.mem_of_getElem? hk, h1, fun _ => hc⟩)) (ht q)
theorem q_cat (r : Option Nat) : (va_rf r).category = 1 := by cases r <;> rfl
theorem q_kp.has {ls : Array Slot} {nL i : Nat} {v : Value} {lv lv' : List (Nat × Value)} (h : lv_has ls nL ((i, v) :: lv.filter (fun q => !(q.1 == i) && !(q.1 + 1 == i && q.2.category == 2)))) (hk : q_kp i v lv lv') : lv_has ls nL lv' := by
  refine ⟨h.1, h.2.1, fun q hq => h.2.2 q ?_⟩
  rcases hk q hq with e | ⟨h1, h2, h3⟩
  · exact List.mem_cons.mpr (Or.inl e)
  · refine List.mem_cons.mpr (Or.inr (List.mem_filter.mpr ⟨h1, ?_⟩))
    by_cases h4 : q.1 + 1 = i
    · simp [h2, h4, h3 h4]
    · simp [h2, h4]
variable {p : Program} {l : Launch} {e : Env} {R : Room} {s : State} {m : MethodId} {args : Array Value} {below : List Frame} {meth : Method} {c : Code} {H : Heap} {locs : List Loc} {cells slots : Nat} {Q : State → Prop}
variable {cc : ByteArray} {nL pc : Nat} {ls : Array Slot} {rest st0 : List Value} {own : String} {E : qE} {S : qS} {a : Nat} {Ts : List Cond}
theorem q_istore_n (C : CallFix p m c cc nL s args Ts own) {k : Fin 4} {i : Nat} {x : Int32} {lv lv' : List (Nat × Value)} (hdg : decode cc pc = .ok (.istore_n k, 1)) (hi : (k : Nat) = i) (h : lv_has ls nL lv) (hn : i < nL) (hl : q_kp i (.int x) lv lv')
    (kk : ∀ ls' : Array Slot, lv_has ls' nL lv' → W p l e R s m args below meth c H locs cells slots Q (F0 m (pc + 1) ls' rest)) : W p l e R s m args below meth c H locs cells slots Q (F0 m pc ls (.int x :: rest)) :=
  lv_istore_n C.1 C.2.1 hdg hi h hn rfl (fun ls' h' => kk ls' (q_kp.has h' hl))
theorem q_istore (C : CallFix p m c cc nL s args Ts own) {i : Nat} {x : Int32} {lv lv' : List (Nat × Value)} (hdg : decode cc pc = .ok (.istore i, 2)) (h : lv_has ls nL lv) (hn : i < nL) (hl : q_kp i (.int x) lv lv')
    (kk : ∀ ls' : Array Slot, lv_has ls' nL lv' → W p l e R s m args below meth c H locs cells slots Q (F0 m (pc + 2) ls' rest)) : W p l e R s m args below meth c H locs cells slots Q (F0 m pc ls (.int x :: rest)) :=
  lv_istore C.1 C.2.1 hdg h hn rfl (fun ls' h' => kk ls' (q_kp.has h' hl))
theorem q_iinc (C : CallFix p m c cc nL s args Ts own) {i k : Nat} {n : Int} {x v : Int32} {lv lv' : List (Nat × Value)} (hdg : decode cc pc = .ok (.iinc i n, 3)) (h : lv_has ls nL lv) (hk : lv[k]? = some (i, .int x)) (hv : x + Int32.ofInt n = v) (hn : i < nL) (hl : q_kp i (.int v) lv lv')
    (kk : ∀ ls' : Array Slot, lv_has ls' nL lv' → W p l e R s m args below meth c H locs cells slots Q (F0 m (pc + 3) ls' rest)) : W p l e R s m args below meth c H locs cells slots Q (F0 m pc ls rest) :=
  lv_iinc C.1 C.2.1 hdg h hk hv hn rfl (fun ls' h' => kk ls' (q_kp.has h' hl))
theorem q_astore_n (C : CallFix p m c cc nL s args Ts own) {k : Fin 4} {i : Nat} {r : Option Nat} {lv lv' : List (Nat × Value)} (hdg : decode cc pc = .ok (.astore_n k, 1)) (hi : (k : Nat) = i) (h : lv_has ls nL lv) (hn : i < nL) (hl : q_kp i (va_rf r) lv lv')
    (kk : ∀ ls' : Array Slot, lv_has ls' nL lv' → W p l e R s m args below meth c H locs cells slots Q (F0 m (pc + 1) ls' rest)) : W p l e R s m args below meth c H locs cells slots Q (F0 m pc ls (va_rf r :: rest)) := by
  cases r with
  | none => exact lv_astore_nN C.1 C.2.1 hdg hi h hn rfl (fun ls' h' => kk ls' (q_kp.has h' hl))
  | some x => exact lv_astore_n C.1 C.2.1 hdg hi h hn rfl (fun ls' h' => kk ls' (q_kp.has h' hl))
theorem q_astore (C : CallFix p m c cc nL s args Ts own) {i : Nat} {r : Option Nat} {lv lv' : List (Nat × Value)} (hdg : decode cc pc = .ok (.astore i, 2)) (h : lv_has ls nL lv) (hn : i < nL) (hl : q_kp i (va_rf r) lv lv')
    (kk : ∀ ls' : Array Slot, lv_has ls' nL lv' → W p l e R s m args below meth c H locs cells slots Q (F0 m (pc + 2) ls' rest)) : W p l e R s m args below meth c H locs cells slots Q (F0 m pc ls (va_rf r :: rest)) := by
  cases r with
  | none => exact lv_astoreN C.1 C.2.1 hdg h hn rfl (fun ls' h' => kk ls' (q_kp.has h' hl))
  | some x => exact lv_astore C.1 C.2.1 hdg h hn rfl (fun ls' h' => kk ls' (q_kp.has h' hl))
theorem q_aload_n (C : CallFix p m c cc nL s args Ts own) {k : Fin 4} {i : Nat} {r : Option Nat} (hdg : decode cc pc = .ok (.aload_n k, 1)) (hi : (k : Nat) = i) (hl : ls[i]? = some (.val (va_rf r)))
    (kk : W p l e R s m args below meth c H locs cells slots Q (F0 m (pc + 1) ls (va_rf r :: rest))) : W p l e R s m args below meth c H locs cells slots Q (F0 m pc ls rest) := by
  cases r with
  | none => exact lv_aload_nN C.1 C.2.1 hdg hi hl kk
  | some x => exact lv_aload_n C.1 C.2.1 hdg hi hl kk
theorem q_aload (C : CallFix p m c cc nL s args Ts own) {i : Nat} {r : Option Nat} (hdg : decode cc pc = .ok (.aload i, 2)) (hl : ls[i]? = some (.val (va_rf r)))
    (kk : W p l e R s m args below meth c H locs cells slots Q (F0 m (pc + 2) ls (va_rf r :: rest))) : W p l e R s m args below meth c H locs cells slots Q (F0 m pc ls rest) := by
  cases r with
  | none => exact lv_aloadN C.1 C.2.1 hdg hl kk
  | some x => exact lv_aload C.1 C.2.1 hdg hl kk
theorem q_ifnull (C : CallFix p m c cc nL s args Ts own) {r : Option Nat} {off : Int} {tgt : Nat} (hdg : decode cc pc = .ok (.ifnull off, 3)) (ht : (pc : Int) + off = (tgt : Int))
    (kt : r = none → W p l e R s m args below meth c H locs cells slots Q (F0 m tgt ls rest)) (kf : ∀ x, r = some x → W p l e R s m args below meth c H locs cells slots Q (F0 m (pc + 3) ls rest)) : W p l e R s m args below meth c H locs cells slots Q (F0 m pc ls (va_rf r :: rest)) := by
  cases r with
  | none => exact lv_ifnullN C.1 C.2.1 hdg ht (kt rfl)
  | some x => exact lv_ifnull C.1 C.2.1 hdg (kf x rfl)
theorem q_ifnonnull (C : CallFix p m c cc nL s args Ts own) {r : Option Nat} {off : Int} {tgt : Nat} (hdg : decode cc pc = .ok (.ifnonnull off, 3)) (ht : (pc : Int) + off = (tgt : Int))
    (kt : ∀ x, r = some x → W p l e R s m args below meth c H locs cells slots Q (F0 m tgt ls rest)) (kf : r = none → W p l e R s m args below meth c H locs cells slots Q (F0 m (pc + 3) ls rest)) : W p l e R s m args below meth c H locs cells slots Q (F0 m pc ls (va_rf r :: rest)) := by
  cases r with
  | none => exact lv_ifnonnullN C.1 C.2.1 hdg (kf rfl)
  | some x => exact lv_ifnonnull C.1 C.2.1 hdg ht (kt x rfl)
/-! returns -/
theorem q_iret {post : Int32 → qS → Prop} {mc ms : Nat} {v : Int32} (C : CallFix p m c cc nL s args Ts own) (hV : q_V E s S H locs) (hr : meth.sig.returnType = some .int) (hlk : meth.locks = false) (hc : cells ≤ mc) (hs : slots ≤ ms) (hdg : decode cc pc = .ok (.ireturn, 1)) (hp : post v S) :
    W p l e R s m args below meth c H locs cells slots (MQ below (va_Qi post (q_B E) E.A) args s mc ms E.A) (F0 m pc ls [.int v]) :=
  W.widen hc hs (W.iret C.1 C.2.1 hr (fun t ht _ => ⟨⟨v, S, rfl, hp, by rw [ht]; exact hV.2.2.1, hV.2.2.2.1⟩, hV.2.2.2.2.1.F ht⟩) hV.2.2.2.2.1.2.2 hdg hlk)
theorem q_zret {post : Int32 → qS → Prop} {mc ms : Nat} {v : Int32} (C : CallFix p m c cc nL s args Ts own) (hV : q_V E s S H locs) (hr : meth.sig.returnType = some .boolean) (hlk : meth.locks = false) (hb : v = 0 ∨ v = 1) (hc : cells ≤ mc) (hs : slots ≤ ms) (hdg : decode cc pc = .ok (.ireturn, 1)) (hp : post v S) :
    W p l e R s m args below meth c H locs cells slots (MQ below (va_Qi post (q_B E) E.A) args s mc ms E.A) (F0 m pc ls [.int v]) :=
  W.widen hc hs (W.zret C.1 C.2.1 hr (by rcases hb with h | h <;> subst h <;> rfl) (fun t ht _ => ⟨⟨v, S, rfl, hp, by rw [ht]; exact hV.2.2.1, hV.2.2.2.1⟩, hV.2.2.2.2.1.F ht⟩) hV.2.2.2.2.1.2.2 hdg hlk)
theorem q_vret {post : qS → Prop} {mc ms : Nat} (C : CallFix p m c cc nL s args Ts own) (hV : q_V E s S H locs) (hr : meth.sig.returnType = none) (hlk : meth.locks = false) (hc : cells ≤ mc) (hs : slots ≤ ms) (hdg : decode cc pc = .ok (.return_, 1)) (hp : post S) :
    W p l e R s m args below meth c H locs cells slots (MQ below (va_Qv post (q_B E) E.A) args s mc ms E.A) (F0 m pc ls []) :=
  W.widen hc hs (W.vret C.1 C.2.1 hr (fun t ht _ => ⟨⟨S, rfl, hp, by rw [ht]; exact hV.2.2.1, hV.2.2.2.1⟩, hV.2.2.2.2.1.F ht⟩) hV.2.2.2.2.1.2.2 hdg hlk)
theorem q_aret {post : Option Nat → qS → Prop} {mc ms : Nat} {r : Option Nat} {n : String} (C : CallFix p m c cc nL s args Ts own) (hV : q_V E s S H locs) (hr : meth.sig.returnType = some (.object n)) (hlk : meth.locks = false) (hc : cells ≤ mc) (hs : slots ≤ ms) (hdg : decode cc pc = .ok (.areturn, 1)) (hp : post r S) :
    W p l e R s m args below meth c H locs cells slots (MQ below (va_Qq post (q_B E) E.A) args s mc ms E.A) (F0 m pc ls [va_rf r]) :=
  W.widen hc hs (W.aret C.1 C.2.1 hr (Or.inl ⟨n, rfl⟩) (va_rf_or r) (fun t ht _ => ⟨⟨r, S, rfl, hp, by rw [ht]; exact hV.2.2.1, hV.2.2.2.1⟩, hV.2.2.2.2.1.F ht⟩) hV.2.2.2.2.1.2.2 hdg hlk)
/-! calls: what goes on behind them -/
theorem q_ci {post : Int32 → qS → Prop} {mc ms : Nat} {av : Array Value} (hV : q_V E s S H locs) (hr : va_Run p l e R s m args below meth c H locs cells slots mc ms (F0 m pc ls st0) rest (va_Qi post (q_B E) E.A av) E.A)
    (kk : ∀ (r : Int32) (S1 : qS) (H1 : Heap) (locs1 : List Loc), post r S1 → q_V E s S1 H1 locs1 → W p l e R s m args below meth c H1 locs1 (cells + mc) (slots + ms) Q (F0 m (pc + 3) ls (.int r :: rest))) : W p l e R s m args below meth c H locs cells slots Q (F0 m pc ls st0) := by
  obtain ⟨hK, hZ, hP, hD, hS, hA⟩ := hV
  exact va_calli hr hS (fun _ _ h => h) (fun _ h => h) fun r u t H1 locs1 ht _ hp hB _ _ hS1 => kk r u H1 locs1 hp ⟨hK, hZ, by rw [← ht]; exact hB.1, hB.2, hS1, hA⟩
theorem q_cv {post : qS → Prop} {mc ms : Nat} {av : Array Value} (hV : q_V E s S H locs) (hr : va_Run p l e R s m args below meth c H locs cells slots mc ms (F0 m pc ls st0) rest (va_Qv post (q_B E) E.A av) E.A)
    (kk : ∀ (S1 : qS) (H1 : Heap) (locs1 : List Loc), post S1 → q_V E s S1 H1 locs1 → W p l e R s m args below meth c H1 locs1 (cells + mc) (slots + ms) Q (F0 m (pc + 3) ls rest)) : W p l e R s m args below meth c H locs cells slots Q (F0 m pc ls st0) := by
  obtain ⟨hK, hZ, hP, hD, hS, hA⟩ := hV
  exact va_callv hr hS (fun _ _ h => h) (fun _ h => h) fun u t H1 locs1 ht _ hp hB _ _ hS1 => kk u H1 locs1 hp ⟨hK, hZ, by rw [← ht]; exact hB.1, hB.2, hS1, hA⟩
theorem q_cq {post : Option Nat → qS → Prop} {mc ms : Nat} {av : Array Value} (hV : q_V E s S H locs) (hr : va_Run p l e R s m args below meth c H locs cells slots mc ms (F0 m pc ls st0) rest (va_Qq post (q_B E) E.A av) E.A)
    (kk : ∀ (r : Option Nat) (S1 : qS) (H1 : Heap) (locs1 : List Loc), post r S1 → q_V E s S1 H1 locs1 → W p l e R s m args below meth c H1 locs1 (cells + mc) (slots + ms) Q (F0 m (pc + 3) ls (va_rf r :: rest))) : W p l e R s m args below meth c H locs cells slots Q (F0 m pc ls st0) := by
  obtain ⟨hK, hZ, hP, hD, hS, hA⟩ := hV
  exact va_callq hr hS (fun _ _ h => h) (fun _ h => h) fun r u t H1 locs1 ht _ hp hB _ _ hS1 => kk r u H1 locs1 hp ⟨hK, hZ, by rw [← ht]; exact hB.1, hB.2, hS1, hA⟩
/-! calls: how they are made -/
def q_ok (y : MethodName) (n : Nat) : Prop := y.cls ≠ "java/lang/invoke/MethodHandle" ∧ y.cls ≠ "java/lang/invoke/VarHandle" ∧ (parseMethodDescriptor y.desc).map (fun d => d.parameters.length) = some n
theorem q_sig {y : MethodName} {n : Nat} (h : q_ok y n) : ∀ sig, parseMethodDescriptor y.desc = some sig → n = sig.parameters.length := fun sig h1 => by
  have h2 := h.2.2
  rw [h1] at h2
  exact (Option.some.inj h2).symm
theorem q_ws {y : MethodName} {bytes : ByteArray} {maxL : Nat} {ret : Option FieldType} (h : (Cond.code y bytes maxL ret).before args s = true) : ∀ w ∈ [Cond.code y bytes maxL ret], ∀ (a' : Array Value) (U : State), s.WarmedH U.vm → w.before a' U = true := fun w hw a' U hW => by
  rw [List.mem_singleton.mp hw]
  exact word_at hW (Or.inl rfl) h
variable {y : MethodName} {bytes : ByteArray} {maxL n index mc ms b : Nat} {ret : Option FieldType} {rm : Room} {As : List Value} {Cn : String} {Qc : Array Value → State → Outcome → State → Prop}
theorem q_rV (C : CallFix p m c cc nL s args q_T own) (hV : q_V E s S H locs) (hM : Met l y [.code y bytes maxL ret] rm (va_Pc (.ref b :: As) (q_I E S)) Qc mc ms E.A)
    (hco : Cond.code y bytes maxL ret ∈ q_T) (hl : Cond.methodLink own index y ∈ q_T) (hin : Cond.instanceMethod y ∈ q_T) (hse : Cond.selects Cn y y ∈ q_T) (hini : Cond.initialized y.cls ∈ q_T) (hy : q_ok y n) (hrm : rm.cells = mc ∧ rm.slots = ms ∧ rm.frames + 1 ≤ R.frames ∧ 8 + (maxL + 11) + rm.locals ≤ R.locals)
    (hrc : ∃ cell : Cell, H[b]? = some cell ∧ cell.vm.isStatics = false ∧ s.vm.findClass Cn = some cell.cls) (hn : As.length = n) (hsz : ls.size = nL) (hst : st0 = As.reverse ++ .ref b :: rest) (hW : (rest.map fun v => v.category).sum ≤ 8) (hdg : decode cc pc = .ok (.invokevirtual index, 3)) (hf : cells + mc ≤ R.cells ∧ slots + ms ≤ R.slots) :
    va_Run p l e R s m args below meth c H locs cells slots mc ms (F0 m pc ls st0) rest (Qc (Value.ref b :: As).toArray) E.A := by
  have hts := C.2.2.2.2
  exact va_runV (C := Cn) (As := As) (b := b) C hM ⟨⟨hrm.1, hrm.2.1, hrm.2.2.1, hrm.2.2.2, q_ws (hts _ hco), List.mem_singleton.mpr rfl, hts _ hco, hts _ hini, ⟨hy.1, hy.2.1⟩, q_sig hy, hts _ hl⟩, hts _ hin, hts _ hse⟩
    ⟨fun a U g mk q => ⟨q.1, q.2.blind g mk a⟩, hrc, fun U hU hW => ⟨rfl, hV.pre hU hW⟩⟩ rfl hn hsz hst (lv_room hW) hdg hf
theorem q_rN {host : String} (C : CallFix p m c cc nL s args q_T own) (hV : q_V E s S H locs) (hM : Met l y [.code y bytes maxL ret] rm (va_Pc (.ref b :: As) (q_I E S)) Qc mc ms E.A)
    (hco : Cond.code y bytes maxL ret ∈ q_T) (hl : Cond.methodLinkNest own index y host ∈ q_T) (hin : Cond.instanceMethod y ∈ q_T) (hse : Cond.selects Cn y y ∈ q_T) (hini : Cond.initialized y.cls ∈ q_T) (hy : q_ok y n) (hrm : rm.cells = mc ∧ rm.slots = ms ∧ rm.frames + 1 ≤ R.frames ∧ 8 + (maxL + 11) + rm.locals ≤ R.locals)
    (hrc : ∃ cell : Cell, H[b]? = some cell ∧ cell.vm.isStatics = false ∧ s.vm.findClass Cn = some cell.cls) (hn : As.length = n) (hsz : ls.size = nL) (hst : st0 = As.reverse ++ .ref b :: rest) (hW : (rest.map fun v => v.category).sum ≤ 8) (hdg : decode cc pc = .ok (.invokevirtual index, 3)) (hf : cells + mc ≤ R.cells ∧ slots + ms ≤ R.slots) :
    va_Run p l e R s m args below meth c H locs cells slots mc ms (F0 m pc ls st0) rest (Qc (Value.ref b :: As).toArray) E.A := by
  have hts := C.2.2.2.2
  exact va_runVN (C := Cn) (As := As) (b := b) (host := host) C hM ⟨⟨⟨hrm.1, hrm.2.1, hrm.2.2.1, hrm.2.2.2, q_ws (hts _ hco), List.mem_singleton.mpr rfl⟩, hts _ hco, hts _ hini, ⟨hy.1, hy.2.1⟩, q_sig hy, hts _ hl⟩, hts _ hin, hts _ hse⟩
    ⟨fun a U g mk q => ⟨q.1, q.2.blind g mk a⟩, hrc, fun U hU hW => ⟨rfl, hV.pre hU hW⟩⟩ rfl hn hsz hst (lv_room hW) hdg hf
theorem q_rS (C : CallFix p m c cc nL s args q_T own) (hV : q_V E s S H locs) (hM : Met l y [.code y bytes maxL ret] rm (va_Pc As (q_I E S)) Qc mc ms E.A)
    (hco : Cond.code y bytes maxL ret ∈ q_T) (hl : Cond.methodLink own index y ∈ q_T) (hstt : Cond.static y ∈ q_T) (hini : Cond.initialized y.cls ∈ q_T) (hy : q_ok y n) (hrm : rm.cells = mc ∧ rm.slots = ms ∧ rm.frames + 1 ≤ R.frames ∧ 8 + (maxL + 11) + rm.locals ≤ R.locals)
    (hn : As.length = n) (hsz : ls.size = nL) (hst : st0 = As.reverse ++ rest) (hW : (rest.map fun v => v.category).sum ≤ 8) (hdg : decode cc pc = .ok (.invokestatic index, 3)) (hf : cells + mc ≤ R.cells ∧ slots + ms ≤ R.slots) :
    va_Run p l e R s m args below meth c H locs cells slots mc ms (F0 m pc ls st0) rest (Qc As.toArray) E.A := by
  have hts := C.2.2.2.2
  exact va_runS (As := As) C hM ⟨⟨hrm.1, hrm.2.1, hrm.2.2.1, hrm.2.2.2, q_ws (hts _ hco), List.mem_singleton.mpr rfl, hts _ hco, hts _ hini, ⟨hy.1, hy.2.1⟩, q_sig hy, hts _ hl⟩, hts _ hstt⟩
    ⟨fun a U g mk q => ⟨q.1, q.2.blind g mk a⟩, fun U hU hW => ⟨rfl, hV.pre hU hW⟩⟩ rfl hn hsz hst (lv_room hW) hdg hf
theorem q_rI (C : CallFix p m c cc nL s args q_T own) (hV : q_V E s S H locs) (hM : Met l y [.code y bytes maxL none] rm (va_Pc (.ref b :: As) (q_I E S)) Qc mc ms E.A)
    (hco : Cond.code y bytes maxL none ∈ q_T) (hl : Cond.methodLink own index y ∈ q_T ∨ ∃ host, Cond.methodLinkNest own index y host ∈ q_T) (hin : Cond.instanceMethod y ∈ q_T) (hini : Cond.initialized y.cls ∈ q_T) (hnm : y.name = "<init>") (hy : q_ok y n) (hrm : rm.cells = mc ∧ rm.slots = ms ∧ rm.frames + 1 ≤ R.frames ∧ 8 + (maxL + 11) + rm.locals ≤ R.locals)
    (hn : As.length = n) (hsz : ls.size = nL) (hst : st0 = As.reverse ++ .ref b :: rest) (hW : (rest.map fun v => v.category).sum ≤ 8) (hdg : decode cc pc = .ok (.invokespecial index, 3)) (hf : cells + mc ≤ R.cells ∧ slots + ms ≤ R.slots) :
    va_Run p l e R s m args below meth c H locs cells slots mc ms (F0 m pc ls st0) rest (Qc (Value.ref b :: As).toArray) E.A := by
  have hts := C.2.2.2.2
  rcases hl with hl | ⟨host, hl⟩
  · exact va_runI (As := As) (b := b) C hM ⟨⟨hrm.1, hrm.2.1, hrm.2.2.1, hrm.2.2.2, q_ws (hts _ hco), List.mem_singleton.mpr rfl, hts _ hco, hts _ hini, ⟨hy.1, hy.2.1⟩, q_sig hy, hts _ hl⟩, hnm, hts _ hin⟩
      ⟨fun a U g mk q => ⟨q.1, q.2.blind g mk a⟩, fun U hU hW => ⟨rfl, hV.pre hU hW⟩⟩ rfl hn hsz hst (lv_room hW) hdg hf
  · exact va_runIN (As := As) (b := b) (host := host) C hM ⟨⟨⟨hrm.1, hrm.2.1, hrm.2.2.1, hrm.2.2.2, q_ws (hts _ hco), List.mem_singleton.mpr rfl⟩, hts _ hco, hts _ hini, ⟨hy.1, hy.2.1⟩, q_sig hy, hts _ hl⟩, hnm, hts _ hin⟩
      ⟨fun a U g mk q => ⟨q.1, q.2.blind g mk a⟩, fun U hU hW => ⟨rfl, hV.pre hU hW⟩⟩ rfl hn hsz hst (lv_room hW) hdg hf
theorem q_recv (hV : q_V E s S H locs) {ci : Nat} {q : vw_C} (he : ∃ (i : Nat) (fs : List Value), (q_w E S)[i]? = some (a, .inr (ci, fs))) (hc : vwCl[ci]? = some q) : ∃ cell : Cell, H[a]? = some cell ∧ cell.vm.isStatics = false ∧ s.vm.findClass q.1 = some cell.cls := by
  obtain ⟨i, fs, h⟩ := he
  exact va_recv hV.1.1 hV.2.2.1 hc h
theorem q_rc0 (hV : q_V E s S H locs) (hL : a ∈ S.L) (hK : S.K a = 0) : ∃ cell : Cell, H[a]? = some cell ∧ cell.vm.isStatics = false ∧ s.vm.findClass RX0 = some cell.cls := by
  obtain ⟨i, -, h⟩ := q_g0 E S hL hK; exact q_recv (q := (RX0, TX0, 7)) hV ⟨i, _, h⟩ rfl
theorem q_rc1 (hV : q_V E s S H locs) (hL : a ∈ S.L) (hK : S.K a = 1) : ∃ cell : Cell, H[a]? = some cell ∧ cell.vm.isStatics = false ∧ s.vm.findClass RX1 = some cell.cls := by
  obtain ⟨i, -, h⟩ := q_g1 E S hL hK; exact q_recv (q := (RX1, TX1, 7)) hV ⟨i, _, h⟩ rfl
theorem q_rc2 (hV : q_V E s S H locs) (hL : a ∈ S.L) (hK : S.K a = 2) : ∃ cell : Cell, H[a]? = some cell ∧ cell.vm.isStatics = false ∧ s.vm.findClass RX2 = some cell.cls := by
  obtain ⟨i, -, h⟩ := q_g2 E S hL hK; exact q_recv (q := (RX2, TX2, 3)) hV ⟨i, _, h⟩ rfl
theorem q_rc3 (hV : q_V E s S H locs) (hL : a ∈ S.L) (hK : S.K a = 3) : ∃ cell : Cell, H[a]? = some cell ∧ cell.vm.isStatics = false ∧ s.vm.findClass RX3 = some cell.cls := by
  obtain ⟨i, -, h⟩ := q_g3 E S hL hK; exact q_recv (q := (RX3, TX3, 1)) hV ⟨i, _, h⟩ rfl
theorem q_rc4 (hV : q_V E s S H locs) (hL : a ∈ S.L) (hK : S.K a = 4) : ∃ cell : Cell, H[a]? = some cell ∧ cell.vm.isStatics = false ∧ s.vm.findClass RX5 = some cell.cls := by
  obtain ⟨i, -, h⟩ := q_g4 E S hL hK; exact q_recv (q := (RX5, TX5, 4)) hV ⟨i, _, h⟩ rfl
theorem q_rc5 (hV : q_V E s S H locs) (hL : a ∈ S.L) (hK : S.K a = 5) : ∃ cell : Cell, H[a]? = some cell ∧ cell.vm.isStatics = false ∧ s.vm.findClass RX6 = some cell.cls := by
  obtain ⟨i, -, h⟩ := q_g5 E S hL hK; exact q_recv (q := (RX6, TX6, 6)) hV ⟨i, _, h⟩ rfl
theorem q_rc8 (hV : q_V E s S H locs) (hL : a ∈ S.L) (hK : S.K a = 8) : ∃ cell : Cell, H[a]? = some cell ∧ cell.vm.isStatics = false ∧ s.vm.findClass RX4 = some cell.cls := by
  obtain ⟨i, -, h⟩ := q_g8 E S hL hK; exact q_recv (q := (RX4, TX4, 2)) hV ⟨i, _, h⟩ rfl
theorem q_objInit (C : CallFix p m c cc nL s args q_T own) {idx : Nat} (hl : Cond.methodLink own idx objectInit ∈ q_T) (hi : Cond.instanceMethod objectInit ∈ q_T) (hco : Cond.code objectInit ⟨#[0xb1]⟩ 1 none ∈ q_T) (hsz : ls.size = nL) (hdg : decode cc pc = .ok (.invokespecial idx, 3)) (hfr : 1 ≤ R.frames) (hlo : (rest.map fun v => v.category).sum + 12 ≤ R.locals)
    (kk : W p l e R s m args below meth c H locs cells slots Q (F0 m (pc + 3) ls rest)) : W p l e R s m args below meth c H locs cells slots Q (F0 m pc ls (.ref a :: rest)) := by
  have hts := C.2.2.2.2
  exact W.objInit C.1 C.2.1 C.2.2.2.1 (hts _ hl) (hts _ hi) (hts _ hco) rfl (hsz.trans C.2.2.1.symm) rfl hdg hfr (by show 2 * 0 + _ + 12 ≤ _; omega) kk
end QR
