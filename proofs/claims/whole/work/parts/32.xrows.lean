/-! CONTRACTS of methods that may throw: xn the exception's class, px what holds where it is thrown -/
abbrev q_XC (E : qE) (xn : String) (px : qS → Prop) : String → State → State → Prop := vx_X px (fun En S1 t => En = xn ∧ q_B E S1 t) E.A
abbrev x_Mi (l : Launch) (y : MethodName) (cc : ByteArray) (n : Nat) (rm : Room) (E : qE) (av : List Value) (S : qS) (post : Int32 → qS → Prop) (xn : String) (px : qS → Prop) (mc ms : Nat) : Prop := vx_Met l y [.code y cc n (some .int)] rm (va_Pc av (q_I E S)) (va_Qi post (q_B E) E.A) (q_XC E xn px) mc ms E.A
abbrev x_Mv (l : Launch) (y : MethodName) (cc : ByteArray) (n : Nat) (rm : Room) (E : qE) (av : List Value) (S : qS) (post : qS → Prop) (xn : String) (px : qS → Prop) (mc ms : Nat) : Prop := vx_Met l y [.code y cc n none] rm (va_Pc av (q_I E S)) (va_Qv post (q_B E) E.A) (q_XC E xn px) mc ms E.A
theorem x_ofW1 {l : Launch} {y : MethodName} {cc : ByteArray} {n mc ms : Nat} {ret : Option FieldType} {rm : Room} {E : qE} {av : List Value} {S : qS} {Qc : Array Value → State → Outcome → State → Prop} {XC : String → State → State → Prop} (hy : plainName y.cls = true) (h1 : q_1 av) (hn : av.length ≤ n)
    (body : ∀ (p : Program) (e : Env) (s : State) (m : MethodId) (below : List Frame) (meth : Method) (c : Code), CallFix p m c cc n s av.toArray q_T y.cls → q_V E s S s.heap [] → meth.sig.returnType = ret → meth.locks = false → meth.name = y.name → (∀ x ∈ c.exceptionTable.toList, False) → ∀ ls : Array Slot, lv_has ls n (q_args 0 av) →
      W p l e rm s m av.toArray below meth c s.heap [] 0 0 (vx_MQ below Qc XC av.toArray s mc ms E.A) (F0 m 0 ls [])) : vx_Met l y [.code y cc n ret] rm (va_Pc av (q_I E S)) Qc XC mc ms E.A := by
  refine vx_ofW (cc := cc) (maxL := n) (ret := ret) (ws' := []) hy rfl ?_
  intro p e s m args below meth c s₁ B hml hnt hv
  obtain ⟨rfl, hK, hZ, hP, hD, hA⟩ := hv
  rw [lg_entry_eq]
  have hl := lv_entry av (show (lg_sl av).length ≤ n by rw [q_1len av h1]; exact hn)
  rw [q_1args av 0 h1] at hl
  exact body p e s m below meth c ⟨B.exec, B.bytes, hml, findClass_of_methodNamed B.named, fun w hw => va_Nw.use (q_on hw) (hK.2.1 w hw)⟩ ⟨hK, hZ, hP, hD, va_S.rf, hA⟩ B.returns B.notSynchronized (name_of_methodNamed B.named B.method).1 hnt _ hl
section XR
variable {p : Program} {l : Launch} {e : Env} {R : Room} {s : State} {m : MethodId} {args : Array Value} {below : List Frame} {meth : Method} {c : Code} {H : Heap} {locs : List Loc} {cells slots : Nat} {Q : State → Prop} {E : qE} {S : qS} {cc : ByteArray} {nL pc : Nat} {ls : Array Slot} {rest st0 : List Value} {own : String}
variable {Qc : Array Value → State → Outcome → State → Prop} {xn : String} {px : qS → Prop} {mc ms : Nat}
/-- the heap may grow: the world stays -/
theorem q_B_grow (hV : q_V E s S H locs) {t : State} (h1 : H.size ≤ t.heap.size) (h2 : ∀ q : Nat, q < H.size → t.heap[q]? = H[q]?) : q_B E S t ∧ va_F E.A s t := by
  obtain ⟨hK, hZ, hP, hD, hS, hA⟩ := hV
  refine ⟨⟨hP.kept (fun k q hk => h2 q.1 ?_), hD⟩, Nat.le_trans hS.1 h1, fun q l1 l2 => (h2 q (Nat.lt_of_lt_of_le l1 hS.1)).trans (hS.2.1 q l1 l2)⟩
  exact (hP k q hk).lt
theorem q_thI (C : CallFix p m c cc nL s args q_T RX5) (hV : q_V E s S H locs) (hl9 : l.stackTraces = false) (hnt : ∀ x ∈ c.exceptionTable.toList, False) (hlk : meth.locks = false) (hsz : ls.size = nL) {is : Nat} {txt : String} (hstr : (is, txt) ∈ q_strs)
    (d0 : decode cc pc = .ok (.new 20, 3)) (d3 : decode cc (pc + 3) = .ok (.dup, 1)) (d4 : decode cc (pc + 4) = .ok (.ldc is, 2)) (d6 : decode cc (pc + 6) = .ok (.invokespecial 24, 3)) (d9 : decode cc (pc + 9) = .ok (.athrow, 1))
    (hRf : 5 < R.frames) (hRl : (rest.map fun v => v.category).sum + 82 ≤ R.locals) (hRc : cells + 1 ≤ R.cells) (hRs : slots + 6 ≤ R.slots) (hc : cells + 1 ≤ mc) (hs : slots + 6 ≤ ms) (hpx : px S) :
    W p l e R s m args below meth c H locs cells slots (vx_MQ below Qc (q_XC E q_IA px) args s mc ms E.A) (F0 m pc ls rest) := by
  obtain ⟨sa, hsa⟩ := hV.1.2.2.2.1 _ hstr
  refine vx_throwS (text := txt) (names := q_up) (ik := 20) (is := is) (ic := 24) (sa := sa) (A := E.A) C.1 C.2.1 hl9 C.2.2.2.1 (by decide +kernel) (by decide +kernel) (C.2.2.2.2 _ wd_298) (C.2.2.2.2 _ wd_48) hsa (fun w hw => C.2.2.2.2 w (q_all q_atI w hw)) ?_ hV.2.1.1 hV.2.1.2 hV.2.2.2.2.1 (hsz.trans C.2.2.1.symm) d0 d3 d4 d6 d9 (fun x hx => (hnt x hx).elim) hRf hRl hRc hRs hlk
    (fun t _ h1 h2 => ⟨S, hpx, ⟨rfl, (q_B_grow hV h1 h2).1⟩, (q_B_grow hV h1 h2).2⟩) hV.2.2.2.2.1.2.2 hc hs
  intro w hw
  have : w ∈ q_T := by
    rcases List.mem_cons.mp hw with e1 | hw
    · rw [e1]; exact wd_298
    · rcases List.mem_cons.mp hw with e1 | hw
      · rw [e1]; exact wd_48
      · exact q_all q_atI w hw
  unfold vx_ot
  rw [q_on this]; rfl
theorem q_thN (C : CallFix p m c cc nL s args q_T RX5) (hV : q_V E s S H locs) (hl9 : l.stackTraces = false) (hnt : ∀ x ∈ c.exceptionTable.toList, False) (hlk : meth.locks = false) (hsz : ls.size = nL) {is : Nat} {txt : String} (hstr : (is, txt) ∈ q_strs)
    (d0 : decode cc pc = .ok (.new 64, 3)) (d3 : decode cc (pc + 3) = .ok (.dup, 1)) (d4 : decode cc (pc + 4) = .ok (.ldc is, 2)) (d6 : decode cc (pc + 6) = .ok (.invokespecial 68, 3)) (d9 : decode cc (pc + 9) = .ok (.athrow, 1))
    (hRf : 5 < R.frames) (hRl : (rest.map fun v => v.category).sum + 82 ≤ R.locals) (hRc : cells + 1 ≤ R.cells) (hRs : slots + 6 ≤ R.slots) (hc : cells + 1 ≤ mc) (hs : slots + 6 ≤ ms) (hpx : px S) :
    W p l e R s m args below meth c H locs cells slots (vx_MQ below Qc (q_XC E q_NE px) args s mc ms E.A) (F0 m pc ls rest) := by
  obtain ⟨sa, hsa⟩ := hV.1.2.2.2.1 _ hstr
  refine vy_throwS (text := txt) (Y9 := q_RE) (names := ["java/lang/Exception"]) (ik := 64) (is := is) (ic := 68) (sa := sa) (A := E.A) C.1 C.2.1 hl9 C.2.2.2.1 (by decide +kernel) (by decide +kernel) (by decide +kernel) (C.2.2.2.2 _ wd_399) (C.2.2.2.2 _ wd_50) hsa (fun w hw => C.2.2.2.2 w (q_all q_atN w hw)) ?_ hV.2.1.1 hV.2.1.2 hV.2.2.2.2.1 (hsz.trans C.2.2.1.symm) d0 d3 d4 d6 d9 (fun x hx => (hnt x hx).elim) hRf hRl hRc hRs hlk
    (fun t _ h1 h2 => ⟨S, hpx, ⟨rfl, (q_B_grow hV h1 h2).1⟩, (q_B_grow hV h1 h2).2⟩) hV.2.2.2.2.1.2.2 hc hs
  intro w hw
  have : w ∈ q_T := by
    rcases List.mem_cons.mp hw with e1 | hw
    · rw [e1]; exact wd_399
    · rcases List.mem_cons.mp hw with e1 | hw
      · rw [e1]; exact wd_50
      · exact q_all q_atN w hw
  unfold vx_ot
  rw [q_on this]; rfl
/-- a call that may throw: it returns, or it goes on with the exception over the frame -/
theorem q_xcv {post : qS → Prop} {av : Array Value} (hV : q_V E s S H locs) (hr : vx_Run p l e R s m args below meth c H locs cells slots mc ms (F0 m pc ls st0) rest (va_Qv post (q_B E) E.A av) (q_XC E xn px) E.A)
    (kx : ∀ (q9 : Addr) (ce : Cell) (S1 : qS) (H1 : Heap) (locs1 : List Loc), px S1 → q_V E s S1 H1 locs1 → H1[q9]? = some ce → ce.vm = .none → s.vm.findClass xn = some ce.cls → vx_W p l e R s m args below meth c H1 locs1 (cells + mc) (slots + ms) Q (F0 m pc ls rest) q9)
    (kk : ∀ (S1 : qS) (H1 : Heap) (locs1 : List Loc), post S1 → q_V E s S1 H1 locs1 → W p l e R s m args below meth c H1 locs1 (cells + mc) (slots + ms) Q (F0 m (pc + 3) ls rest)) : W p l e R s m args below meth c H locs cells slots Q (F0 m pc ls st0) := by
  obtain ⟨hK, hZ, hP, hD, hS, hA⟩ := hV
  exact vx_callv hr hS (fun _ _ h => h) (fun _ h => h) (fun _ _ h => h) (fun En ce q9 u t H1 locs1 ht _ hp hB _ _ hS1 h1 h2 h3 => by
    obtain ⟨rfl, hB⟩ := hB
    exact kx q9 ce u H1 locs1 hp ⟨hK, hZ, by rw [← ht]; exact hB.1, hB.2, hS1, hA⟩ h1 h2 h3) fun u t H1 locs1 ht _ hp hB _ _ hS1 => kk u H1 locs1 hp ⟨hK, hZ, by rw [← ht]; exact hB.1, hB.2, hS1, hA⟩
theorem q_xci {post : Int32 → qS → Prop} {av : Array Value} (hV : q_V E s S H locs) (hr : vx_Run p l e R s m args below meth c H locs cells slots mc ms (F0 m pc ls st0) rest (va_Qi post (q_B E) E.A av) (q_XC E xn px) E.A)
    (kx : ∀ (q9 : Addr) (ce : Cell) (S1 : qS) (H1 : Heap) (locs1 : List Loc), px S1 → q_V E s S1 H1 locs1 → H1[q9]? = some ce → ce.vm = .none → s.vm.findClass xn = some ce.cls → vx_W p l e R s m args below meth c H1 locs1 (cells + mc) (slots + ms) Q (F0 m pc ls rest) q9)
    (kk : ∀ (r : Int32) (S1 : qS) (H1 : Heap) (locs1 : List Loc), post r S1 → q_V E s S1 H1 locs1 → W p l e R s m args below meth c H1 locs1 (cells + mc) (slots + ms) Q (F0 m (pc + 3) ls (.int r :: rest))) : W p l e R s m args below meth c H locs cells slots Q (F0 m pc ls st0) := by
  obtain ⟨hK, hZ, hP, hD, hS, hA⟩ := hV
  exact vx_calli hr hS (fun _ _ h => h) (fun _ h => h) (fun _ _ h => h) (fun En ce q9 u t H1 locs1 ht _ hp hB _ _ hS1 h1 h2 h3 => by
    obtain ⟨rfl, hB⟩ := hB
    exact kx q9 ce u H1 locs1 hp ⟨hK, hZ, by rw [← ht]; exact hB.1, hB.2, hS1, hA⟩ h1 h2 h3) fun r u t H1 locs1 ht _ hp hB _ _ hS1 => kk r u H1 locs1 hp ⟨hK, hZ, by rw [← ht]; exact hB.1, hB.2, hS1, hA⟩
/-- what a called method threw goes on to the caller -/
theorem q_thru {ce : Cell} {q9 : Addr} (hV : q_V E s S H locs) (hnt : ∀ x ∈ c.exceptionTable.toList, False) (hlk : meth.locks = false) (h1 : H[q9]? = some ce) (h2 : ce.vm = .none) (h3 : s.vm.findClass xn = some ce.cls) (hc : cells ≤ mc) (hs : slots ≤ ms) (hpx : px S) :
    vx_W p l e R s m args below meth c H locs cells slots (vx_MQ below Qc (q_XC E xn px) args s mc ms E.A) (F0 m pc ls rest) q9 :=
  vx_out (fun x hx => (hnt x hx).elim) hlk h1 h2 h3 (fun t ht _ => ⟨S, hpx, ⟨rfl, by rw [q_B, ht]; exact ⟨hV.2.2.1, hV.2.2.2.1⟩⟩, hV.2.2.2.2.1.F ht⟩) hV.2.2.2.2.1.2.2 hc hs
variable {y : MethodName} {bytes : ByteArray} {maxL n index b : Nat} {ret : Option FieldType} {rm : Room} {As : List Value} {Cn : String} {XC : String → State → State → Prop}
theorem x_rV (C : CallFix p m c cc nL s args q_T own) (hV : q_V E s S H locs) (hM : vx_Met l y [.code y bytes maxL ret] rm (va_Pc (.ref b :: As) (q_I E S)) Qc XC mc ms E.A)
    (hco : Cond.code y bytes maxL ret ∈ q_T) (hl : Cond.methodLink own index y ∈ q_T) (hin : Cond.instanceMethod y ∈ q_T) (hse : Cond.selects Cn y y ∈ q_T) (hini : Cond.initialized y.cls ∈ q_T) (hy : q_ok y n) (hrm : rm.cells = mc ∧ rm.slots = ms ∧ rm.frames + 1 ≤ R.frames ∧ 8 + (maxL + 11) + rm.locals ≤ R.locals)
    (hrc : ∃ cell : Cell, H[b]? = some cell ∧ cell.vm.isStatics = false ∧ s.vm.findClass Cn = some cell.cls) (hn : As.length = n) (hsz : ls.size = nL) (hst : st0 = As.reverse ++ .ref b :: rest) (hW : (rest.map fun v => v.category).sum ≤ 8) (hdg : decode cc pc = .ok (.invokevirtual index, 3)) (hf : cells + mc ≤ R.cells ∧ slots + ms ≤ R.slots) :
    vx_Run p l e R s m args below meth c H locs cells slots mc ms (F0 m pc ls st0) rest (Qc (Value.ref b :: As).toArray) XC E.A := by
  have hts := C.2.2.2.2
  exact vx_runV (C := Cn) (As := As) (b := b) C hM ⟨⟨hrm.1, hrm.2.1, hrm.2.2.1, hrm.2.2.2, q_ws (hts _ hco), List.mem_singleton.mpr rfl, hts _ hco, hts _ hini, ⟨hy.1, hy.2.1⟩, q_sig hy, hts _ hl⟩, hts _ hin, hts _ hse⟩
    ⟨fun a U g mk q => ⟨q.1, q.2.blind g mk a⟩, hrc, fun U hU hW => ⟨rfl, hV.pre hU hW⟩⟩ rfl hn hsz hst (lv_room hW) hdg hf
theorem x_rS (C : CallFix p m c cc nL s args q_T own) (hV : q_V E s S H locs) (hM : vx_Met l y [.code y bytes maxL ret] rm (va_Pc As (q_I E S)) Qc XC mc ms E.A)
    (hco : Cond.code y bytes maxL ret ∈ q_T) (hl : Cond.methodLink own index y ∈ q_T) (hstt : Cond.static y ∈ q_T) (hini : Cond.initialized y.cls ∈ q_T) (hy : q_ok y n) (hrm : rm.cells = mc ∧ rm.slots = ms ∧ rm.frames + 1 ≤ R.frames ∧ 8 + (maxL + 11) + rm.locals ≤ R.locals)
    (hn : As.length = n) (hsz : ls.size = nL) (hst : st0 = As.reverse ++ rest) (hW : (rest.map fun v => v.category).sum ≤ 8) (hdg : decode cc pc = .ok (.invokestatic index, 3)) (hf : cells + mc ≤ R.cells ∧ slots + ms ≤ R.slots) :
    vx_Run p l e R s m args below meth c H locs cells slots mc ms (F0 m pc ls st0) rest (Qc As.toArray) XC E.A := by
  have hts := C.2.2.2.2
  exact vx_runS (As := As) C hM ⟨⟨hrm.1, hrm.2.1, hrm.2.2.1, hrm.2.2.2, q_ws (hts _ hco), List.mem_singleton.mpr rfl, hts _ hco, hts _ hini, ⟨hy.1, hy.2.1⟩, q_sig hy, hts _ hl⟩, hts _ hstt⟩
    ⟨fun a U g mk q => ⟨q.1, q.2.blind g mk a⟩, fun U hU hW => ⟨rfl, hV.pre hU hW⟩⟩ rfl hn hsz hst (lv_room hW) hdg hf
end XR
