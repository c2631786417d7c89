/-! THE LAW'S HELPERS: the array for the answer, the table of exceptions -/
def fL (v : Int64) : Nat → Int64 := fun j => if j = 0 then v else 0
abbrev qE.o (E : qE) (o9 : Nat) (v : Int64) : qE := (E.D, E.cI, E.cR, E.cJ, E.A, [(o9, .inl (E.cJ, 1, .inr (.inl (fL v))))])
theorem fL_up (v x : Int64) : vp_updL (fL v) (0 : Int32).toNatClampNeg x = fL x := by
  funext j
  show (if j = (0 : Int32).toNatClampNeg then x else fL v j) = _
  rw [show (0 : Int32).toNatClampNeg = 0 from by decide]
  unfold fL
  by_cases h : j = 0
  · rw [if_pos h, if_pos h]
  · rw [if_neg h, if_neg h, if_neg h]
theorem q_in01 : vp_in (0 : Int32) 1 := by rw [show (0 : Int32) = nI 0 from by decide]; exact vp_in_nI (by decide) (by decide)
section LR
variable {p : Program} {l : Launch} {e : Env} {R : Room} {s : State} {m : MethodId} {args : Array Value} {below : List Frame} {meth : Method} {c : Code} {H : Heap} {locs : List Loc} {cells slots : Nat} {Q : State → Prop} {E : qE} {S : qS} {cc : ByteArray} {nL pc : Nat} {ls : Array Slot} {rest st0 : List Value} {own : String}
variable {Qc : Array Value → State → Outcome → State → Prop} {mc ms : Nat} {o9 : Nat} {v : Int64}
theorem q_last (C : CallFix p m c cc nL s args q_T own) (hV : q_V (E.o o9 v) s S H locs) {x : Int64} (hdg : decode cc pc = .ok (.lastore, 1))
    (kk : ∀ (H1 : Heap) (locs1 : List Loc), q_V (E.o o9 x) s S H1 locs1 → W p l e R s m args below meth c H1 locs1 cells slots Q (F0 m (pc + 1) ls rest)) : W p l e R s m args below meth c H locs cells slots Q (F0 m pc ls (.long x :: .int 0 :: va_rf (some o9) :: rest)) := by
  obtain ⟨hK, hZ, hP, hD, hS, hA⟩ := hV
  refine va_last (i := 0) (f := fL v) C.1 C.2.1 hK.1 hP hD hS 0 2 rfl rfl q_in01 hdg (fun H1 locs1 hP1 hD1 hS1 => kk H1 locs1 ⟨hK, hZ, ?_, ?_, hS1, hA⟩)
  · rw [fL_up] at hP1; exact hP1
  · rw [fL_up] at hD1; exact hD1
theorem q_lald (C : CallFix p m c cc nL s args q_T own) (hV : q_V (E.o o9 v) s S H locs) (hdg : decode cc pc = .ok (.laload, 1))
    (kk : W p l e R s m args below meth c H locs cells slots Q (F0 m (pc + 1) ls (.long v :: rest))) : W p l e R s m args below meth c H locs cells slots Q (F0 m pc ls (.int 0 :: va_rf (some o9) :: rest)) := by
  obtain ⟨hK, hZ, hP, hD, hS, hA⟩ := hV
  refine va_lald (i := 0) (f := fL v) C.1 C.2.1 hK.1 hP 0 2 rfl rfl q_in01 hdg ?_
  rw [show fL v (0 : Int32).toNatClampNeg = v from by rw [show (0 : Int32).toNatClampNeg = 0 from by decide]; rfl]
  exact kk
abbrev q_BL (E : qE) (o9 : Nat) : Int64 × qS → State → Prop := fun u t => q_B (E.o o9 u.1) u.2 t
abbrev q_no : String → State → State → Prop := vx_X (fun _ : qS => False) (fun _ _ _ => True) (fun _ => True)
theorem q_iretL {post : Int32 → Int64 × qS → Prop} {XC : String → State → State → Prop} {r : Int32} (C : CallFix p m c cc nL s args q_T own) (hV : q_V (E.o o9 v) s S H locs) (hr : meth.sig.returnType = some .int) (hlk : meth.locks = false) (hc : cells ≤ mc) (hs : slots ≤ ms) (hdg : decode cc pc = .ok (.ireturn, 1)) (hp : post r (v, S)) :
    W p l e R s m args below meth c H locs cells slots (vx_MQ below (va_Qi post (q_BL E o9) E.A) XC args s mc ms E.A) (F0 m pc ls [.int r]) :=
  vx_ret (W.widen hc hs (W.iret C.1 C.2.1 hr (fun t ht _ => ⟨⟨r, (v, S), rfl, hp, by rw [ht]; exact hV.2.2.1, hV.2.2.2.1⟩, hV.2.2.2.2.1.F ht⟩) hV.2.2.2.2.1.2.2 hdg hlk))
variable {y : MethodName} {bytes : ByteArray} {maxL n index : Nat} {ret : Option FieldType} {rm : Room} {As : List Value} {hh : List (Nat × Nat × Nat × Nat)} {XC : String → State → State → Prop}
theorem x_rSX (C : CallFix p m c cc nL s args q_T own) (hV : q_V E s S H locs) (hM : vx_Met l y [.codeWith y bytes maxL ret hh] rm (va_Pc As (q_I E S)) Qc XC mc ms E.A)
    (hco : Cond.codeWith y bytes maxL ret hh ∈ q_T) (hl : Cond.methodLink own index y ∈ q_T) (hstt : Cond.static y ∈ q_T) (hini : Cond.initialized y.cls ∈ q_T) (hy : q_ok y n) (hrm : rm.cells = mc ∧ rm.slots = ms ∧ rm.frames + 1 ≤ R.frames ∧ 8 + (maxL + 11) + rm.locals ≤ R.locals)
    (hn : As.length = n) (hsz : ls.size = nL) (hst : st0 = As.reverse ++ rest) (hW : (rest.map fun v => v.category).sum ≤ 8) (hdg : decode cc pc = .ok (.invokestatic index, 3)) (hf : cells + mc ≤ R.cells ∧ slots + ms ≤ R.slots) :
    vx_Run p l e R s m args below meth c H locs cells slots mc ms (F0 m pc ls st0) rest (Qc As.toArray) XC E.A := by
  have hts := C.2.2.2.2
  exact vx_runSX (As := As) (hh := hh) C hM ⟨⟨hrm.1, hrm.2.1, hrm.2.2.1, hrm.2.2.2, fun w hw a' U hW => by rw [List.mem_singleton.mp hw]; exact word_at hW (good_of_word rfl) (hts _ hco), List.mem_singleton.mpr rfl⟩, hts _ hco, hts _ hini, ⟨hy.1, hy.2.1⟩, q_sig hy, hts _ hl, hts _ hstt⟩
    ⟨fun a U g mk q => ⟨q.1, q.2.blind g mk a⟩, fun U hU hW => ⟨rfl, hV.pre hU hW⟩⟩ rfl hn hsz hst (lv_room hW) hdg hf
/-- a helper answers: what it left in the array, and the pool -/
theorem q_cL {post : Int32 → Int64 × qS → Prop} {av : Array Value} (hV : q_V (E.o o9 v) s S H locs) (hr : vx_Run p l e R s m args below meth c H locs cells slots mc ms (F0 m pc ls st0) rest (va_Qi post (q_BL E o9) E.A av) q_no E.A)
    (kk : ∀ (r : Int32) (v1 : Int64) (S1 : qS) (H1 : Heap) (locs1 : List Loc), post r (v1, S1) → q_V (E.o o9 v1) s S1 H1 locs1 → W p l e R s m args below meth c H1 locs1 (cells + mc) (slots + ms) Q (F0 m (pc + 3) ls (.int r :: rest))) : W p l e R s m args below meth c H locs cells slots Q (F0 m pc ls st0) := by
  obtain ⟨hK, hZ, hP, hD, hS, hA⟩ := hV
  intro T hT X
  rcases hr T hT X with ⟨v9, st₀, t, T', L, h0, X', hL, e1, e2, ⟨⟨r, u, hv, hp, hb⟩, hF⟩, st⟩ | ⟨q, st₀, t, T', L, E9, ce, h0, X', hL, e1, e2, ⟨u, hp, -⟩, -⟩
  · cases hv
    obtain ⟨k1, k2, k3⟩ := vx_keep h0 e1 hS (fun _ _ h => h) (fun _ h => h) hL hF
    obtain ⟨t2, a1, b1⟩ := kk r u.1 u.2 T'.heap (locs ++ L) hp ⟨hK, hZ, by rw [e1]; exact hb.1, hb.2, k3, hA⟩ T' rfl X'
    exact ⟨t2, st t2 a1, b1⟩
  · exact hp.elim
end LR
theorem x_ofWH1 {l : Launch} {y : MethodName} {cc : ByteArray} {n mc ms : Nat} {ret : Option FieldType} {rm : Room} {E : qE} {av : List Value} {S : qS} {hh : List (Nat × Nat × Nat × Nat)} {Qc : Array Value → State → Outcome → State → Prop} {XC : String → State → State → Prop} (hy : plainName y.cls = true) (h1 : q_1 av) (hn : av.length ≤ n)
    (body : ∀ (p : Program) (e : Env) (s : State) (m : MethodId) (below : List Frame) (meth : Method) (c : Code), CallFix p m c cc n s av.toArray q_T y.cls → q_V E s S s.heap [] → meth.sig.returnType = ret → meth.locks = false → c.exceptionTable.toList = tableOf hh → ∀ ls : Array Slot, lv_has ls n (q_args 0 av) →
      W p l e rm s m av.toArray below meth c s.heap [] 0 0 (vx_MQ below Qc XC av.toArray s mc ms E.A) (F0 m 0 ls [])) : vx_Met l y [.codeWith y cc n ret hh] rm (va_Pc av (q_I E S)) Qc XC mc ms E.A := by
  refine vx_ofWH (cc := cc) (maxL := n) (ret := ret) (hh := hh) (ws' := []) hy rfl ?_
  intro p e s m args below meth c s₁ B hml hv
  have htb := vx_table (x := y) (y := y) B (atoms_spec (ws := [.codeWith y cc n ret hh]) B.pre _ List.mem_cons_self)
  obtain ⟨rfl, hK, hZ, hP, hD, hA⟩ := hv
  rw [lg_entry_eq]
  have hl := lv_entry av (show (lg_sl av).length ≤ n by rw [q_1len av h1]; exact hn)
  rw [q_1args av 0 h1] at hl
  exact body p e s m below meth c ⟨B.exec, B.bytes, hml, findClass_of_methodNamed B.named, fun w hw => va_Nw.use (q_on hw) (hK.2.1 w hw)⟩ ⟨hK, hZ, hP, hD, va_S.rf, hA⟩ B.returns B.notSynchronized htb _ hl
theorem wd_292 : (Cond.codeWith yL_space cL_space 4 (some .int) [(0, 9, 12, 13)]) ∈ q_T := q_in 292 (by decide +kernel) (by decide +kernel)
theorem wd_367 : (Cond.codeWith yL_take cL_take 4 (some .int) [(0, 9, 12, 13)]) ∈ q_T := q_in 367 (by decide +kernel) (by decide +kernel)
theorem wd_393 : (Cond.codeWith yL_give cL_give 4 (some .int) [(0, 9, 12, 21)]) ∈ q_T := q_in 393 (by decide +kernel) (by decide +kernel)
theorem wd_417 : (Cond.codeWith yL_join cL_join 4 (some .int) [(0, 9, 12, 21)]) ∈ q_T := q_in 417 (by decide +kernel) (by decide +kernel)
theorem wd_425 : (Cond.codeWith yL_suffices cL_suffices 4 (some .int) [(0, 9, 12, 13)]) ∈ q_T := q_in 425 (by decide +kernel) (by decide +kernel)
theorem wd_432 : (Cond.codeWith yL_free cL_free 5 (some .int) [(0, 10, 13, 13)]) ∈ q_T := q_in 432 (by decide +kernel) (by decide +kernel)
theorem wd_445 : (Cond.codeWith yL_count cL_count 4 (some .int) [(0, 9, 12, 13)]) ∈ q_T := q_in 445 (by decide +kernel) (by decide +kernel)
set_option maxHeartbeats 4000000 in
set_option maxRecDepth 100000 in
theorem c_L_space (l : Launch) (E : qE) (S : qS) (c9 o9 : Nat) (v : Int64) (a : Int32) (hL_c9 : c9 ∈ S.L) (hK_c9 : S.K c9 = 4) (post : Int32 → qS → Prop) (px : qS → Prop) (hM : x_Mi l yX5_space cX5_space 3 { frames := 6, cells := 2, slots := 14, locals := 97 } (E.o o9 v) [.ref c9, .int a] S post q_IA px 2 14) : vx_Met l yL_space [.codeWith yL_space cL_space 4 (some .int) [(0, 9, 12, 13)]] { frames := 7, cells := 2, slots := 14, locals := 119 } (va_Pc [.ref c9, .int a, .ref o9] (q_I (E.o o9 v) S)) (va_Qi (fun r9 u => (r9 = 0 ∧ ∃ r, u.1 = Int32.toInt64 r ∧ post r u.2) ∨ (r9 = 1 ∧ u.1 = v ∧ px u.2)) (q_BL E o9) E.A) q_no 2 14 E.A := by
  refine x_ofWH1 (E := E.o o9 v) (by decide) (q_1c rfl (q_1c rfl (q_1c rfl q_1n))) (Nat.le_of_ble_eq_true rfl) (fun p e s m below meth c C hV hr hlk htb ls hl => ?_)
  have hl : lv_has ls 4 [(0, va_rf (some c9)), (1, .int (a)), (2, va_rf (some o9))] := hl
  refine q_aload_n (r := some o9) C dL_space_0 rfl (lv_at hl 2 rfl) ?_
  refine lv_iconst (v := 0) C.1 C.2.1 dL_space_1 (by decide) ?_
  refine q_aload_n (r := some c9) C dL_space_2 rfl (lv_at hl 0 rfl) ?_
  refine lv_iload_n C.1 C.2.1 dL_space_3 rfl (lv_at hl 1 rfl) ?_
  refine q_xci hV (x_rV (b := c9) (As := [.int (a)]) (rest := [.int (0), va_rf (some o9)]) C hV hM wd_297 wd_294 wd_295 wd_296 wd_39 ok_X5_space ⟨rfl, rfl, Nat.le_of_ble_eq_true rfl, Nat.le_of_ble_eq_true rfl⟩ (q_rc4 hV hL_c9 hK_c9) rfl hl.1 rfl (q_sm (q_1c rfl (q_1c (q_cat _) q_1n)) (Nat.le_of_ble_eq_true rfl)) dL_space_4 ⟨Nat.le_of_ble_eq_true rfl, Nat.le_of_ble_eq_true rfl⟩) (fun q9 ce9 S1 H locs hx hV hq1 hq2 hq3 => ?_) (fun r S1 H locs hp hV => ?_)
  · refine vx_catch (own := RL) (E := q_IA) (name := q_IA) C.2.2.2.1 [] { startPc := 0, endPc := 9, handlerPc := 12, catchType := 13 } [] (by rw [htb]; rfl) (fun z hz => (nomatch hz)) (by decide) (by decide) (C.2.2.2.2 _ wd_293) (C.2.2.2.2 _ wd_300) hq1 hq2 hq3 ?_
    refine q_astore_n (r := some q9) (lv' := [(3, va_rf (some q9)), (0, va_rf (some c9)), (1, .int (a)), (2, va_rf (some o9))]) C dL_space_12 rfl hl (by decide) (q_k0 (q_kN 0 rfl (by decide) (by decide) (q_kN 1 rfl (by decide) (by decide) (q_kC 2 rfl (by decide) (q_cat _) q_kz)))) (fun ls hl => ?_)
    refine lv_iconst (v := 1) C.1 C.2.1 dL_space_13 (by decide) ?_
    exact q_iretL (E := E) (r := 1) C hV hr hlk (Nat.le_of_ble_eq_true rfl) (Nat.le_of_ble_eq_true rfl) dL_space_14 (Or.inr ⟨rfl, rfl, hx⟩)
  · refine lv_i2l C.1 C.2.1 dL_space_7 rfl ?_
    refine q_last (E := E) C hV dL_space_8 (fun H locs hV => ?_)
    refine lv_goto (tgt := 15) C.1 C.2.1 dL_space_9 (by decide) ?_
    refine lv_iconst (v := 0) C.1 C.2.1 dL_space_15 (by decide) ?_
    exact q_iretL (E := E) (r := 0) C hV hr hlk (Nat.le_of_ble_eq_true rfl) (Nat.le_of_ble_eq_true rfl) dL_space_16 (Or.inl ⟨rfl, r, rfl, hp⟩)
set_option maxHeartbeats 4000000 in
set_option maxRecDepth 100000 in
theorem c_L_take (l : Launch) (E : qE) (S : qS) (c9 o9 : Nat) (v : Int64) (a : Int32) (hL_c9 : c9 ∈ S.L) (hK_c9 : S.K c9 = 4) (post : Int32 → qS → Prop) (px : qS → Prop) (hM : x_Mi l yX5_take cX5_take 3 { frames := 7, cells := 3, slots := 20, locals := 103 } (E.o o9 v) [.ref c9, .int a] S post q_IA px 3 20) : vx_Met l yL_take [.codeWith yL_take cL_take 4 (some .int) [(0, 9, 12, 13)]] { frames := 8, cells := 3, slots := 20, locals := 125 } (va_Pc [.ref c9, .int a, .ref o9] (q_I (E.o o9 v) S)) (va_Qi (fun r9 u => (r9 = 0 ∧ ∃ r, u.1 = Int32.toInt64 r ∧ post r u.2) ∨ (r9 = 1 ∧ u.1 = v ∧ px u.2)) (q_BL E o9) E.A) q_no 3 20 E.A := by
  refine x_ofWH1 (E := E.o o9 v) (by decide) (q_1c rfl (q_1c rfl (q_1c rfl q_1n))) (Nat.le_of_ble_eq_true rfl) (fun p e s m below meth c C hV hr hlk htb ls hl => ?_)
  have hl : lv_has ls 4 [(0, va_rf (some c9)), (1, .int (a)), (2, va_rf (some o9))] := hl
  refine q_aload_n (r := some o9) C dL_take_0 rfl (lv_at hl 2 rfl) ?_
  refine lv_iconst (v := 0) C.1 C.2.1 dL_take_1 (by decide) ?_
  refine q_aload_n (r := some c9) C dL_take_2 rfl (lv_at hl 0 rfl) ?_
  refine lv_iload_n C.1 C.2.1 dL_take_3 rfl (lv_at hl 1 rfl) ?_
  refine q_xci hV (x_rV (b := c9) (As := [.int (a)]) (rest := [.int (0), va_rf (some o9)]) C hV hM wd_371 wd_368 wd_369 wd_370 wd_39 ok_X5_take ⟨rfl, rfl, Nat.le_of_ble_eq_true rfl, Nat.le_of_ble_eq_true rfl⟩ (q_rc4 hV hL_c9 hK_c9) rfl hl.1 rfl (q_sm (q_1c rfl (q_1c (q_cat _) q_1n)) (Nat.le_of_ble_eq_true rfl)) dL_take_4 ⟨Nat.le_of_ble_eq_true rfl, Nat.le_of_ble_eq_true rfl⟩) (fun q9 ce9 S1 H locs hx hV hq1 hq2 hq3 => ?_) (fun r S1 H locs hp hV => ?_)
  · refine vx_catch (own := RL) (E := q_IA) (name := q_IA) C.2.2.2.1 [] { startPc := 0, endPc := 9, handlerPc := 12, catchType := 13 } [] (by rw [htb]; rfl) (fun z hz => (nomatch hz)) (by decide) (by decide) (C.2.2.2.2 _ wd_293) (C.2.2.2.2 _ wd_300) hq1 hq2 hq3 ?_
    refine q_astore_n (r := some q9) (lv' := [(3, va_rf (some q9)), (0, va_rf (some c9)), (1, .int (a)), (2, va_rf (some o9))]) C dL_take_12 rfl hl (by decide) (q_k0 (q_kN 0 rfl (by decide) (by decide) (q_kN 1 rfl (by decide) (by decide) (q_kC 2 rfl (by decide) (q_cat _) q_kz)))) (fun ls hl => ?_)
    refine lv_iconst (v := 1) C.1 C.2.1 dL_take_13 (by decide) ?_
    exact q_iretL (E := E) (r := 1) C hV hr hlk (Nat.le_of_ble_eq_true rfl) (Nat.le_of_ble_eq_true rfl) dL_take_14 (Or.inr ⟨rfl, rfl, hx⟩)
  · refine lv_i2l C.1 C.2.1 dL_take_7 rfl ?_
    refine q_last (E := E) C hV dL_take_8 (fun H locs hV => ?_)
    refine lv_goto (tgt := 15) C.1 C.2.1 dL_take_9 (by decide) ?_
    refine lv_iconst (v := 0) C.1 C.2.1 dL_take_15 (by decide) ?_
    exact q_iretL (E := E) (r := 0) C hV hr hlk (Nat.le_of_ble_eq_true rfl) (Nat.le_of_ble_eq_true rfl) dL_take_16 (Or.inl ⟨rfl, r, rfl, hp⟩)
set_option maxHeartbeats 4000000 in
set_option maxRecDepth 100000 in
theorem c_L_give (l : Launch) (E : qE) (S : qS) (c9 o9 : Nat) (v : Int64) (a : Int32) (hL_c9 : c9 ∈ S.L) (hK_c9 : S.K c9 = 4) (post : Int32 → qS → Prop) (px : qS → Prop) (hM : x_Mi l yX5_give cX5_give 3 { frames := 7, cells := 1, slots := 7, locals := 103 } (E.o o9 v) [.ref c9, .int a] S post q_NE px 1 7) : vx_Met l yL_give [.codeWith yL_give cL_give 4 (some .int) [(0, 9, 12, 21)]] { frames := 8, cells := 1, slots := 7, locals := 125 } (va_Pc [.ref c9, .int a, .ref o9] (q_I (E.o o9 v) S)) (va_Qi (fun r9 u => (r9 = 0 ∧ ∃ r, u.1 = Int32.toInt64 r ∧ post r u.2) ∨ (r9 = 1 ∧ u.1 = v ∧ px u.2)) (q_BL E o9) E.A) q_no 1 7 E.A := by
  refine x_ofWH1 (E := E.o o9 v) (by decide) (q_1c rfl (q_1c rfl (q_1c rfl q_1n))) (Nat.le_of_ble_eq_true rfl) (fun p e s m below meth c C hV hr hlk htb ls hl => ?_)
  have hl : lv_has ls 4 [(0, va_rf (some c9)), (1, .int (a)), (2, va_rf (some o9))] := hl
  refine q_aload_n (r := some o9) C dL_give_0 rfl (lv_at hl 2 rfl) ?_
  refine lv_iconst (v := 0) C.1 C.2.1 dL_give_1 (by decide) ?_
  refine q_aload_n (r := some c9) C dL_give_2 rfl (lv_at hl 0 rfl) ?_
  refine lv_iload_n C.1 C.2.1 dL_give_3 rfl (lv_at hl 1 rfl) ?_
  refine q_xci hV (x_rV (b := c9) (As := [.int (a)]) (rest := [.int (0), va_rf (some o9)]) C hV hM wd_398 wd_395 wd_396 wd_397 wd_39 ok_X5_give ⟨rfl, rfl, Nat.le_of_ble_eq_true rfl, Nat.le_of_ble_eq_true rfl⟩ (q_rc4 hV hL_c9 hK_c9) rfl hl.1 rfl (q_sm (q_1c rfl (q_1c (q_cat _) q_1n)) (Nat.le_of_ble_eq_true rfl)) dL_give_4 ⟨Nat.le_of_ble_eq_true rfl, Nat.le_of_ble_eq_true rfl⟩) (fun q9 ce9 S1 H locs hx hV hq1 hq2 hq3 => ?_) (fun r S1 H locs hp hV => ?_)
  · refine vx_catch (own := RL) (E := q_NE) (name := q_NE) C.2.2.2.1 [] { startPc := 0, endPc := 9, handlerPc := 12, catchType := 21 } [] (by rw [htb]; rfl) (fun z hz => (nomatch hz)) (by decide) (by decide) (C.2.2.2.2 _ wd_394) (C.2.2.2.2 _ wd_401) hq1 hq2 hq3 ?_
    refine q_astore_n (r := some q9) (lv' := [(3, va_rf (some q9)), (0, va_rf (some c9)), (1, .int (a)), (2, va_rf (some o9))]) C dL_give_12 rfl hl (by decide) (q_k0 (q_kN 0 rfl (by decide) (by decide) (q_kN 1 rfl (by decide) (by decide) (q_kC 2 rfl (by decide) (q_cat _) q_kz)))) (fun ls hl => ?_)
    refine lv_iconst (v := 1) C.1 C.2.1 dL_give_13 (by decide) ?_
    exact q_iretL (E := E) (r := 1) C hV hr hlk (Nat.le_of_ble_eq_true rfl) (Nat.le_of_ble_eq_true rfl) dL_give_14 (Or.inr ⟨rfl, rfl, hx⟩)
  · refine lv_i2l C.1 C.2.1 dL_give_7 rfl ?_
    refine q_last (E := E) C hV dL_give_8 (fun H locs hV => ?_)
    refine lv_goto (tgt := 15) C.1 C.2.1 dL_give_9 (by decide) ?_
    refine lv_iconst (v := 0) C.1 C.2.1 dL_give_15 (by decide) ?_
    exact q_iretL (E := E) (r := 0) C hV hr hlk (Nat.le_of_ble_eq_true rfl) (Nat.le_of_ble_eq_true rfl) dL_give_16 (Or.inl ⟨rfl, r, rfl, hp⟩)
set_option maxHeartbeats 4000000 in
set_option maxRecDepth 100000 in
theorem c_L_join (l : Launch) (E : qE) (S : qS) (c9 o9 : Nat) (v : Int64) (a : Int32) (hL_c9 : c9 ∈ S.L) (hK_c9 : S.K c9 = 4) (post : Int32 → qS → Prop) (px : qS → Prop) (hM : x_Mi l yX5_join cX5_join 3 { frames := 7, cells := 1, slots := 7, locals := 103 } (E.o o9 v) [.ref c9, .int a] S post q_NE px 1 7) : vx_Met l yL_join [.codeWith yL_join cL_join 4 (some .int) [(0, 9, 12, 21)]] { frames := 8, cells := 1, slots := 7, locals := 125 } (va_Pc [.ref c9, .int a, .ref o9] (q_I (E.o o9 v) S)) (va_Qi (fun r9 u => (r9 = 0 ∧ ∃ r, u.1 = Int32.toInt64 r ∧ post r u.2) ∨ (r9 = 1 ∧ u.1 = v ∧ px u.2)) (q_BL E o9) E.A) q_no 1 7 E.A := by
  refine x_ofWH1 (E := E.o o9 v) (by decide) (q_1c rfl (q_1c rfl (q_1c rfl q_1n))) (Nat.le_of_ble_eq_true rfl) (fun p e s m below meth c C hV hr hlk htb ls hl => ?_)
  have hl : lv_has ls 4 [(0, va_rf (some c9)), (1, .int (a)), (2, va_rf (some o9))] := hl
  refine q_aload_n (r := some o9) C dL_join_0 rfl (lv_at hl 2 rfl) ?_
  refine lv_iconst (v := 0) C.1 C.2.1 dL_join_1 (by decide) ?_
  refine q_aload_n (r := some c9) C dL_join_2 rfl (lv_at hl 0 rfl) ?_
  refine lv_iload_n C.1 C.2.1 dL_join_3 rfl (lv_at hl 1 rfl) ?_
  refine q_xci hV (x_rV (b := c9) (As := [.int (a)]) (rest := [.int (0), va_rf (some o9)]) C hV hM wd_421 wd_418 wd_419 wd_420 wd_39 ok_X5_join ⟨rfl, rfl, Nat.le_of_ble_eq_true rfl, Nat.le_of_ble_eq_true rfl⟩ (q_rc4 hV hL_c9 hK_c9) rfl hl.1 rfl (q_sm (q_1c rfl (q_1c (q_cat _) q_1n)) (Nat.le_of_ble_eq_true rfl)) dL_join_4 ⟨Nat.le_of_ble_eq_true rfl, Nat.le_of_ble_eq_true rfl⟩) (fun q9 ce9 S1 H locs hx hV hq1 hq2 hq3 => ?_) (fun r S1 H locs hp hV => ?_)
  · refine vx_catch (own := RL) (E := q_NE) (name := q_NE) C.2.2.2.1 [] { startPc := 0, endPc := 9, handlerPc := 12, catchType := 21 } [] (by rw [htb]; rfl) (fun z hz => (nomatch hz)) (by decide) (by decide) (C.2.2.2.2 _ wd_394) (C.2.2.2.2 _ wd_401) hq1 hq2 hq3 ?_
    refine q_astore_n (r := some q9) (lv' := [(3, va_rf (some q9)), (0, va_rf (some c9)), (1, .int (a)), (2, va_rf (some o9))]) C dL_join_12 rfl hl (by decide) (q_k0 (q_kN 0 rfl (by decide) (by decide) (q_kN 1 rfl (by decide) (by decide) (q_kC 2 rfl (by decide) (q_cat _) q_kz)))) (fun ls hl => ?_)
    refine lv_iconst (v := 1) C.1 C.2.1 dL_join_13 (by decide) ?_
    exact q_iretL (E := E) (r := 1) C hV hr hlk (Nat.le_of_ble_eq_true rfl) (Nat.le_of_ble_eq_true rfl) dL_join_14 (Or.inr ⟨rfl, rfl, hx⟩)
  · refine lv_i2l C.1 C.2.1 dL_join_7 rfl ?_
    refine q_last (E := E) C hV dL_join_8 (fun H locs hV => ?_)
    refine lv_goto (tgt := 15) C.1 C.2.1 dL_join_9 (by decide) ?_
    refine lv_iconst (v := 0) C.1 C.2.1 dL_join_15 (by decide) ?_
    exact q_iretL (E := E) (r := 0) C hV hr hlk (Nat.le_of_ble_eq_true rfl) (Nat.le_of_ble_eq_true rfl) dL_join_16 (Or.inl ⟨rfl, r, rfl, hp⟩)
set_option maxHeartbeats 4000000 in
set_option maxRecDepth 100000 in
theorem c_L_suffices (l : Launch) (E : qE) (S : qS) (c9 o9 : Nat) (v : Int64) (a : Int32) (hL_c9 : c9 ∈ S.L) (hK_c9 : S.K c9 = 4) (post : Int32 → qS → Prop) (px : qS → Prop) (hM : x_Mi l yX5_suffices cX5_suffices 3 { frames := 7, cells := 1, slots := 6, locals := 103 } (E.o o9 v) [.ref c9, .int a] S post q_IA px 1 6) : vx_Met l yL_suffices [.codeWith yL_suffices cL_suffices 4 (some .int) [(0, 9, 12, 13)]] { frames := 8, cells := 1, slots := 6, locals := 125 } (va_Pc [.ref c9, .int a, .ref o9] (q_I (E.o o9 v) S)) (va_Qi (fun r9 u => (r9 = 0 ∧ ∃ r, u.1 = Int32.toInt64 r ∧ post r u.2) ∨ (r9 = 1 ∧ u.1 = v ∧ px u.2)) (q_BL E o9) E.A) q_no 1 6 E.A := by
  refine x_ofWH1 (E := E.o o9 v) (by decide) (q_1c rfl (q_1c rfl (q_1c rfl q_1n))) (Nat.le_of_ble_eq_true rfl) (fun p e s m below meth c C hV hr hlk htb ls hl => ?_)
  have hl : lv_has ls 4 [(0, va_rf (some c9)), (1, .int (a)), (2, va_rf (some o9))] := hl
  refine q_aload_n (r := some o9) C dL_suffices_0 rfl (lv_at hl 2 rfl) ?_
  refine lv_iconst (v := 0) C.1 C.2.1 dL_suffices_1 (by decide) ?_
  refine q_aload_n (r := some c9) C dL_suffices_2 rfl (lv_at hl 0 rfl) ?_
  refine lv_iload_n C.1 C.2.1 dL_suffices_3 rfl (lv_at hl 1 rfl) ?_
  refine q_xci hV (x_rV (b := c9) (As := [.int (a)]) (rest := [.int (0), va_rf (some o9)]) C hV hM wd_429 wd_426 wd_427 wd_428 wd_39 ok_X5_suffices ⟨rfl, rfl, Nat.le_of_ble_eq_true rfl, Nat.le_of_ble_eq_true rfl⟩ (q_rc4 hV hL_c9 hK_c9) rfl hl.1 rfl (q_sm (q_1c rfl (q_1c (q_cat _) q_1n)) (Nat.le_of_ble_eq_true rfl)) dL_suffices_4 ⟨Nat.le_of_ble_eq_true rfl, Nat.le_of_ble_eq_true rfl⟩) (fun q9 ce9 S1 H locs hx hV hq1 hq2 hq3 => ?_) (fun r S1 H locs hp hV => ?_)
  · refine vx_catch (own := RL) (E := q_IA) (name := q_IA) C.2.2.2.1 [] { startPc := 0, endPc := 9, handlerPc := 12, catchType := 13 } [] (by rw [htb]; rfl) (fun z hz => (nomatch hz)) (by decide) (by decide) (C.2.2.2.2 _ wd_293) (C.2.2.2.2 _ wd_300) hq1 hq2 hq3 ?_
    refine q_astore_n (r := some q9) (lv' := [(3, va_rf (some q9)), (0, va_rf (some c9)), (1, .int (a)), (2, va_rf (some o9))]) C dL_suffices_12 rfl hl (by decide) (q_k0 (q_kN 0 rfl (by decide) (by decide) (q_kN 1 rfl (by decide) (by decide) (q_kC 2 rfl (by decide) (q_cat _) q_kz)))) (fun ls hl => ?_)
    refine lv_iconst (v := 1) C.1 C.2.1 dL_suffices_13 (by decide) ?_
    exact q_iretL (E := E) (r := 1) C hV hr hlk (Nat.le_of_ble_eq_true rfl) (Nat.le_of_ble_eq_true rfl) dL_suffices_14 (Or.inr ⟨rfl, rfl, hx⟩)
  · refine lv_i2l C.1 C.2.1 dL_suffices_7 rfl ?_
    refine q_last (E := E) C hV dL_suffices_8 (fun H locs hV => ?_)
    refine lv_goto (tgt := 15) C.1 C.2.1 dL_suffices_9 (by decide) ?_
    refine lv_iconst (v := 0) C.1 C.2.1 dL_suffices_15 (by decide) ?_
    exact q_iretL (E := E) (r := 0) C hV hr hlk (Nat.le_of_ble_eq_true rfl) (Nat.le_of_ble_eq_true rfl) dL_suffices_16 (Or.inl ⟨rfl, r, rfl, hp⟩)
set_option maxHeartbeats 4000000 in
set_option maxRecDepth 100000 in
theorem c_L_free (l : Launch) (E : qE) (S : qS) (c9 o9 : Nat) (v : Int64) (a k : Int32) (hL_c9 : c9 ∈ S.L) (hK_c9 : S.K c9 = 4) (post : Int32 → qS → Prop) (px : qS → Prop) (hM : x_Mi l yX5_free cX5_free 5 { frames := 6, cells := 1, slots := 6, locals := 82 } (E.o o9 v) [.ref c9, .int a, .int k] S post q_IA px 1 6) : vx_Met l yL_free [.codeWith yL_free cL_free 5 (some .int) [(0, 10, 13, 13)]] { frames := 7, cells := 1, slots := 6, locals := 106 } (va_Pc [.ref c9, .int a, .int k, .ref o9] (q_I (E.o o9 v) S)) (va_Qi (fun r9 u => (r9 = 0 ∧ ∃ r, u.1 = Int32.toInt64 r ∧ post r u.2) ∨ (r9 = 1 ∧ u.1 = v ∧ px u.2)) (q_BL E o9) E.A) q_no 1 6 E.A := by
  refine x_ofWH1 (E := E.o o9 v) (by decide) (q_1c rfl (q_1c rfl (q_1c rfl (q_1c rfl q_1n)))) (Nat.le_of_ble_eq_true rfl) (fun p e s m below meth c C hV hr hlk htb ls hl => ?_)
  have hl : lv_has ls 5 [(0, va_rf (some c9)), (1, .int (a)), (2, .int (k)), (3, va_rf (some o9))] := hl
  refine q_aload_n (r := some o9) C dL_free_0 rfl (lv_at hl 3 rfl) ?_
  refine lv_iconst (v := 0) C.1 C.2.1 dL_free_1 (by decide) ?_
  refine q_aload_n (r := some c9) C dL_free_2 rfl (lv_at hl 0 rfl) ?_
  refine lv_iload_n C.1 C.2.1 dL_free_3 rfl (lv_at hl 1 rfl) ?_
  refine lv_iload_n C.1 C.2.1 dL_free_4 rfl (lv_at hl 2 rfl) ?_
  refine q_xci hV (x_rV (b := c9) (As := [.int (a), .int (k)]) (rest := [.int (0), va_rf (some o9)]) C hV hM wd_436 wd_433 wd_434 wd_435 wd_39 ok_X5_free ⟨rfl, rfl, Nat.le_of_ble_eq_true rfl, Nat.le_of_ble_eq_true rfl⟩ (q_rc4 hV hL_c9 hK_c9) rfl hl.1 rfl (q_sm (q_1c rfl (q_1c (q_cat _) q_1n)) (Nat.le_of_ble_eq_true rfl)) dL_free_5 ⟨Nat.le_of_ble_eq_true rfl, Nat.le_of_ble_eq_true rfl⟩) (fun q9 ce9 S1 H locs hx hV hq1 hq2 hq3 => ?_) (fun r S1 H locs hp hV => ?_)
  · refine vx_catch (own := RL) (E := q_IA) (name := q_IA) C.2.2.2.1 [] { startPc := 0, endPc := 10, handlerPc := 13, catchType := 13 } [] (by rw [htb]; rfl) (fun z hz => (nomatch hz)) (by decide) (by decide) (C.2.2.2.2 _ wd_293) (C.2.2.2.2 _ wd_300) hq1 hq2 hq3 ?_
    refine q_astore (r := some q9) (lv' := [(4, va_rf (some q9)), (0, va_rf (some c9)), (1, .int (a)), (2, .int (k)), (3, va_rf (some o9))]) C dL_free_13 hl (by decide) (q_k0 (q_kN 0 rfl (by decide) (by decide) (q_kN 1 rfl (by decide) (by decide) (q_kN 2 rfl (by decide) (by decide) (q_kC 3 rfl (by decide) (q_cat _) q_kz))))) (fun ls hl => ?_)
    refine lv_iconst (v := 1) C.1 C.2.1 dL_free_15 (by decide) ?_
    exact q_iretL (E := E) (r := 1) C hV hr hlk (Nat.le_of_ble_eq_true rfl) (Nat.le_of_ble_eq_true rfl) dL_free_16 (Or.inr ⟨rfl, rfl, hx⟩)
  · refine lv_i2l C.1 C.2.1 dL_free_8 rfl ?_
    refine q_last (E := E) C hV dL_free_9 (fun H locs hV => ?_)
    refine lv_goto (tgt := 17) C.1 C.2.1 dL_free_10 (by decide) ?_
    refine lv_iconst (v := 0) C.1 C.2.1 dL_free_17 (by decide) ?_
    exact q_iretL (E := E) (r := 0) C hV hr hlk (Nat.le_of_ble_eq_true rfl) (Nat.le_of_ble_eq_true rfl) dL_free_18 (Or.inl ⟨rfl, r, rfl, hp⟩)
set_option maxHeartbeats 4000000 in
set_option maxRecDepth 100000 in
theorem c_L_count (l : Launch) (E : qE) (S : qS) (c9 o9 : Nat) (v : Int64) (a : Int32) (hL_c9 : c9 ∈ S.L) (hK_c9 : S.K c9 = 4) (post : Int32 → qS → Prop) (px : qS → Prop) (hM : x_Mi l yX5_count cX5_count 2 { frames := 6, cells := 1, slots := 6, locals := 82 } (E.o o9 v) [.ref c9, .int a] S post q_IA px 1 6) : vx_Met l yL_count [.codeWith yL_count cL_count 4 (some .int) [(0, 9, 12, 13)]] { frames := 7, cells := 1, slots := 6, locals := 103 } (va_Pc [.ref c9, .int a, .ref o9] (q_I (E.o o9 v) S)) (va_Qi (fun r9 u => (r9 = 0 ∧ ∃ r, u.1 = Int32.toInt64 r ∧ post r u.2) ∨ (r9 = 1 ∧ u.1 = v ∧ px u.2)) (q_BL E o9) E.A) q_no 1 6 E.A := by
  refine x_ofWH1 (E := E.o o9 v) (by decide) (q_1c rfl (q_1c rfl (q_1c rfl q_1n))) (Nat.le_of_ble_eq_true rfl) (fun p e s m below meth c C hV hr hlk htb ls hl => ?_)
  have hl : lv_has ls 4 [(0, va_rf (some c9)), (1, .int (a)), (2, va_rf (some o9))] := hl
  refine q_aload_n (r := some o9) C dL_count_0 rfl (lv_at hl 2 rfl) ?_
  refine lv_iconst (v := 0) C.1 C.2.1 dL_count_1 (by decide) ?_
  refine q_aload_n (r := some c9) C dL_count_2 rfl (lv_at hl 0 rfl) ?_
  refine lv_iload_n C.1 C.2.1 dL_count_3 rfl (lv_at hl 1 rfl) ?_
  refine q_xci hV (x_rV (b := c9) (As := [.int (a)]) (rest := [.int (0), va_rf (some o9)]) C hV hM wd_449 wd_446 wd_447 wd_448 wd_39 ok_X5_count ⟨rfl, rfl, Nat.le_of_ble_eq_true rfl, Nat.le_of_ble_eq_true rfl⟩ (q_rc4 hV hL_c9 hK_c9) rfl hl.1 rfl (q_sm (q_1c rfl (q_1c (q_cat _) q_1n)) (Nat.le_of_ble_eq_true rfl)) dL_count_4 ⟨Nat.le_of_ble_eq_true rfl, Nat.le_of_ble_eq_true rfl⟩) (fun q9 ce9 S1 H locs hx hV hq1 hq2 hq3 => ?_) (fun r S1 H locs hp hV => ?_)
  · refine vx_catch (own := RL) (E := q_IA) (name := q_IA) C.2.2.2.1 [] { startPc := 0, endPc := 9, handlerPc := 12, catchType := 13 } [] (by rw [htb]; rfl) (fun z hz => (nomatch hz)) (by decide) (by decide) (C.2.2.2.2 _ wd_293) (C.2.2.2.2 _ wd_300) hq1 hq2 hq3 ?_
    refine q_astore_n (r := some q9) (lv' := [(3, va_rf (some q9)), (0, va_rf (some c9)), (1, .int (a)), (2, va_rf (some o9))]) C dL_count_12 rfl hl (by decide) (q_k0 (q_kN 0 rfl (by decide) (by decide) (q_kN 1 rfl (by decide) (by decide) (q_kC 2 rfl (by decide) (q_cat _) q_kz)))) (fun ls hl => ?_)
    refine lv_iconst (v := 1) C.1 C.2.1 dL_count_13 (by decide) ?_
    exact q_iretL (E := E) (r := 1) C hV hr hlk (Nat.le_of_ble_eq_true rfl) (Nat.le_of_ble_eq_true rfl) dL_count_14 (Or.inr ⟨rfl, rfl, hx⟩)
  · refine lv_i2l C.1 C.2.1 dL_count_7 rfl ?_
    refine q_last (E := E) C hV dL_count_8 (fun H locs hV => ?_)
    refine lv_goto (tgt := 15) C.1 C.2.1 dL_count_9 (by decide) ?_
    refine lv_iconst (v := 0) C.1 C.2.1 dL_count_15 (by decide) ?_
    exact q_iretL (E := E) (r := 0) C hV hr hlk (Nat.le_of_ble_eq_true rfl) (Nat.le_of_ble_eq_true rfl) dL_count_16 (Or.inl ⟨rfl, r, rfl, hp⟩)
