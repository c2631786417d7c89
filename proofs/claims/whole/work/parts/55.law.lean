/-! THE CLAIM OUT OF ONE WALK OF THE LAW'S BODY. Your part is whole_start (and what it stands on); all else here is the same for every law, but numbers. -/
def R_law : String := "ChunkShelfLaw"
def lw_P (b : Addr) (xs : List Int32) (args : Array Value) (s : State) : Prop := args = #[.ref b] ∧ s.IntsAt b xs ∧ xs.length ≤ 1536 ∧ (Jvm.Cond.and given_1 narrow_1).before args s = true
def lw_Q (_ : Array Value) (s : State) (o : Outcome) (t : State) : Prop := o = .returned (some (.int 1)) ∧ Framed s o t [] 601024 7293034
def lw_Z (below : List Frame) (a : Array Value) (s : State) : State → Prop := fun t => ∃ o, t.status = .running ∧ Ended t below o ∧ lw_Q a s o t
/-- the law's own end, with 1 on the stack, nothing written that was there before, its room as the claim has it -/
theorem lw_ret {p : Program} {l : Launch} {e : Env} {s : State} {m : MethodId} {below : List Frame} {meth : Method} {c : Code} {b : Nat} (hx : p.tables.exec = Jvm.exec) (hb : c.code = code) (hr : meth.sig.returnType = ret) (hlocks : meth.locks = false) {pc : Nat} {H : Heap} {ls : Array Slot} (hdg : decode code pc = .ok (.ireturn, 1)) : W p l e room_1 s m #[Value.ref b] below meth c H [] 601024 7293034 (lw_Z below #[Value.ref b] s) (F0 m pc ls [.int 1]) := by
  intro T hT X
  obtain ⟨fs, hret, hrun, hended, hW, hframe⟩ := X.leave (v := some (.int 1)) (hlocks := hlocks) (fun h => by rw [hr] at h; cases h)
  have hmeth' : T.vm.method? m = some meth := X.method'
  refine ⟨T.setFrames fs, ?_, .returned (some (.int 1)), hrun, hended, rfl, ⟨_, rfl⟩, hW, hframe⟩
  jvm_step X.here [X.here.top, hx, hb, hdg, hmeth', hr, ret, narrow_b1]
  (try refine ⟨rfl, ?_⟩); (try refine ⟨rfl, ?_⟩)
  first | (intro acts; rw [hret _ acts rfl rfl rfl]) | rw [hret _ _ rfl rfl rfl]
  exact Steps.refl _
/-- what holds at the law's entry: the machine, the code, the tables' words (any of lw_tbl by 'hts w (by decide +kernel)'), the script of L ints xs at the cell b, what the Statement gives of the start (any of its parts by flat_of_before) -/
def lw_At (p : Program) (s : State) (m : MethodId) (meth : Method) (c : Code) (b L : Nat) (xs : Nat → Int32) : Prop :=
  p.tables.exec = Jvm.exec ∧ c.code = code ∧ meth.sig.returnType = ret ∧ c.maxLocals = 7 ∧ s.vm.findClass R_law = some m.cls ∧ (∀ w ∈ lw_tbl, w.before #[Value.ref b] s = true) ∧ va_X b L xs s s.heap ∧ b < s.heap.size ∧ meth.locks = false ∧ (Jvm.Cond.and given_1 narrow_1).before #[Value.ref b] s = true
section LW
variable {p : Program} {l : Launch} {e : Env} {R : Room} {s : State} {m : MethodId} {args : Array Value} {below : List Frame} {meth : Method} {c : Code} {H : Heap} {locs : List Loc} {cells slots : Nat} {Q : State → Prop} {E : qE} {S : qS} {cc : ByteArray} {nL pc : Nat} {ls : Array Slot} {rest : List Value} {own : String}
/-- the array for the answers: a cell of its own, beside the pool -/
theorem q_newL (C : CallFix p m c cc nL s args q_T own) (hX : E.X = []) (hV : q_V E s S H locs) (hcells : cells + 1 ≤ R.cells) (hslots : slots + 1 ≤ R.slots) (hdg : decode cc pc = .ok (.newarray .long, 2))
    (kk : ∀ (q : Nat) (H1 : Heap), q_V (E.o q 0) s S H1 locs → W p l e R s m args below meth c H1 locs (cells + 1) (slots + 1) Q (F0 m (pc + 2) ls (va_rf (some q) :: rest))) : W p l e R s m args below meth c H locs cells slots Q (F0 m pc ls (.int 1 :: rest)) := by
  obtain ⟨vK, vZ, hP, hD, hS, hA⟩ := hV
  have ew : q_w E S = va_pl S.L (qF E.cI E.cR S) := by show E.X ++ _ = _; rw [hX]; rfl
  rw [ew] at hP hD
  have b5 : ∀ cA : ClassId, vp_cell cA (1, .inr (.inl (fL 0))) = arrV cA 1 (fun _ => defaultValue .long) := fun cA => by
    rw [show fL 0 = (fun _ => 0) from by funext j; unfold fL; split <;> rfl]
    exact vp_cell_l cA 1 _
  refine va_newa (atype := .long) (a0 := (1, .inr (.inl (fL 0)))) (N' := 1) C.1 C.2.1 (vK.2.2.2.2.2 args) (ty := .long) rfl vK.1 hP hD hS hA b5 (by decide) (by decide) (by decide) hcells hslots hdg fun q cA H1 g0 g1 g2 g3 => ?_
  have hcA : cA = E.cJ := by
    have h1 : s.vm.findClass ("[" ++ FieldType.long.toString) = some cA := (g0.2 3 (cA, .long) rfl).2
    have h2 : s.vm.findClass ("[" ++ FieldType.long.toString) = some E.cJ := (vK.1.2 2 (E.cJ, .long) rfl).2
    exact Option.some.inj (h1.symm.trans h2)
  subst hcA
  have hg : ∀ (k : Nat) (x : Nat × va_E), (q_w (E.o q 0) S)[k]? = some x → (va_pl S.L (qF E.cI E.cR S) ++ [(q, .inl (E.cJ, 1, .inr (.inl (fL 0))))])[if k = 0 then (va_pl S.L (qF E.cI E.cR S)).length else k - 1]? = some x := by
    intro k x hk
    cases k with
    | zero => rw [if_pos rfl, List.getElem?_append_right (Nat.le_refl _), Nat.sub_self]; exact hk
    | succ k =>
      rw [if_neg (by omega)]
      have hk' : (va_pl S.L (qF E.cI E.cR S))[k]? = some x := hk
      rw [Nat.add_sub_cancel, List.getElem?_append_left (List.getElem?_eq_some_iff.mp hk').1]
      exact hk'
  refine kk q H1 ⟨vK, vZ, g1.by _ hg, g2.by _ hg (fun i j hi hj e9 => ?_), g3, hA⟩
  have hlen : (q_w (E.o q 0) S).length = (va_pl S.L (qF E.cI E.cR S)).length + 1 := by show (_ :: _ : List _).length = _; rw [List.length_cons]; rfl
  rw [hlen] at hi hj
  by_cases h1 : i = 0 <;> by_cases h2 : j = 0
  · omega
  · rw [if_pos h1, if_neg h2] at e9; omega
  · rw [if_neg h1, if_pos h2] at e9; omega
  · rw [if_neg h1, if_neg h2] at e9; omega
/-- one int of the script -/
theorem q_sld (C : CallFix p m c cc nL s args q_T own) (hV : q_V E s S H locs) {b L : Nat} {xs : Nat → Int32} (hX : va_X b L xs s s.heap) (hbl : b < s.heap.size) (hbA : ¬ E.A b) (hL : L < 2 ^ 31) {i : Int32} {j : Nat} (hi : i = nI j) (hj : j < L) (hdg : decode cc pc = .ok (.iaload, 1))
    (kk : W p l e R s m args below meth c H locs cells slots Q (F0 m (pc + 1) ls (.int (xs j) :: rest))) : W p l e R s m args below meth c H locs cells slots Q (F0 m pc ls (.int i :: va_rf (some b) :: rest)) := by
  subst hi
  refine va_sld C.1 C.2.1 hX hbl hbA hV.2.2.2.2.1 (vp_in_nI hj hL) hdg ?_
  rw [nI_clamp (Nat.lt_trans hj hL)]
  exact kk
theorem q_slen (C : CallFix p m c cc nL s args q_T own) (hV : q_V E s S H locs) {b L : Nat} {xs : Nat → Int32} (hX : va_X b L xs s s.heap) (hbl : b < s.heap.size) (hbA : ¬ E.A b) (hdg : decode cc pc = .ok (.arraylength, 1))
    (kk : W p l e R s m args below meth c H locs cells slots Q (F0 m (pc + 1) ls (.int (nI L) :: rest))) : W p l e R s m args below meth c H locs cells slots Q (F0 m pc ls (va_rf (some b) :: rest)) :=
  va_slen C.1 C.2.1 hX hbl hbA hV.2.2.2.2.1 hdg kk
end LW
